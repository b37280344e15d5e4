section Cls10
variable {d : Nat} {Q : Option AV → AH → Prop} {h h' : AH} {nw tr b : Nat} {ik sd at' tc : Int} {S S' : ST} {P : Nat → Prop} {s : SC} {x y z who k g more : Int} {nm : Nat → Int}
theorem L_cbefore {a i : Nat} (HM : CM h nw tr ik sd at' S) (ha : a < s_n S.1) (hi : i < s_h S.1) (hd : 6 ≤ d)
    (hq1 : (∃ b : Nat, b < a ∧ cnS S.1 b (s_w S.1 i) = cnS S.1 a (s_w S.1 i)) → ∀ h', LisR h' → Fr h h' PL → Q (some (.inl 1)) h') (hq0 : (¬ ∃ b : Nat, b < a ∧ cnS S.1 b (s_w S.1 i) = cnS S.1 a (s_w S.1 i)) → ∀ h', LisR h' → Fr h h' PL → Q (some (.inl 0)) h') :
    ∀ (r b : Nat) (h' : AH), b + r = a → LisR h' → Fr h h' PL → (∀ c : Nat, c < b → cnS S.1 c (s_w S.1 i) ≠ cnS S.1 a (s_w S.1 i)) →
      AW d 0 0 mX11_isConcludedBefore Q 14 [some (.inr 16), some (.inl (a : Int)), some (.inl (i : Int)), some (.inl (cnS S.1 a (s_w S.1 i))), some (.inl (b : Int))] [] h' := by
  have ok := HM.2.2.2.2.2.2.2.2.2.2.2.2
  have o := ok.1.1
  intro r
  induction r with
  | zero =>
    intro b h' hb L F hp
    refine AW.iload dX11_isConcludedBefore_14 rfl ?_
    refine AW.iload_n dX11_isConcludedBefore_16 rfl ?_
    refine AW.if_icmpge (tgt := 43) dX11_isConcludedBefore_17 (by decide) (fun c17 => ?_) (fun c17 => absurd c17 (by omega))
    refine AW.iconst dX11_isConcludedBefore_43 ?_
    refine AW.zreturn dX11_isConcludedBefore_44 rfl (Or.inl rfl) ?_
    exact hq0 (fun ⟨c, q1, q2⟩ => hp c (by omega) q2) h' L F
  | succ r ih =>
    intro b h' hb L F hp
    have HM' := HM.fr F (fun a => PL_PS)
    have g16 := HM'.2.1
    unfold CO at g16
    refine AW.iload dX11_isConcludedBefore_14 rfl ?_
    refine AW.iload_n dX11_isConcludedBefore_16 rfl ?_
    refine AW.if_icmpge (tgt := 43) dX11_isConcludedBefore_17 (by decide) (fun c17 => absurd c17 (by omega)) (fun c17 => ?_)
    refine AW.aload_n dX11_isConcludedBefore_20 rfl ?_
    refine AW.iload dX11_isConcludedBefore_21 rfl ?_
    refine AW.cI2 (d' := d - 1) (cX11_154 rfl) okX11_listenAs dX11_isConcludedBefore_23 (by repeat (first | assumption | exact hset_eq _ _ _ | refine (hset_ne _ _ (by omega)).trans ?_)) (by omega) (C_listenAs HM' L (by omega) (by omega) (by omega) (fun h2 L2 F2 => ?_))
    have HM2 := HM'.fr F2 (fun a => PL_PS)
    have g2 := HM2.2.1
    unfold CO at g2
    refine AW.aload_n dX11_isConcludedBefore_26 rfl ?_
    refine AW.iload_n dX11_isConcludedBefore_27 rfl ?_
    refine AW.cI2 (d' := d - 1) (cX11_157 rfl) okX11_meaningOf dX11_isConcludedBefore_28 (by repeat (first | assumption | exact hset_eq _ _ _ | refine (hset_ne _ _ (by omega)).trans ?_)) (by omega) (C_meaning HM2 L2 (nmOK_S ok.1) (by omega) (by omega) (by omega) (fun h3 L3 F3 => ?_))
    refine AW.iload_n dX11_isConcludedBefore_31 rfl ?_
    refine AW.if_icmpne (tgt := 37) dX11_isConcludedBefore_32 (by decide) (fun c32 => ?_) (fun c32 => ?_)
    · refine AW.inc4 dX11_isConcludedBefore_37 (by decide) (by unfold RI; omega) ?_
      refine AW.goto (tgt := 14) dX11_isConcludedBefore_40 (by decide) ?_
      refine ih (b + 1) h3 (by omega) L3.r ((F.trans F2).trans (F3.mono (fun a => P76_PL))) (fun c hc => ?_)
      by_cases q : c = b
      · rw [q]; assumption
      · exact hp c (by omega)
    · refine AW.iconst dX11_isConcludedBefore_35 ?_
      refine AW.zreturn dX11_isConcludedBefore_36 rfl (Or.inr rfl) ?_
      exact hq1 ⟨b, by omega, by assumption⟩ h3 L3.r ((F.trans F2).trans (F3.mono (fun a => P76_PL)))
theorem W_before {a i : Nat} (HM : CM h nw tr ik sd at' S) (HL : LisR h) (ha : a < s_n S.1) (hi : i < s_h S.1) (hd : 6 ≤ d)
    (hq1 : (∃ b : Nat, b < a ∧ cnS S.1 b (s_w S.1 i) = cnS S.1 a (s_w S.1 i)) → ∀ h', LisR h' → Fr h h' PL → Q (some (.inl 1)) h') (hq0 : (¬ ∃ b : Nat, b < a ∧ cnS S.1 b (s_w S.1 i) = cnS S.1 a (s_w S.1 i)) → ∀ h', LisR h' → Fr h h' PL → Q (some (.inl 0)) h') : MW d 0 0 mX11_isConcludedBefore [.inr 16, .inl (a : Int), .inl (i : Int)] h Q := by
  have ok := HM.2.2.2.2.2.2.2.2.2.2.2.2
  have o := ok.1.1
  have g16 := HM.2.1
  unfold CO at g16
  show AW d 0 0 mX11_isConcludedBefore Q 0 [some (.inr 16), some (.inl (a : Int)), some (.inl (i : Int)), none, none] [] h
  refine AW.aload_n dX11_isConcludedBefore_0 rfl ?_
  refine AW.iload_n dX11_isConcludedBefore_1 rfl ?_
  refine AW.cI2 (d' := d - 1) (cX11_154 rfl) okX11_listenAs dX11_isConcludedBefore_2 (by repeat (first | assumption | exact hset_eq _ _ _ | refine (hset_ne _ _ (by omega)).trans ?_)) (by omega) (C_listenAs HM HL (by omega) (by omega) (by omega) (fun h2 L2 F2 => ?_))
  have HM2 := HM.fr F2 (fun a => PL_PS)
  have g2 := HM2.2.1
  unfold CO at g2
  refine AW.aload_n dX11_isConcludedBefore_5 rfl ?_
  refine AW.iload_n dX11_isConcludedBefore_6 rfl ?_
  refine AW.cI2 (d' := d - 1) (cX11_157 rfl) okX11_meaningOf dX11_isConcludedBefore_7 (by repeat (first | assumption | exact hset_eq _ _ _ | refine (hset_ne _ _ (by omega)).trans ?_)) (by omega) (C_meaning HM2 L2 (nmOK_S ok.1) (by omega) (by omega) (by omega) (fun h3 L3 F3 => ?_))
  refine AW.ist3 dX11_isConcludedBefore_10 (by decide) ?_
  refine AW.iconst dX11_isConcludedBefore_11 ?_
  refine AW.ist4 dX11_isConcludedBefore_12 (by decide) ?_
  exact L_cbefore HM ha hi hd hq1 hq0 a 0 h3 (by omega) L3.r (F2.trans (F3.mono (fun a => P76_PL))) (fun c hc => by omega)
theorem L_cunl {i : Nat} (HM : CM h nw tr ik sd at' S) (hi : i < s_h S.1) (hd : 7 ≤ d)
    (hq : ∀ h', LisR h' → Fr h h' PL → Q (some (.inl (sumN (s_n S.1) (fun a => iv (¬ ∃ b : Nat, b < a ∧ cnS S.1 b (s_w S.1 i) = cnS S.1 a (s_w S.1 i)) 1)))) h') :
    ∀ (r a : Nat) (h' : AH), a + r = s_n S.1 → LisR h' → Fr h h' PL →
      AW d 0 0 mX11_unlike Q 18 [some (.inr 16), some (.inl (i : Int)), some (.inl (sumN a (fun a => iv (¬ ∃ b : Nat, b < a ∧ cnS S.1 b (s_w S.1 i) = cnS S.1 a (s_w S.1 i)) 1))), some (.inl (a : Int))] [] h' := by
  have ok := HM.2.2.2.2.2.2.2.2.2.2.2.2
  have o := ok.1.1
  intro r
  induction r with
  | zero =>
    intro a h' ha L F
    have HM' := HM.fr F (fun a => PL_PS)
    have g16 := HM'.2.1
    unfold CO at g16
    have gn := HM'.2.2.2.2.2.1.1
    rw [show a = s_n S.1 by omega]
    refine AW.iload_n dX11_unlike_18 rfl ?_
    refine AW.aload_n dX11_unlike_19 rfl ?_
    refine AW.getf dX11_unlike_20 gX11_19 (by repeat (first | assumption | exact hset_eq _ _ _ | refine (hset_ne _ _ (by omega)).trans ?_)) rfl ?_
    refine AW.getf dX11_unlike_23 gX11_212 (by repeat (first | assumption | exact hset_eq _ _ _ | refine (hset_ne _ _ (by omega)).trans ?_)) rfl ?_
    refine AW.if_icmpge (tgt := 47) dX11_unlike_26 (by decide) (fun c26 => ?_) (fun c26 => absurd c26 (by omega))
    refine AW.iload_n dX11_unlike_47 rfl ?_
    refine AW.ireturn dX11_unlike_48 rfl ?_
    exact hq h' L F
  | succ r ih =>
    intro a h' ha L F
    have HM' := HM.fr F (fun a => PL_PS)
    have g16 := HM'.2.1
    unfold CO at g16
    have gn := HM'.2.2.2.2.2.1.1
    have hb := sumN_iv a (fun a => ¬ ∃ b : Nat, b < a ∧ cnS S.1 b (s_w S.1 i) = cnS S.1 a (s_w S.1 i))
    refine AW.iload_n dX11_unlike_18 rfl ?_
    refine AW.aload_n dX11_unlike_19 rfl ?_
    refine AW.getf dX11_unlike_20 gX11_19 (by repeat (first | assumption | exact hset_eq _ _ _ | refine (hset_ne _ _ (by omega)).trans ?_)) rfl ?_
    refine AW.getf dX11_unlike_23 gX11_212 (by repeat (first | assumption | exact hset_eq _ _ _ | refine (hset_ne _ _ (by omega)).trans ?_)) rfl ?_
    refine AW.if_icmpge (tgt := 47) dX11_unlike_26 (by decide) (fun c26 => absurd c26 (by omega)) (fun c26 => ?_)
    refine AW.aload_n dX11_unlike_29 rfl ?_
    refine AW.iload_n dX11_unlike_30 rfl ?_
    refine AW.iload_n dX11_unlike_31 rfl ?_
    refine AW.cI3 (d' := d - 1) (cX11_215 rfl) okX11_isConcludedBefore dX11_unlike_32 (by repeat (first | assumption | exact hset_eq _ _ _ | refine (hset_ne _ _ (by omega)).trans ?_)) (by omega) (W_before HM' L (by omega) hi (by omega) (fun c h2 L2 F2 => ?_) (fun c h2 L2 F2 => ?_))
    · refine AW.ifne_t (tgt := 41) dX11_unlike_35 (by decide) (by decide) ?_
      refine AW.inc3 dX11_unlike_41 (by decide) (by unfold RI; omega) ?_
      refine AW.goto (tgt := 18) dX11_unlike_44 (by decide) ?_
      have nx := ih (a + 1) h2 (by omega) L2 (F.trans F2)
      rw [sumN_succ] at nx
      first
        | (rw [iv_neg (not_not_intro c), Int.add_zero] at nx; exact nx)
        | (rw [iv_pos c] at nx; exact nx)
    · refine AW.ifne_f (tgt := 41) dX11_unlike_35 (by decide) rfl ?_
      refine AW.inc2 dX11_unlike_38 (by decide) (by unfold RI; omega) ?_
      refine AW.inc3 dX11_unlike_41 (by decide) (by unfold RI; omega) ?_
      refine AW.goto (tgt := 18) dX11_unlike_44 (by decide) ?_
      have nx := ih (a + 1) h2 (by omega) L2 (F.trans F2)
      rw [sumN_succ] at nx
      first
        | (rw [iv_neg (not_not_intro c), Int.add_zero] at nx; exact nx)
        | (rw [iv_pos c] at nx; exact nx)
theorem C_unlike (H : CS h S) (hd : 8 ≤ d) (hq : ∀ r S' h', (r, S') = o_unlike S x → CS h' S' → Fr h h' PC → Q (some (.inl r)) h') : MW d 0 0 mX11_unlike [.inr 16, .inl x] h Q := by
  obtain ⟨nw, tr, ik, sd, at', HM, HL, HS⟩ := id H
  obtain ⟨k1, g16, h9, k2, k3, k4, k5, k6, k7, k8, k10, k11, ok⟩ := id HM
  have gn := k4.1
  have g16' := g16
  unfold CO at g16'
  show AW d 0 0 mX11_unlike Q 0 [some (.inr 16), some (.inl x), none, none] [] h
  refine AW.aload_n dX11_unlike_0 rfl ?_
  refine AW.iload_n dX11_unlike_1 rfl ?_
  refine AW.cI2 (d' := d - 1) (cX11_135 rfl) okX11_noScholar dX11_unlike_2 (by repeat (first | assumption | exact hset_eq _ _ _ | refine (hset_ne _ _ (by omega)).trans ?_)) (by omega) (C_noSch (by assumption) (by assumption) (fun c2 => ?_) (fun c2 c2b => ?_))
  · refine AW.ifeq_f (tgt := 14) dX11_unlike_5 (by decide) (by decide) ?_
    refine AW.aload_n dX11_unlike_8 rfl ?_
    refine AW.iconst dX11_unlike_9 ?_
    refine AW.cI2 (d' := d - 1) (cX11_84 rfl) okX11_refused dX11_unlike_10 (by repeat (first | assumption | exact hset_eq _ _ _ | refine (hset_ne _ _ (by omega)).trans ?_)) (by omega) (C_refused (by assumption) (by decide) (by decide) (fun h10 hC hF => ?_))
    refine AW.ireturn dX11_unlike_13 rfl ?_
    exact hq (-1) (rf S 1) _ (by unfold o_unlike; rw [if_pos (by omega)]) hC hF
  · refine AW.ifeq_t (tgt := 14) dX11_unlike_5 (by decide) rfl ?_
    refine AW.iconst dX11_unlike_14 ?_
    refine AW.ist2 dX11_unlike_15 (by decide) ?_
    refine AW.iconst dX11_unlike_16 ?_
    refine AW.ist3 dX11_unlike_17 (by decide) ?_
    have ex : x = ((x.toNat : Nat) : Int) := by omega
    rw [ex]
    exact L_cunl HM (by omega) (by omega) (fun h2 L2 F2 => hq _ S h2 (by unfold o_unlike; rw [if_neg (by omega)]) (CS.lis HM HS L2 F2) (F2.mono (fun a => PL_PC))) (s_n S.1) 0 h (by omega) HL Fr.rfl'
theorem L_calike {a b : Nat} (HM : CM h nw tr ik sd at' S) (ha : a < s_n S.1) (hb : b < s_n S.1) (hd : 6 ≤ d)
    (hq1 : agS S.1 a b → ∀ h', LisR h' → Fr h h' PL → Q (some (.inl 1)) h') (hq0 : ¬ agS S.1 a b → ∀ h', LisR h' → Fr h h' PL → Q (some (.inl 0)) h') :
    ∀ (r i : Nat) (h' : AH) (z : Option AV), i + r = s_h S.1 → LisR h' → Fr h h' PL → (∀ j, j < i → cnS S.1 a (s_w S.1 j) = cnS S.1 b (s_w S.1 j)) →
      AW d 0 0 mX11_concludeAlike Q 2 [some (.inr 16), some (.inl (a : Int)), some (.inl (b : Int)), some (.inl (i : Int)), z] [] h' := by
  have ok := HM.2.2.2.2.2.2.2.2.2.2.2.2
  have o := ok.1.1
  have o2 := ok.1.2.1
  intro r
  induction r with
  | zero =>
    intro i h' z hi L F hp
    have HM' := HM.fr F (fun a => PL_PS)
    have g16 := HM'.2.1
    unfold CO at g16
    have gn := HM'.2.2.2.2.2.1.1
    refine AW.iload_n dX11_concludeAlike_2 rfl ?_
    refine AW.aload_n dX11_concludeAlike_3 rfl ?_
    refine AW.getf dX11_concludeAlike_4 gX11_19 (by repeat (first | assumption | exact hset_eq _ _ _ | refine (hset_ne _ _ (by omega)).trans ?_)) rfl ?_
    refine AW.getf dX11_concludeAlike_7 gX11_148 (by repeat (first | assumption | exact hset_eq _ _ _ | refine (hset_ne _ _ (by omega)).trans ?_)) rfl ?_
    refine AW.if_icmpge (tgt := 48) dX11_concludeAlike_10 (by decide) (fun c10 => ?_) (fun c10 => absurd c10 (by omega))
    refine AW.iconst dX11_concludeAlike_48 ?_
    refine AW.zreturn dX11_concludeAlike_49 rfl (Or.inr rfl) ?_
    exact hq1 (fun j hj => hp j (by omega)) h' L F
  | succ r ih =>
    intro i h' z hi L F hp
    have HM' := HM.fr F (fun a => PL_PS)
    have g16 := HM'.2.1
    unfold CO at g16
    have gn := HM'.2.2.2.2.2.1.1
    refine AW.iload_n dX11_concludeAlike_2 rfl ?_
    refine AW.aload_n dX11_concludeAlike_3 rfl ?_
    refine AW.getf dX11_concludeAlike_4 gX11_19 (by repeat (first | assumption | exact hset_eq _ _ _ | refine (hset_ne _ _ (by omega)).trans ?_)) rfl ?_
    refine AW.getf dX11_concludeAlike_7 gX11_148 (by repeat (first | assumption | exact hset_eq _ _ _ | refine (hset_ne _ _ (by omega)).trans ?_)) rfl ?_
    refine AW.if_icmpge (tgt := 48) dX11_concludeAlike_10 (by decide) (fun c10 => absurd c10 (by omega)) (fun c10 => ?_)
    refine AW.aload_n dX11_concludeAlike_13 rfl ?_
    refine AW.iload_n dX11_concludeAlike_14 rfl ?_
    refine AW.cI2 (d' := d - 1) (cX11_154 rfl) okX11_listenAs dX11_concludeAlike_15 (by repeat (first | assumption | exact hset_eq _ _ _ | refine (hset_ne _ _ (by omega)).trans ?_)) (by omega) (C_listenAs HM' L (by omega) (by omega) (by omega) (fun h2 L2 F2 => ?_))
    have HM2 := HM'.fr F2 (fun a => PL_PS)
    have g2 := HM2.2.1
    unfold CO at g2
    refine AW.aload_n dX11_concludeAlike_18 rfl ?_
    refine AW.iload_n dX11_concludeAlike_19 rfl ?_
    refine AW.cI2 (d' := d - 1) (cX11_157 rfl) okX11_meaningOf dX11_concludeAlike_20 (by repeat (first | assumption | exact hset_eq _ _ _ | refine (hset_ne _ _ (by omega)).trans ?_)) (by omega) (C_meaning HM2 L2 (nmOK_S ok.1) (by omega) (by omega) (by omega) (fun h3 L3 F3 => ?_))
    have HM3 := HM2.fr F3 (fun a ha => PL_PS (P76_PL ha))
    have g3 := HM3.2.1
    unfold CO at g3
    refine AW.ist4 dX11_concludeAlike_23 (by decide) ?_
    refine AW.aload_n dX11_concludeAlike_25 rfl ?_
    refine AW.iload_n dX11_concludeAlike_26 rfl ?_
    refine AW.cI2 (d' := d - 1) (cX11_154 rfl) okX11_listenAs dX11_concludeAlike_27 (by repeat (first | assumption | exact hset_eq _ _ _ | refine (hset_ne _ _ (by omega)).trans ?_)) (by omega) (C_listenAs HM3 L3.r (by omega) (by omega) (by omega) (fun h4 L4 F4 => ?_))
    have HM4 := HM3.fr F4 (fun a => PL_PS)
    have g4 := HM4.2.1
    unfold CO at g4
    have FF := ((F.trans F2).trans (F3.mono (fun a => P76_PL))).trans F4
    refine AW.aload_n dX11_concludeAlike_30 rfl ?_
    refine AW.iload_n dX11_concludeAlike_31 rfl ?_
    refine AW.cI2 (d' := d - 1) (cX11_157 rfl) okX11_meaningOf dX11_concludeAlike_32 (by repeat (first | assumption | exact hset_eq _ _ _ | refine (hset_ne _ _ (by omega)).trans ?_)) (by omega) (C_meaning HM4 L4 (nmOK_S ok.1) (by omega) (by omega) (by omega) (fun h5 L5 F5 => ?_))
    refine AW.iload dX11_concludeAlike_35 rfl ?_
    refine AW.if_icmpeq (tgt := 42) dX11_concludeAlike_37 (by decide) (fun c37 => ?_) (fun c37 => ?_)
    · refine AW.inc3 dX11_concludeAlike_42 (by decide) (by unfold RI; omega) ?_
      refine AW.goto (tgt := 2) dX11_concludeAlike_45 (by decide) ?_
      refine ih (i + 1) h5 _ (by omega) L5.r (FF.trans (F5.mono (fun a => P76_PL))) (fun j hj => ?_)
      by_cases q : j = i
      · rw [q]
        exact Eq.symm c37
      · exact hp j (by omega)
    · refine AW.iconst dX11_concludeAlike_40 ?_
      refine AW.zreturn dX11_concludeAlike_41 rfl (Or.inl rfl) ?_
      exact hq0 (fun q => c37 (Eq.symm (q i (by omega)))) h5 L5.r (FF.trans (F5.mono (fun a => P76_PL)))
theorem W_alike {a b : Nat} (HM : CM h nw tr ik sd at' S) (HL : LisR h) (ha : a < s_n S.1) (hb : b < s_n S.1) (hd : 6 ≤ d)
    (hq1 : agS S.1 a b → ∀ h', LisR h' → Fr h h' PL → Q (some (.inl 1)) h') (hq0 : ¬ agS S.1 a b → ∀ h', LisR h' → Fr h h' PL → Q (some (.inl 0)) h') : MW d 0 0 mX11_concludeAlike [.inr 16, .inl (a : Int), .inl (b : Int)] h Q := by
  show AW d 0 0 mX11_concludeAlike Q 0 [some (.inr 16), some (.inl (a : Int)), some (.inl (b : Int)), none, none] [] h
  refine AW.iconst dX11_concludeAlike_0 ?_
  refine AW.ist3 dX11_concludeAlike_1 (by decide) ?_
  exact L_calike HM ha hb hd hq1 hq0 (s_h S.1) 0 h _ (by omega) HL Fr.rfl' (fun j hj => by omega)
end Cls10

