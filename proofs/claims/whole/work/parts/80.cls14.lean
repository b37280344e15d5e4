section Cls14
variable {d : Nat} {Q : Option AV → AH → Prop} {h h' : AH} {nw tr b : Nat} {ik sd at' tc : Int} {S S' : ST} {P : Nat → Prop} {s : SC} {x y z who k g more v : Int} {nm : Nat → Int}
theorem shS_b (ok : scOK s) (h2 : who < s_n s) (hm : more ≤ 255) (x : Int) : shS s who more x = -9 ∨ (1 ≤ shS s who more x ∧ shS s who more x ≤ 299) := by
  rcases shF_cases (kkS s who) (ggS s who) (lvS s who more) x with ⟨n, q, e⟩ | ⟨-, e⟩
  · refine Or.inr ?_
    have e2 : shS s who more x = (n : Int) := e
    obtain ⟨j, hj, r⟩ := BTS ok h2 hm q.1
    have h3 : ¬ j < n := fun c => q.2 j c r
    have h4 := q.1.pos
    omega
  · exact Or.inl e
theorem fw_end (HM : CM h nw tr ik sd at' S) (HS : SCR h) (h1 : -1 ≤ who) (h2 : who < 5) (L : LisR h') (X : FewV h' (bW who)) (F : Fr h h' (fun a => PL a ∨ PF (bW who) a)) : CS h' S ∧ Fr h h' PC := by
  have hbb := bW_b (who := who) h1 h2
  exact ⟨⟨nw, tr, ik, sd, at', HM.fr F (fun a ha => by unfold PL PF at ha; unfold PS; omega), L, HS.few F HM.2.2.1 (bW_or h1 h2) X⟩, F.mono (fun a ha => by unfold PL PF at ha; unfold PC; omega)⟩
theorem C_words8 (ok : scOK s) (h2 : who < s_n s) (hm : more ≤ 255) (hb : 79 ≤ b ∧ b + 5 ≤ 116) (h9 : 120 ≤ h.1) (hd : 5 ≤ d) (hx : in8 x) (H : FewS h b s who more)
    (hq : ∀ h', FewS h' b s who more → Fr h h' (PF b) → Q (some (.inl (shS s who more x))) h') : MW d 0 0 mX3_wordsFor [.inr b, .inl x] h Q := by
  have e : x = ((x.toNat : Nat) : Int) := by have := hx.1; omega
  rw [e] at hq ⊢
  exact C_words ok h2 hm hb h9 hd (by have := hx.2; omega) H hq
theorem C_many (H : CS h S) (hd : 7 ≤ d) (hq : ∀ r S' h', (r, S') = o_many S who x → CS h' S' → Fr h h' PC → Q (some (.inl r)) h') : MW d 0 0 mX11_many [.inr 16, .inl who, .inl x] h Q := by
  obtain ⟨nw, tr, ik, sd, at', HM, HL, HS⟩ := id H
  obtain ⟨k1, g16, h9, k2, k3, k4, k5, k6, k7, k8, k10, k11, ok⟩ := id HM
  have gn := k4.1
  have g16' := g16
  unfold CO at g16'
  have o := ok.1.1
  show AW d 0 0 mX11_many Q 0 [some (.inr 16), some (.inl who), some (.inl x)] [] h
  refine AW.aload_n dX11_many_0 rfl ?_
  refine AW.iload_n dX11_many_1 rfl ?_
  refine AW.cI2 (d' := d - 1) (cX11_151 rfl) okX11_noListener dX11_many_2 (by repeat (first | assumption | exact hset_eq _ _ _ | refine (hset_ne _ _ (by omega)).trans ?_)) (by omega) (C_noLis (by assumption) (by assumption) (by omega) (by omega) (fun c2 => ?_) (fun c2 c2b => ?_))
  · refine AW.ifeq_f (tgt := 14) dX11_many_5 (by decide) (by decide) ?_
    refine AW.aload_n dX11_many_8 rfl ?_
    refine AW.iconst dX11_many_9 ?_
    refine AW.cI2 (d' := d - 1) (cX11_84 rfl) okX11_refused dX11_many_10 (by repeat (first | assumption | exact hset_eq _ _ _ | refine (hset_ne _ _ (by omega)).trans ?_)) (by omega) (C_refused (by assumption) (by decide) (by decide) (fun h10 hC hF => ?_))
    refine AW.ireturn dX11_many_13 rfl ?_
    first
      | exact hq (-1) (rf S 1) _ (by unfold o_many; rw [if_pos (by omega)]) hC hF
      | exact hq (-4) (rf S 4) _ (by unfold o_many; rw [if_neg (by omega), if_pos (by omega)]) hC hF
      | exact hq (-6) (rf S 6) _ (by unfold o_many; rw [if_neg (by omega), if_neg (by omega), if_pos (by omega)]) hC hF
  · refine AW.ifeq_t (tgt := 14) dX11_many_5 (by decide) rfl ?_
    refine AW.iload_n dX11_many_14 rfl ?_
    refine AW.iconst dX11_many_15 ?_
    refine AW.if_icmpge (tgt := 25) dX11_many_16 (by decide) (fun c16 => ?_) (fun c16 => ?_)
    · refine AW.iload_n dX11_many_25 rfl ?_
      refine AW.bipush dX11_many_26 ?_
      refine AW.if_icmple (tgt := 38) dX11_many_28 (by decide) (fun c28 => ?_) (fun c28 => ?_)
      · have hbb := bW_b (who := who) (by omega) (by omega)
        refine AW.aload_n dX11_many_38 rfl ?_
        refine AW.iload_n dX11_many_39 rfl ?_
        refine AW.cI2 (d' := d - 1) (cX11_169 rfl) okX11_fewestFor dX11_many_40 (by repeat (first | assumption | exact hset_eq _ _ _ | refine (hset_ne _ _ (by omega)).trans ?_)) (by omega) (C_fewestFor HM HL HS (by omega) (by omega) (by omega) (fun h2 L2 X2 F2 => ?_))
        obtain ⟨vs, hv⟩ := X2.o
        obtain ⟨a, kn, e1, e2, e3, e4⟩ := id X2
        refine AW.iload_n dX11_many_43 rfl ?_
        refine AW.cI2 (d' := d - 1) (cX11_179 rfl) okX3_meaningsOfLength dX11_many_44 (by repeat (first | assumption | exact hset_eq _ _ _ | refine (hset_ne _ _ (by omega)).trans ?_)) (by omega) (W_meanings (LVok_S ok.1 (by omega) (by decide)) ⟨hbb.1, hbb.2.1⟩ (Nat.le_trans h9 F2.1) e2 (by omega) (by omega) e1 (fun h3 X3 F3 => ?_))
        refine AW.ireturn dX11_many_47 rfl ?_
        have F := F2.trans (F3.mono (fun a => Or.inr))
        have X : FewS h3 (bW who) S.1 who (-9) := ⟨a, kn, X3, e2.fr F3 (fun a ha => by unfold PF; omega), e3, e4⟩
        obtain ⟨u1, u2⟩ := fw_end HM HS (by omega) (by omega) (L2.fr F3 (Nat.le_trans h9 F2.1) (fun a ha => by unfold PF; omega)).r X.v F
        exact hq _ S h3 (by unfold o_many; rw [if_neg (by omega), if_neg (by omega), if_neg (by omega)]; rfl) u1 u2
      · refine AW.aload_n dX11_many_31 rfl ?_
        refine AW.bipush dX11_many_32 ?_
        refine AW.cI2 (d' := d - 1) (cX11_84 rfl) okX11_refused dX11_many_34 (by repeat (first | assumption | exact hset_eq _ _ _ | refine (hset_ne _ _ (by omega)).trans ?_)) (by omega) (C_refused (by assumption) (by decide) (by decide) (fun h34 hC hF => ?_))
        refine AW.ireturn dX11_many_37 rfl ?_
        first
          | exact hq (-1) (rf S 1) _ (by unfold o_many; rw [if_pos (by omega)]) hC hF
          | exact hq (-4) (rf S 4) _ (by unfold o_many; rw [if_neg (by omega), if_pos (by omega)]) hC hF
          | exact hq (-6) (rf S 6) _ (by unfold o_many; rw [if_neg (by omega), if_neg (by omega), if_pos (by omega)]) hC hF
    · refine AW.aload_n dX11_many_19 rfl ?_
      refine AW.iconst dX11_many_20 ?_
      refine AW.cI2 (d' := d - 1) (cX11_84 rfl) okX11_refused dX11_many_21 (by repeat (first | assumption | exact hset_eq _ _ _ | refine (hset_ne _ _ (by omega)).trans ?_)) (by omega) (C_refused (by assumption) (by decide) (by decide) (fun h21 hC hF => ?_))
      refine AW.ireturn dX11_many_24 rfl ?_
      first
        | exact hq (-1) (rf S 1) _ (by unfold o_many; rw [if_pos (by omega)]) hC hF
        | exact hq (-4) (rf S 4) _ (by unfold o_many; rw [if_neg (by omega), if_pos (by omega)]) hC hF
        | exact hq (-6) (rf S 6) _ (by unfold o_many; rw [if_neg (by omega), if_neg (by omega), if_pos (by omega)]) hC hF
theorem frF_lt {c : Nat → Int} {n b : Nat} (hb : b < 256) (hn : n ≤ 256) : frF c n b < 256 := by
  induction n generalizing b with
  | zero => exact hb
  | succ n ih =>
    unfold frF
    refine ih ?_ (by omega)
    split <;> omega
theorem C_farthest (H : CS h S) (hd : 7 ≤ d) (hq : ∀ r S' h', (r, S') = o_farthest S who x → CS h' S' → Fr h h' PC → Q (some (.inl r)) h') : MW d 0 0 mX11_farthest [.inr 16, .inl who, .inl x] h Q := by
  obtain ⟨nw, tr, ik, sd, at', HM, HL, HS⟩ := id H
  obtain ⟨k1, g16, h9, k2, k3, k4, k5, k6, k7, k8, k10, k11, ok⟩ := id HM
  have gn := k4.1
  have g16' := g16
  unfold CO at g16'
  have o := ok.1.1
  have go : -1 ≤ who → who < s_n S.1 → (x = 0 ∨ x = 1) → AW d 0 0 mX11_farthest Q 29 [some (.inr 16), some (.inl who), some (.inl x), none, none] [] h := by
    intro w1 w2 w3
    have hbb := bW_b (who := who) (by omega) (by omega)
    refine AW.aload_n dX11_farthest_29 rfl ?_
    refine AW.iload_n dX11_farthest_30 rfl ?_
    refine AW.cI2 (d' := d - 1) (cX11_169 rfl) okX11_fewestFor dX11_farthest_31 (by repeat (first | assumption | exact hset_eq _ _ _ | refine (hset_ne _ _ (by omega)).trans ?_)) (by omega) (C_fewestFor HM HL HS (by omega) (by omega) (by omega) (fun h2 L2 X2 F2 => ?_))
    obtain ⟨vs, hv⟩ := X2.o
    obtain ⟨a, kn, e1, e2, e3, e4⟩ := id X2
    refine AW.ast3 dX11_farthest_34 (by decide) ?_
    refine AW.aload_n dX11_farthest_35 rfl ?_
    refine AW.cI1 (d' := d - 1) (cX11_182 rfl) okX3_farthestMeaning dX11_farthest_36 (by repeat (first | assumption | exact hset_eq _ _ _ | refine (hset_ne _ _ (by omega)).trans ?_)) (by omega) (W_farthest0 (LVok_S ok.1 (by omega) (by decide)) (Or.inl rfl) ⟨hbb.1, hbb.2.1⟩ (Nat.le_trans h9 F2.1) e2 (by omega) e1 (fun h3 X3 F3 => ?_))
    have hbd : fbF S.1 who < 256 := frF_lt (by decide) (by decide)
    have F := F2.trans (F3.mono (fun a => Or.inr))
    have X : FewS h3 (bW who) S.1 who (-9) := ⟨a, kn, X3, e2.fr F3 (fun a ha => by unfold PF; omega), e3, e4⟩
    have L3 := L2.fr F3 (Nat.le_trans h9 F2.1) (fun a ha => by unfold PF; omega)
    obtain ⟨vs3, hv3⟩ := X.o
    show AW _ _ _ _ _ _ _ [.inl ((fbF S.1 who : Nat) : Int)] _
    refine AW.ist4 dX11_farthest_39 (by decide) ?_
    refine AW.iload_n dX11_farthest_41 rfl ?_
    refine AW.ifne (tgt := 54) dX11_farthest_42 (by decide) (fun c42 => ?_) (fun c42 => ?_)
    · refine AW.iload dX11_farthest_54 rfl ?_
      refine AW.ireturn dX11_farthest_56 rfl ?_
      first
        | (obtain ⟨u1, u2⟩ := fw_end HM HS (by omega) (by omega) (L3.fr F4 (Nat.le_trans h9 F.1) (fun a ha => by unfold PF; omega)).r X4.v (F.trans (F4.mono (fun a => Or.inr)))
           exact hq _ S h4 (by unfold o_farthest; rw [if_neg (by omega), if_neg (by omega), if_pos (by omega)]) u1 u2)
        | (obtain ⟨u1, u2⟩ := fw_end HM HS (by omega) (by omega) L3.r X.v F
           exact hq _ S h3 (by unfold o_farthest; rw [if_neg (by omega), if_neg (by omega), if_neg (by omega)]) u1 u2)
    · refine AW.aload_n dX11_farthest_45 rfl ?_
      refine AW.iload dX11_farthest_46 rfl ?_
      refine AW.cI2 (d' := d - 1) (cX11_173 rfl) okX3_wordsFor dX11_farthest_48 (by repeat (first | assumption | exact hset_eq _ _ _ | refine (hset_ne _ _ (by omega)).trans ?_)) (by omega) (C_words ok.1 (by omega) (by decide) ⟨hbb.1, hbb.2.1⟩ (Nat.le_trans h9 F.1) (by omega) hbd X (fun h4 X4 F4 => ?_))
      refine AW.goto (tgt := 56) dX11_farthest_51 (by decide) ?_
      refine AW.ireturn dX11_farthest_56 rfl ?_
      first
        | (obtain ⟨u1, u2⟩ := fw_end HM HS (by omega) (by omega) (L3.fr F4 (Nat.le_trans h9 F.1) (fun a ha => by unfold PF; omega)).r X4.v (F.trans (F4.mono (fun a => Or.inr)))
           exact hq _ S h4 (by unfold o_farthest; rw [if_neg (by omega), if_neg (by omega), if_pos (by omega)]) u1 u2)
        | (obtain ⟨u1, u2⟩ := fw_end HM HS (by omega) (by omega) L3.r X.v F
           exact hq _ S h3 (by unfold o_farthest; rw [if_neg (by omega), if_neg (by omega), if_neg (by omega)]) u1 u2)
  show AW d 0 0 mX11_farthest Q 0 [some (.inr 16), some (.inl who), some (.inl x), none, none] [] h
  refine AW.aload_n dX11_farthest_0 rfl ?_
  refine AW.iload_n dX11_farthest_1 rfl ?_
  refine AW.cI2 (d' := d - 1) (cX11_151 rfl) okX11_noListener dX11_farthest_2 (by repeat (first | assumption | exact hset_eq _ _ _ | refine (hset_ne _ _ (by omega)).trans ?_)) (by omega) (C_noLis (by assumption) (by assumption) (by omega) (by omega) (fun c2 => ?_) (fun c2 c2b => ?_))
  · refine AW.ifeq_f (tgt := 14) dX11_farthest_5 (by decide) (by decide) ?_
    refine AW.aload_n dX11_farthest_8 rfl ?_
    refine AW.iconst dX11_farthest_9 ?_
    refine AW.cI2 (d' := d - 1) (cX11_84 rfl) okX11_refused dX11_farthest_10 (by repeat (first | assumption | exact hset_eq _ _ _ | refine (hset_ne _ _ (by omega)).trans ?_)) (by omega) (C_refused (by assumption) (by decide) (by decide) (fun h10 hC hF => ?_))
    refine AW.ireturn dX11_farthest_13 rfl ?_
    first
      | exact hq (-1) (rf S 1) _ (by unfold o_farthest; rw [if_pos (by omega)]) hC hF
      | exact hq (-2) (rf S 2) _ (by unfold o_farthest; rw [if_neg (by omega), if_pos (by omega)]) hC hF
  · refine AW.ifeq_t (tgt := 14) dX11_farthest_5 (by decide) rfl ?_
    refine AW.iload_n dX11_farthest_14 rfl ?_
    refine AW.ifeq (tgt := 29) dX11_farthest_15 (by decide) (fun c15 => ?_) (fun c15 => ?_)
    · exact go (by omega) (by omega) (by omega)
    · refine AW.iload_n dX11_farthest_18 rfl ?_
      refine AW.iconst dX11_farthest_19 ?_
      refine AW.if_icmpeq (tgt := 29) dX11_farthest_20 (by decide) (fun c20 => ?_) (fun c20 => ?_)
      · exact go (by omega) (by omega) (by omega)
      · refine AW.aload_n dX11_farthest_23 rfl ?_
        refine AW.iconst dX11_farthest_24 ?_
        refine AW.cI2 (d' := d - 1) (cX11_84 rfl) okX11_refused dX11_farthest_25 (by repeat (first | assumption | exact hset_eq _ _ _ | refine (hset_ne _ _ (by omega)).trans ?_)) (by omega) (C_refused (by assumption) (by decide) (by decide) (fun h25 hC hF => ?_))
        refine AW.ireturn dX11_farthest_28 rfl ?_
        first
          | exact hq (-1) (rf S 1) _ (by unfold o_farthest; rw [if_pos (by omega)]) hC hF
          | exact hq (-2) (rf S 2) _ (by unfold o_farthest; rw [if_neg (by omega), if_pos (by omega)]) hC hF
theorem C_cut (H : CS h S) (hd : 7 ≤ d) (hq : ∀ r S' h', (r, S') = o_cut S who x → CS h' S' → Fr h h' PC → Q (some (.inl r)) h') : MW d 0 0 mX11_cut [.inr 16, .inl who, .inl x] h Q := by
  obtain ⟨nw, tr, ik, sd, at', HM, HL, HS⟩ := id H
  obtain ⟨k1, g16, h9, k2, k3, k4, k5, k6, k7, k8, k10, k11, ok⟩ := id HM
  have gn := k4.1
  have g16' := g16
  unfold CO at g16'
  have o := ok.1.1
  have o2 := ok.1.2.1
  have go : -1 ≤ who → who < s_n S.1 → 0 ≤ x → x < s_h S.1 → AW d 0 0 mX11_cut Q 22 [some (.inr 16), some (.inl who), some (.inl x), none, none] [] h := by
    intro w1 w2 w3 w4
    have hbb := bW_b (who := who) (by omega) (by omega)
    refine AW.aload_n dX11_cut_22 rfl ?_
    refine AW.iload_n dX11_cut_23 rfl ?_
    refine AW.cI2 (d' := d - 1) (cX11_169 rfl) okX11_fewestFor dX11_cut_24 (by repeat (first | assumption | exact hset_eq _ _ _ | refine (hset_ne _ _ (by omega)).trans ?_)) (by omega) (C_fewestFor HM HL HS (by omega) (by omega) (by omega) (fun h2 L2 X2 F2 => ?_))
    have HM2 := HM.fr F2 (fun a ha => by unfold PL PF at ha; unfold PS; omega)
    have n16 := HM2.2.1
    unfold CO at n16
    refine AW.ast3 dX11_cut_27 (by decide) ?_
    refine AW.aload_n dX11_cut_28 rfl ?_
    refine AW.aload_n dX11_cut_29 rfl ?_
    refine AW.iload_n dX11_cut_30 rfl ?_
    refine AW.cI2 (d' := d - 1) (cX11_157 rfl) okX11_meaningOf dX11_cut_31 (by repeat (first | assumption | exact hset_eq _ _ _ | refine (hset_ne _ _ (by omega)).trans ?_)) (by omega) (C_meaning HM2 L2 (nmOK_S ok.1) (by omega) w3 w4 (fun h3 L3 F3 => ?_))
    have X3 := X2.fr F3 (Nat.le_trans (by omega) (Nat.add_le_add_left HM2.2.2.1 16)) (fun a ha => by unfold PF at ha; unfold P76; omega)
    have F := F2.trans (F3.mono (fun a ha => Or.inl (P76_PL ha)))
    obtain ⟨vs, hv⟩ := X3.o
    show AW _ _ _ _ _ _ _ [.inl (cnS S.1 who (s_w S.1 x.toNat)), _] _
    refine AW.cI2 (d' := d - 1) (cX11_173 rfl) okX3_wordsFor dX11_cut_34 (by repeat (first | assumption | exact hset_eq _ _ _ | refine (hset_ne _ _ (by omega)).trans ?_)) (by omega) (C_words8 ok.1 (by omega) (by decide) ⟨hbb.1, hbb.2.1⟩ (Nat.le_trans h9 F.1) (by omega) (cnS_in8 ok.1 (by omega) _) X3 (fun h4 X4 F4 => ?_))
    have F' := F.trans (F4.mono (fun a => Or.inr))
    have sb := shS_b (who := who) (more := -9) ok.1 (by omega) (by decide) (cnS S.1 who (s_w S.1 x.toNat))
    obtain ⟨u1, u2⟩ := fw_end HM HS (by omega) (by omega) (L3.fr F4 (Nat.le_trans h9 F.1) (fun a ha => by unfold PF; omega)).r X4.v F'
    have HM4 := HM.fr F' (fun a ha => by unfold PL PF at ha; unfold PS; omega)
    have m16 := HM4.2.1
    unfold CO at m16
    obtain ⟨mn, -, -, m8, -, -, m11⟩ := HM4.2.2.2.2.2.1
    obtain ⟨f, hs1, hs2, hs3, -⟩ := m11 x.toNat (by omega)
    have e := sayAt (l := []) (i := x.toNat) nw (by omega)
    refine AW.ist4 dX11_cut_37 (by decide) ?_
    refine AW.iload dX11_cut_39 rfl ?_
    refine AW.bipush dX11_cut_41 ?_
    refine AW.if_icmpne (tgt := 51) dX11_cut_43 (by decide) (fun c43 => ?_) (fun c43 => ?_)
    · refine AW.aload_n dX11_cut_51 rfl ?_
      refine AW.getf dX11_cut_52 gX11_19 (by repeat (first | assumption | exact hset_eq _ _ _ | refine (hset_ne _ _ (by omega)).trans ?_)) rfl ?_
      refine AW.getf dX11_cut_55 gX11_138 (by repeat (first | assumption | exact hset_eq _ _ _ | refine (hset_ne _ _ (by omega)).trans ?_)) rfl ?_
      refine AW.iload_n dX11_cut_58 rfl ?_
      refine AW.aaload dX11_cut_59 (by repeat (first | assumption | exact hset_eq _ _ _ | refine (hset_ne _ _ (by omega)).trans ?_)) (by decide) (by omega) e ?_
      refine AW.getf dX11_cut_60 gX11_142 (by repeat (first | assumption | exact hset_eq _ _ _ | refine (hset_ne _ _ (by omega)).trans ?_)) rfl ?_
      refine AW.iload dX11_cut_63 rfl ?_
      refine AW.isubR dX11_cut_65 (by unfold RI; omega) ?_
      refine AW.ireturn dX11_cut_66 rfl ?_
      refine hq _ S h4 ?_ u1 u2
      unfold o_cut ctF
      first
        | rw [if_neg (by omega), if_pos (by omega)]
        | rw [if_neg (by omega), if_neg (by omega)]
    · refine AW.bipush dX11_cut_46 ?_
      refine AW.goto (tgt := 66) dX11_cut_48 (by decide) ?_
      refine AW.ireturn dX11_cut_66 rfl ?_
      refine hq _ S h4 ?_ u1 u2
      unfold o_cut ctF
      first
        | rw [if_neg (by omega), if_pos (by omega)]
        | rw [if_neg (by omega), if_neg (by omega)]
  show AW d 0 0 mX11_cut Q 0 [some (.inr 16), some (.inl who), some (.inl x), none, none] [] h
  refine AW.aload_n dX11_cut_0 rfl ?_
  refine AW.iload_n dX11_cut_1 rfl ?_
  refine AW.cI2 (d' := d - 1) (cX11_151 rfl) okX11_noListener dX11_cut_2 (by repeat (first | assumption | exact hset_eq _ _ _ | refine (hset_ne _ _ (by omega)).trans ?_)) (by omega) (C_noLis (by assumption) (by assumption) (by omega) (by omega) (fun c2 => ?_) (fun c2 c2b => ?_))
  · refine AW.ifne_t (tgt := 16) dX11_cut_5 (by decide) (by decide) ?_
    refine AW.aload_n dX11_cut_16 rfl ?_
    refine AW.iconst dX11_cut_17 ?_
    refine AW.cI2 (d' := d - 1) (cX11_176 rfl) okX11_refusedFarOff dX11_cut_18 (by repeat (first | assumption | exact hset_eq _ _ _ | refine (hset_ne _ _ (by omega)).trans ?_)) (by omega) (C_far (by assumption) (by decide) (by decide) (by omega) (fun h18 hC hF => ?_))
    refine AW.ireturn dX11_cut_21 rfl ?_
    exact hq 1000000001 (rf S 1) _ (by unfold o_cut; rw [if_pos (by omega)]) hC hF
  · refine AW.ifne_f (tgt := 16) dX11_cut_5 (by decide) rfl ?_
    refine AW.aload_n dX11_cut_8 rfl ?_
    refine AW.iload_n dX11_cut_9 rfl ?_
    refine AW.cI2 (d' := d - 1) (cX11_135 rfl) okX11_noScholar dX11_cut_10 (by repeat (first | assumption | exact hset_eq _ _ _ | refine (hset_ne _ _ (by omega)).trans ?_)) (by omega) (C_noSch (by assumption) (by assumption) (fun c10 => ?_) (fun c10 c10b => ?_))
    · refine AW.ifeq_f (tgt := 22) dX11_cut_13 (by decide) (by decide) ?_
      refine AW.aload_n dX11_cut_16 rfl ?_
      refine AW.iconst dX11_cut_17 ?_
      refine AW.cI2 (d' := d - 1) (cX11_176 rfl) okX11_refusedFarOff dX11_cut_18 (by repeat (first | assumption | exact hset_eq _ _ _ | refine (hset_ne _ _ (by omega)).trans ?_)) (by omega) (C_far (by assumption) (by decide) (by decide) (by omega) (fun h18 hC hF => ?_))
      refine AW.ireturn dX11_cut_21 rfl ?_
      exact hq 1000000001 (rf S 1) _ (by unfold o_cut; rw [if_pos (by omega)]) hC hF
    · refine AW.ifeq_t (tgt := 22) dX11_cut_13 (by decide) rfl ?_
      exact go (by omega) (by omega) (by omega) (by omega)
theorem C_joined (H : CS h S) (hd : 7 ≤ d) (hq : ∀ r S' h', (r, S') = o_joined S who x y → CS h' S' → Fr h h' PC → Q (some (.inl r)) h') : MW d 0 0 mX11_joined [.inr 16, .inl who, .inl x, .inl y] h Q := by
  obtain ⟨nw, tr, ik, sd, at', HM, HL, HS⟩ := id H
  obtain ⟨k1, g16, h9, k2, k3, k4, k5, k6, k7, k8, k10, k11, ok⟩ := id HM
  have gn := k4.1
  have g16' := g16
  unfold CO at g16'
  have o := ok.1.1
  have o2 := ok.1.2.1
  have go : -1 ≤ who → who < s_n S.1 → 0 ≤ x → x ≤ 255 → 0 ≤ y → y ≤ 255 → AW d 0 0 mX11_joined Q 49 [some (.inr 16), some (.inl who), some (.inl x), some (.inl y), none, none, none, none] [] h := by
    intro w1 w2 w3 w4 w5 w6
    have hbb := bW_b (who := who) (by omega) (by omega)
    refine AW.aload_n dX11_joined_49 rfl ?_
    refine AW.iload_n dX11_joined_50 rfl ?_
    refine AW.cI2 (d' := d - 1) (cX11_169 rfl) okX11_fewestFor dX11_joined_51 (by repeat (first | assumption | exact hset_eq _ _ _ | refine (hset_ne _ _ (by omega)).trans ?_)) (by omega) (C_fewestFor HM HL HS (by omega) (by omega) (by omega) (fun h2 L2 X2 F2 => ?_))
    obtain ⟨vs, hv⟩ := X2.o
    refine AW.ast4 dX11_joined_54 (by decide) ?_
    refine AW.aload dX11_joined_56 rfl ?_
    refine AW.iload_n dX11_joined_58 rfl ?_
    refine AW.cI2 (d' := d - 1) (cX11_173 rfl) okX3_wordsFor dX11_joined_59 (by repeat (first | assumption | exact hset_eq _ _ _ | refine (hset_ne _ _ (by omega)).trans ?_)) (by omega) (C_words8 ok.1 (by omega) (by decide) ⟨hbb.1, hbb.2.1⟩ (Nat.le_trans h9 F2.1) (by omega) ⟨w3, w4⟩ X2 (fun h3 X3 F3 => ?_))
    obtain ⟨vs3, hv3⟩ := X3.o
    have F' := F2.trans (F3.mono (fun a => Or.inr))
    refine AW.ist5 dX11_joined_62 (by decide) ?_
    refine AW.aload dX11_joined_64 rfl ?_
    refine AW.iload_n dX11_joined_66 rfl ?_
    refine AW.cI2 (d' := d - 1) (cX11_173 rfl) okX3_wordsFor dX11_joined_67 (by repeat (first | assumption | exact hset_eq _ _ _ | refine (hset_ne _ _ (by omega)).trans ?_)) (by omega) (C_words8 ok.1 (by omega) (by decide) ⟨hbb.1, hbb.2.1⟩ (Nat.le_trans h9 F'.1) (by omega) ⟨w5, w6⟩ X3 (fun h4 X4 F4 => ?_))
    obtain ⟨vs4, hv4⟩ := X4.o
    have F'' := F'.trans (F4.mono (fun a => Or.inr))
    refine AW.ist6 dX11_joined_70 (by decide) ?_
    refine AW.aload dX11_joined_72 rfl ?_
    refine AW.iload_n dX11_joined_74 rfl ?_
    refine AW.iload_n dX11_joined_75 rfl ?_
    refine AW.iand dX11_joined_76 ?_
    refine AW.cI2 (d' := d - 1) (cX11_173 rfl) okX3_wordsFor dX11_joined_77 (by repeat (first | assumption | exact hset_eq _ _ _ | refine (hset_ne _ _ (by omega)).trans ?_)) (by omega) (C_words8 ok.1 (by omega) (by decide) ⟨hbb.1, hbb.2.1⟩ (Nat.le_trans h9 F''.1) (by omega) (in8_and ⟨w3, w4⟩) X4 (fun h5 X5 F5 => ?_))
    have F := F''.trans (F5.mono (fun a => Or.inr))
    have s1 := shS_b (who := who) (more := -9) ok.1 (by omega) (by decide) x
    have s2 := shS_b (who := who) (more := -9) ok.1 (by omega) (by decide) y
    have s3 := shS_b (who := who) (more := -9) ok.1 (by omega) (by decide) (a_and x y)
    have L5 := ((L2.fr F3 (Nat.le_trans h9 F2.1) (fun a ha => by unfold PF; omega)).fr F4 (Nat.le_trans h9 F'.1) (fun a ha => by unfold PF; omega)).fr F5 (Nat.le_trans h9 F''.1) (fun a ha => by unfold PF; omega)
    obtain ⟨u1, u2⟩ := fw_end HM HS (by omega) (by omega) L5.r X5.v F
    refine AW.ist7 dX11_joined_80 (by decide) ?_
    refine AW.iload dX11_joined_82 rfl ?_
    refine AW.bipush dX11_joined_84 ?_
    refine AW.if_icmpeq (tgt := 103) dX11_joined_86 (by decide) (fun c86 => ?_) (fun c86 => ?_)
    · refine AW.bipush dX11_joined_103 ?_
      refine AW.ireturn dX11_joined_105 rfl ?_
      refine hq _ S h5 ?_ u1 u2
      unfold o_joined
      first
        | rw [if_neg (by omega), if_neg (by omega), if_neg (by omega), if_pos (by omega)]
        | rw [if_neg (by omega), if_neg (by omega), if_neg (by omega), if_neg (by omega)]
    · refine AW.iload dX11_joined_89 rfl ?_
      refine AW.bipush dX11_joined_91 ?_
      refine AW.if_icmpeq (tgt := 103) dX11_joined_93 (by decide) (fun c93 => ?_) (fun c93 => ?_)
      · refine AW.bipush dX11_joined_103 ?_
        refine AW.ireturn dX11_joined_105 rfl ?_
        refine hq _ S h5 ?_ u1 u2
        unfold o_joined
        first
          | rw [if_neg (by omega), if_neg (by omega), if_neg (by omega), if_pos (by omega)]
          | rw [if_neg (by omega), if_neg (by omega), if_neg (by omega), if_neg (by omega)]
      · refine AW.iload dX11_joined_96 rfl ?_
        refine AW.bipush dX11_joined_98 ?_
        refine AW.if_icmpne (tgt := 106) dX11_joined_100 (by decide) (fun c100 => ?_) (fun c100 => ?_)
        · refine AW.iload dX11_joined_106 rfl ?_
          refine AW.iload dX11_joined_108 rfl ?_
          refine AW.isubR dX11_joined_110 (by unfold RI; omega) ?_
          refine AW.iload dX11_joined_111 rfl ?_
          refine AW.isubR dX11_joined_113 (by unfold RI; omega) ?_
          refine AW.ireturn dX11_joined_114 rfl ?_
          refine hq _ S h5 ?_ u1 u2
          unfold o_joined
          first
            | rw [if_neg (by omega), if_neg (by omega), if_neg (by omega), if_pos (by omega)]
            | rw [if_neg (by omega), if_neg (by omega), if_neg (by omega), if_neg (by omega)]
        · refine AW.bipush dX11_joined_103 ?_
          refine AW.ireturn dX11_joined_105 rfl ?_
          refine hq _ S h5 ?_ u1 u2
          unfold o_joined
          first
            | rw [if_neg (by omega), if_neg (by omega), if_neg (by omega), if_pos (by omega)]
            | rw [if_neg (by omega), if_neg (by omega), if_neg (by omega), if_neg (by omega)]
  show AW d 0 0 mX11_joined Q 0 [some (.inr 16), some (.inl who), some (.inl x), some (.inl y), none, none, none, none] [] h
  refine AW.aload_n dX11_joined_0 rfl ?_
  refine AW.iload_n dX11_joined_1 rfl ?_
  refine AW.cI2 (d' := d - 1) (cX11_151 rfl) okX11_noListener dX11_joined_2 (by repeat (first | assumption | exact hset_eq _ _ _ | refine (hset_ne _ _ (by omega)).trans ?_)) (by omega) (C_noLis (by assumption) (by assumption) (by omega) (by omega) (fun c2 => ?_) (fun c2 c2b => ?_))
  · refine AW.ifeq_f (tgt := 14) dX11_joined_5 (by decide) (by decide) ?_
    refine AW.aload_n dX11_joined_8 rfl ?_
    refine AW.iconst dX11_joined_9 ?_
    refine AW.cI2 (d' := d - 1) (cX11_176 rfl) okX11_refusedFarOff dX11_joined_10 (by repeat (first | assumption | exact hset_eq _ _ _ | refine (hset_ne _ _ (by omega)).trans ?_)) (by omega) (C_far (by assumption) (by decide) (by decide) (by omega) (fun h10 hC hF => ?_))
    refine AW.ireturn dX11_joined_13 rfl ?_
    first
      | exact hq 1000000001 (rf S 1) _ (by unfold o_joined; rw [if_pos (by omega)]) hC hF
      | exact hq 1000000004 (rf S 4) _ (by unfold o_joined; rw [if_neg (by omega), if_pos (by omega)]) hC hF
      | exact hq 1000000006 (rf S 6) _ (by unfold o_joined; rw [if_neg (by omega), if_neg (by omega), if_pos (by omega)]) hC hF
  · refine AW.ifeq_t (tgt := 14) dX11_joined_5 (by decide) rfl ?_
    refine AW.iload_n dX11_joined_14 rfl ?_
    refine AW.iflt (tgt := 22) dX11_joined_15 (by decide) (fun c15 => ?_) (fun c15 => ?_)
    · refine AW.aload_n dX11_joined_22 rfl ?_
      refine AW.iconst dX11_joined_23 ?_
      refine AW.cI2 (d' := d - 1) (cX11_176 rfl) okX11_refusedFarOff dX11_joined_24 (by repeat (first | assumption | exact hset_eq _ _ _ | refine (hset_ne _ _ (by omega)).trans ?_)) (by omega) (C_far (by assumption) (by decide) (by decide) (by omega) (fun h24 hC hF => ?_))
      refine AW.ireturn dX11_joined_27 rfl ?_
      first
        | exact hq 1000000001 (rf S 1) _ (by unfold o_joined; rw [if_pos (by omega)]) hC hF
        | exact hq 1000000004 (rf S 4) _ (by unfold o_joined; rw [if_neg (by omega), if_pos (by omega)]) hC hF
        | exact hq 1000000006 (rf S 6) _ (by unfold o_joined; rw [if_neg (by omega), if_neg (by omega), if_pos (by omega)]) hC hF
    · refine AW.iload_n dX11_joined_18 rfl ?_
      refine AW.ifge (tgt := 28) dX11_joined_19 (by decide) (fun c19 => ?_) (fun c19 => ?_)
      · refine AW.iload_n dX11_joined_28 rfl ?_
        refine AW.sipush dX11_joined_29 ?_
        refine AW.if_icmpgt (tgt := 42) dX11_joined_32 (by decide) (fun c32 => ?_) (fun c32 => ?_)
        · refine AW.aload_n dX11_joined_42 rfl ?_
          refine AW.bipush dX11_joined_43 ?_
          refine AW.cI2 (d' := d - 1) (cX11_176 rfl) okX11_refusedFarOff dX11_joined_45 (by repeat (first | assumption | exact hset_eq _ _ _ | refine (hset_ne _ _ (by omega)).trans ?_)) (by omega) (C_far (by assumption) (by decide) (by decide) (by omega) (fun h45 hC hF => ?_))
          refine AW.ireturn dX11_joined_48 rfl ?_
          first
            | exact hq 1000000001 (rf S 1) _ (by unfold o_joined; rw [if_pos (by omega)]) hC hF
            | exact hq 1000000004 (rf S 4) _ (by unfold o_joined; rw [if_neg (by omega), if_pos (by omega)]) hC hF
            | exact hq 1000000006 (rf S 6) _ (by unfold o_joined; rw [if_neg (by omega), if_neg (by omega), if_pos (by omega)]) hC hF
        · refine AW.iload_n dX11_joined_35 rfl ?_
          refine AW.sipush dX11_joined_36 ?_
          refine AW.if_icmple (tgt := 49) dX11_joined_39 (by decide) (fun c39 => ?_) (fun c39 => ?_)
          · exact go (by omega) (by omega) (by omega) (by omega) (by omega) (by omega)
          · refine AW.aload_n dX11_joined_42 rfl ?_
            refine AW.bipush dX11_joined_43 ?_
            refine AW.cI2 (d' := d - 1) (cX11_176 rfl) okX11_refusedFarOff dX11_joined_45 (by repeat (first | assumption | exact hset_eq _ _ _ | refine (hset_ne _ _ (by omega)).trans ?_)) (by omega) (C_far (by assumption) (by decide) (by decide) (by omega) (fun h45 hC hF => ?_))
            refine AW.ireturn dX11_joined_48 rfl ?_
            first
              | exact hq 1000000001 (rf S 1) _ (by unfold o_joined; rw [if_pos (by omega)]) hC hF
              | exact hq 1000000004 (rf S 4) _ (by unfold o_joined; rw [if_neg (by omega), if_pos (by omega)]) hC hF
              | exact hq 1000000006 (rf S 6) _ (by unfold o_joined; rw [if_neg (by omega), if_neg (by omega), if_pos (by omega)]) hC hF
      · refine AW.aload_n dX11_joined_22 rfl ?_
        refine AW.iconst dX11_joined_23 ?_
        refine AW.cI2 (d' := d - 1) (cX11_176 rfl) okX11_refusedFarOff dX11_joined_24 (by repeat (first | assumption | exact hset_eq _ _ _ | refine (hset_ne _ _ (by omega)).trans ?_)) (by omega) (C_far (by assumption) (by decide) (by decide) (by omega) (fun h24 hC hF => ?_))
        refine AW.ireturn dX11_joined_27 rfl ?_
        first
          | exact hq 1000000001 (rf S 1) _ (by unfold o_joined; rw [if_pos (by omega)]) hC hF
          | exact hq 1000000004 (rf S 4) _ (by unfold o_joined; rw [if_neg (by omega), if_pos (by omega)]) hC hF
          | exact hq 1000000006 (rf S 6) _ (by unfold o_joined; rw [if_neg (by omega), if_neg (by omega), if_pos (by omega)]) hC hF
end Cls14

