section Cls9
variable {d : Nat} {Q : Option AV → AH → Prop} {h h' : AH} {nw tr b : Nat} {ik sd at' tc : Int} {S S' : ST} {P : Nat → Prop} {s : SC} {x y z who k g more : Int} {nm : Nat → Int}
theorem L_beaten {f : Nat → Int} {j : Nat} (HM : CM h nw tr ik sd at' S) (h77 : h.2 77 = .inr (6, f)) (hf : ∀ j, j < s_h S.1 → f j = cnS S.1 who (s_w S.1 j)) (hj : j < s_h S.1) (hd : 1 ≤ d) (hq1 : (∃ i, i < s_h S.1 ∧ btS S.1 who i j) → Q (some (.inl 1)) h) (hq0 : (¬ ∃ i, i < s_h S.1 ∧ btS S.1 who i j) → Q (some (.inl 0)) h) :
    ∀ (r i : Nat), i + r = s_h S.1 → (∀ i', i' < i → ¬ btS S.1 who i' j) → AW d 0 0 mX11_isBeaten Q 2 [some (.inr 16), some (.inl (j : Int)), some (.inl (i : Int))] [] h := by
  have g16 := HM.2.1
  unfold CO at g16
  have gn := HM.2.2.2.2.2.1.1
  have ok := HM.2.2.2.2.2.2.2.2.2.2.2.2
  have o := ok.1.2.1
  intro r
  induction r with
  | zero =>
    intro i hi hp
    refine AW.iload_n dX11_isBeaten_2 rfl ?_
    refine AW.aload_n dX11_isBeaten_3 rfl ?_
    refine AW.getf dX11_isBeaten_4 gX11_19 (by repeat (first | assumption | exact hset_eq _ _ _ | refine (hset_ne _ _ (by omega)).trans ?_)) rfl ?_
    refine AW.getf dX11_isBeaten_7 gX11_148 (by repeat (first | assumption | exact hset_eq _ _ _ | refine (hset_ne _ _ (by omega)).trans ?_)) rfl ?_
    refine AW.if_icmpge (tgt := 30) dX11_isBeaten_10 (by decide) (fun c10 => ?_) (fun c10 => absurd c10 (by omega))
    refine AW.iconst dX11_isBeaten_30 ?_
    refine AW.zreturn dX11_isBeaten_31 rfl (Or.inl rfl) ?_
    exact hq0 (fun ⟨i', q1, q2⟩ => hp i' (by omega) q2)
  | succ r ih =>
    intro i hi hp
    refine AW.iload_n dX11_isBeaten_2 rfl ?_
    refine AW.aload_n dX11_isBeaten_3 rfl ?_
    refine AW.getf dX11_isBeaten_4 gX11_19 (by repeat (first | assumption | exact hset_eq _ _ _ | refine (hset_ne _ _ (by omega)).trans ?_)) rfl ?_
    refine AW.getf dX11_isBeaten_7 gX11_148 (by repeat (first | assumption | exact hset_eq _ _ _ | refine (hset_ne _ _ (by omega)).trans ?_)) rfl ?_
    refine AW.if_icmpge (tgt := 30) dX11_isBeaten_10 (by decide) (fun c10 => absurd c10 (by omega)) (fun c10 => ?_)
    refine AW.aload_n dX11_isBeaten_13 rfl ?_
    refine AW.iload_n dX11_isBeaten_14 rfl ?_
    refine AW.iload_n dX11_isBeaten_15 rfl ?_
    refine AW.cI3 (d' := d - 1) (cX11_163 rfl) okX11_beats dX11_isBeaten_16 (by repeat (first | assumption | exact hset_eq _ _ _ | refine (hset_ne _ _ (by omega)).trans ?_)) (by omega) (C_beats HM h77 hf (by omega) hj (fun c => ?_) (fun c => ?_))
    · refine AW.ifeq_f (tgt := 24) dX11_isBeaten_19 (by decide) (by decide) ?_
      refine AW.iconst dX11_isBeaten_22 ?_
      refine AW.zreturn dX11_isBeaten_23 rfl (Or.inr rfl) ?_
      exact hq1 ⟨i, by omega, c⟩
    · refine AW.ifeq_t (tgt := 24) dX11_isBeaten_19 (by decide) rfl ?_
      refine AW.inc2 dX11_isBeaten_24 (by decide) (by unfold RI; omega) ?_
      refine AW.goto (tgt := 2) dX11_isBeaten_27 (by decide) ?_
      refine ih (i + 1) (by omega) (fun i' hi' => ?_)
      by_cases q : i' = i
      · rw [q]; exact c
      · exact hp i' (by omega)
theorem W_isBeaten {f : Nat → Int} {j : Nat} (HM : CM h nw tr ik sd at' S) (h77 : h.2 77 = .inr (6, f)) (hf : ∀ j, j < s_h S.1 → f j = cnS S.1 who (s_w S.1 j)) (hj : j < s_h S.1) (hd : 1 ≤ d) (hq1 : (∃ i, i < s_h S.1 ∧ btS S.1 who i j) → Q (some (.inl 1)) h) (hq0 : (¬ ∃ i, i < s_h S.1 ∧ btS S.1 who i j) → Q (some (.inl 0)) h) : MW d 0 0 mX11_isBeaten [.inr 16, .inl (j : Int)] h Q := by
  show AW d 0 0 mX11_isBeaten Q 0 [some (.inr 16), some (.inl (j : Int)), none] [] h
  refine AW.iconst dX11_isBeaten_0 ?_
  refine AW.ist2 dX11_isBeaten_1 (by decide) ?_
  exact L_beaten HM h77 hf hj hd hq1 hq0 (s_h S.1) 0 (by omega) (fun i hi => by omega)
theorem or6 : ∀ j : Nat, j < 6 → ∀ v : Nat, v < 2 ^ j → a_or (v : Int) (a_shl 1 (j : Int)) = (v : Int) + ((2 ^ j : Nat) : Int) := by decide +kernel
theorem L_cmast {f : Nat → Int} (HM : CM h nw tr ik sd at' S) (h77 : h.2 77 = .inr (6, f)) (hf : ∀ j, j < s_h S.1 → f j = cnS S.1 who (s_w S.1 j)) (hd : 2 ≤ d)
    (hq : Q (some (.inl (sumN (s_h S.1) (mwF S.1 who)))) h) :
    ∀ (r j : Nat), j + r = s_h S.1 → AW d 0 0 mX11_masters Q 23 [some (.inr 16), some (.inl who), some (.inl (sumN j (mwF S.1 who))), some (.inl (j : Int))] [] h := by
  have g16 := HM.2.1
  unfold CO at g16
  have gn := HM.2.2.2.2.2.1.1
  have ok := HM.2.2.2.2.2.2.2.2.2.2.2.2
  have o := ok.1.2.1
  intro r
  induction r with
  | zero =>
    intro j hj
    rw [show j = s_h S.1 by omega]
    refine AW.iload_n dX11_masters_23 rfl ?_
    refine AW.aload_n dX11_masters_24 rfl ?_
    refine AW.getf dX11_masters_25 gX11_19 (by repeat (first | assumption | exact hset_eq _ _ _ | refine (hset_ne _ _ (by omega)).trans ?_)) rfl ?_
    refine AW.getf dX11_masters_28 gX11_148 (by repeat (first | assumption | exact hset_eq _ _ _ | refine (hset_ne _ _ (by omega)).trans ?_)) rfl ?_
    refine AW.if_icmpge (tgt := 54) dX11_masters_31 (by decide) (fun c31 => ?_) (fun c31 => absurd c31 (by omega))
    refine AW.iload_n dX11_masters_54 rfl ?_
    refine AW.ireturn dX11_masters_55 rfl ?_
    exact hq
  | succ r ih =>
    intro j hj
    have nx := ih (j + 1) (by omega)
    rw [sumN_succ] at nx
    have hb := sumN_mw S.1 who j
    have hor := or6 j (by omega) (sumN j (mwF S.1 who)).toNat (by have := hb.2; have := hb.1; omega)
    rw [Int.toNat_of_nonneg hb.1] at hor
    refine AW.iload_n dX11_masters_23 rfl ?_
    refine AW.aload_n dX11_masters_24 rfl ?_
    refine AW.getf dX11_masters_25 gX11_19 (by repeat (first | assumption | exact hset_eq _ _ _ | refine (hset_ne _ _ (by omega)).trans ?_)) rfl ?_
    refine AW.getf dX11_masters_28 gX11_148 (by repeat (first | assumption | exact hset_eq _ _ _ | refine (hset_ne _ _ (by omega)).trans ?_)) rfl ?_
    refine AW.if_icmpge (tgt := 54) dX11_masters_31 (by decide) (fun c31 => absurd c31 (by omega)) (fun c31 => ?_)
    refine AW.aload_n dX11_masters_34 rfl ?_
    refine AW.iload_n dX11_masters_35 rfl ?_
    refine AW.cI2 (d' := d - 1) (cX11_166 rfl) okX11_isBeaten dX11_masters_36 (by repeat (first | assumption | exact hset_eq _ _ _ | refine (hset_ne _ _ (by omega)).trans ?_)) (by omega) (W_isBeaten HM h77 hf (by omega) (by omega) (fun c => ?_) (fun c => ?_))
    · refine AW.ifne_t (tgt := 48) dX11_masters_39 (by decide) (by decide) ?_
      refine AW.inc3 dX11_masters_48 (by decide) (by unfold RI; omega) ?_
      refine AW.goto (tgt := 23) dX11_masters_51 (by decide) ?_
      have emw : mwF S.1 who j = iv (¬ ∃ i, i < s_h S.1 ∧ btS S.1 who i j) ((2 ^ j : Nat) : Int) := rfl
      rw [emw] at nx
      first
        | (rw [iv_neg (not_not_intro c), Int.add_zero] at nx; exact nx)
        | (rw [iv_pos c, ← hor] at nx; exact nx)
    · refine AW.ifne_f (tgt := 48) dX11_masters_39 (by decide) rfl ?_
      refine AW.iload_n dX11_masters_42 rfl ?_
      refine AW.iconst dX11_masters_43 ?_
      refine AW.iload_n dX11_masters_44 rfl ?_
      refine AW.ishl dX11_masters_45 ?_
      refine AW.ior dX11_masters_46 ?_
      refine AW.ist2 dX11_masters_47 (by decide) ?_
      refine AW.inc3 dX11_masters_48 (by decide) (by unfold RI; omega) ?_
      refine AW.goto (tgt := 23) dX11_masters_51 (by decide) ?_
      have emw : mwF S.1 who j = iv (¬ ∃ i, i < s_h S.1 ∧ btS S.1 who i j) ((2 ^ j : Nat) : Int) := rfl
      rw [emw] at nx
      first
        | (rw [iv_neg (not_not_intro c), Int.add_zero] at nx; exact nx)
        | (rw [iv_pos c, ← hor] at nx; exact nx)
theorem C_masters (H : CS h S) (hd : 7 ≤ d) (hq : ∀ r S' h', (r, S') = o_masters S who → CS h' S' → Fr h h' PC → Q (some (.inl r)) h') : MW d 0 0 mX11_masters [.inr 16, .inl who] h Q := by
  obtain ⟨nw, tr, ik, sd, at', HM, HL, HS⟩ := id H
  obtain ⟨k1, g16, h9, k2, k3, k4, k5, k6, k7, k8, k10, k11, ok⟩ := id HM
  have gn := k4.1
  have g16' := g16
  unfold CO at g16'
  show AW d 0 0 mX11_masters Q 0 [some (.inr 16), some (.inl who), none, none] [] h
  refine AW.aload_n dX11_masters_0 rfl ?_
  refine AW.iload_n dX11_masters_1 rfl ?_
  refine AW.cI2 (d' := d - 1) (cX11_151 rfl) okX11_noListener dX11_masters_2 (by repeat (first | assumption | exact hset_eq _ _ _ | refine (hset_ne _ _ (by omega)).trans ?_)) (by omega) (C_noLis (by assumption) (by assumption) (by omega) (by omega) (fun c2 => ?_) (fun c2 c2b => ?_))
  · refine AW.ifeq_f (tgt := 14) dX11_masters_5 (by decide) (by decide) ?_
    refine AW.aload_n dX11_masters_8 rfl ?_
    refine AW.iconst dX11_masters_9 ?_
    refine AW.cI2 (d' := d - 1) (cX11_84 rfl) okX11_refused dX11_masters_10 (by repeat (first | assumption | exact hset_eq _ _ _ | refine (hset_ne _ _ (by omega)).trans ?_)) (by omega) (C_refused (by assumption) (by decide) (by decide) (fun h10 hC hF => ?_))
    refine AW.ireturn dX11_masters_13 rfl ?_
    exact hq (-1) (rf S 1) _ (by unfold o_masters; rw [if_pos (by omega)]) hC hF
  · refine AW.ifeq_t (tgt := 14) dX11_masters_5 (by decide) rfl ?_
    refine AW.aload_n dX11_masters_14 rfl ?_
    refine AW.iload_n dX11_masters_15 rfl ?_
    refine AW.cI2 (d' := d - 1) (cX11_160 rfl) okX11_concludeAllAs dX11_masters_16 (by repeat (first | assumption | exact hset_eq _ _ _ | refine (hset_ne _ _ (by omega)).trans ?_)) (by omega) (C_all HM HL HS (by omega) (by omega) (by omega) (fun h3 f3 L3 e77 hf F3 => ?_))
    refine AW.iconst dX11_masters_19 ?_
    refine AW.ist2 dX11_masters_20 (by decide) ?_
    refine AW.iconst dX11_masters_21 ?_
    refine AW.ist3 dX11_masters_22 (by decide) ?_
    refine L_cmast (HM.fr F3 (fun a => P77_PS)) e77 hf (by omega) ?_ (s_h S.1) 0 (by omega)
    exact hq _ S h3 (by unfold o_masters; rw [if_neg (by omega)]) ⟨nw, tr, ik, sd, at', HM.fr F3 (fun a => P77_PS), L3, HS.fr77 F3 h9 e77⟩ (F3.mono (fun a => P77_PC))
theorem L_cparts {u : Int} (hq : ∀ r, r = ptF u 8 → Q (some (.inl r)) h) {a0 a1 a2 a3 : Option AV} : ∀ n w : Nat, w + n = 8 → ptF u 8 = ptF u n → AW d 0 0 mX11_parts Q 56 [a0, a1, a2, a3, some (.inl u), some (.inl (w : Int))] [] h := by
  intro n
  induction n with
  | zero =>
    intro w hw e
    refine AW.iload dX11_parts_56 rfl ?_
    refine AW.bipush dX11_parts_58 ?_
    refine AW.if_icmpge (tgt := 83) dX11_parts_60 (by decide) (fun c60 => ?_) (fun c60 => absurd c60 (by omega))
    refine AW.bipush dX11_parts_83 ?_
    refine AW.ireturn dX11_parts_85 rfl ?_
    exact hq _ (by rw [e]; rfl)
  | succ n ih =>
    intro w hw e
    have ew : (7 - (n : Int)) = (w : Int) := by omega
    have e2 : ptF u (n + 1) = if a_and (a_shr u (w : Int)) 1 = 1 then (w : Int) else ptF u n := by rw [← ew]; rfl
    rw [e2] at e
    refine AW.iload dX11_parts_56 rfl ?_
    refine AW.bipush dX11_parts_58 ?_
    refine AW.if_icmpge (tgt := 83) dX11_parts_60 (by decide) (fun c60 => absurd c60 (by omega)) (fun c60 => ?_)
    refine AW.iload dX11_parts_63 rfl ?_
    refine AW.iload dX11_parts_65 rfl ?_
    refine AW.ishr dX11_parts_67 ?_
    refine AW.iconst dX11_parts_68 ?_
    refine AW.iand dX11_parts_69 ?_
    refine AW.iconst dX11_parts_70 ?_
    refine AW.if_icmpne (tgt := 77) dX11_parts_71 (by decide) (fun c71 => ?_) (fun c71 => ?_)
    · refine AW.inc5 dX11_parts_77 (by decide) (by unfold RI; omega) ?_
      refine AW.goto (tgt := 56) dX11_parts_80 (by decide) ?_
      exact ih (w + 1) (by omega) (by rw [e, if_neg c71])
    · refine AW.iload dX11_parts_74 rfl ?_
      refine AW.ireturn dX11_parts_76 rfl ?_
      exact hq _ (by rw [e, if_pos c71])
theorem C_parts (H : CS h S) (hd : 6 ≤ d) (hq : ∀ r S' h', (r, S') = o_parts S who x y → CS h' S' → Fr h h' PC → Q (some (.inl r)) h') : MW d 0 0 mX11_parts [.inr 16, .inl who, .inl x, .inl y] h Q := by
  obtain ⟨nw, tr, ik, sd, at', HM, HL, HS⟩ := id H
  obtain ⟨k1, g16, h9, k2, k3, k4, k5, k6, k7, k8, k10, k11, ok⟩ := id HM
  have gn := k4.1
  have g16' := g16
  unfold CO at g16'
  show AW d 0 0 mX11_parts Q 0 [some (.inr 16), some (.inl who), some (.inl x), some (.inl y), none, none] [] h
  refine AW.aload_n dX11_parts_0 rfl ?_
  refine AW.iload_n dX11_parts_1 rfl ?_
  refine AW.cI2 (d' := d - 1) (cX11_151 rfl) okX11_noListener dX11_parts_2 (by repeat (first | assumption | exact hset_eq _ _ _ | refine (hset_ne _ _ (by omega)).trans ?_)) (by omega) (C_noLis (by assumption) (by assumption) (by omega) (by omega) (fun c2 => ?_) (fun c2 c2b => ?_))
  · refine AW.ifne_t (tgt := 29) dX11_parts_5 (by decide) (by decide) ?_
    refine AW.aload_n dX11_parts_29 rfl ?_
    refine AW.iconst dX11_parts_30 ?_
    refine AW.cI2 (d' := d - 1) (cX11_84 rfl) okX11_refused dX11_parts_31 (by repeat (first | assumption | exact hset_eq _ _ _ | refine (hset_ne _ _ (by omega)).trans ?_)) (by omega) (C_refused (by assumption) (by decide) (by decide) (fun h31 hC hF => ?_))
    refine AW.ireturn dX11_parts_34 rfl ?_
    exact hq (-1) (rf S 1) _ (by unfold o_parts; rw [if_pos (by omega)]) hC hF
  · refine AW.ifne_f (tgt := 29) dX11_parts_5 (by decide) rfl ?_
    refine AW.aload_n dX11_parts_8 rfl ?_
    refine AW.iload_n dX11_parts_9 rfl ?_
    refine AW.cI2 (d' := d - 1) (cX11_135 rfl) okX11_noScholar dX11_parts_10 (by repeat (first | assumption | exact hset_eq _ _ _ | refine (hset_ne _ _ (by omega)).trans ?_)) (by omega) (C_noSch (by assumption) (by assumption) (fun c10 => ?_) (fun c10 c10b => ?_))
    · refine AW.ifne_t (tgt := 29) dX11_parts_13 (by decide) (by decide) ?_
      refine AW.aload_n dX11_parts_29 rfl ?_
      refine AW.iconst dX11_parts_30 ?_
      refine AW.cI2 (d' := d - 1) (cX11_84 rfl) okX11_refused dX11_parts_31 (by repeat (first | assumption | exact hset_eq _ _ _ | refine (hset_ne _ _ (by omega)).trans ?_)) (by omega) (C_refused (by assumption) (by decide) (by decide) (fun h31 hC hF => ?_))
      refine AW.ireturn dX11_parts_34 rfl ?_
      exact hq (-1) (rf S 1) _ (by unfold o_parts; rw [if_pos (by omega)]) hC hF
    · refine AW.ifne_f (tgt := 29) dX11_parts_13 (by decide) rfl ?_
      refine AW.aload_n dX11_parts_16 rfl ?_
      refine AW.iload_n dX11_parts_17 rfl ?_
      refine AW.cI2 (d' := d - 1) (cX11_135 rfl) okX11_noScholar dX11_parts_18 (by repeat (first | assumption | exact hset_eq _ _ _ | refine (hset_ne _ _ (by omega)).trans ?_)) (by omega) (C_noSch (by assumption) (by assumption) (fun c18 => ?_) (fun c18 c18b => ?_))
      · refine AW.ifne_t (tgt := 29) dX11_parts_21 (by decide) (by decide) ?_
        refine AW.aload_n dX11_parts_29 rfl ?_
        refine AW.iconst dX11_parts_30 ?_
        refine AW.cI2 (d' := d - 1) (cX11_84 rfl) okX11_refused dX11_parts_31 (by repeat (first | assumption | exact hset_eq _ _ _ | refine (hset_ne _ _ (by omega)).trans ?_)) (by omega) (C_refused (by assumption) (by decide) (by decide) (fun h31 hC hF => ?_))
        refine AW.ireturn dX11_parts_34 rfl ?_
        exact hq (-1) (rf S 1) _ (by unfold o_parts; rw [if_pos (by omega)]) hC hF
      · refine AW.ifne_f (tgt := 29) dX11_parts_21 (by decide) rfl ?_
        refine AW.iload_n dX11_parts_24 rfl ?_
        refine AW.iload_n dX11_parts_25 rfl ?_
        refine AW.if_icmpne (tgt := 35) dX11_parts_26 (by decide) (fun c26 => ?_) (fun c26 => ?_)
        · refine AW.aload_n dX11_parts_35 rfl ?_
          refine AW.iload_n dX11_parts_36 rfl ?_
          refine AW.cI2 (d' := d - 1) (cX11_154 rfl) okX11_listenAs dX11_parts_37 (by repeat (first | assumption | exact hset_eq _ _ _ | refine (hset_ne _ _ (by omega)).trans ?_)) (by omega) (C_listenAs HM HL (by omega) (by omega) (by omega) (fun h2 L2 F2 => ?_))
          have HM2 := HM.fr F2 (fun a ha => PL_PS ha)
          have g2 := HM2.2.1
          unfold CO at g2
          refine AW.aload_n dX11_parts_40 rfl ?_
          refine AW.iload_n dX11_parts_41 rfl ?_
          refine AW.cI2 (d' := d - 1) (cX11_157 rfl) okX11_meaningOf dX11_parts_42 (by repeat (first | assumption | exact hset_eq _ _ _ | refine (hset_ne _ _ (by omega)).trans ?_)) (by omega) (C_meaning HM2 L2 (nmOK_S ok.1) (by omega) (by omega) (by omega) (fun h3 L3 F3 => ?_))
          have HM3 := HM2.fr F3 (fun a ha => PL_PS (P76_PL ha))
          have g3 := HM3.2.1
          unfold CO at g3
          refine AW.aload_n dX11_parts_45 rfl ?_
          refine AW.iload_n dX11_parts_46 rfl ?_
          refine AW.cI2 (d' := d - 1) (cX11_157 rfl) okX11_meaningOf dX11_parts_47 (by repeat (first | assumption | exact hset_eq _ _ _ | refine (hset_ne _ _ (by omega)).trans ?_)) (by omega) (C_meaning HM3 L3 (nmOK_S ok.1) (by omega) (by omega) (by omega) (fun h4 L4 F4 => ?_))
          refine AW.ixor dX11_parts_50 ?_
          refine AW.ist4 dX11_parts_51 (by decide) ?_
          refine AW.iconst dX11_parts_53 ?_
          refine AW.ist5 dX11_parts_54 (by decide) ?_
          have F := (F2.trans (F3.mono (fun a => P76_PL))).trans (F4.mono (fun a => P76_PL))
          refine L_cparts (fun r hr => ?_) 8 0 rfl rfl
          exact hq r S h4 (by unfold o_parts; rw [if_neg (by omega), hr]; rfl) (CS.lis HM HS L4.r F) (F.mono (fun a => PL_PC))
        · refine AW.aload_n dX11_parts_29 rfl ?_
          refine AW.iconst dX11_parts_30 ?_
          refine AW.cI2 (d' := d - 1) (cX11_84 rfl) okX11_refused dX11_parts_31 (by repeat (first | assumption | exact hset_eq _ _ _ | refine (hset_ne _ _ (by omega)).trans ?_)) (by omega) (C_refused (by assumption) (by decide) (by decide) (fun h31 hC hF => ?_))
          refine AW.ireturn dX11_parts_34 rfl ?_
          exact hq (-1) (rf S 1) _ (by unfold o_parts; rw [if_pos (by omega)]) hC hF
end Cls9

