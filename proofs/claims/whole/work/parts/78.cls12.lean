section Cls12
variable {d : Nat} {Q : Option AV → AH → Prop} {h h' : AH} {nw tr b : Nat} {ik sd at' tc : Int} {S S' : ST} {P : Nat → Prop} {s : SC} {x y z who k g more : Int} {nm : Nat → Int}
theorem C_judge (H : CS h S) (hd : 7 ≤ d) (hq : ∀ r S' h', (r, S') = o_judge S who → CS h' S' → Fr h h' PC → Q (some (.inl r)) h') : MW d 0 0 mX11_judge [.inr 16, .inl who] h Q := by
  obtain ⟨nw, tr, ik, sd, at', HM, HL, HS⟩ := id H
  obtain ⟨k1, g16, h9, k2, k3, k4, k5, k6, k7, k8, k10, k11, ok⟩ := id HM
  have gn := k4.1
  have g16' := g16
  unfold CO at g16'
  have h6 := ok.2.2.2.2.1
  have o := ok.1.2.1
  show AW d 0 0 mX11_judge Q 0 [some (.inr 16), some (.inl who), none, none, none] [] h
  refine AW.aload_n dX11_judge_0 rfl ?_
  refine AW.iload_n dX11_judge_1 rfl ?_
  refine AW.cI2 (d' := d - 1) (cX11_151 rfl) okX11_noListener dX11_judge_2 (by repeat (first | assumption | exact hset_eq _ _ _ | refine (hset_ne _ _ (by omega)).trans ?_)) (by omega) (C_noLis (by assumption) (by assumption) (by omega) (by omega) (fun c2 => ?_) (fun c2 c2b => ?_))
  · refine AW.ifeq_f (tgt := 14) dX11_judge_5 (by decide) (by decide) ?_
    refine AW.aload_n dX11_judge_8 rfl ?_
    refine AW.iconst dX11_judge_9 ?_
    refine AW.cI2 (d' := d - 1) (cX11_84 rfl) okX11_refused dX11_judge_10 (by repeat (first | assumption | exact hset_eq _ _ _ | refine (hset_ne _ _ (by omega)).trans ?_)) (by omega) (C_refused (by assumption) (by decide) (by decide) (fun h10 hC hF => ?_))
    refine AW.ireturn dX11_judge_13 rfl ?_
    exact hq (-1) (rf S 1) _ (by unfold o_judge; rw [if_pos (by omega)]) hC hF
  · refine AW.ifeq_t (tgt := 14) dX11_judge_5 (by decide) rfl ?_
    refine AW.aload_n dX11_judge_14 rfl ?_
    refine AW.iload_n dX11_judge_15 rfl ?_
    refine AW.cI2 (d' := d - 1) (cX11_154 rfl) okX11_listenAs dX11_judge_16 (by repeat (first | assumption | exact hset_eq _ _ _ | refine (hset_ne _ _ (by omega)).trans ?_)) (by omega) (C_listenAs HM HL (by omega) (by omega) (by omega) (fun h2 L2 F2 => ?_))
    have HM2 := HM.fr F2 (fun a => PL_PS)
    obtain ⟨-, q16, q9, -, q3, q4, -, -, ⟨f7, q7, q7b⟩, ⟨f8, q8, q8b⟩, -, -, -⟩ := id HM2
    have q16' := q16
    unfold CO at q16'
    have qn := q4.1
    obtain ⟨h3, e3⟩ : ∃ h3, h3 = hset h2 16 (.inl (12, [.inr 17, .inr nw, .inr tr, .inr 53, .inl ik, .inr 70, .inl 0, .inr 71, .inr 72, .inr 73, .inr 77, .inr 78, .inr 79, .inr 84, .inl sd])) := ⟨_, rfl⟩
    have F3 : Fr h2 h3 (fun a => a = 16) := by rw [e3]; exact Fr.set rfl
    have HM3 : CM h3 nw tr ik sd at' (S.1, S.2.1, S.2.2.1, [], S.2.2.2.2) := HM2.st (S' := (S.1, S.2.1, S.2.2.1, [], S.2.2.2.2)) F3 (fun a ha => by omega) rfl rfl (by rw [e3]; exact hset_eq _ _ _) (q3.fr F3 q9 ⟨by decide, by decide⟩) ⟨f7, (F3.2 70 (by omega) (by decide)).trans q7, fun i x hi => by simp at hi⟩ ⟨f8, (F3.2 71 (by omega) (by decide)).trans q8, q8b⟩ ⟨ok.1, ok.2.1, ok.2.2.1, ok.2.2.2.1, Nat.zero_le _, fun y hy => by cases hy⟩
    have L3 := L2.fr F3 q9 (fun a ha => by omega)
    have HS3 : SCR h3 := (HS.fr F2 h9 (fun a ha => by unfold PL; omega)).fr F3 q9 (fun a ha => by omega)
    have fin : ∀ b : Nat, b = min S.2.2.2.1.length (s_h S.1) → AW d 0 0 mX11_judge Q 44 [some (.inr 16), some (.inl who), some (.inl (S.2.2.2.1.length : Int)), some (.inl (b : Int)), some (.inl 0)] [] h3 := by
      intro b hb
      refine L_cjudge (S := (S.1, S.2.1, S.2.2.1, [], S.2.2.2.2)) (row := S.2.2.2.1) (f := f7) HM3 (by omega) (by show b ≤ s_h S.1; omega) (by omega) ((F3.2 70 (by omega) (by decide)).trans q7) (by omega) q7b rfl (fun h4 L4 F4 => ?_) (by omega) (by show who < s_n S.1; omega) b 0 h3 (by omega) L3 Fr.rfl' rfl
      refine hq _ (S.1, S.2.1, S.2.2.1, [], S.2.2.2.2) h4 ?_ (CS.lis HM3 HS3 L4 F4) (((F2.mono (fun a => PL_PC)).trans (F3.mono (fun a ha => by unfold PC; omega))).trans (F4.mono (fun a => PL_PC)))
      have eo : o_judge S who = (jdF S.1 who S.2.2.2.1 (if (S.2.2.2.1.length : Int) = (s_h S.1 : Int) then -9 else (b : Int)) 0 b, (S.1, S.2.1, S.2.2.1, [], S.2.2.2.2)) := by
        unfold o_judge
        rw [if_neg (by omega), ← hb]
        by_cases e : S.2.2.2.1.length = s_h S.1
        · rw [if_pos e, if_pos (by omega)]
        · rw [if_neg e, if_neg (by omega)]
      rw [eo]
    refine AW.aload_n dX11_judge_19 rfl ?_
    refine AW.getf dX11_judge_20 gX11_37 (by repeat (first | assumption | exact hset_eq _ _ _ | refine (hset_ne _ _ (by omega)).trans ?_)) rfl ?_
    refine AW.ist2 dX11_judge_23 (by decide) ?_
    refine AW.aload_n dX11_judge_24 rfl ?_
    refine AW.iconst dX11_judge_25 ?_
    refine AW.putf dX11_judge_26 pX11_37 (by repeat (first | assumption | exact hset_eq _ _ _ | refine (hset_ne _ _ (by omega)).trans ?_)) trivial ?_
    show AW _ _ _ _ _ _ _ _ (hset h2 16 (.inl (12, [.inr 17, .inr nw, .inr tr, .inr 53, .inl ik, .inr 70, .inl 0, .inr 71, .inr 72, .inr 73, .inr 77, .inr 78, .inr 79, .inr 84, .inl sd])))
    rw [← e3]
    have r16 := HM3.2.1
    unfold CO at r16
    have rn := HM3.2.2.2.2.2.1.1
    refine AW.iload_n dX11_judge_29 rfl ?_
    refine AW.aload_n dX11_judge_30 rfl ?_
    refine AW.getf dX11_judge_31 gX11_19 (by repeat (first | assumption | exact hset_eq _ _ _ | refine (hset_ne _ _ (by omega)).trans ?_)) rfl ?_
    refine AW.getf dX11_judge_34 gX11_148 (by repeat (first | assumption | exact hset_eq _ _ _ | refine (hset_ne _ _ (by omega)).trans ?_)) rfl ?_
    refine AW.mmin dX11_judge_37 oX11_199 (by omega) (Nat.le_of_ble_eq_true rfl) ?_
    refine AW.ist3 dX11_judge_40 (by decide) ?_
    refine AW.iconst dX11_judge_41 ?_
    refine AW.ist4 dX11_judge_42 (by decide) ?_
    have em : (if (s_h S.1 : Int) < (S.2.2.2.1.length : Int) then (s_h S.1 : Int) else (S.2.2.2.1.length : Int)) = ((min S.2.2.2.1.length (s_h S.1) : Nat) : Int) := by split <;> omega
    have := fin _ rfl
    rw [← em] at this
    exact this
theorem L_ccoined {f : Nat → Int} {n m : Int} (gn : h.2 b = .inl (9, [.inr (b + 1), .inr (b + 2), .inl n, .inr (b + 3), .inl m, .inr (b + 4)])) (g4 : h.2 (b + 4) = .inr (4, f)) (hf : ∀ i, i < 4 → f i = s_c s i) (ok : scOK s)
    (hq : Q (some (.inl (sumN 4 (fun i => if 0 ≤ s_c s i then 1 else 0)))) h) :
    ∀ (r i : Nat), i + r = 4 → 0 ≤ sumN i (fun i => if 0 ≤ s_c s i then 1 else 0) → sumN i (fun i => if 0 ≤ s_c s i then 1 else 0) ≤ i → AW d 0 0 mX8_coinedCount Q 4 [some (.inr b), some (.inl (sumN i (fun i => if 0 ≤ s_c s i then 1 else 0))), some (.inl (i : Int))] [] h := by
  intro r
  induction r with
  | zero =>
    intro i hi h1 h2
    rw [show i = 4 by omega]
    refine AW.iload_n dX8_coinedCount_4 rfl ?_
    refine AW.iconst dX8_coinedCount_5 ?_
    refine AW.if_icmpge (tgt := 34) dX8_coinedCount_6 (by decide) (fun c6 => ?_) (fun c6 => absurd c6 (by decide))
    refine AW.iload_n dX8_coinedCount_34 rfl ?_
    refine AW.ireturn dX8_coinedCount_35 rfl ?_
    exact hq
  | succ r ih =>
    intro i hi h1 h2
    have nx := ih (i + 1) (by omega)
    rw [sumN_succ] at nx
    have ei : f ((i : Int)).toNat = s_c s i := by rw [show ((i : Int)).toNat = i by omega]; exact hf i (by omega)
    have o := ok.2.2.2.1 i (by omega)
    refine AW.iload_n dX8_coinedCount_4 rfl ?_
    refine AW.iconst dX8_coinedCount_5 ?_
    refine AW.if_icmpge (tgt := 34) dX8_coinedCount_6 (by decide) (fun c6 => absurd c6 (by omega)) (fun c6 => ?_)
    refine AW.iload_n dX8_coinedCount_9 rfl ?_
    refine AW.aload_n dX8_coinedCount_10 rfl ?_
    refine AW.getf dX8_coinedCount_11 gX8_34 (by repeat (first | assumption | exact hset_eq _ _ _ | refine (hset_ne _ _ (by omega)).trans ?_)) rfl ?_
    refine AW.iload_n dX8_coinedCount_14 rfl ?_
    refine AW.iaload dX8_coinedCount_15 (by repeat (first | assumption | exact hset_eq _ _ _ | refine (hset_ne _ _ (by omega)).trans ?_)) (by omega) (by omega) ?_
    refine AW.bipush dX8_coinedCount_16 ?_
    refine AW.if_icmpne (tgt := 25) dX8_coinedCount_18 (by decide) (fun c18 => ?_) (fun c18 => ?_)
    · refine AW.iconst dX8_coinedCount_25 ?_
      refine AW.iaddR dX8_coinedCount_26 (by unfold RI; omega) ?_
      refine AW.ist1 dX8_coinedCount_27 (by decide) ?_
      refine AW.inc2 dX8_coinedCount_28 (by decide) (by unfold RI; omega) ?_
      refine AW.goto (tgt := 4) dX8_coinedCount_31 (by decide) ?_
      rw [ei] at *
      first
        | (rw [if_pos (by omega)] at nx; exact nx (by omega) (by omega))
        | (rw [if_neg (by omega)] at nx; exact nx (by omega) (by omega))
    · refine AW.iconst dX8_coinedCount_21 ?_
      refine AW.goto (tgt := 26) dX8_coinedCount_22 (by decide) ?_
      refine AW.iaddR dX8_coinedCount_26 (by unfold RI; omega) ?_
      refine AW.ist1 dX8_coinedCount_27 (by decide) ?_
      refine AW.inc2 dX8_coinedCount_28 (by decide) (by unfold RI; omega) ?_
      refine AW.goto (tgt := 4) dX8_coinedCount_31 (by decide) ?_
      rw [ei] at *
      first
        | (rw [if_pos (by omega)] at nx; exact nx (by omega) (by omega))
        | (rw [if_neg (by omega)] at nx; exact nx (by omega) (by omega))
theorem L_clen (H : SchA h b s) (ok : scOK s) (hq : Q (some (.inl (sumN (s_h s) (fun i => ((s_w s i).length : Int))))) h) :
    ∀ (r i : Nat), i + r = s_h s → 0 ≤ sumN i (fun i => ((s_w s i).length : Int)) → sumN i (fun i => ((s_w s i).length : Int)) ≤ 20 * i → AW d 0 0 mX8_lengths Q 4 [some (.inr b), some (.inl (sumN i (fun i => ((s_w s i).length : Int)))), some (.inl (i : Int))] [] h := by
  obtain ⟨gn, -, -, q7, -, q10, q11⟩ := id H
  have o := ok.2.1
  intro r
  induction r with
  | zero =>
    intro i hi h1 h2
    rw [show i = s_h s by omega]
    refine AW.iload_n dX8_lengths_4 rfl ?_
    refine AW.aload_n dX8_lengths_5 rfl ?_
    refine AW.getf dX8_lengths_6 gX8_31 (by repeat (first | assumption | exact hset_eq _ _ _ | refine (hset_ne _ _ (by omega)).trans ?_)) rfl ?_
    refine AW.if_icmpge (tgt := 30) dX8_lengths_9 (by decide) (fun c9 => ?_) (fun c9 => absurd c9 (by omega))
    refine AW.iload_n dX8_lengths_30 rfl ?_
    refine AW.ireturn dX8_lengths_31 rfl ?_
    exact hq
  | succ r ih =>
    intro i hi h1 h2
    have nx := ih (i + 1) (by omega)
    rw [sumN_succ] at nx
    obtain ⟨fi, s1, s2, s3, -⟩ := q11 i (by omega)
    have e1 : ([.inr (b + 5), .inr (b + 7), .inr (b + 9), .inr (b + 11), .inr (b + 13), .inr (b + 15)] : List AV)[((i : Int)).toNat]? = some (.inr (b + 5 + 2 * i)) := by rw [show ((i : Int)).toNat = i by omega]; exact sayAt (l := []) b (by omega)
    refine AW.iload_n dX8_lengths_4 rfl ?_
    refine AW.aload_n dX8_lengths_5 rfl ?_
    refine AW.getf dX8_lengths_6 gX8_31 (by repeat (first | assumption | exact hset_eq _ _ _ | refine (hset_ne _ _ (by omega)).trans ?_)) rfl ?_
    refine AW.if_icmpge (tgt := 30) dX8_lengths_9 (by decide) (fun c9 => absurd c9 (by omega)) (fun c9 => ?_)
    refine AW.iload_n dX8_lengths_12 rfl ?_
    refine AW.aload_n dX8_lengths_13 rfl ?_
    refine AW.getf dX8_lengths_14 gX8_27 (by repeat (first | assumption | exact hset_eq _ _ _ | refine (hset_ne _ _ (by omega)).trans ?_)) rfl ?_
    refine AW.iload_n dX8_lengths_17 rfl ?_
    refine AW.aaload dX8_lengths_18 (by repeat (first | assumption | exact hset_eq _ _ _ | refine (hset_ne _ _ (by omega)).trans ?_)) (by decide) (by omega) e1 ?_
    refine AW.getf dX8_lengths_19 gX8_56 (by repeat (first | assumption | exact hset_eq _ _ _ | refine (hset_ne _ _ (by omega)).trans ?_)) rfl ?_
    refine AW.iaddR dX8_lengths_22 (by unfold RI; omega) ?_
    refine AW.ist1 dX8_lengths_23 (by decide) ?_
    refine AW.inc2 dX8_lengths_24 (by decide) (by unfold RI; omega) ?_
    refine AW.goto (tgt := 4) dX8_lengths_27 (by decide) ?_
    exact nx (by omega) (by omega)
theorem W_ccoined {f : Nat → Int} {n m : Int} (gn : h.2 b = .inl (9, [.inr (b + 1), .inr (b + 2), .inl n, .inr (b + 3), .inl m, .inr (b + 4)])) (h16 : 16 ≤ b) (g4 : h.2 (b + 4) = .inr (4, f)) (hf : ∀ i, i < 4 → f i = s_c s i) (ok : scOK s) (hq : Q (some (.inl (sumN 4 (fun i => if 0 ≤ s_c s i then 1 else 0)))) h) : MW d 0 0 mX8_coinedCount [.inr b] h Q := by
  show AW d 0 0 mX8_coinedCount Q 0 [some (.inr b), none, none] [] h
  refine AW.iconst dX8_coinedCount_0 ?_
  refine AW.ist1 dX8_coinedCount_1 (by decide) ?_
  refine AW.iconst dX8_coinedCount_2 ?_
  refine AW.ist2 dX8_coinedCount_3 (by decide) ?_
  exact L_ccoined gn g4 hf ok hq 4 0 (by omega) (Int.le_refl _) (Int.le_refl _)
theorem W_clen (H : SchA h b s) (ok : scOK s) (hq : Q (some (.inl (sumN (s_h s) (fun i => ((s_w s i).length : Int))))) h) : MW d 0 0 mX8_lengths [.inr b] h Q := by
  show AW d 0 0 mX8_lengths Q 0 [some (.inr b), none, none] [] h
  refine AW.iconst dX8_lengths_0 ?_
  refine AW.ist1 dX8_lengths_1 (by decide) ?_
  refine AW.iconst dX8_lengths_2 ?_
  refine AW.ist2 dX8_lengths_3 (by decide) ?_
  exact L_clen H ok hq (s_h s) 0 (by omega) (Int.le_refl _) (Int.le_refl _)
theorem W_letSize {L : List Int} (H : LetA h L at') (hq : Q (some (.inl (L.length : Int))) h) : MW d 0 0 mX5_size [.inr 17] h Q := by
  obtain ⟨g17, -⟩ := H
  show AW d 0 0 mX5_size Q 0 [some (.inr 17)] [] h
  refine AW.aload_n dX5_size_0 rfl ?_
  refine AW.getf dX5_size_1 gX5_15 (by repeat (first | assumption | exact hset_eq _ _ _ | refine (hset_ne _ _ (by omega)).trans ?_)) rfl ?_
  refine AW.ireturn dX5_size_4 rfl ?_
  exact hq
theorem W_refCount {f : Nat → Int} (g16 : CO h nw tr ik tc sd) (g71 : h.2 71 = .inr (7, f)) (hq : Q (some (.inl (if 11 ≤ x ∧ x ≤ 16 then f (x - 10).toNat else -9))) h) : MW d 0 0 mX11_refusalsCounted [.inr 16, .inl x] h Q := by
  unfold CO at g16
  show AW d 0 0 mX11_refusalsCounted Q 0 [some (.inr 16), some (.inl x)] [] h
  refine AW.iload_n dX11_refusalsCounted_0 rfl ?_
  refine AW.bipush dX11_refusalsCounted_1 ?_
  refine AW.if_icmplt (tgt := 12) dX11_refusalsCounted_3 (by decide) (fun c3 => ?_) (fun c3 => ?_)
  · refine AW.bipush dX11_refusalsCounted_12 ?_
    refine AW.ireturn dX11_refusalsCounted_14 rfl ?_
    first
      | (rw [if_neg (by omega)] at hq; exact hq)
      | (rw [if_pos (by omega)] at hq
         rw [show (x - 11 + 1).toNat = (x - 10).toNat by omega]
         exact hq)
  · refine AW.iload_n dX11_refusalsCounted_6 rfl ?_
    refine AW.bipush dX11_refusalsCounted_7 ?_
    refine AW.if_icmplt (tgt := 15) dX11_refusalsCounted_9 (by decide) (fun c9 => ?_) (fun c9 => ?_)
    · refine AW.aload_n dX11_refusalsCounted_15 rfl ?_
      refine AW.getf dX11_refusalsCounted_16 gX11_41 (by repeat (first | assumption | exact hset_eq _ _ _ | refine (hset_ne _ _ (by omega)).trans ?_)) rfl ?_
      refine AW.iload_n dX11_refusalsCounted_19 rfl ?_
      refine AW.bipush dX11_refusalsCounted_20 ?_
      refine AW.isubR dX11_refusalsCounted_22 (by unfold RI; omega) ?_
      refine AW.iconst dX11_refusalsCounted_23 ?_
      refine AW.iaddR dX11_refusalsCounted_24 (by unfold RI; omega) ?_
      refine AW.iaload dX11_refusalsCounted_25 (by repeat (first | assumption | exact hset_eq _ _ _ | refine (hset_ne _ _ (by omega)).trans ?_)) (by omega) (by omega) ?_
      refine AW.ireturn dX11_refusalsCounted_26 rfl ?_
      first
        | (rw [if_neg (by omega)] at hq; exact hq)
        | (rw [if_pos (by omega)] at hq
           rw [show (x - 11 + 1).toNat = (x - 10).toNat by omega]
           exact hq)
    · refine AW.bipush dX11_refusalsCounted_12 ?_
      refine AW.ireturn dX11_refusalsCounted_14 rfl ?_
      first
        | (rw [if_neg (by omega)] at hq; exact hq)
        | (rw [if_pos (by omega)] at hq
           rw [show (x - 11 + 1).toNat = (x - 10).toNat by omega]
           exact hq)
theorem C_count (H : CS h S) (hd : 3 ≤ d) (hq : ∀ r S' h', (r, S') = o_count S x → CS h' S' → Fr h h' PC → Q (some (.inl r)) h') : MW d 0 0 mX11_count [.inr 16, .inl x] h Q := by
  obtain ⟨nw, tr, ik, sd, at', HM, HL, HS⟩ := id H
  obtain ⟨k1, g16, h9, k2, k3, k4, k5, k6, k7, ⟨f8, k8, k8b⟩, k10, k11, ok⟩ := id HM
  obtain ⟨gn, -, -, -, ⟨fc, q8, q9⟩, -, -⟩ := id k4
  have g17 := k3.1
  have g16' := g16
  unfold CO at g16'
  have fin : ∀ v, v = (o_count S x).1 → Q (some (.inl v)) h := fun v hv => hq v S h (by rw [hv]; rfl) H Fr.rfl'
  unfold o_count at fin
  show AW d 0 0 mX11_count Q 0 [some (.inr 16), some (.inl x)] [] h
  refine AW.iload_n dX11_count_0 rfl ?_
  refine AW.tab (tgt := 85) [40, 48, 56, 64, 72, 80] dX11_count_1 (by decide) (by decide) (by decide) (fun i t hi c1 => ?_) (fun c1 => ?_)
  · match i, hi with
    | 0, hi =>
      cases hi
      refine AW.aload_n dX11_count_40 rfl ?_
      refine AW.getf dX11_count_41 gX11_19 (by repeat (first | assumption | exact hset_eq _ _ _ | refine (hset_ne _ _ (by omega)).trans ?_)) rfl ?_
      refine AW.getf dX11_count_44 gX11_212 (by repeat (first | assumption | exact hset_eq _ _ _ | refine (hset_ne _ _ (by omega)).trans ?_)) rfl ?_
      refine AW.ireturn dX11_count_47 rfl ?_
      refine fin _ ?_
      show _ = if x = 0 then _ else _
      first
        | rw [if_pos (by omega)]
        | rw [if_neg (by omega), if_pos (by omega)]
        | rw [if_neg (by omega), if_neg (by omega), if_pos (by omega)]
        | rw [if_neg (by omega), if_neg (by omega), if_neg (by omega), if_pos (by omega)]
        | rw [if_neg (by omega), if_neg (by omega), if_neg (by omega), if_neg (by omega), if_pos (by omega)]
        | rw [if_neg (by omega), if_neg (by omega), if_neg (by omega), if_neg (by omega), if_neg (by omega), if_pos (by omega)]
        | (by_cases q : 11 ≤ x ∧ x ≤ 16
           · rw [if_pos q, if_neg (by omega), if_neg (by omega), if_neg (by omega), if_neg (by omega), if_neg (by omega), if_neg (by omega), if_pos q]; exact k8b _ (by omega) (by omega)
           · rw [if_neg q, if_neg (by omega), if_neg (by omega), if_neg (by omega), if_neg (by omega), if_neg (by omega), if_neg (by omega), if_neg q])
    | 1, hi =>
      cases hi
      refine AW.aload_n dX11_count_48 rfl ?_
      refine AW.getf dX11_count_49 gX11_19 (by repeat (first | assumption | exact hset_eq _ _ _ | refine (hset_ne _ _ (by omega)).trans ?_)) rfl ?_
      refine AW.getf dX11_count_52 gX11_148 (by repeat (first | assumption | exact hset_eq _ _ _ | refine (hset_ne _ _ (by omega)).trans ?_)) rfl ?_
      refine AW.ireturn dX11_count_55 rfl ?_
      refine fin _ ?_
      show _ = if x = 0 then _ else _
      first
        | rw [if_pos (by omega)]
        | rw [if_neg (by omega), if_pos (by omega)]
        | rw [if_neg (by omega), if_neg (by omega), if_pos (by omega)]
        | rw [if_neg (by omega), if_neg (by omega), if_neg (by omega), if_pos (by omega)]
        | rw [if_neg (by omega), if_neg (by omega), if_neg (by omega), if_neg (by omega), if_pos (by omega)]
        | rw [if_neg (by omega), if_neg (by omega), if_neg (by omega), if_neg (by omega), if_neg (by omega), if_pos (by omega)]
        | (by_cases q : 11 ≤ x ∧ x ≤ 16
           · rw [if_pos q, if_neg (by omega), if_neg (by omega), if_neg (by omega), if_neg (by omega), if_neg (by omega), if_neg (by omega), if_pos q]; exact k8b _ (by omega) (by omega)
           · rw [if_neg q, if_neg (by omega), if_neg (by omega), if_neg (by omega), if_neg (by omega), if_neg (by omega), if_neg (by omega), if_neg q])
    | 2, hi =>
      cases hi
      refine AW.aload_n dX11_count_56 rfl ?_
      refine AW.getf dX11_count_57 gX11_19 (by repeat (first | assumption | exact hset_eq _ _ _ | refine (hset_ne _ _ (by omega)).trans ?_)) rfl ?_
      refine AW.cI1 (d' := d - 1) (cX11_227 rfl) okX8_coinedCount dX11_count_60 (by repeat (first | assumption | exact hset_eq _ _ _ | refine (hset_ne _ _ (by omega)).trans ?_)) (by omega) (W_ccoined gn (by omega) q8 q9 ok.1 ?_)
      refine AW.ireturn dX11_count_63 rfl ?_
      refine fin _ ?_
      show _ = if x = 0 then _ else _
      first
        | rw [if_pos (by omega)]
        | rw [if_neg (by omega), if_pos (by omega)]
        | rw [if_neg (by omega), if_neg (by omega), if_pos (by omega)]
        | rw [if_neg (by omega), if_neg (by omega), if_neg (by omega), if_pos (by omega)]
        | rw [if_neg (by omega), if_neg (by omega), if_neg (by omega), if_neg (by omega), if_pos (by omega)]
        | rw [if_neg (by omega), if_neg (by omega), if_neg (by omega), if_neg (by omega), if_neg (by omega), if_pos (by omega)]
        | (by_cases q : 11 ≤ x ∧ x ≤ 16
           · rw [if_pos q, if_neg (by omega), if_neg (by omega), if_neg (by omega), if_neg (by omega), if_neg (by omega), if_neg (by omega), if_pos q]; exact k8b _ (by omega) (by omega)
           · rw [if_neg q, if_neg (by omega), if_neg (by omega), if_neg (by omega), if_neg (by omega), if_neg (by omega), if_neg (by omega), if_neg q])
    | 3, hi =>
      cases hi
      refine AW.aload_n dX11_count_64 rfl ?_
      refine AW.getf dX11_count_65 gX11_19 (by repeat (first | assumption | exact hset_eq _ _ _ | refine (hset_ne _ _ (by omega)).trans ?_)) rfl ?_
      refine AW.cI1 (d' := d - 1) (cX11_230 rfl) okX8_lengths dX11_count_68 (by repeat (first | assumption | exact hset_eq _ _ _ | refine (hset_ne _ _ (by omega)).trans ?_)) (by omega) (W_clen k4 ok.1 ?_)
      refine AW.ireturn dX11_count_71 rfl ?_
      refine fin _ ?_
      show _ = if x = 0 then _ else _
      first
        | rw [if_pos (by omega)]
        | rw [if_neg (by omega), if_pos (by omega)]
        | rw [if_neg (by omega), if_neg (by omega), if_pos (by omega)]
        | rw [if_neg (by omega), if_neg (by omega), if_neg (by omega), if_pos (by omega)]
        | rw [if_neg (by omega), if_neg (by omega), if_neg (by omega), if_neg (by omega), if_pos (by omega)]
        | rw [if_neg (by omega), if_neg (by omega), if_neg (by omega), if_neg (by omega), if_neg (by omega), if_pos (by omega)]
        | (by_cases q : 11 ≤ x ∧ x ≤ 16
           · rw [if_pos q, if_neg (by omega), if_neg (by omega), if_neg (by omega), if_neg (by omega), if_neg (by omega), if_neg (by omega), if_pos q]; exact k8b _ (by omega) (by omega)
           · rw [if_neg q, if_neg (by omega), if_neg (by omega), if_neg (by omega), if_neg (by omega), if_neg (by omega), if_neg (by omega), if_neg q])
    | 4, hi =>
      cases hi
      refine AW.aload_n dX11_count_72 rfl ?_
      refine AW.getf dX11_count_73 gX11_10 (by repeat (first | assumption | exact hset_eq _ _ _ | refine (hset_ne _ _ (by omega)).trans ?_)) rfl ?_
      refine AW.cI1 (d' := d - 1) (cX11_233 rfl) okX5_size dX11_count_76 (by repeat (first | assumption | exact hset_eq _ _ _ | refine (hset_ne _ _ (by omega)).trans ?_)) (by omega) (W_letSize k3 ?_)
      refine AW.ireturn dX11_count_79 rfl ?_
      refine fin _ ?_
      show _ = if x = 0 then _ else _
      first
        | rw [if_pos (by omega)]
        | rw [if_neg (by omega), if_pos (by omega)]
        | rw [if_neg (by omega), if_neg (by omega), if_pos (by omega)]
        | rw [if_neg (by omega), if_neg (by omega), if_neg (by omega), if_pos (by omega)]
        | rw [if_neg (by omega), if_neg (by omega), if_neg (by omega), if_neg (by omega), if_pos (by omega)]
        | rw [if_neg (by omega), if_neg (by omega), if_neg (by omega), if_neg (by omega), if_neg (by omega), if_pos (by omega)]
        | (by_cases q : 11 ≤ x ∧ x ≤ 16
           · rw [if_pos q, if_neg (by omega), if_neg (by omega), if_neg (by omega), if_neg (by omega), if_neg (by omega), if_neg (by omega), if_pos q]; exact k8b _ (by omega) (by omega)
           · rw [if_neg q, if_neg (by omega), if_neg (by omega), if_neg (by omega), if_neg (by omega), if_neg (by omega), if_neg (by omega), if_neg q])
    | 5, hi =>
      cases hi
      refine AW.aload_n dX11_count_80 rfl ?_
      refine AW.getf dX11_count_81 gX11_37 (by repeat (first | assumption | exact hset_eq _ _ _ | refine (hset_ne _ _ (by omega)).trans ?_)) rfl ?_
      refine AW.ireturn dX11_count_84 rfl ?_
      refine fin _ ?_
      show _ = if x = 0 then _ else _
      first
        | rw [if_pos (by omega)]
        | rw [if_neg (by omega), if_pos (by omega)]
        | rw [if_neg (by omega), if_neg (by omega), if_pos (by omega)]
        | rw [if_neg (by omega), if_neg (by omega), if_neg (by omega), if_pos (by omega)]
        | rw [if_neg (by omega), if_neg (by omega), if_neg (by omega), if_neg (by omega), if_pos (by omega)]
        | rw [if_neg (by omega), if_neg (by omega), if_neg (by omega), if_neg (by omega), if_neg (by omega), if_pos (by omega)]
        | (by_cases q : 11 ≤ x ∧ x ≤ 16
           · rw [if_pos q, if_neg (by omega), if_neg (by omega), if_neg (by omega), if_neg (by omega), if_neg (by omega), if_neg (by omega), if_pos q]; exact k8b _ (by omega) (by omega)
           · rw [if_neg q, if_neg (by omega), if_neg (by omega), if_neg (by omega), if_neg (by omega), if_neg (by omega), if_neg (by omega), if_neg q])
    | i + 6, hi => simp at hi
  · refine AW.aload_n dX11_count_85 rfl ?_
    refine AW.iload_n dX11_count_86 rfl ?_
    refine AW.cI2 (d' := d - 1) (cX11_236 rfl) okX11_refusalsCounted dX11_count_87 (by repeat (first | assumption | exact hset_eq _ _ _ | refine (hset_ne _ _ (by omega)).trans ?_)) (by omega) (W_refCount g16 k8 ?_)
    refine AW.ireturn dX11_count_90 rfl ?_
    refine fin _ ?_
    show _ = if x = 0 then _ else _
    first
      | rw [if_pos (by omega)]
      | rw [if_neg (by omega), if_pos (by omega)]
      | rw [if_neg (by omega), if_neg (by omega), if_pos (by omega)]
      | rw [if_neg (by omega), if_neg (by omega), if_neg (by omega), if_pos (by omega)]
      | rw [if_neg (by omega), if_neg (by omega), if_neg (by omega), if_neg (by omega), if_pos (by omega)]
      | rw [if_neg (by omega), if_neg (by omega), if_neg (by omega), if_neg (by omega), if_neg (by omega), if_pos (by omega)]
      | (by_cases q : 11 ≤ x ∧ x ≤ 16
         · rw [if_pos q, if_neg (by omega), if_neg (by omega), if_neg (by omega), if_neg (by omega), if_neg (by omega), if_neg (by omega), if_pos q]; exact k8b _ (by omega) (by omega)
         · rw [if_neg q, if_neg (by omega), if_neg (by omega), if_neg (by omega), if_neg (by omega), if_neg (by omega), if_neg (by omega), if_neg q])
end Cls12

