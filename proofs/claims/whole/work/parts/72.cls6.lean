section Cls6
variable {d : Nat} {Q : Option AV → AH → Prop} {h h' : AH} {nw tr b : Nat} {ik sd at' tc : Int} {S S' : ST} {P : Nat → Prop} {s : SC} {x y z who k g more : Int} {nm : Nat → Int}
theorem SchA.l {f l' : Nat → Int} (H : SchA h b s) (hb : 16 ≤ b ∧ b + 17 ≤ 72) (hs : s_h s ≤ 6) (hf : ∀ i, i < s_n s → f i = l' i) : SchA (hset h (b + 2) (.inr (5, f))) b (sc_l s l') := by
  obtain ⟨h1, ⟨sts, h2, h3, h4, h5⟩, h6, h8, h9, h11, h12⟩ := H
  have F : Fr h (hset h (b + 2) (.inr (5, f))) (fun a => a = b + 2) := Fr.set rfl
  refine ⟨(hset_ne _ _ (by omega)).trans h1, ⟨sts, (hset_ne _ _ (by omega)).trans h2, h3, h4, fun i hi => ?_⟩, ⟨f, hset_eq _ _ _, hf⟩, (hset_ne _ _ (by omega)).trans h8, ?_, fun i hi => ?_, fun i hi => ?_⟩
  · obtain ⟨a, q1, q2, q3⟩ := h5 i hi
    exact ⟨a, q1, q2, q3.fr F (fun a ha => by omega)⟩
  · obtain ⟨f2, q1, q2⟩ := h9
    exact ⟨f2, (hset_ne _ _ (by omega)).trans q1, q2⟩
  · obtain ⟨n, f3, q1, q2⟩ := h11 i hi
    exact ⟨n, f3, (hset_ne _ _ (by omega)).trans q1, (hset_ne _ _ (by omega)).trans q2⟩
  · obtain ⟨f3, q1, q2, q3⟩ := h12 i hi
    exact ⟨f3, (hset_ne _ _ (by omega)).trans q1, (hset_ne _ _ (by omega)).trans q2, q3⟩
theorem SchA.c {f c' : Nat → Int} (H : SchA h b s) (hb : 16 ≤ b ∧ b + 17 ≤ 72) (hs : s_h s ≤ 6) (hf : ∀ i, i < 4 → f i = c' i) : SchA (hset h (b + 4) (.inr (4, f))) b (sc_c s c') := by
  obtain ⟨h1, ⟨sts, h2, h3, h4, h5⟩, h6, h8, h9, h11, h12⟩ := H
  have F : Fr h (hset h (b + 4) (.inr (4, f))) (fun a => a = b + 4) := Fr.set rfl
  refine ⟨(hset_ne _ _ (by omega)).trans h1, ⟨sts, (hset_ne _ _ (by omega)).trans h2, h3, h4, fun i hi => ?_⟩, ?_, (hset_ne _ _ (by omega)).trans h8, ⟨f, hset_eq _ _ _, hf⟩, fun i hi => ?_, fun i hi => ?_⟩
  · obtain ⟨a, q1, q2, q3⟩ := h5 i hi
    exact ⟨a, q1, q2, q3.fr F (fun a ha => by omega)⟩
  · obtain ⟨f2, q1, q2⟩ := h6
    exact ⟨f2, (hset_ne _ _ (by omega)).trans q1, q2⟩
  · obtain ⟨n, f3, q1, q2⟩ := h11 i hi
    exact ⟨n, f3, (hset_ne _ _ (by omega)).trans q1, (hset_ne _ _ (by omega)).trans q2⟩
  · obtain ⟨f3, q1, q2, q3⟩ := h12 i hi
    exact ⟨f3, (hset_ne _ _ (by omega)).trans q1, (hset_ne _ _ (by omega)).trans q2, q3⟩
theorem lnF_x : ∀ l : Nat, l < 16 → ∀ n : Nat, n < 4 → ∀ is : Nat, is < 2 → (a_and (a_shr (l : Int) (n : Int)) 1 = (is : Int) → lnF (l : Int) (n : Int) (is : Int) = (l : Int)) ∧ (a_and (a_shr (l : Int) (n : Int)) 1 ≠ (is : Int) → lnF (l : Int) (n : Int) (is : Int) = a_xor (l : Int) (a_shl 1 (n : Int))) := by decide +kernel
theorem W_turnLearnt {fl : Nat → Int} {n : Nat} {m : Int} (h16 : 16 ≤ b) (gn : h.2 b = .inl (9, [.inr (b + 1), .inr (b + 2), .inl (n : Int), .inr (b + 3), .inl m, .inr (b + 4)])) (gl : h.2 (b + 2) = .inr (5, fl)) (hn : n ≤ 5) (hd : 1 ≤ d)
    (hq0 : ¬ ((0 ≤ x ∧ x < n) ∧ 0 ≤ y ∧ y < 4) → Q (some (.inl 0)) h) (hq1 : (0 ≤ x ∧ x < n) ∧ 0 ≤ y ∧ y < 4 → Q (some (.inl 1)) (hset h (b + 2) (.inr (5, updI fl x.toNat (a_xor (fl x.toNat) (a_shl 1 y)))))) : MW d 0 0 mX8_turnLearnt [.inr b, .inl x, .inl y] h Q := by
  show AW d 0 0 mX8_turnLearnt Q 0 [some (.inr b), some (.inl x), some (.inl y)] [] h
  refine AW.iload_n dX8_turnLearnt_0 rfl ?_
  refine AW.iflt (tgt := 19) dX8_turnLearnt_1 (by decide) (fun c1 => ?_) (fun c1 => ?_)
  · refine AW.iconst dX8_turnLearnt_19 ?_
    refine AW.zreturn dX8_turnLearnt_20 rfl (Or.inl rfl) ?_
    first | exact hq0 (by omega) | exact hq1 (by omega)
  · refine AW.iload_n dX8_turnLearnt_4 rfl ?_
    refine AW.aload_n dX8_turnLearnt_5 rfl ?_
    refine AW.getf dX8_turnLearnt_6 gX8_21 (by repeat (first | assumption | exact hset_eq _ _ _ | refine (hset_ne _ _ (by omega)).trans ?_)) rfl ?_
    refine AW.if_icmpge (tgt := 19) dX8_turnLearnt_9 (by decide) (fun c9 => ?_) (fun c9 => ?_)
    · refine AW.iconst dX8_turnLearnt_19 ?_
      refine AW.zreturn dX8_turnLearnt_20 rfl (Or.inl rfl) ?_
      first | exact hq0 (by omega) | exact hq1 (by omega)
    · refine AW.iload_n dX8_turnLearnt_12 rfl ?_
      refine AW.cS1 (d' := d - 1) (cX8_52 rfl) okX11_noName dX8_turnLearnt_13 (by omega) (W_noName (fun c13 => ?_) (fun c13 c13b => ?_))
      · refine AW.ifeq_f (tgt := 21) dX8_turnLearnt_16 (by decide) (by decide) ?_
        refine AW.iconst dX8_turnLearnt_19 ?_
        refine AW.zreturn dX8_turnLearnt_20 rfl (Or.inl rfl) ?_
        first | exact hq0 (by omega) | exact hq1 (by omega)
      · refine AW.ifeq_t (tgt := 21) dX8_turnLearnt_16 (by decide) rfl ?_
        refine AW.aload_n dX8_turnLearnt_21 rfl ?_
        refine AW.getf dX8_turnLearnt_22 gX8_17 (by repeat (first | assumption | exact hset_eq _ _ _ | refine (hset_ne _ _ (by omega)).trans ?_)) rfl ?_
        refine AW.iload_n dX8_turnLearnt_25 rfl ?_
        refine AW.dup2 dX8_turnLearnt_26 ?_
        refine AW.iaload dX8_turnLearnt_27 (by repeat (first | assumption | exact hset_eq _ _ _ | refine (hset_ne _ _ (by omega)).trans ?_)) (by omega) (by omega) ?_
        refine AW.iconst dX8_turnLearnt_28 ?_
        refine AW.iload_n dX8_turnLearnt_29 rfl ?_
        refine AW.ishl dX8_turnLearnt_30 ?_
        refine AW.ixor dX8_turnLearnt_31 ?_
        refine AW.iastore dX8_turnLearnt_32 (by omega) (by repeat (first | assumption | exact hset_eq _ _ _ | refine (hset_ne _ _ (by omega)).trans ?_)) (by omega) (by omega) ?_
        refine AW.iconst dX8_turnLearnt_33 ?_
        refine AW.zreturn dX8_turnLearnt_34 rfl (Or.inr rfl) ?_
        first | exact hq0 (by omega) | exact hq1 (by omega)
theorem C_learn (H : CS h S) (hd : 3 ≤ d) (hq : ∀ r S' h', (r, S') = o_learn S who x y → CS h' S' → Fr h h' PC → Q (some (.inl r)) h') : MW d 0 0 mX11_learn [.inr 16, .inl who, .inl x, .inl y] h Q := by
  obtain ⟨nw, tr, ik, sd, at', HM, HL, HS⟩ := id H
  obtain ⟨k1, g16, h9, k2, k3, k4, k5, k6, k7, k8, k10, k11, ok⟩ := id HM
  obtain ⟨gn, ⟨sts, q1, q2, q3, q4⟩, ⟨fl, q5, q6⟩, q7, ⟨fc, q8, q9⟩, q10, q11⟩ := id k4
  have g16' := g16
  unfold CO at g16'
  have o := ok.1.1
  show AW d 0 0 mX11_learn Q 0 [some (.inr 16), some (.inl who), some (.inl x), some (.inl y), none] [] h
  refine AW.aload_n dX11_learn_0 rfl ?_
  refine AW.iload_n dX11_learn_1 rfl ?_
  refine AW.cI2 (d' := d - 1) (cX11_108 rfl) okX11_noStranger dX11_learn_2 (by repeat (first | assumption | exact hset_eq _ _ _ | refine (hset_ne _ _ (by omega)).trans ?_)) (by omega) (C_noStr (by assumption) (by assumption) (fun c2 => ?_) (fun c2 c2b => ?_))
  · refine AW.ifne_t (tgt := 15) dX11_learn_5 (by decide) (by decide) ?_
    refine AW.aload_n dX11_learn_15 rfl ?_
    refine AW.iconst dX11_learn_16 ?_
    refine AW.cI2 (d' := d - 1) (cX11_84 rfl) okX11_refused dX11_learn_17 (by repeat (first | assumption | exact hset_eq _ _ _ | refine (hset_ne _ _ (by omega)).trans ?_)) (by omega) (C_refused (by assumption) (by decide) (by decide) (fun h17 hC hF => ?_))
    refine AW.ireturn dX11_learn_20 rfl ?_
    first | exact hq (-1) (rf S 1) _ (by unfold o_learn; rw [if_pos (by omega)]) hC hF | exact hq (-2) (rf S 2) _ (by unfold o_learn; rw [if_neg (by omega), if_pos (by omega)]) hC hF
  · refine AW.ifne_f (tgt := 15) dX11_learn_5 (by decide) rfl ?_
    refine AW.iload_n dX11_learn_8 rfl ?_
    refine AW.cS1 (d' := d - 1) (cX11_125 rfl) okX11_noName dX11_learn_9 (by omega) (W_noName (fun c9 => ?_) (fun c9 c9b => ?_))
    · refine AW.ifeq_f (tgt := 21) dX11_learn_12 (by decide) (by decide) ?_
      refine AW.aload_n dX11_learn_15 rfl ?_
      refine AW.iconst dX11_learn_16 ?_
      refine AW.cI2 (d' := d - 1) (cX11_84 rfl) okX11_refused dX11_learn_17 (by repeat (first | assumption | exact hset_eq _ _ _ | refine (hset_ne _ _ (by omega)).trans ?_)) (by omega) (C_refused (by assumption) (by decide) (by decide) (fun h17 hC hF => ?_))
      refine AW.ireturn dX11_learn_20 rfl ?_
      first | exact hq (-1) (rf S 1) _ (by unfold o_learn; rw [if_pos (by omega)]) hC hF | exact hq (-2) (rf S 2) _ (by unfold o_learn; rw [if_neg (by omega), if_pos (by omega)]) hC hF
    · refine AW.ifeq_t (tgt := 21) dX11_learn_12 (by decide) rfl ?_
      refine AW.iload_n dX11_learn_21 rfl ?_
      refine AW.ifeq (tgt := 36) dX11_learn_22 (by decide) (fun c22 => ?_) (fun c22 => ?_)
      · have el := q6 who.toNat (by omega)
        have hl := (ok.1.2.2.1 who.toNat (by omega)).2.2
        have hx := lnF_x (s_l S.1 who.toNat).toNat (by omega) x.toNat (by omega) y.toNat (by omega)
        rw [Int.toNat_of_nonneg hl.1, Int.toNat_of_nonneg (show 0 ≤ x by omega), Int.toNat_of_nonneg (show 0 ≤ y by omega)] at hx
        have hok := lnF_ok (s_l S.1 who.toNat).toNat (by omega) x.toNat (by omega) y.toNat (by omega)
        rw [Int.toNat_of_nonneg hl.1, Int.toNat_of_nonneg (show 0 ≤ x by omega), Int.toNat_of_nonneg (show 0 ≤ y by omega)] at hok
        have ok' : scOK (sc_l S.1 (updI (s_l S.1) who.toNat (lnF (s_l S.1 who.toNat) x y))) := by
          obtain ⟨o1, o2, o3, o4, o5⟩ := ok.1
          refine ⟨o1, o2, fun i hi => ⟨(o3 i hi).1, (o3 i hi).2.1, ?_⟩, o4, o5⟩
          show 0 ≤ updI (s_l S.1) who.toNat (lnF (s_l S.1 who.toNat) x y) i ∧ updI (s_l S.1) who.toNat (lnF (s_l S.1 who.toNat) x y) i ≤ 15
          by_cases z : i = who.toNat
          · rw [z, updI_eq]; exact hok
          · rw [updI_ne _ _ z]; exact (o3 i hi).2.2
        have fin : ∀ (h2 : AH) (f : Nat → Int), h2 = hset h (nw + 2) (.inr (5, f)) → (∀ i, i < s_n S.1 → f i = updI (s_l S.1) who.toNat (lnF (s_l S.1 who.toNat) x y) i) → Q (some (.inl (a_and (a_shr (fl who.toNat) x) 1))) h2 := by
          intro h2 f e2 hf
          rw [el]
          have F : Fr h h2 (fun a => a = nw + 2) := by rw [e2]; exact Fr.set rfl
          refine hq _ _ h2 (by unfold o_learn; rw [if_neg (by omega), if_neg (by omega)]) ⟨nw, tr, ik, sd, at', HM.sc F (fun a ha => by omega) (by rw [e2]; exact k4.l (by omega) ok.1.2.1 hf) ok', HL.fr F h9 (fun a ha => by omega), HS.fr F h9 (fun a ha => by omega)⟩ (F.mono (fun a ha => by unfold PC; omega))
        by_cases e : a_and (a_shr (s_l S.1 who.toNat) x) 1 = y
        · have same : ∀ i, i < s_n S.1 → fl i = updI (s_l S.1) who.toNat (lnF (s_l S.1 who.toNat) x y) i := by
            intro i hi
            rw [q6 i hi]
            by_cases z : i = who.toNat
            · rw [z, updI_eq, hx.1 e]
            · rw [updI_ne _ _ z]
          have hset_same : h = hset h (nw + 2) (.inr (5, fl)) := Prod.ext rfl (funext fun a => by
            show h.2 a = if a = nw + 2 then _ else h.2 a
            by_cases z : a = nw + 2
            · rw [if_pos z, z]; exact q5
            · rw [if_neg z])
          refine AW.aload_n dX11_learn_36 rfl ?_
          refine AW.getf dX11_learn_37 gX11_19 (by repeat (first | assumption | exact hset_eq _ _ _ | refine (hset_ne _ _ (by omega)).trans ?_)) rfl ?_
          refine AW.getf dX11_learn_40 gX11_122 (by repeat (first | assumption | exact hset_eq _ _ _ | refine (hset_ne _ _ (by omega)).trans ?_)) rfl ?_
          refine AW.iload_n dX11_learn_43 rfl ?_
          refine AW.iaload dX11_learn_44 (by repeat (first | assumption | exact hset_eq _ _ _ | refine (hset_ne _ _ (by omega)).trans ?_)) (by omega) (by omega) ?_
          refine AW.iload_n dX11_learn_45 rfl ?_
          refine AW.ishr dX11_learn_46 ?_
          refine AW.iconst dX11_learn_47 ?_
          refine AW.iand dX11_learn_48 ?_
          refine AW.ist4 dX11_learn_49 (by decide) ?_
          refine AW.iload dX11_learn_51 rfl ?_
          refine AW.iload_n dX11_learn_53 rfl ?_
          refine AW.if_icmpeq (tgt := 67) dX11_learn_54 (by decide) (fun c54 => ?_) (fun c54 => absurd (show a_and (a_shr (fl who.toNat) x) 1 = y by rw [el]; exact e) c54)
          refine AW.iload dX11_learn_67 rfl ?_
          refine AW.ireturn dX11_learn_69 rfl ?_
          exact fin h fl hset_same same
        · skip
          refine AW.aload_n dX11_learn_36 rfl ?_
          refine AW.getf dX11_learn_37 gX11_19 (by repeat (first | assumption | exact hset_eq _ _ _ | refine (hset_ne _ _ (by omega)).trans ?_)) rfl ?_
          refine AW.getf dX11_learn_40 gX11_122 (by repeat (first | assumption | exact hset_eq _ _ _ | refine (hset_ne _ _ (by omega)).trans ?_)) rfl ?_
          refine AW.iload_n dX11_learn_43 rfl ?_
          refine AW.iaload dX11_learn_44 (by repeat (first | assumption | exact hset_eq _ _ _ | refine (hset_ne _ _ (by omega)).trans ?_)) (by omega) (by omega) ?_
          refine AW.iload_n dX11_learn_45 rfl ?_
          refine AW.ishr dX11_learn_46 ?_
          refine AW.iconst dX11_learn_47 ?_
          refine AW.iand dX11_learn_48 ?_
          refine AW.ist4 dX11_learn_49 (by decide) ?_
          refine AW.iload dX11_learn_51 rfl ?_
          refine AW.iload_n dX11_learn_53 rfl ?_
          refine AW.if_icmpeq (tgt := 67) dX11_learn_54 (by decide) (fun c54 => absurd (show a_and (a_shr (s_l S.1 who.toNat) x) 1 = y by rw [← el]; exact c54) e) (fun c54 => ?_)
          refine AW.aload_n dX11_learn_57 rfl ?_
          refine AW.getf dX11_learn_58 gX11_19 (by repeat (first | assumption | exact hset_eq _ _ _ | refine (hset_ne _ _ (by omega)).trans ?_)) rfl ?_
          refine AW.iload_n dX11_learn_61 rfl ?_
          refine AW.iload_n dX11_learn_62 rfl ?_
          refine AW.cI3 (d' := d - 1) (cX11_128 rfl) okX8_turnLearnt dX11_learn_63 (by repeat (first | assumption | exact hset_eq _ _ _ | refine (hset_ne _ _ (by omega)).trans ?_)) (by omega) (W_turnLearnt (by omega) gn q5 o (by omega) (fun c => absurd c (by omega)) (fun _ => ?_))
          refine AW.pop dX11_learn_66 ?_
          refine AW.iload dX11_learn_67 rfl ?_
          refine AW.ireturn dX11_learn_69 rfl ?_
          refine fin _ _ rfl (fun i hi => ?_)
          by_cases z : i = who.toNat
          · rw [z, updI_eq, updI_eq, hx.2 e, el]
          · rw [updI_ne _ _ z, updI_ne _ _ z]; exact q6 i hi
      · refine AW.iload_n dX11_learn_25 rfl ?_
        refine AW.iconst dX11_learn_26 ?_
        refine AW.if_icmpeq (tgt := 36) dX11_learn_27 (by decide) (fun c27 => ?_) (fun c27 => ?_)
        · have el := q6 who.toNat (by omega)
          have hl := (ok.1.2.2.1 who.toNat (by omega)).2.2
          have hx := lnF_x (s_l S.1 who.toNat).toNat (by omega) x.toNat (by omega) y.toNat (by omega)
          rw [Int.toNat_of_nonneg hl.1, Int.toNat_of_nonneg (show 0 ≤ x by omega), Int.toNat_of_nonneg (show 0 ≤ y by omega)] at hx
          have hok := lnF_ok (s_l S.1 who.toNat).toNat (by omega) x.toNat (by omega) y.toNat (by omega)
          rw [Int.toNat_of_nonneg hl.1, Int.toNat_of_nonneg (show 0 ≤ x by omega), Int.toNat_of_nonneg (show 0 ≤ y by omega)] at hok
          have ok' : scOK (sc_l S.1 (updI (s_l S.1) who.toNat (lnF (s_l S.1 who.toNat) x y))) := by
            obtain ⟨o1, o2, o3, o4, o5⟩ := ok.1
            refine ⟨o1, o2, fun i hi => ⟨(o3 i hi).1, (o3 i hi).2.1, ?_⟩, o4, o5⟩
            show 0 ≤ updI (s_l S.1) who.toNat (lnF (s_l S.1 who.toNat) x y) i ∧ updI (s_l S.1) who.toNat (lnF (s_l S.1 who.toNat) x y) i ≤ 15
            by_cases z : i = who.toNat
            · rw [z, updI_eq]; exact hok
            · rw [updI_ne _ _ z]; exact (o3 i hi).2.2
          have fin : ∀ (h2 : AH) (f : Nat → Int), h2 = hset h (nw + 2) (.inr (5, f)) → (∀ i, i < s_n S.1 → f i = updI (s_l S.1) who.toNat (lnF (s_l S.1 who.toNat) x y) i) → Q (some (.inl (a_and (a_shr (fl who.toNat) x) 1))) h2 := by
            intro h2 f e2 hf
            rw [el]
            have F : Fr h h2 (fun a => a = nw + 2) := by rw [e2]; exact Fr.set rfl
            refine hq _ _ h2 (by unfold o_learn; rw [if_neg (by omega), if_neg (by omega)]) ⟨nw, tr, ik, sd, at', HM.sc F (fun a ha => by omega) (by rw [e2]; exact k4.l (by omega) ok.1.2.1 hf) ok', HL.fr F h9 (fun a ha => by omega), HS.fr F h9 (fun a ha => by omega)⟩ (F.mono (fun a ha => by unfold PC; omega))
          by_cases e : a_and (a_shr (s_l S.1 who.toNat) x) 1 = y
          · have same : ∀ i, i < s_n S.1 → fl i = updI (s_l S.1) who.toNat (lnF (s_l S.1 who.toNat) x y) i := by
              intro i hi
              rw [q6 i hi]
              by_cases z : i = who.toNat
              · rw [z, updI_eq, hx.1 e]
              · rw [updI_ne _ _ z]
            have hset_same : h = hset h (nw + 2) (.inr (5, fl)) := Prod.ext rfl (funext fun a => by
              show h.2 a = if a = nw + 2 then _ else h.2 a
              by_cases z : a = nw + 2
              · rw [if_pos z, z]; exact q5
              · rw [if_neg z])
            refine AW.aload_n dX11_learn_36 rfl ?_
            refine AW.getf dX11_learn_37 gX11_19 (by repeat (first | assumption | exact hset_eq _ _ _ | refine (hset_ne _ _ (by omega)).trans ?_)) rfl ?_
            refine AW.getf dX11_learn_40 gX11_122 (by repeat (first | assumption | exact hset_eq _ _ _ | refine (hset_ne _ _ (by omega)).trans ?_)) rfl ?_
            refine AW.iload_n dX11_learn_43 rfl ?_
            refine AW.iaload dX11_learn_44 (by repeat (first | assumption | exact hset_eq _ _ _ | refine (hset_ne _ _ (by omega)).trans ?_)) (by omega) (by omega) ?_
            refine AW.iload_n dX11_learn_45 rfl ?_
            refine AW.ishr dX11_learn_46 ?_
            refine AW.iconst dX11_learn_47 ?_
            refine AW.iand dX11_learn_48 ?_
            refine AW.ist4 dX11_learn_49 (by decide) ?_
            refine AW.iload dX11_learn_51 rfl ?_
            refine AW.iload_n dX11_learn_53 rfl ?_
            refine AW.if_icmpeq (tgt := 67) dX11_learn_54 (by decide) (fun c54 => ?_) (fun c54 => absurd (show a_and (a_shr (fl who.toNat) x) 1 = y by rw [el]; exact e) c54)
            refine AW.iload dX11_learn_67 rfl ?_
            refine AW.ireturn dX11_learn_69 rfl ?_
            exact fin h fl hset_same same
          · skip
            refine AW.aload_n dX11_learn_36 rfl ?_
            refine AW.getf dX11_learn_37 gX11_19 (by repeat (first | assumption | exact hset_eq _ _ _ | refine (hset_ne _ _ (by omega)).trans ?_)) rfl ?_
            refine AW.getf dX11_learn_40 gX11_122 (by repeat (first | assumption | exact hset_eq _ _ _ | refine (hset_ne _ _ (by omega)).trans ?_)) rfl ?_
            refine AW.iload_n dX11_learn_43 rfl ?_
            refine AW.iaload dX11_learn_44 (by repeat (first | assumption | exact hset_eq _ _ _ | refine (hset_ne _ _ (by omega)).trans ?_)) (by omega) (by omega) ?_
            refine AW.iload_n dX11_learn_45 rfl ?_
            refine AW.ishr dX11_learn_46 ?_
            refine AW.iconst dX11_learn_47 ?_
            refine AW.iand dX11_learn_48 ?_
            refine AW.ist4 dX11_learn_49 (by decide) ?_
            refine AW.iload dX11_learn_51 rfl ?_
            refine AW.iload_n dX11_learn_53 rfl ?_
            refine AW.if_icmpeq (tgt := 67) dX11_learn_54 (by decide) (fun c54 => absurd (show a_and (a_shr (s_l S.1 who.toNat) x) 1 = y by rw [← el]; exact c54) e) (fun c54 => ?_)
            refine AW.aload_n dX11_learn_57 rfl ?_
            refine AW.getf dX11_learn_58 gX11_19 (by repeat (first | assumption | exact hset_eq _ _ _ | refine (hset_ne _ _ (by omega)).trans ?_)) rfl ?_
            refine AW.iload_n dX11_learn_61 rfl ?_
            refine AW.iload_n dX11_learn_62 rfl ?_
            refine AW.cI3 (d' := d - 1) (cX11_128 rfl) okX8_turnLearnt dX11_learn_63 (by repeat (first | assumption | exact hset_eq _ _ _ | refine (hset_ne _ _ (by omega)).trans ?_)) (by omega) (W_turnLearnt (by omega) gn q5 o (by omega) (fun c => absurd c (by omega)) (fun _ => ?_))
            refine AW.pop dX11_learn_66 ?_
            refine AW.iload dX11_learn_67 rfl ?_
            refine AW.ireturn dX11_learn_69 rfl ?_
            refine fin _ _ rfl (fun i hi => ?_)
            by_cases z : i = who.toNat
            · rw [z, updI_eq, updI_eq, hx.2 e, el]
            · rw [updI_ne _ _ z, updI_ne _ _ z]; exact q6 i hi
        · refine AW.aload_n dX11_learn_30 rfl ?_
          refine AW.iconst dX11_learn_31 ?_
          refine AW.cI2 (d' := d - 1) (cX11_84 rfl) okX11_refused dX11_learn_32 (by repeat (first | assumption | exact hset_eq _ _ _ | refine (hset_ne _ _ (by omega)).trans ?_)) (by omega) (C_refused (by assumption) (by decide) (by decide) (fun h32 hC hF => ?_))
          refine AW.ireturn dX11_learn_35 rfl ?_
          first | exact hq (-1) (rf S 1) _ (by unfold o_learn; rw [if_pos (by omega)]) hC hF | exact hq (-2) (rf S 2) _ (by unfold o_learn; rw [if_neg (by omega), if_pos (by omega)]) hC hF
theorem C_coin (H : CS h S) (hd : 2 ≤ d) (hq : ∀ r S' h', (r, S') = o_coin S x y → CS h' S' → Fr h h' PC → Q (some (.inl r)) h') : MW d 0 0 mX11_coin [.inr 16, .inl x, .inl y] h Q := by
  obtain ⟨nw, tr, ik, sd, at', HM, HL, HS⟩ := id H
  obtain ⟨k1, g16, h9, k2, k3, k4, k5, k6, k7, k8, k10, k11, ok⟩ := id HM
  obtain ⟨gn, q1, q5, q7, ⟨fc, q8, q9⟩, q10, q11⟩ := id k4
  have g16' := g16
  unfold CO at g16'
  have fin : ∀ (v : Int), v = cvF y → 0 ≤ x → x < 4 → -1 ≤ y → y ≤ 255 → Q (some (.inl (fc x.toNat))) (hset h (nw + 4) (.inr (4, updI fc x.toNat v))) := by
    intro v hv x0 x4 y0 y1
    have F : Fr h (hset h (nw + 4) (.inr (4, updI fc x.toNat v))) (fun a => a = nw + 4) := Fr.set rfl
    rw [q9 x.toNat (by omega)]
    refine hq _ _ _ (by unfold o_coin; rw [if_neg (by omega), if_neg (by omega), if_neg (by omega)]) ⟨nw, tr, ik, sd, at', HM.sc F (fun a ha => by omega) (k4.c (by omega) ok.1.2.1 (fun i hi => ?_)) ?_, HL.fr F h9 (fun a ha => by omega), HS.fr F h9 (fun a ha => by omega)⟩ (F.mono (fun a ha => by unfold PC; omega))
    · by_cases z : i = x.toNat
      · rw [z, updI_eq, updI_eq]; exact hv
      · rw [updI_ne _ _ z, updI_ne _ _ z]; exact q9 i hi
    · obtain ⟨o1, o2, o3, o4, o5⟩ := ok.1
      refine ⟨o1, o2, o3, fun i hi => ?_, o5⟩
      show updI (s_c S.1) x.toNat (cvF y) i = -9 ∨ (0 ≤ updI (s_c S.1) x.toNat (cvF y) i ∧ updI (s_c S.1) x.toNat (cvF y) i ≤ 255)
      by_cases z : i = x.toNat
      · rw [z, updI_eq]; unfold cvF; split <;> omega
      · rw [updI_ne _ _ z]; exact o4 i hi
  show AW d 0 0 mX11_coin Q 0 [some (.inr 16), some (.inl x), some (.inl y), none] [] h
  refine AW.iload_n dX11_coin_0 rfl ?_
  refine AW.cS1 (d' := d - 1) (cX11_125 rfl) okX11_noName dX11_coin_1 (by omega) (W_noName (fun c1 => ?_) (fun c1 c1b => ?_))
  · refine AW.ifeq_f (tgt := 13) dX11_coin_4 (by decide) (by decide) ?_
    refine AW.aload_n dX11_coin_7 rfl ?_
    refine AW.iconst dX11_coin_8 ?_
    refine AW.cI2 (d' := d - 1) (cX11_84 rfl) okX11_refused dX11_coin_9 (by repeat (first | assumption | exact hset_eq _ _ _ | refine (hset_ne _ _ (by omega)).trans ?_)) (by omega) (C_refused (by assumption) (by decide) (by decide) (fun h9 hC hF => ?_))
    refine AW.ireturn dX11_coin_12 rfl ?_
    first
      | exact hq (-1) (rf S 1) _ (by unfold o_coin; rw [if_pos (by omega)]) hC hF
      | exact hq (-4) (rf S 4) _ (by unfold o_coin; rw [if_neg (by omega), if_pos (by omega)]) hC hF
      | exact hq (-6) (rf S 6) _ (by unfold o_coin; rw [if_neg (by omega), if_neg (by omega), if_pos (by omega)]) hC hF
      | exact fin _ (by unfold cvF; rw [if_pos (by omega)]) (by omega) (by omega) (by omega) (by omega)
      | exact fin _ (by unfold cvF; rw [if_neg (by omega)]) (by omega) (by omega) (by omega) (by omega)
  · refine AW.ifeq_t (tgt := 13) dX11_coin_4 (by decide) rfl ?_
    refine AW.iload_n dX11_coin_13 rfl ?_
    refine AW.iconst dX11_coin_14 ?_
    refine AW.if_icmpge (tgt := 24) dX11_coin_15 (by decide) (fun c15 => ?_) (fun c15 => ?_)
    · refine AW.iload_n dX11_coin_24 rfl ?_
      refine AW.sipush dX11_coin_25 ?_
      refine AW.if_icmple (tgt := 38) dX11_coin_28 (by decide) (fun c28 => ?_) (fun c28 => ?_)
      · refine AW.aload_n dX11_coin_38 rfl ?_
        refine AW.getf dX11_coin_39 gX11_19 (by repeat (first | assumption | exact hset_eq _ _ _ | refine (hset_ne _ _ (by omega)).trans ?_)) rfl ?_
        refine AW.getf dX11_coin_42 gX11_132 (by repeat (first | assumption | exact hset_eq _ _ _ | refine (hset_ne _ _ (by omega)).trans ?_)) rfl ?_
        refine AW.iload_n dX11_coin_45 rfl ?_
        refine AW.iaload dX11_coin_46 (by repeat (first | assumption | exact hset_eq _ _ _ | refine (hset_ne _ _ (by omega)).trans ?_)) (by omega) (by omega) ?_
        refine AW.ist3 dX11_coin_47 (by decide) ?_
        refine AW.aload_n dX11_coin_48 rfl ?_
        refine AW.getf dX11_coin_49 gX11_19 (by repeat (first | assumption | exact hset_eq _ _ _ | refine (hset_ne _ _ (by omega)).trans ?_)) rfl ?_
        refine AW.getf dX11_coin_52 gX11_132 (by repeat (first | assumption | exact hset_eq _ _ _ | refine (hset_ne _ _ (by omega)).trans ?_)) rfl ?_
        refine AW.iload_n dX11_coin_55 rfl ?_
        refine AW.iload_n dX11_coin_56 rfl ?_
        refine AW.iconst dX11_coin_57 ?_
        refine AW.if_icmpne (tgt := 66) dX11_coin_58 (by decide) (fun c58 => ?_) (fun c58 => ?_)
        · refine AW.iload_n dX11_coin_66 rfl ?_
          refine AW.iastore dX11_coin_67 (by omega) (by repeat (first | assumption | exact hset_eq _ _ _ | refine (hset_ne _ _ (by omega)).trans ?_)) (by omega) (by omega) ?_
          refine AW.iload_n dX11_coin_68 rfl ?_
          refine AW.ireturn dX11_coin_69 rfl ?_
          first
            | exact hq (-1) (rf S 1) _ (by unfold o_coin; rw [if_pos (by omega)]) hC hF
            | exact hq (-4) (rf S 4) _ (by unfold o_coin; rw [if_neg (by omega), if_pos (by omega)]) hC hF
            | exact hq (-6) (rf S 6) _ (by unfold o_coin; rw [if_neg (by omega), if_neg (by omega), if_pos (by omega)]) hC hF
            | exact fin _ (by unfold cvF; rw [if_pos (by omega)]) (by omega) (by omega) (by omega) (by omega)
            | exact fin _ (by unfold cvF; rw [if_neg (by omega)]) (by omega) (by omega) (by omega) (by omega)
        · refine AW.bipush dX11_coin_61 ?_
          refine AW.goto (tgt := 67) dX11_coin_63 (by decide) ?_
          refine AW.iastore dX11_coin_67 (by omega) (by repeat (first | assumption | exact hset_eq _ _ _ | refine (hset_ne _ _ (by omega)).trans ?_)) (by omega) (by omega) ?_
          refine AW.iload_n dX11_coin_68 rfl ?_
          refine AW.ireturn dX11_coin_69 rfl ?_
          first
            | exact hq (-1) (rf S 1) _ (by unfold o_coin; rw [if_pos (by omega)]) hC hF
            | exact hq (-4) (rf S 4) _ (by unfold o_coin; rw [if_neg (by omega), if_pos (by omega)]) hC hF
            | exact hq (-6) (rf S 6) _ (by unfold o_coin; rw [if_neg (by omega), if_neg (by omega), if_pos (by omega)]) hC hF
            | exact fin _ (by unfold cvF; rw [if_pos (by omega)]) (by omega) (by omega) (by omega) (by omega)
            | exact fin _ (by unfold cvF; rw [if_neg (by omega)]) (by omega) (by omega) (by omega) (by omega)
      · refine AW.aload_n dX11_coin_31 rfl ?_
        refine AW.bipush dX11_coin_32 ?_
        refine AW.cI2 (d' := d - 1) (cX11_84 rfl) okX11_refused dX11_coin_34 (by repeat (first | assumption | exact hset_eq _ _ _ | refine (hset_ne _ _ (by omega)).trans ?_)) (by omega) (C_refused (by assumption) (by decide) (by decide) (fun h34 hC hF => ?_))
        refine AW.ireturn dX11_coin_37 rfl ?_
        first
          | exact hq (-1) (rf S 1) _ (by unfold o_coin; rw [if_pos (by omega)]) hC hF
          | exact hq (-4) (rf S 4) _ (by unfold o_coin; rw [if_neg (by omega), if_pos (by omega)]) hC hF
          | exact hq (-6) (rf S 6) _ (by unfold o_coin; rw [if_neg (by omega), if_neg (by omega), if_pos (by omega)]) hC hF
          | exact fin _ (by unfold cvF; rw [if_pos (by omega)]) (by omega) (by omega) (by omega) (by omega)
          | exact fin _ (by unfold cvF; rw [if_neg (by omega)]) (by omega) (by omega) (by omega) (by omega)
    · refine AW.aload_n dX11_coin_18 rfl ?_
      refine AW.iconst dX11_coin_19 ?_
      refine AW.cI2 (d' := d - 1) (cX11_84 rfl) okX11_refused dX11_coin_20 (by repeat (first | assumption | exact hset_eq _ _ _ | refine (hset_ne _ _ (by omega)).trans ?_)) (by omega) (C_refused (by assumption) (by decide) (by decide) (fun h20 hC hF => ?_))
      refine AW.ireturn dX11_coin_23 rfl ?_
      first
        | exact hq (-1) (rf S 1) _ (by unfold o_coin; rw [if_pos (by omega)]) hC hF
        | exact hq (-4) (rf S 4) _ (by unfold o_coin; rw [if_neg (by omega), if_pos (by omega)]) hC hF
        | exact hq (-6) (rf S 6) _ (by unfold o_coin; rw [if_neg (by omega), if_neg (by omega), if_pos (by omega)]) hC hF
        | exact fin _ (by unfold cvF; rw [if_pos (by omega)]) (by omega) (by omega) (by omega) (by omega)
        | exact fin _ (by unfold cvF; rw [if_neg (by omega)]) (by omega) (by omega) (by omega) (by omega)
end Cls6

