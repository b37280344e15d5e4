/-- all that belongs to a listener's fewest words -/
def LVok (k g : Int) (lv : Int → Prop) : Prop := (0 ≤ g ∧ g ≤ 9) ∧ (∀ x, lv x → in8 x) ∧ ∀ (n : Nat) (x : Int), RS k g lv n x → ∃ j, j ≤ 299 ∧ RS k g lv j x
section Few6
variable {d : Nat} {Q : Option AV → AH → Prop} {h : AH} {b a : Nat} {k g : Int} {lv : Int → Prop} {L lg : Nat} {kn W FD ST : Nat → Int} {cnt : Nat}
theorem FI.val (hv : LVok k g lv) (M : FI k g lv L lg W FD ST cnt) {m : Nat} (hm : m < 256) (hc : W m ≠ -9 ∨ (256 ≤ cnt ∨ 2 * lg < L ∨ 299 ≤ L)) : W m = shF k g lv (m : Int) := by
  rcases M.1.2.1 m hm with q | ⟨j, q1, q2, q3, q4⟩
  · rcases hc with y | y
    · exact absurd q y
    · rw [q, shF_none (M.done hv.1.1 hv.1.2 hv.2.1 hv.2.2 y hm q)]
  · rw [q3, shF_eq q4]
theorem L_wordsFor {x : Nat} (hv : LVok k g lv) (hb : 79 ≤ b ∧ b + 5 ≤ 116) (h9 : 120 ≤ h.1) (hS : StA h a k g) (hd : 5 ≤ d) (hx : x < 256) {a1 : Option AV}
    (hq : ∀ h', FWv h' b a kn k g lv → Fr h h' (PF b) → Q (some (.inl (shF k g lv (x : Int)))) h') :
    ∀ (r i : Nat) (h' : AH) (W FD ST : Nat → Int) (cnt L lg : Nat), L + r = 299 → i < L → FwX h' b a kn W FD ST cnt L lg → FIm k g lv L lg W FD ST cnt → Fr h h' (PF b) →
      AW d 0 0 mX3_wordsFor Q 8 [some (.inr b), a1, some (.inl (x : Int)), some (.inl (i : Int))] [] h' := by
  intro r
  induction r with
  | zero =>
    intro i h' W FD ST cnt L lg hr hiL H M F
    obtain ⟨g0, g1, g2, g3, g4⟩ := id H
    have hL := M.1.1.1
    have hlg := M.1.2.2
    have ex : ((x : Int)).toNat = x := by omega
    refine AW.iload_n dX3_wordsFor_8 rfl ?_
    refine AW.sipush dX3_wordsFor_9 ?_
    refine AW.if_icmpge (tgt := 43) dX3_wordsFor_12 (by decide) (fun c12 => absurd c12 (by omega)) (fun c12 => ?_)
    refine AW.aload_n dX3_wordsFor_15 rfl ?_
    refine AW.getf dX3_wordsFor_16 gX3_19 (by repeat (first | assumption | exact hset_eq _ _ _ | refine (hset_ne _ _ (by omega)).trans ?_)) rfl ?_
    refine AW.iload_n dX3_wordsFor_19 rfl ?_
    refine AW.iaload dX3_wordsFor_20 (by repeat (first | assumption | exact hset_eq _ _ _ | refine (hset_ne _ _ (by omega)).trans ?_)) (by omega) (by omega) ?_
    refine AW.bipush dX3_wordsFor_21 ?_
    refine AW.if_icmpne (tgt := 43) dX3_wordsFor_23 (by decide) (fun c23 => ?_) (fun c23 => ?_)
    · refine AW.aload_n dX3_wordsFor_43 rfl ?_
      refine AW.getf dX3_wordsFor_44 gX3_19 (by repeat (first | assumption | exact hset_eq _ _ _ | refine (hset_ne _ _ (by omega)).trans ?_)) rfl ?_
      refine AW.iload_n dX3_wordsFor_47 rfl ?_
      refine AW.iaload dX3_wordsFor_48 (by repeat (first | assumption | exact hset_eq _ _ _ | refine (hset_ne _ _ (by omega)).trans ?_)) (by omega) (by omega) ?_
      refine AW.ireturn dX3_wordsFor_49 rfl ?_
      rw [ex] at *
      rw [FI.val hv M.1 hx (by first | exact Or.inl (by assumption) | exact Or.inr (by assumption))]
      exact hq h' ⟨W, FD, ST, cnt, L, lg, H, M⟩ F
    · refine AW.aload_n dX3_wordsFor_26 rfl ?_
      refine AW.cI1 (d' := d - 1) (cX3_61 rfl) okX3_isComplete dX3_wordsFor_27 (by repeat (first | assumption | exact hset_eq _ _ _ | refine (hset_ne _ _ (by omega)).trans ?_)) (by omega) (W_isComplete H (by omega) (by omega) (fun cc => ?_) (fun cc => absurd (show _ from Or.inr (Or.inr (by omega))) cc))
      refine AW.ifne_t (tgt := 43) dX3_wordsFor_30 (by decide) (by decide) ?_
      refine AW.aload_n dX3_wordsFor_43 rfl ?_
      refine AW.getf dX3_wordsFor_44 gX3_19 (by repeat (first | assumption | exact hset_eq _ _ _ | refine (hset_ne _ _ (by omega)).trans ?_)) rfl ?_
      refine AW.iload_n dX3_wordsFor_47 rfl ?_
      refine AW.iaload dX3_wordsFor_48 (by repeat (first | assumption | exact hset_eq _ _ _ | refine (hset_ne _ _ (by omega)).trans ?_)) (by omega) (by omega) ?_
      refine AW.ireturn dX3_wordsFor_49 rfl ?_
      rw [ex] at *
      rw [FI.val hv M.1 hx (by first | exact Or.inl (by assumption) | exact Or.inr (by assumption))]
      exact hq h' ⟨W, FD, ST, cnt, L, lg, H, M⟩ F
  | succ r ih =>
    intro i h' W FD ST cnt L lg hr hiL H M F
    obtain ⟨g0, g1, g2, g3, g4⟩ := id H
    have hL := M.1.1.1
    have hlg := M.1.2.2
    have ex : ((x : Int)).toNat = x := by omega
    have hS' := hS.fr F (by unfold PF; omega)
    refine AW.iload_n dX3_wordsFor_8 rfl ?_
    refine AW.sipush dX3_wordsFor_9 ?_
    refine AW.if_icmpge (tgt := 43) dX3_wordsFor_12 (by decide) (fun c12 => absurd c12 (by omega)) (fun c12 => ?_)
    refine AW.aload_n dX3_wordsFor_15 rfl ?_
    refine AW.getf dX3_wordsFor_16 gX3_19 (by repeat (first | assumption | exact hset_eq _ _ _ | refine (hset_ne _ _ (by omega)).trans ?_)) rfl ?_
    refine AW.iload_n dX3_wordsFor_19 rfl ?_
    refine AW.iaload dX3_wordsFor_20 (by repeat (first | assumption | exact hset_eq _ _ _ | refine (hset_ne _ _ (by omega)).trans ?_)) (by omega) (by omega) ?_
    refine AW.bipush dX3_wordsFor_21 ?_
    refine AW.if_icmpne (tgt := 43) dX3_wordsFor_23 (by decide) (fun c23 => ?_) (fun c23 => ?_)
    · refine AW.aload_n dX3_wordsFor_43 rfl ?_
      refine AW.getf dX3_wordsFor_44 gX3_19 (by repeat (first | assumption | exact hset_eq _ _ _ | refine (hset_ne _ _ (by omega)).trans ?_)) rfl ?_
      refine AW.iload_n dX3_wordsFor_47 rfl ?_
      refine AW.iaload dX3_wordsFor_48 (by repeat (first | assumption | exact hset_eq _ _ _ | refine (hset_ne _ _ (by omega)).trans ?_)) (by omega) (by omega) ?_
      refine AW.ireturn dX3_wordsFor_49 rfl ?_
      rw [ex] at *
      rw [FI.val hv M.1 hx (by first | exact Or.inl (by assumption) | exact Or.inr (by assumption))]
      exact hq h' ⟨W, FD, ST, cnt, L, lg, H, M⟩ F
    · refine AW.aload_n dX3_wordsFor_26 rfl ?_
      refine AW.cI1 (d' := d - 1) (cX3_61 rfl) okX3_isComplete dX3_wordsFor_27 (by repeat (first | assumption | exact hset_eq _ _ _ | refine (hset_ne _ _ (by omega)).trans ?_)) (by omega) (W_isComplete H (by omega) (by omega) (fun cc => ?_) (fun cc => ?_))
      · refine AW.ifne_t (tgt := 43) dX3_wordsFor_30 (by decide) (by decide) ?_
        refine AW.aload_n dX3_wordsFor_43 rfl ?_
        refine AW.getf dX3_wordsFor_44 gX3_19 (by repeat (first | assumption | exact hset_eq _ _ _ | refine (hset_ne _ _ (by omega)).trans ?_)) rfl ?_
        refine AW.iload_n dX3_wordsFor_47 rfl ?_
        refine AW.iaload dX3_wordsFor_48 (by repeat (first | assumption | exact hset_eq _ _ _ | refine (hset_ne _ _ (by omega)).trans ?_)) (by omega) (by omega) ?_
        refine AW.ireturn dX3_wordsFor_49 rfl ?_
        rw [ex] at *
        rw [FI.val hv M.1 hx (by first | exact Or.inl (by assumption) | exact Or.inr (by assumption))]
        exact hq h' ⟨W, FD, ST, cnt, L, lg, H, M⟩ F
      · refine AW.ifne_f (tgt := 43) dX3_wordsFor_30 (by decide) rfl ?_
        refine AW.aload_n dX3_wordsFor_33 rfl ?_
        refine AW.cI1 (d' := d - 1) (cX3_65 rfl) okX3_lookAtNextLength dX3_wordsFor_34 (by repeat (first | assumption | exact hset_eq _ _ _ | refine (hset_ne _ _ (by omega)).trans ?_)) (by omega) (W_look hv.1.1 hv.1.2 hv.2.1 hb (Nat.le_trans h9 F.1) hS' (by omega) H M (by omega) (fun h2 W2 FD2 ST2 c2 lg2 H2 M2 F2 => ?_))
        refine AW.inc3 dX3_wordsFor_37 (by decide) (by unfold RI; omega) ?_
        refine AW.goto (tgt := 8) dX3_wordsFor_40 (by decide) ?_
        exact ih (i + 1) h2 W2 FD2 ST2 c2 (L + 1) lg2 (by omega) (by omega) H2 M2 (F.trans F2)
theorem W_wordsFor {x : Nat} (hv : LVok k g lv) (hb : 79 ≤ b ∧ b + 5 ≤ 116) (h9 : 120 ≤ h.1) (hS : StA h a k g) (hd : 5 ≤ d) (hx : x < 256) (H : FWv h b a kn k g lv)
    (hq : ∀ h', FWv h' b a kn k g lv → Fr h h' (PF b) → Q (some (.inl (shF k g lv (x : Int)))) h') : MW d 0 0 mX3_wordsFor [.inr b, .inl (x : Int)] h Q := by
  obtain ⟨W, FD, ST, cnt, L, lg, H, M⟩ := H
  have h255 := and_255 (in8_nat hx)
  have hL := M.1.1.1
  show AW d 0 0 mX3_wordsFor Q 0 [some (.inr b), some (.inl (x : Int)), none, none] [] h
  refine AW.iload_n dX3_wordsFor_0 rfl ?_
  refine AW.sipush dX3_wordsFor_1 ?_
  refine AW.iand dX3_wordsFor_4 ?_
  rw [h255]
  refine AW.ist2 dX3_wordsFor_5 (by decide) ?_
  refine AW.iconst dX3_wordsFor_6 ?_
  refine AW.ist3 dX3_wordsFor_7 (by decide) ?_
  exact L_wordsFor hv hb h9 hS hd hx hq (299 - L) 0 h W FD ST cnt L lg (by omega) (by omega) H M Fr.rfl'
theorem L_farA (hv : LVok k g lv) (hb : 79 ≤ b ∧ b + 5 ≤ 116) (h9 : 120 ≤ h.1) (hS : StA h a k g) (hd : 5 ≤ d)
    (hq : ∀ h' W FD ST cnt L lg z, FwX h' b a kn W FD ST cnt L lg → FIm k g lv L lg W FD ST cnt → (∀ m : Nat, m < 256 → W m = shF k g lv (m : Int)) → Fr h h' (PF b) → AW d 0 0 mX3_farthestMeaning Q 26 [some (.inr b), z, none] [] h') :
    ∀ (r i : Nat) (h' : AH) (W FD ST : Nat → Int) (cnt L lg : Nat), L + r = 299 → i < L → FwX h' b a kn W FD ST cnt L lg → FIm k g lv L lg W FD ST cnt → Fr h h' (PF b) →
      AW d 0 0 mX3_farthestMeaning Q 2 [some (.inr b), some (.inl (i : Int)), none] [] h' := by
  intro r
  induction r with
  | zero =>
    intro i h' W FD ST cnt L lg hr hiL H M F
    obtain ⟨g0, g1, g2, g3, g4⟩ := id H
    have hL := M.1.1.1
    have hlg := M.1.2.2
    refine AW.iload_n dX3_farthestMeaning_2 rfl ?_
    refine AW.sipush dX3_farthestMeaning_3 ?_
    refine AW.if_icmpge (tgt := 26) dX3_farthestMeaning_6 (by decide) (fun c6 => absurd c6 (by omega)) (fun c6 => ?_)
    refine AW.aload_n dX3_farthestMeaning_9 rfl ?_
    refine AW.cI1 (d' := d - 1) (cX3_61 rfl) okX3_isComplete dX3_farthestMeaning_10 (by repeat (first | assumption | exact hset_eq _ _ _ | refine (hset_ne _ _ (by omega)).trans ?_)) (by omega) (W_isComplete H (by omega) (by omega) (fun cc => ?_) (fun cc => absurd (show _ from Or.inr (Or.inr (by omega))) cc))
    refine AW.ifne_t (tgt := 26) dX3_farthestMeaning_13 (by decide) (by decide) ?_
    exact hq h' W FD ST cnt L lg _ H M (fun m hm => FI.val hv M.1 hm (Or.inr cc)) F
  | succ r ih =>
    intro i h' W FD ST cnt L lg hr hiL H M F
    obtain ⟨g0, g1, g2, g3, g4⟩ := id H
    have hL := M.1.1.1
    have hlg := M.1.2.2
    have hS' := hS.fr F (by unfold PF; omega)
    refine AW.iload_n dX3_farthestMeaning_2 rfl ?_
    refine AW.sipush dX3_farthestMeaning_3 ?_
    refine AW.if_icmpge (tgt := 26) dX3_farthestMeaning_6 (by decide) (fun c6 => absurd c6 (by omega)) (fun c6 => ?_)
    refine AW.aload_n dX3_farthestMeaning_9 rfl ?_
    refine AW.cI1 (d' := d - 1) (cX3_61 rfl) okX3_isComplete dX3_farthestMeaning_10 (by repeat (first | assumption | exact hset_eq _ _ _ | refine (hset_ne _ _ (by omega)).trans ?_)) (by omega) (W_isComplete H (by omega) (by omega) (fun cc => ?_) (fun cc => ?_))
    · refine AW.ifne_t (tgt := 26) dX3_farthestMeaning_13 (by decide) (by decide) ?_
      exact hq h' W FD ST cnt L lg _ H M (fun m hm => FI.val hv M.1 hm (Or.inr cc)) F
    · refine AW.ifne_f (tgt := 26) dX3_farthestMeaning_13 (by decide) rfl ?_
      refine AW.aload_n dX3_farthestMeaning_16 rfl ?_
      refine AW.cI1 (d' := d - 1) (cX3_65 rfl) okX3_lookAtNextLength dX3_farthestMeaning_17 (by repeat (first | assumption | exact hset_eq _ _ _ | refine (hset_ne _ _ (by omega)).trans ?_)) (by omega) (W_look hv.1.1 hv.1.2 hv.2.1 hb (Nat.le_trans h9 F.1) hS' (by omega) H M (by omega) (fun h2 W2 FD2 ST2 c2 lg2 H2 M2 F2 => ?_))
      refine AW.inc1 dX3_farthestMeaning_20 (by decide) (by unfold RI; omega) ?_
      refine AW.goto (tgt := 2) dX3_farthestMeaning_23 (by decide) ?_
      exact ih (i + 1) h2 W2 FD2 ST2 c2 (L + 1) lg2 (by omega) (by omega) H2 M2 (F.trans F2)
theorem frF_spec (f : Nat → Int) : ∀ (n b : Nat), 0 ≤ f b → 0 ≤ f (frF f n b) ∧ f b ≤ f (frF f n b) ∧ (∀ i, i < n → 0 ≤ f i → f i ≤ f (frF f n b)) ∧ (frF f n b = b ∨ frF f n b < n) ∧ ∀ i, i < n → i < frF f n b → 0 ≤ f i → f i < f (frF f n b) := by
  intro n
  induction n with
  | zero => intro b hb; exact ⟨hb, Int.le_refl _, fun i hi => by omega, Or.inl rfl, fun i hi => by omega⟩
  | succ n ih =>
    intro b hb
    by_cases q : 0 ≤ f n ∧ f b ≤ f n
    · have e : frF f (n + 1) b = frF f n n := by rw [frF, if_pos q]
      rw [e]
      obtain ⟨h1, h2, h3, h4, h5⟩ := ih n q.1
      refine ⟨h1, Int.le_trans q.2 h2, fun i hi h0 => ?_, Or.inr (by omega), fun i hi hr h0 => ?_⟩
      · by_cases z : i = n
        · rw [z]; exact h2
        · exact h3 i (by omega) h0
      · exact h5 i (by omega) hr h0
    · have e : frF f (n + 1) b = frF f n b := by rw [frF, if_neg q]
      rw [e]
      obtain ⟨h1, h2, h3, h4, h5⟩ := ih b hb
      refine ⟨h1, h2, fun i hi h0 => ?_, by omega, fun i hi hr h0 => ?_⟩
      · by_cases z : i = n
        · rw [z] at h0 ⊢; omega
        · exact h3 i (by omega) h0
      · by_cases z : i = n
        · rw [z] at h0 ⊢; omega
        · exact h5 i (by omega) hr h0
/-- the first of the highest is the same, from whichever end one looks -/
theorem far_eq {f : Nat → Int} {r : Nat} (h170 : 0 ≤ f 170) (hr : r < 256) (h1 : ∀ i, i < 256 → f i ≤ f r) (h2 : ∀ i, i < r → f i < f r) : frF f 256 170 = r := by
  obtain ⟨k1, k2, k3, k4, k5⟩ := frF_spec f 256 170 h170
  have hlt : frF f 256 170 < 256 := by omega
  have e1 := h1 _ hlt
  have e2 := k3 r hr (Int.le_trans h170 (h1 170 (by decide)))
  rcases Nat.lt_trichotomy (frF f 256 170) r with q | q | q
  · have := h2 _ q; omega
  · exact q
  · have := k5 r hr q (by omega); omega
theorem L_farB {r0 : Nat} (H : FwX h b a kn W FD ST cnt L lg) (hq : ∀ r : Nat, r < 256 → (∀ i, i < 256 → W i ≤ W r) → (∀ i, i < r → W i < W r) → Q (some (.inl (r : Int))) h) :
    ∀ (n j r : Nat), j + n = 256 → r < j → (∀ i, i < j → W i ≤ W r) → (∀ i, i < r → W i < W r) → AW d 0 0 mX3_farthestMeaning Q 30 [some (.inr b), some (.inl (r : Int)), some (.inl (j : Int))] [] h := by
  obtain ⟨g0, g1, g2, g3, g4⟩ := id H
  intro n
  induction n with
  | zero =>
    intro j r hj hr h1 h2
    refine AW.iload_n dX3_farthestMeaning_30 rfl ?_
    refine AW.sipush dX3_farthestMeaning_31 ?_
    refine AW.if_icmpge (tgt := 64) dX3_farthestMeaning_34 (by decide) (fun c34 => ?_) (fun c34 => absurd c34 (by omega))
    refine AW.iload_n dX3_farthestMeaning_64 rfl ?_
    refine AW.ireturn dX3_farthestMeaning_65 rfl ?_
    exact hq r (by omega) (fun i hi => h1 i (by omega)) h2
  | succ n ih =>
    intro j r hj hr h1 h2
    have ej : ((j : Int)).toNat = j := by omega
    have er : ((r : Int)).toNat = r := by omega
    refine AW.iload_n dX3_farthestMeaning_30 rfl ?_
    refine AW.sipush dX3_farthestMeaning_31 ?_
    refine AW.if_icmpge (tgt := 64) dX3_farthestMeaning_34 (by decide) (fun c34 => absurd c34 (by omega)) (fun c34 => ?_)
    refine AW.aload_n dX3_farthestMeaning_37 rfl ?_
    refine AW.getf dX3_farthestMeaning_38 gX3_19 (by repeat (first | assumption | exact hset_eq _ _ _ | refine (hset_ne _ _ (by omega)).trans ?_)) rfl ?_
    refine AW.iload_n dX3_farthestMeaning_41 rfl ?_
    refine AW.iaload dX3_farthestMeaning_42 (by repeat (first | assumption | exact hset_eq _ _ _ | refine (hset_ne _ _ (by omega)).trans ?_)) (by omega) (by omega) ?_
    refine AW.aload_n dX3_farthestMeaning_43 rfl ?_
    refine AW.getf dX3_farthestMeaning_44 gX3_19 (by repeat (first | assumption | exact hset_eq _ _ _ | refine (hset_ne _ _ (by omega)).trans ?_)) rfl ?_
    refine AW.iload_n dX3_farthestMeaning_47 rfl ?_
    refine AW.iaload dX3_farthestMeaning_48 (by repeat (first | assumption | exact hset_eq _ _ _ | refine (hset_ne _ _ (by omega)).trans ?_)) (by omega) (by omega) ?_
    refine AW.if_icmple (tgt := 56) dX3_farthestMeaning_49 (by decide) (fun c49 => ?_) (fun c49 => ?_)
    · refine AW.iload_n dX3_farthestMeaning_56 rfl ?_
      refine AW.ist1 dX3_farthestMeaning_57 (by decide) ?_
      refine AW.inc2 dX3_farthestMeaning_58 (by decide) (by unfold RI; omega) ?_
      refine AW.goto (tgt := 30) dX3_farthestMeaning_61 (by decide) ?_
      rw [ej, er] at *
      first
        | exact ih (j + 1) r (by omega) (by omega) (fun i hi => by
            by_cases z : i = j
            · rw [z]; omega
            · exact h1 i (by omega)) h2
        | exact ih (j + 1) j (by omega) (by omega) (fun i hi => by
            by_cases z : i = j
            · rw [z]; exact Int.le_refl _
            · have := h1 i (by omega); omega) (fun i hi => by have := h1 i (by omega); omega)
    · refine AW.iload_n dX3_farthestMeaning_52 rfl ?_
      refine AW.goto (tgt := 57) dX3_farthestMeaning_53 (by decide) ?_
      refine AW.ist1 dX3_farthestMeaning_57 (by decide) ?_
      refine AW.inc2 dX3_farthestMeaning_58 (by decide) (by unfold RI; omega) ?_
      refine AW.goto (tgt := 30) dX3_farthestMeaning_61 (by decide) ?_
      rw [ej, er] at *
      first
        | exact ih (j + 1) r (by omega) (by omega) (fun i hi => by
            by_cases z : i = j
            · rw [z]; omega
            · exact h1 i (by omega)) h2
        | exact ih (j + 1) j (by omega) (by omega) (fun i hi => by
            by_cases z : i = j
            · rw [z]; exact Int.le_refl _
            · have := h1 i (by omega); omega) (fun i hi => by have := h1 i (by omega); omega)
theorem W_farthest0 (hv : LVok k g lv) (h170 : lv 170) (hb : 79 ≤ b ∧ b + 5 ≤ 116) (h9 : 120 ≤ h.1) (hS : StA h a k g) (hd : 5 ≤ d) (H : FWv h b a kn k g lv)
    (hq : ∀ h', FWv h' b a kn k g lv → Fr h h' (PF b) → Q (some (.inl (frF (fun j => shF k g lv (j : Int)) 256 170 : Int))) h') : MW d 0 0 mX3_farthestMeaning [.inr b] h Q := by
  obtain ⟨W, FD, ST, cnt, L, lg, H, M⟩ := H
  have hL := M.1.1.1
  show AW d 0 0 mX3_farthestMeaning Q 0 [some (.inr b), none, none] [] h
  refine AW.iconst dX3_farthestMeaning_0 ?_
  refine AW.ist1 dX3_farthestMeaning_1 (by decide) ?_
  refine L_farA hv hb h9 hS hd (fun h2 W2 FD2 ST2 c2 L2 lg2 z H2 M2 e2 F2 => ?_) (299 - L) 0 h W FD ST cnt L lg (by omega) (by omega) H M Fr.rfl'
  have h1 : shF k g lv 170 = ((1 : Nat) : Int) := shF_eq ⟨RS.leaf h170, fun j hj q => by have := q.pos; omega⟩
  refine AW.iconst dX3_farthestMeaning_26 ?_
  refine AW.ist1 dX3_farthestMeaning_27 (by decide) ?_
  refine AW.iconst dX3_farthestMeaning_28 ?_
  refine AW.ist2 dX3_farthestMeaning_29 (by decide) ?_
  refine L_farB (r0 := 0) H2 (fun r hr q1 q2 => ?_) 255 1 0 (by omega) (by omega) (fun i hi => by rw [show i = 0 by omega]; exact Int.le_refl _) (fun i hi => by omega)
  have e := far_eq (f := fun j => shF k g lv (j : Int)) (r := r) (by show 0 ≤ shF k g lv 170; omega) hr (fun i hi => by show shF k g lv (i : Int) ≤ shF k g lv (r : Int); rw [← e2 i hi, ← e2 r hr]; exact q1 i hi) (fun i hi => by show shF k g lv (i : Int) < shF k g lv (r : Int); rw [← e2 i (by omega), ← e2 r hr]; exact q2 i hi)
  rw [← e]
  exact hq h2 ⟨W2, FD2, ST2, c2, L2, lg2, H2, M2⟩ F2
end Few6

