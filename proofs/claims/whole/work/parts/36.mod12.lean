section Mod12
variable {d : Nat} {Q : Option AV → AH → Prop} {h h0 : AH} {m : Nat → Int} {A : Nat → Nat → Int} {who x y z v : Int} {S : ST} {s : SC}
theorem W_lowers (hM : MR h0 h m A) (hx0 : 0 ≤ x) (hx1 : x ≤ 255) (hq0 : A 133 x.toNat ≤ v → Q none h) (hq1 : v < A 133 x.toNat → ∀ h', MR h0 h' (updI m 26 1) (updA A 133 (updI (A 133) x.toNat v)) → Q none h') : MW d 0 0 mX12_lowers [.inr 116, .inl x, .inl v] h Q := by
  obtain ⟨g116, -, -, -, -, -, -, -, -, -, -, -, -, -, -, -, -, g133, -⟩ := id hM
  show AW d 0 0 mX12_lowers Q 0 [some (.inr 116), some (.inl x), some (.inl v)] [] h
  refine AW.iload_n dX12_lowers_0 rfl ?_
  refine AW.aload_n dX12_lowers_1 rfl ?_
  refine AW.getf dX12_lowers_2 gX12_58 (by repeat (first | assumption | exact hset_eq _ _ _ | refine (hset_ne _ _ (by omega)).trans ?_)) rfl ?_
  refine AW.iload_n dX12_lowers_5 rfl ?_
  refine AW.iaload dX12_lowers_6 (by repeat (first | assumption | exact hset_eq _ _ _ | refine (hset_ne _ _ (by omega)).trans ?_)) (by omega) (by omega) ?_
  refine AW.if_icmplt (tgt := 11) dX12_lowers_7 (by decide) (fun c7 => ?_) (fun c7 => ?_)
  · refine AW.aload_n dX12_lowers_11 rfl ?_
    refine AW.getf dX12_lowers_12 gX12_58 (by repeat (first | assumption | exact hset_eq _ _ _ | refine (hset_ne _ _ (by omega)).trans ?_)) rfl ?_
    refine AW.iload_n dX12_lowers_15 rfl ?_
    refine AW.iload_n dX12_lowers_16 rfl ?_
    refine AW.iastore dX12_lowers_17 (by omega) (by repeat (first | assumption | exact hset_eq _ _ _ | refine (hset_ne _ _ (by omega)).trans ?_)) (by omega) (by omega) ?_
    refine AW.aload_n dX12_lowers_18 rfl ?_
    refine AW.iconst dX12_lowers_19 ?_
    refine AW.putf dX12_lowers_20 pX12_204 (by repeat (first | assumption | exact hset_eq _ _ _ | refine (hset_ne _ _ (by omega)).trans ?_)) (Or.inr rfl) ?_
    refine AW.vreturn dX12_lowers_23 rfl ?_
    first | exact hq1 (by omega) _ (MR.p rfl (MR.s133 hM)) | exact hq0 (by omega)
  · refine AW.vreturn dX12_lowers_10 rfl ?_
    first | exact hq1 (by omega) _ (MR.p rfl (MR.s133 hM)) | exact hq0 (by omega)
/-- within a pass: costs c, from c0 on; fl: something is less now -/
def PI (k g : Int) (lv : Int → Prop) (c0 c : Nat → Int) (fl : Int) : Prop := (∀ j, j < 256 → 1 ≤ c j ∧ c j ≤ c0 j ∧ c0 j ≤ 1000) ∧ (∀ j, j < 256 → c j < 1000 → RS k g lv (c j).toNat (j : Int)) ∧ ((fl = 0 ∧ ∀ j, j < 256 → c j = c0 j) ∨ (fl = 1 ∧ ∃ j, j < 256 ∧ c j < c0 j))
def CN (k g : Int) (c : Nat → Int) (x : Nat) : Prop := c x < 1000 → c (notF k g (x : Int)).toNat ≤ c x + 1
def CA (k g : Int) (c : Nat → Int) (x y : Nat) : Prop := c x < 1000 → c y < 1000 → c (andF k (x : Int) (y : Int)).toNat ≤ c x + c y + 1 ∧ c (orF k g (x : Int) (y : Int)).toNat ≤ c x + c y + 1
theorem PI.low {k g : Int} {lv : Int → Prop} {c0 c : Nat → Int} {fl : Int} (h : PI k g lv c0 c fl) {j : Nat} (hj : j < 256) {v : Int} (hv : v < c j) (hv1 : 1 ≤ v) (hr : RS k g lv v.toNat (j : Int)) : PI k g lv c0 (updI c j v) 1 := by
  obtain ⟨h1, h2, h3⟩ := h
  have hj1 := h1 j hj
  refine ⟨fun i hi => ?_, fun i hi => ?_, Or.inr ⟨rfl, j, hj, by rw [updI_eq]; omega⟩⟩
  · unfold updI
    split
    · rename_i e; subst e; omega
    · exact h1 i hi
  · unfold updI
    split
    · rename_i e; subst e; exact fun _ => hr
    · exact h2 i hi
theorem PI.fl {k g : Int} {lv : Int → Prop} {c0 c : Nat → Int} {fl : Int} (h : PI k g lv c0 c fl) (hf : fl = 0) : ∀ j, j < 256 → c j = c0 j := by
  rcases h.2.2 with q | q
  · exact q.2
  · exact absurd hf (by rw [q.1]; decide)
def T2 (m m' : Nat → Int) (A A' : Nat → Nat → Int) : Prop := (∀ k, k ≠ 26 → m' k = m k) ∧ ∀ k, k ≠ 133 → A' k = A k
theorem T2.up {m' : Nat → Int} {A' : Nat → Nat → Int} (h : T2 m m' A A') (a : Int) (f : Nat → Int) : T2 m (updI m' 26 a) A (updA A' 133 f) := ⟨fun k hk => by rw [updI_ne _ _ hk]; exact h.1 k hk, fun k hk => by rw [updA_ne _ _ hk]; exact h.2 k hk⟩
theorem T2.kk {m' : Nat → Int} {A' : Nat → Nat → Int} (h : T2 m m' A A') (who : Int) : kkM A' who = kkM A who ∧ ggM A' who = ggM A who ∧ lbM A' who = lbM A who := by
  have e1 := h.2 118 (by decide)
  have e2 := h.2 119 (by decide)
  have e3 := h.2 120 (by decide)
  exact ⟨by simp only [kkM, e1], by simp only [ggM, e2], by simp only [lbM, e3]⟩
/-- one lowering within a pass -/
theorem W_low1 {k g : Int} {lv : Int → Prop} {c0 : Nat → Int} {m' : Nat → Int} {A' : Nat → Nat → Int} (hM : MR h0 h m' A') (hT : T2 m m' A A') (hP : PI k g lv c0 (A' 133) (m' 26)) (hx : in8 x) (hv1 : 1 ≤ v) (hr : RS k g lv v.toNat x)
    (hq : ∀ h' m2 A2, MR h0 h' m2 A2 → T2 m m2 A A2 → PI k g lv c0 (A2 133) (m2 26) → (∀ j, j < 256 → A2 133 j ≤ A' 133 j) → (m2 26 = 0 → m' 26 = 0 ∧ A' 133 x.toNat ≤ v) → Q none h') : MW d 0 0 mX12_lowers [.inr 116, .inl x, .inl v] h Q := by
  obtain ⟨hx0, hx1⟩ := id hx
  refine W_lowers hM hx0 hx1 (fun hc => hq h m' A' hM hT hP (fun _ _ => Int.le_refl _) (fun hf => ⟨hf, hc⟩)) (fun hc h' hM' => hq h' _ _ hM' (hT.up _ _) ?_ (fun j hj => ?_) (fun hf => absurd hf (by rw [updI_eq]; decide)))
  · rw [updA_eq, updI_eq]
    exact hP.low (by omega) hc hv1 (by rw [show ((x.toNat : Nat) : Int) = x by omega]; exact hr)
  · rw [updA_eq]
    unfold updI
    split
    · rename_i e; subst e; omega
    · exact Int.le_refl _
section Pass
variable {k g : Int} {lv : Int → Prop} {c0 : Nat → Int}
set_option maxHeartbeats 2000000 in
theorem L_goes2 (hd : 3 ≤ d) (hw : who < 6) (hg0 : 0 ≤ g) (hg9 : g ≤ 9) (hk : kkM A who = k) (hg : ggM A who = g) {X : Nat} (hX : X < 256)
    (hq : ∀ h' m' A' z, MR h0 h' m' A' → T2 m m' A A' → PI k g lv c0 (A' 133) (m' 26) → (m' 26 = 0 → (∀ x, x < X → CN k g c0 x ∧ ∀ y, y < 256 → CA k g c0 x y) ∧ CN k g c0 X ∧ ∀ y, y < 256 → CA k g c0 X y) → AW d 0 0 mX12_goesOn Q 124 [some (.inr 116), some (.inl who), some (.inl (X : Int)), z] [] h') :
    ∀ (r Y : Nat) (h : AH) (m' : Nat → Int) (A' : Nat → Nat → Int), Y + r = 256 → MR h0 h m' A' → T2 m m' A A' → PI k g lv c0 (A' 133) (m' 26) → A' 133 X < 1000 → (m' 26 = 0 → (∀ x, x < X → CN k g c0 x ∧ ∀ y, y < 256 → CA k g c0 x y) ∧ CN k g c0 X ∧ ∀ y, y < Y → CA k g c0 X y) →
      AW d 0 0 mX12_goesOn Q 44 [some (.inr 116), some (.inl who), some (.inl (X : Int)), some (.inl (Y : Int))] [] h := by
  have hX8 : in8 (X : Int) := in8_nat hX
  have nX : ((X : Int)).toNat = X := by omega
  intro r
  induction r with
  | zero =>
    intro Y h m' A' hY hM hT hP hX1 hC
    have hY2 : Y = 256 := by omega
    subst hY2
    refine AW.iload_n dX12_goesOn_44 rfl ?_
    refine AW.sipush dX12_goesOn_45 ?_
    refine AW.if_icmpge (tgt := 124) dX12_goesOn_48 (by decide) (fun c48 => ?_) (fun c48 => absurd c48 (by decide))
    exact hq h m' A' _ hM hT hP hC
  | succ r ih =>
    intro Y h m' A' hY hM hT hP hX1 hC
    obtain ⟨g116, -, -, -, -, -, -, -, -, -, -, -, -, -, -, -, -, g133, -⟩ := id hM
    have hY8 : in8 (Y : Int) := in8_nat (by omega)
    have nY : ((Y : Int)).toNat = Y := by omega
    obtain ⟨ek, eg, -⟩ := hT.kk who
    have bX := hP.1 X hX
    have bY := hP.1 Y (by omega)
    refine AW.iload_n dX12_goesOn_44 rfl ?_
    refine AW.sipush dX12_goesOn_45 ?_
    refine AW.if_icmpge (tgt := 124) dX12_goesOn_48 (by decide) (fun c48 => absurd c48 (by omega)) (fun c48 => ?_)
    refine AW.aload_n dX12_goesOn_51 rfl ?_
    refine AW.getf dX12_goesOn_52 gX12_58 (by repeat (first | assumption | exact hset_eq _ _ _ | refine (hset_ne _ _ (by omega)).trans ?_)) rfl ?_
    refine AW.iload_n dX12_goesOn_55 rfl ?_
    refine AW.iaload dX12_goesOn_56 (by repeat (first | assumption | exact hset_eq _ _ _ | refine (hset_ne _ _ (by omega)).trans ?_)) (by omega) (by omega) ?_
    refine AW.sipush dX12_goesOn_57 ?_
    refine AW.if_icmpne (tgt := 66) dX12_goesOn_60 (by decide) (fun c60 => ?_) (fun c60 => ?_)
    · rw [nY] at c60
      have rX := hP.2.1 X hX hX1
      have rY := hP.2.1 Y (by omega) (by omega)
      have e1 : (A' 133 X + A' 133 Y + 1).toNat = (A' 133 X).toNat + (A' 133 Y).toNat + 1 := by omega
      refine AW.aload_n dX12_goesOn_66 rfl ?_
      refine AW.aload_n dX12_goesOn_67 rfl ?_
      refine AW.iload_n dX12_goesOn_68 rfl ?_
      refine AW.iload_n dX12_goesOn_69 rfl ?_
      refine AW.iload_n dX12_goesOn_70 rfl ?_
      refine AW.cI4 (d' := d - 1) (cX12_177 rfl) okX12_andOf dX12_goesOn_71 (by repeat (first | assumption | exact hset_eq _ _ _ | refine (hset_ne _ _ (by omega)).trans ?_)) (by omega) (W_andOf (by assumption) (by omega) (by omega) ?_)
      refine AW.aload_n dX12_goesOn_74 rfl ?_
      refine AW.getf dX12_goesOn_75 gX12_58 (by repeat (first | assumption | exact hset_eq _ _ _ | refine (hset_ne _ _ (by omega)).trans ?_)) rfl ?_
      refine AW.iload_n dX12_goesOn_78 rfl ?_
      refine AW.iaload dX12_goesOn_79 (by repeat (first | assumption | exact hset_eq _ _ _ | refine (hset_ne _ _ (by omega)).trans ?_)) (by omega) (by omega) ?_
      refine AW.aload_n dX12_goesOn_80 rfl ?_
      refine AW.getf dX12_goesOn_81 gX12_58 (by repeat (first | assumption | exact hset_eq _ _ _ | refine (hset_ne _ _ (by omega)).trans ?_)) rfl ?_
      refine AW.iload_n dX12_goesOn_84 rfl ?_
      refine AW.iaload dX12_goesOn_85 (by repeat (first | assumption | exact hset_eq _ _ _ | refine (hset_ne _ _ (by omega)).trans ?_)) (by omega) (by omega) ?_
      refine AW.iaddR dX12_goesOn_86 (by rw [nX, nY]; unfold RI; omega) ?_
      refine AW.iconst dX12_goesOn_87 ?_
      refine AW.iaddR dX12_goesOn_88 (by rw [nX, nY]; unfold RI; omega) ?_
      rw [nX, nY, ek, hk]
      refine AW.cI3 (d' := d - 1) (cX12_207 rfl) okX12_lowers dX12_goesOn_89 (by repeat (first | assumption | exact hset_eq _ _ _ | refine (hset_ne _ _ (by omega)).trans ?_)) (by omega) (W_low1 (k := k) (g := g) (lv := lv) (c0 := c0) hM hT hP (in8_andF hX8) (by omega) (by rw [e1]; exact rX.and rY) (fun h1 m1 A1 hM1 hT1 hP1 le1 z1 => ?_))
      obtain ⟨k116, -, -, -, -, -, -, -, -, -, -, -, -, -, -, -, -, k133, -⟩ := id hM1
      obtain ⟨ek1, eg1, -⟩ := hT1.kk who
      have bX1 := hP1.1 X hX
      have bY1 := hP1.1 Y (by omega)
      have lX1 := le1 X hX
      have lY1 := le1 Y (by omega)
      have rX1 := hP1.2.1 X hX (by omega)
      have rY1 := hP1.2.1 Y (by omega) (by omega)
      have e2 : (A1 133 X + A1 133 Y + 1).toNat = (A1 133 X).toNat + (A1 133 Y).toNat + 1 := by omega
      refine AW.aload_n dX12_goesOn_92 rfl ?_
      refine AW.aload_n dX12_goesOn_93 rfl ?_
      refine AW.iload_n dX12_goesOn_94 rfl ?_
      refine AW.iload_n dX12_goesOn_95 rfl ?_
      refine AW.iload_n dX12_goesOn_96 rfl ?_
      refine AW.cI4 (d' := d - 1) (cX12_180 rfl) okX12_orOf dX12_goesOn_97 (by repeat (first | assumption | exact hset_eq _ _ _ | refine (hset_ne _ _ (by omega)).trans ?_)) (by omega) (W_orOf (by assumption) (by omega) (by omega) ?_)
      refine AW.aload_n dX12_goesOn_100 rfl ?_
      refine AW.getf dX12_goesOn_101 gX12_58 (by repeat (first | assumption | exact hset_eq _ _ _ | refine (hset_ne _ _ (by omega)).trans ?_)) rfl ?_
      refine AW.iload_n dX12_goesOn_104 rfl ?_
      refine AW.iaload dX12_goesOn_105 (by repeat (first | assumption | exact hset_eq _ _ _ | refine (hset_ne _ _ (by omega)).trans ?_)) (by omega) (by omega) ?_
      refine AW.aload_n dX12_goesOn_106 rfl ?_
      refine AW.getf dX12_goesOn_107 gX12_58 (by repeat (first | assumption | exact hset_eq _ _ _ | refine (hset_ne _ _ (by omega)).trans ?_)) rfl ?_
      refine AW.iload_n dX12_goesOn_110 rfl ?_
      refine AW.iaload dX12_goesOn_111 (by repeat (first | assumption | exact hset_eq _ _ _ | refine (hset_ne _ _ (by omega)).trans ?_)) (by omega) (by omega) ?_
      refine AW.iaddR dX12_goesOn_112 (by rw [nX, nY]; unfold RI; omega) ?_
      refine AW.iconst dX12_goesOn_113 ?_
      refine AW.iaddR dX12_goesOn_114 (by rw [nX, nY]; unfold RI; omega) ?_
      rw [nX, nY, ek1, hk, eg1, hg]
      refine AW.cI3 (d' := d - 1) (cX12_207 rfl) okX12_lowers dX12_goesOn_115 (by repeat (first | assumption | exact hset_eq _ _ _ | refine (hset_ne _ _ (by omega)).trans ?_)) (by omega) (W_low1 (k := k) (g := g) (lv := lv) (c0 := c0) hM1 hT1 hP1 (in8_orF hg0 hg9 hX8 hY8) (by omega) (by rw [e2]; exact rX1.or rY1) (fun h2 m2 A2 hM2 hT2 hP2 le2 z2 => ?_))
      refine AW.inc3 dX12_goesOn_118 (by decide) (by unfold RI; omega) ?_
      refine AW.goto (tgt := 44) dX12_goesOn_121 (by decide) ?_
      refine ih (Y + 1) h2 m2 A2 (by omega) hM2 hT2 hP2 (by have := le2 X hX; omega) (fun hf => ?_)
      obtain ⟨f1, w1⟩ := z2 hf
      obtain ⟨f0, w0⟩ := z1 f1
      refine ⟨(hC f0).1, (hC f0).2.1, fun y hy => ?_⟩
      by_cases e : y = Y
      · subst e
        intro _ _
        have a1 := in8_andF (k := k) (y := (y : Int)) hX8
        have a2 := in8_orF (k := k) hg0 hg9 hX8 hY8
        have q1 := hP.fl f0
        have q2 := hP1.fl f1
        rw [← q1 X hX, ← q1 y (by omega)]
        refine ⟨?_, ?_⟩
        · rw [← q1 (andF k (X : Int) (y : Int)).toNat (by have := a1.2; omega)]
          exact w0
        · rw [← q2 (orF k g (X : Int) (y : Int)).toNat (by have := a2.2; omega)]
          rw [q2 X hX, q2 y (by omega), ← q1 X hX, ← q1 y (by omega)] at w1
          exact w1
      · exact (hC f0).2.2 y (by omega)
    · refine AW.goto (tgt := 118) dX12_goesOn_63 (by decide) ?_
      refine AW.inc3 dX12_goesOn_118 (by decide) (by unfold RI; omega) ?_
      refine AW.goto (tgt := 44) dX12_goesOn_121 (by decide) ?_
      rw [nY] at c60
      refine ih (Y + 1) h m' A' (by omega) hM hT hP hX1 (fun hf => ⟨(hC hf).1, (hC hf).2.1, fun y hy => ?_⟩)
      by_cases e : y = Y
      · subst e
        intro _ h2
        rw [← hP.fl hf y (by omega)] at h2
        omega
      · exact (hC hf).2.2 y (by omega)
theorem L_goes (hd : 3 ≤ d) (hw : who < 6) (hg0 : 0 ≤ g) (hg9 : g ≤ 9) (hk : kkM A who = k) (hg : ggM A who = g)
    (hq : ∀ h' m' A', MR h0 h' m' A' → T2 m m' A A' → PI k g lv c0 (A' 133) (m' 26) → (m' 26 = 0 → ∀ x, x < 256 → CN k g c0 x ∧ ∀ y, y < 256 → CA k g c0 x y) → Q none h') :
    ∀ (r X : Nat) (h : AH) (m' : Nat → Int) (A' : Nat → Nat → Int) (z : Option AV), X + r = 256 → MR h0 h m' A' → T2 m m' A A' → PI k g lv c0 (A' 133) (m' 26) → (m' 26 = 0 → ∀ x, x < X → CN k g c0 x ∧ ∀ y, y < 256 → CA k g c0 x y) →
      AW d 0 0 mX12_goesOn Q 2 [some (.inr 116), some (.inl who), some (.inl (X : Int)), z] [] h := by
  intro r
  induction r with
  | zero =>
    intro X h m' A' z hX hM hT hP hC
    have hX2 : X = 256 := by omega
    subst hX2
    refine AW.iload_n dX12_goesOn_2 rfl ?_
    refine AW.sipush dX12_goesOn_3 ?_
    refine AW.if_icmpge (tgt := 130) dX12_goesOn_6 (by decide) (fun c6 => ?_) (fun c6 => absurd c6 (by decide))
    refine AW.vreturn dX12_goesOn_130 rfl ?_
    exact hq h m' A' hM hT hP hC
  | succ r ih =>
    intro X h m' A' z hX hM hT hP hC
    obtain ⟨g116, -, -, -, -, -, -, -, -, -, -, -, -, -, -, -, -, g133, -⟩ := id hM
    have hX8 : in8 (X : Int) := in8_nat (by omega)
    have nX : ((X : Int)).toNat = X := by omega
    obtain ⟨ek, eg, -⟩ := hT.kk who
    have bX := hP.1 X (by omega)
    refine AW.iload_n dX12_goesOn_2 rfl ?_
    refine AW.sipush dX12_goesOn_3 ?_
    refine AW.if_icmpge (tgt := 130) dX12_goesOn_6 (by decide) (fun c6 => absurd c6 (by omega)) (fun c6 => ?_)
    refine AW.aload_n dX12_goesOn_9 rfl ?_
    refine AW.getf dX12_goesOn_10 gX12_58 (by repeat (first | assumption | exact hset_eq _ _ _ | refine (hset_ne _ _ (by omega)).trans ?_)) rfl ?_
    refine AW.iload_n dX12_goesOn_13 rfl ?_
    refine AW.iaload dX12_goesOn_14 (by repeat (first | assumption | exact hset_eq _ _ _ | refine (hset_ne _ _ (by omega)).trans ?_)) (by omega) (by omega) ?_
    refine AW.sipush dX12_goesOn_15 ?_
    refine AW.if_icmpne (tgt := 24) dX12_goesOn_18 (by decide) (fun c18 => ?_) (fun c18 => ?_)
    · rw [nX] at c18
      have rX := hP.2.1 X (by omega) (by omega)
      have e1 : (A' 133 X + 1).toNat = (A' 133 X).toNat + 1 := by omega
      refine AW.aload_n dX12_goesOn_24 rfl ?_
      refine AW.aload_n dX12_goesOn_25 rfl ?_
      refine AW.iload_n dX12_goesOn_26 rfl ?_
      refine AW.iload_n dX12_goesOn_27 rfl ?_
      refine AW.cI3 (d' := d - 1) (cX12_174 rfl) okX12_notOf dX12_goesOn_28 (by repeat (first | assumption | exact hset_eq _ _ _ | refine (hset_ne _ _ (by omega)).trans ?_)) (by omega) (W_notOf (by assumption) (by omega) (by omega) ?_)
      refine AW.aload_n dX12_goesOn_31 rfl ?_
      refine AW.getf dX12_goesOn_32 gX12_58 (by repeat (first | assumption | exact hset_eq _ _ _ | refine (hset_ne _ _ (by omega)).trans ?_)) rfl ?_
      refine AW.iload_n dX12_goesOn_35 rfl ?_
      refine AW.iaload dX12_goesOn_36 (by repeat (first | assumption | exact hset_eq _ _ _ | refine (hset_ne _ _ (by omega)).trans ?_)) (by omega) (by omega) ?_
      refine AW.iconst dX12_goesOn_37 ?_
      refine AW.iaddR dX12_goesOn_38 (by rw [nX]; unfold RI; omega) ?_
      rw [nX, ek, hk, eg, hg]
      refine AW.cI3 (d' := d - 1) (cX12_207 rfl) okX12_lowers dX12_goesOn_39 (by repeat (first | assumption | exact hset_eq _ _ _ | refine (hset_ne _ _ (by omega)).trans ?_)) (by omega) (W_low1 (k := k) (g := g) (lv := lv) (c0 := c0) hM hT hP (in8_notF hX8) (by omega) (by rw [e1]; exact rX.not) (fun h1 m1 A1 hM1 hT1 hP1 le1 z1 => ?_))
      refine AW.iconst dX12_goesOn_42 ?_
      refine AW.ist3 dX12_goesOn_43 (by decide) ?_
      refine L_goes2 (m := m) (A := A) hd hw hg0 hg9 hk hg (show X < 256 by omega) (fun h' m2 A2 z hM2 hT2 hP2 hC2 => ?_) 256 0 h1 m1 A1 (by omega) hM1 hT1 hP1 (by have := le1 X (by omega); omega) (fun hf => ?_)
      · have e2 := fun z => ih (X + 1) h' m2 A2 z (by omega) hM2 hT2 hP2 (fun hf x hx => by
          by_cases e : x = X
          · subst e; exact (hC2 hf).2
          · exact (hC2 hf).1 x (by omega))
        refine AW.inc2 dX12_goesOn_124 (by decide) (by unfold RI; omega) ?_
        refine AW.goto (tgt := 2) dX12_goesOn_127 (by decide) ?_
        exact e2 _
      · obtain ⟨f0, w0⟩ := z1 hf
        refine ⟨hC f0, fun _ => ?_, fun y hy => absurd hy (Nat.not_lt_zero _)⟩
        have q1 := hP.fl f0
        have a1 := in8_notF (k := k) (g := g) hX8
        rw [← q1 X (by omega), ← q1 (notF k g (X : Int)).toNat (by have := a1.2; omega)]
        exact w0
    · refine AW.goto (tgt := 124) dX12_goesOn_21 (by decide) ?_
      refine AW.inc2 dX12_goesOn_124 (by decide) (by unfold RI; omega) ?_
      refine AW.goto (tgt := 2) dX12_goesOn_127 (by decide) ?_
      rw [nX] at c18
      refine ih (X + 1) h m' A' _ (by omega) hM hT hP (fun hf x hx => ?_)
      by_cases e : x = X
      · subst e
        have := hP.fl hf x (by omega)
        exact ⟨fun q => by omega, fun y hy q => by omega⟩
      · exact hC hf x (by omega)
theorem W_goesOn (hM : MR h0 h m A) (hd : 3 ≤ d) (hw : who < 6) (hg0 : 0 ≤ g) (hg9 : g ≤ 9) (hk : kkM A who = k) (hg : ggM A who = g) (hP : PI k g lv (A 133) (A 133) (m 26)) (h26 : m 26 = 0)
    (hq : ∀ h' m' A', MR h0 h' m' A' → T2 m m' A A' → PI k g lv (A 133) (A' 133) (m' 26) → (m' 26 = 0 → ∀ x, x < 256 → CN k g (A 133) x ∧ ∀ y, y < 256 → CA k g (A 133) x y) → Q none h') : MW d 0 0 mX12_goesOn [.inr 116, .inl who] h Q := by
  show AW d 0 0 mX12_goesOn Q 0 [some (.inr 116), some (.inl who), none, none] [] h
  refine AW.iconst dX12_goesOn_0 ?_
  refine AW.ist2 dX12_goesOn_1 (by decide) ?_
  exact L_goes hd hw hg0 hg9 hk hg hq 256 0 h m A _ rfl hM ⟨fun _ _ => rfl, fun _ _ => rfl⟩ hP (fun _ x hx => absurd hx (Nat.not_lt_zero _))
end Pass
end Mod12

