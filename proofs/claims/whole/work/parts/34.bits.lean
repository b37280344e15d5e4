/-! bits of ints -/
def tb (x : Int) (w : Nat) : Bool := (Int32.ofInt x).toBitVec.getLsbD w
theorem tb_ext {x y : Int} (hx : RI x) (hy : RI y) (h : ∀ w, w < 32 → tb x w = tb y w) : x = y := by
  have e : Int32.ofInt x = Int32.ofInt y := by
    apply Int32.toBitVec.inj
    apply BitVec.eq_of_getLsbD_eq
    intro i hi
    exact h i hi
  have e2 := congrArg Int32.toInt e
  rw [ri_back hx, ri_back hy] at e2
  exact e2
theorem tb_and (x y : Int) (w : Nat) : tb (a_and x y) w = (tb x w && tb y w) := by
  unfold tb a_and
  rw [Int32.ofInt_toInt, Int32.toBitVec_and, BitVec.getLsbD_and]
theorem tb_or (x y : Int) (w : Nat) : tb (a_or x y) w = (tb x w || tb y w) := by
  unfold tb a_or
  rw [Int32.ofInt_toInt, Int32.toBitVec_or, BitVec.getLsbD_or]
theorem tb_xor (x y : Int) (w : Nat) : tb (a_xor x y) w = (tb x w ^^ tb y w) := by
  unfold tb a_xor
  rw [Int32.ofInt_toInt, Int32.toBitVec_xor, BitVec.getLsbD_xor]
theorem tb_m1 : ∀ w, w < 32 → tb (-1) w = true := by decide +kernel
theorem tb_255 : ∀ w, w < 32 → tb 255 w = decide (w < 8) := by decide +kernel
theorem tb_0 : ∀ w, w < 32 → tb 0 w = false := by decide +kernel
def in8 (x : Int) : Prop := 0 ≤ x ∧ x ≤ 255
theorem in8.ri {x : Int} (h : in8 x) : RI x := by unfold in8 at h; unfold RI; omega
theorem tb_nat (n w : Nat) (hw : w < 32) : tb (n : Int) w = n.testBit w := by
  unfold tb
  have e : (Int32.ofInt (n : Int)).toBitVec = BitVec.ofNat 32 n := rfl
  rw [e, BitVec.getLsbD_ofNat]
  simp [hw]
theorem in8.hi {x : Int} (h : in8 x) {w : Nat} (h8 : 8 ≤ w) (hw : w < 32) : tb x w = false := by
  obtain ⟨h1, h2⟩ := h
  have e : x = ((x.toNat : Nat) : Int) := by omega
  rw [e, tb_nat _ _ hw]
  apply Nat.testBit_lt_two_pow
  have : 2 ^ 8 ≤ 2 ^ w := Nat.pow_le_pow_right (by decide) h8
  omega
theorem in8_of {x : Int} (hx : RI x) (h : ∀ w, 8 ≤ w → w < 32 → tb x w = false) : in8 x := by
  have e1 : (Int32.ofInt x).toBitVec.toNat < 2 ^ 8 := by
    apply Nat.lt_pow_two_of_testBit
    intro i hi
    by_cases h32 : i < 32
    · have := h i hi h32
      unfold tb at this
      rw [BitVec.getLsbD] at this
      exact this
    · apply Nat.testBit_lt_two_pow
      have := (Int32.ofInt x).toBitVec.isLt
      have : 2 ^ 32 ≤ 2 ^ i := Nat.pow_le_pow_right (by decide) (by omega)
      omega
  have e2 : (Int32.ofInt x).toInt = ((Int32.ofInt x).toBitVec.toNat : Int) := by
    show (Int32.ofInt x).toBitVec.toInt = _
    rw [BitVec.toInt_eq_toNat_of_lt (by omega)]
  rw [ri_back hx] at e2
  unfold in8
  omega
theorem ri_and (x y : Int) : RI (a_and x y) := ri_of _
theorem ri_or (x y : Int) : RI (a_or x y) := ri_of _
theorem ri_xor (x y : Int) : RI (a_xor x y) := ri_of _
theorem in8_and {x y : Int} (hx : in8 x) : in8 (a_and x y) := in8_of (ri_and _ _) (fun w h8 hw => by rw [tb_and, hx.hi h8 hw]; rfl)
theorem in8_and' {x y : Int} (hy : in8 y) : in8 (a_and x y) := in8_of (ri_and _ _) (fun w h8 hw => by rw [tb_and, hy.hi h8 hw, Bool.and_false])
theorem in8_or {x y : Int} (hx : in8 x) (hy : in8 y) : in8 (a_or x y) := in8_of (ri_or _ _) (fun w h8 hw => by rw [tb_or, hx.hi h8 hw, hy.hi h8 hw]; rfl)
theorem in8_xor {x y : Int} (hx : in8 x) (hy : in8 y) : in8 (a_xor x y) := in8_of (ri_xor _ _) (fun w h8 hw => by rw [tb_xor, hx.hi h8 hw, hy.hi h8 hw]; rfl)
theorem wd_nat : ∀ g : Nat, g < 10 → (0 ≤ wd (g : Int) ∧ wd (g : Int) ≤ 255) ∧ ∀ w, w < 32 → tb (wd (g : Int)) w = decide (w = g % 8) := by decide +kernel
theorem in8_wd {g : Int} (h0 : 0 ≤ g) (h9 : g ≤ 9) : in8 (wd g) := by
  have := (wd_nat g.toNat (by omega)).1
  rw [show ((g.toNat : Nat) : Int) = g by omega] at this
  exact this
theorem tb_wd {g : Int} (h0 : 0 ≤ g) (h9 : g ≤ 9) {w : Nat} (hw : w < 32) : tb (wd g) w = decide (w = g.toNat % 8) := by
  have := (wd_nat g.toNat (by omega)).2 w hw
  rw [show ((g.toNat : Nat) : Int) = g by omega] at this
  exact this
theorem in8_255 : in8 255 := ⟨by decide, by decide⟩
theorem in8_notF {k g x : Int} (hx : in8 x) : in8 (notF k g x) := by
  unfold notF
  split
  · exact hx
  · split
    · exact in8_and hx
    · exact in8_and in8_255
theorem in8_andF {k x y : Int} (hx : in8 x) : in8 (andF k x y) := by
  unfold andF
  split <;> exact in8_and hx
theorem in8_orF {k g x y : Int} (h0 : 0 ≤ g) (h9 : g ≤ 9) (hx : in8 x) (hy : in8 y) : in8 (orF k g x y) := by
  unfold orF
  split
  · exact in8_xor hx hy
  · split
    · exact in8_or (in8_xor hx hy) (in8_wd h0 h9)
    · exact in8_or hx hy
/-! WHAT CAN BE SAID, in how many words: the least family that has the leaves, and is closed -/
def RSc (k g : Int) (lv : Int → Prop) (P : Nat → Int → Prop) : Prop := (∀ x, lv x → P 1 x) ∧ (∀ n x, P n x → P (n + 1) (notF k g x)) ∧ ∀ i j x y, P i x → P j y → P (i + j + 1) (andF k x y) ∧ P (i + j + 1) (orF k g x y)
def RS (k g : Int) (lv : Int → Prop) (n : Nat) (m : Int) : Prop := ∀ P, RSc k g lv P → P n m
section RSs
variable {k g : Int} {lv : Int → Prop}
theorem RS.leaf {x : Int} (h : lv x) : RS k g lv 1 x := fun _ hP => hP.1 x h
theorem RS.not {n : Nat} {x : Int} (h : RS k g lv n x) : RS k g lv (n + 1) (notF k g x) := fun P hP => hP.2.1 n x (h P hP)
theorem RS.and {i j : Nat} {x y : Int} (h1 : RS k g lv i x) (h2 : RS k g lv j y) : RS k g lv (i + j + 1) (andF k x y) := fun P hP => (hP.2.2 i j x y (h1 P hP) (h2 P hP)).1
theorem RS.or {i j : Nat} {x y : Int} (h1 : RS k g lv i x) (h2 : RS k g lv j y) : RS k g lv (i + j + 1) (orF k g x y) := fun P hP => (hP.2.2 i j x y (h1 P hP) (h2 P hP)).2
theorem RS.closed : RSc k g lv (RS k g lv) := ⟨fun _ h => RS.leaf h, fun _ _ h => h.not, fun _ _ _ _ h1 h2 => ⟨h1.and h2, h1.or h2⟩⟩
theorem RS_in8 (h0 : 0 ≤ g) (h9 : g ≤ 9) (hlv : ∀ x, lv x → in8 x) {n : Nat} {m : Int} (h : RS k g lv n m) : in8 m :=
  h (fun _ m => in8 m) ⟨hlv, fun _ _ h => in8_notF h, fun _ _ _ _ h1 h2 => ⟨in8_andF h1, in8_orF h0 h9 h1 h2⟩⟩
theorem RS.pos {n : Nat} {m : Int} (h : RS k g lv n m) : 1 ≤ n := h (fun n _ => 1 ≤ n) ⟨fun _ _ => Nat.le_refl _, fun _ _ _ => by omega, fun _ _ _ _ _ _ => ⟨by omega, by omega⟩⟩
/-- how a saying of n words came about -/
theorem RS.inv {n : Nat} {m : Int} (h : RS k g lv n m) : (n = 1 ∧ lv m) ∨ (∃ i x, n = i + 1 ∧ RS k g lv i x ∧ m = notF k g x) ∨ ∃ i j x y, n = i + j + 1 ∧ RS k g lv i x ∧ RS k g lv j y ∧ (m = andF k x y ∨ m = orF k g x y) := by
  have := h (fun n m => RS k g lv n m ∧ ((n = 1 ∧ lv m) ∨ (∃ i x, n = i + 1 ∧ RS k g lv i x ∧ m = notF k g x) ∨ ∃ i j x y, n = i + j + 1 ∧ RS k g lv i x ∧ RS k g lv j y ∧ (m = andF k x y ∨ m = orF k g x y))) ⟨fun x hx => ⟨RS.leaf hx, Or.inl ⟨rfl, hx⟩⟩, fun n x hx => ⟨hx.1.not, Or.inr (Or.inl ⟨n, x, rfl, hx.1, rfl⟩)⟩, fun i j x y h1 h2 => ⟨⟨h1.1.and h2.1, Or.inr (Or.inr ⟨i, j, x, y, rfl, h1.1, h2.1, Or.inl rfl⟩)⟩, ⟨h1.1.or h2.1, Or.inr (Or.inr ⟨i, j, x, y, rfl, h1.1, h2.1, Or.inr rfl⟩)⟩⟩⟩
  exact this.2
theorem RS.mono {lv' : Int → Prop} (hl : ∀ x, lv x → lv' x) {n : Nat} {m : Int} (h : RS k g lv n m) : RS k g lv' n m := fun P hP => h P ⟨fun x hx => hP.1 x (hl x hx), hP.2⟩
/-- n is the fewest words -/
def SH (k g : Int) (lv : Int → Prop) (n : Nat) (m : Int) : Prop := RS k g lv n m ∧ ∀ j, j < n → ¬ RS k g lv j m
theorem SH.ex {n : Nat} {m : Int} (h : RS k g lv n m) : ∃ j, j ≤ n ∧ SH k g lv j m := by
  induction n using Nat.strongRecOn with
  | _ n ih =>
    by_cases q : ∃ j, j < n ∧ RS k g lv j m
    · obtain ⟨j, hj, hr⟩ := q
      obtain ⟨i, hi, hs⟩ := ih j hj hr
      exact ⟨i, by omega, hs⟩
    · exact ⟨n, Nat.le_refl _, h, fun j hj hr => q ⟨j, hj, hr⟩⟩
theorem SH.uniq {i j : Nat} {m : Int} (h1 : SH k g lv i m) (h2 : SH k g lv j m) : i = j := by
  rcases Nat.lt_trichotomy i j with q | q | q
  · exact absurd h1.1 (h2.2 i q)
  · exact q
  · exact absurd h2.1 (h1.2 j q)
noncomputable def shF (k g : Int) (lv : Int → Prop) (m : Int) : Int := by
  classical
  exact if h : ∃ n, SH k g lv n m then (h.choose : Int) else -9
theorem shF_eq {n : Nat} {m : Int} (h : SH k g lv n m) : shF k g lv m = (n : Int) := by
  unfold shF
  have hx : ∃ n, SH k g lv n m := ⟨n, h⟩
  rw [dif_pos hx]
  rw [SH.uniq hx.choose_spec h]
theorem shF_none {m : Int} (h : ∀ n, ¬ RS k g lv n m) : shF k g lv m = -9 := by
  unfold shF
  rw [dif_neg]
  rintro ⟨n, hn⟩
  exact h n hn.1
theorem shF_cases (k g : Int) (lv : Int → Prop) (m : Int) : (∃ n, SH k g lv n m ∧ shF k g lv m = (n : Int)) ∨ ((∀ n, ¬ RS k g lv n m) ∧ shF k g lv m = -9) := by
  by_cases q : ∃ n, RS k g lv n m
  · obtain ⟨n, hn⟩ := q
    obtain ⟨j, -, hj⟩ := SH.ex hn
    exact Or.inl ⟨j, hj, shF_eq hj⟩
  · have q2 : ∀ n, ¬ RS k g lv n m := fun n hn => q ⟨n, hn⟩
    exact Or.inr ⟨q2, shF_none q2⟩
end RSs

