/-! draws -/
theorem lcg_ex (z : Int) : ∃ x, x = a_add (a_mul z 1103515245) 12345 := ⟨_, rfl⟩
theorem dv_ex (z n : Int) : ∃ x, x = a_rem (a_div (a_and z 2147483647) 65536) n := ⟨_, rfl⟩
noncomputable def lcg (z : Int) : Int := Classical.choose (lcg_ex z)
noncomputable def dv (z n : Int) : Int := Classical.choose (dv_ex z n)
theorem lcg_eq (z : Int) : lcg z = a_add (a_mul z 1103515245) 12345 := Classical.choose_spec (lcg_ex z)
theorem dv_eq (z n : Int) : dv z n = a_rem (a_div (a_and z 2147483647) 65536) n := Classical.choose_spec (dv_ex z n)
theorem tb_31 : ∀ w, w < 32 → tb 2147483647 w = decide (w < 31) := by decide +kernel
theorem and31_nn (z : Int) : 0 ≤ a_and z 2147483647 := by
  have h1 : (Int32.ofInt (a_and z 2147483647)).toBitVec.getLsbD 31 = false := by
    have := tb_and z 2147483647 31
    rw [tb_31 31 (by decide)] at this
    simpa [tb] using this
  have h2 : (Int32.ofInt (a_and z 2147483647)).toInt = a_and z 2147483647 := ri_back (ri_and _ _)
  have h3 : (Int32.ofInt (a_and z 2147483647)).toBitVec.msb = false := by
    rw [BitVec.msb_eq_getLsbD_last]
    exact h1
  have h4 : (Int32.ofInt (a_and z 2147483647)).toInt = ((Int32.ofInt (a_and z 2147483647)).toBitVec.toNat : Int) := by
    show (Int32.ofInt (a_and z 2147483647)).toBitVec.toInt = _
    rw [BitVec.toInt_eq_msb_cond, h3]
    rfl
  omega
theorem a_div_eq {x y : Int} (hx0 : 0 ≤ x) (hx : RI x) (hy0 : 0 < y) (hy : RI y) : a_div x y = x / y := by
  unfold a_div
  rw [Int32.toInt_div, ri_back hx, ri_back hy, Int.tdiv_eq_ediv_of_nonneg hx0]
  have h1 : 0 ≤ x / y := Int.ediv_nonneg hx0 (by omega)
  have h2 : x / y ≤ x := Int.ediv_le_self _ hx0
  exact bm_eq ⟨by have := hx.1; omega, by have := hx.2; omega⟩
theorem a_rem_eq {x y : Int} (hx0 : 0 ≤ x) (hx : RI x) (hy0 : 0 < y) (hy : RI y) : a_rem x y = x % y := by
  have h1 : 0 ≤ x / y := Int.ediv_nonneg hx0 (by omega)
  have h2 : x / y ≤ x := Int.ediv_le_self _ hx0
  have h3 := Int.emod_nonneg x (show y ≠ 0 by omega)
  have h4 := Int.mul_ediv_add_emod x y
  have hq : RI (x / y) := ⟨by have := hx.1; omega, by have := hx.2; omega⟩
  have e1 : Int32.ofInt x / Int32.ofInt y = Int32.ofInt (x / y) := by
    have := a_div_eq hx0 hx hy0 hy
    unfold a_div at this
    rw [← this, Int32.ofInt_toInt]
  unfold a_rem
  rw [e1, ← Int32.ofInt_mul, ← Int32.ofInt_sub]
  have e2 : x - x / y * y = x % y := by rw [Int.mul_comm]; omega
  rw [e2]
  have h5 : x % y ≤ x := by
    have : 0 ≤ y * (x / y) := Int.mul_nonneg (by omega) h1
    omega
  exact ri_back ⟨by have := hx.1; omega, by have := hx.2; omega⟩
theorem dv_b (z : Int) {n : Int} (hn : 0 < n) (hn2 : n ≤ 6) : 0 ≤ dv z n ∧ dv z n < n := by
  have h1 := and31_nn z
  have h2 := ri_and z 2147483647
  have e1 := a_div_eq h1 h2 (show (0 : Int) < 65536 by decide) ⟨by decide, by decide⟩
  have h3 : 0 ≤ a_div (a_and z 2147483647) 65536 := by rw [e1]; exact Int.ediv_nonneg h1 (by decide)
  have e2 := a_rem_eq h3 (ri_of _) hn ⟨by omega, by omega⟩
  rw [dv_eq, e2]
  exact ⟨Int.emod_nonneg _ (by omega), Int.emod_lt_of_pos _ hn⟩
/-- a saying that may be in e more: its words, and the seed behind it -/
noncomputable def drw : Nat → Int → List Nat × Int
  | 0, z => ([(dv (lcg z) 3).toNat], lcg z)
  | e + 1, z => if (dv (lcg z) 6).toNat < 3 then ([(dv (lcg z) 6).toNat], lcg z) else if (dv (lcg z) 6).toNat = 3 then (7 :: (drw e (lcg z)).1, (drw e (lcg z)).2) else (((dv (lcg z) 6).toNat + 4) :: ((drw e (lcg z)).1 ++ (drw e (drw e (lcg z)).2).1), (drw e (drw e (lcg z)).2).2)
theorem drw_0 (z : Int) : drw 0 z = ([(dv (lcg z) 3).toNat], lcg z) := by rw [drw]
theorem drw_s (e : Nat) (z : Int) : drw (e + 1) z = if (dv (lcg z) 6).toNat < 3 then ([(dv (lcg z) 6).toNat], lcg z) else if (dv (lcg z) 6).toNat = 3 then (7 :: (drw e (lcg z)).1, (drw e (lcg z)).2) else (((dv (lcg z) 6).toNat + 4) :: ((drw e (lcg z)).1 ++ (drw e (drw e (lcg z)).2).1), (drw e (drw e (lcg z)).2).2) := by rw [drw]
theorem hgt_leaf {w : Nat} {R : List Nat} {r : Nat} (hR : hgt R = some r) (hw : w < 7) : hgt (w :: R) = some (r + 1) := by
  unfold hgt
  rw [hR]
  simp only
  rw [if_pos hw]
theorem drw_hgt (e : Nat) : ∀ (z : Int) (R : List Nat) (r : Nat), hgt R = some r → hgt ((drw e z).1 ++ R) = some (r + 1) := by
  induction e with
  | zero =>
    intro z R r hR
    have := dv_b (lcg z) (n := 3) (by decide) (by decide)
    rw [drw_0]
    generalize dv (lcg z) 3 = q at *
    simp only [List.cons_append, List.nil_append]
    exact hgt_leaf hR (by omega)
  | succ e ih =>
    intro z R r hR
    have := dv_b (lcg z) (n := 6) (by decide) (by decide)
    rw [drw_s]
    generalize lcg z = z1 at *
    generalize dv z1 6 = q at *
    by_cases h3 : q.toNat < 3
    · rw [if_pos h3]
      simp only [List.cons_append, List.nil_append]
      exact hgt_leaf hR (by omega)
    · rw [if_neg h3]
      by_cases h4 : q.toNat = 3
      · rw [if_pos h4]
        simp only [List.cons_append]
        have h5 := ih z1 R r hR
        rw [hgt_cons h5 (by decide) (by show 1 ≤ r + 1; omega)]
        rfl
      · rw [if_neg h4]
        simp only [List.cons_append, List.append_assoc]
        have h5 := ih (drw e z1).2 R r hR
        have h6 := ih z1 _ _ h5
        have ep : ptW (q.toNat + 4) = 2 := by unfold ptW; rw [if_neg (by omega), if_neg (by omega)]
        rw [hgt_cons h6 (by omega) (by rw [ep]; omega), ep]
        rfl
theorem drw_len (e : Nat) : ∀ (z : Int), 1 ≤ (drw e z).1.length ∧ (drw e z).1.length + 1 ≤ 2 ^ (e + 1) := by
  induction e with
  | zero =>
    intro z
    rw [drw_0]
    simp
  | succ e ih =>
    intro z
    have h2 : 2 ≤ 2 ^ (e + 1) := by
      have : 2 ^ 1 ≤ 2 ^ (e + 1) := Nat.pow_le_pow_right (by decide) (by omega)
      omega
    rw [Nat.pow_succ, drw_s]
    generalize lcg z = z1
    generalize dv z1 6 = q
    split
    · simp only [List.length_singleton]; omega
    · split
      · have := ih z1
        simp only [List.length_cons]
        omega
      · have a := ih z1
        have b := ih (drw e z1).2
        simp only [List.length_cons, List.length_append]
        omega
noncomputable def sdN (s : SC) (v z : Int) : Nat → Int × Int × Int
  | 0 => (0, 0, z)
  | n + 1 => ((sdN s v z n).1 + ((drw 3 (sdN s v z n).2.2).1.length : Int), (sdN s v z n).2.1 + iv (cnS s (-1) (drw 3 (sdN s v z n).2.2).1 = v) 1, (drw 3 (sdN s v z n).2.2).2)
noncomputable def o_seeds (S : ST) (n z v what : Int) : Int × ST := if n < 1 ∨ v < 0 then (-4, rf S 4) else if 20 < n ∨ 255 < v then (-6, rf S 6) else if ¬ (0 ≤ what ∧ what ≤ 1) then (-2, rf S 2) else if what = 0 then ((sdN S.1 v z n.toNat).1, S) else ((sdN S.1 v z n.toNat).2.1, S)
theorem sdN_b (s : SC) (v z : Int) (n : Nat) : (0 ≤ (sdN s v z n).1 ∧ (sdN s v z n).1 ≤ 15 * (n : Int)) ∧ 0 ≤ (sdN s v z n).2.1 ∧ (sdN s v z n).2.1 ≤ (n : Int) := by
  induction n with
  | zero => exact ⟨⟨Int.le_refl _, Int.le_refl _⟩, Int.le_refl _, Int.le_refl _⟩
  | succ n ih =>
    have h1 := drw_len 3 (sdN s v z n).2.2
    rw [sdN]
    generalize drw 3 (sdN s v z n).2.2 = D at h1 ⊢
    simp only
    by_cases q : cnS s (-1) D.1 = v
    · rw [iv_pos q]; omega
    · rw [iv_neg q]; omega
/-- the same, over a pile of depths that are still to come -/
noncomputable def drL : List Nat → Int → List Nat × Int
  | [], z => ([], z)
  | e :: t, z => ((drw (3 - e) z).1 ++ (drL t (drw (3 - e) z).2).1, (drL t (drw (3 - e) z).2).2)
theorem drL_c (e : Nat) (t : List Nat) (z : Int) : drL (e :: t) z = ((drw (3 - e) z).1 ++ (drL t (drw (3 - e) z).2).1, (drL t (drw (3 - e) z).2).2) := by rw [drL]
theorem drL_3 (t : List Nat) (z : Int) : drL (3 :: t) z = ((dv (lcg z) 3).toNat :: (drL t (lcg z)).1, (drL t (lcg z)).2) := by
  rw [drL_c, Nat.sub_self, drw_0]
  generalize lcg z = z1
  generalize dv z1 3 = q
  simp only [List.cons_append, List.nil_append]
theorem drL_lt {e : Nat} (he : e < 3) (t : List Nat) (z : Int) : drL (e :: t) z = if (dv (lcg z) 6).toNat < 3 then ((dv (lcg z) 6).toNat :: (drL t (lcg z)).1, (drL t (lcg z)).2) else if (dv (lcg z) 6).toNat = 3 then (7 :: (drL ((e + 1) :: t) (lcg z)).1, (drL ((e + 1) :: t) (lcg z)).2) else (((dv (lcg z) 6).toNat + 4) :: (drL ((e + 1) :: (e + 1) :: t) (lcg z)).1, (drL ((e + 1) :: (e + 1) :: t) (lcg z)).2) := by
  have e3 : 3 - e = (3 - (e + 1)) + 1 := by omega
  rw [drL_c, e3, drw_s]
  generalize lcg z = z1
  generalize dv z1 6 = q
  by_cases h3 : q.toNat < 3
  · rw [if_pos h3, if_pos h3]
    simp only [List.cons_append, List.nil_append]
  · rw [if_neg h3, if_neg h3]
    by_cases h4 : q.toNat = 3
    · rw [if_pos h4, if_pos h4, drL_c]
      simp only [List.cons_append]
    · rw [if_neg h4, if_neg h4, drL_c, drL_c]
      simp only [List.cons_append, List.append_assoc]
def wt : List Nat → Nat
  | [] => 0
  | e :: t => (2 ^ (4 - e) - 1) + wt t

