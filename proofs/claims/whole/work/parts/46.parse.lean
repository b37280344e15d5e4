/-! A SCHOOL IN LETTERS: what its letters are (promise 3) -/
def ltr (L : List Int) (p : Nat) : Int := L.getD p (-1)
/-- a saying from p on, of n words at most, k are to come: is it one; the place behind (or at which it can't go on); its words -/
def sayP (L : List Int) : Nat → Nat → Nat → Bool × Nat × List Nat
  | _, 0, p => (true, p, [])
  | 0, _ + 1, p => (false, p, [])
  | n + 1, k + 1, p => if wdO (ltr L p) < 0 then (false, p, []) else ((sayP L n (k + ptW (wdO (ltr L p)).toNat) (p + 1)).1, (sayP L n (k + ptW (wdO (ltr L p)).toNat) (p + 1)).2.1, (wdO (ltr L p)).toNat :: (sayP L n (k + ptW (wdO (ltr L p)).toNat) (p + 1)).2.2)
/-- a statement: its letter, its place, two numbers, words -/
abbrev SM : Type := Int × Nat × Int × Int × List Nat
/-- is one read; the place behind, or at which it can't go on; it -/
abbrev RD : Type := Bool × Nat × SM
def badP (p : Nat) : RD := (false, p, 0, 0, 0, 0, [])
/-- the ; behind -/
def endP (L : List Int) (q : Nat) (sm : SM) : RD := if ltr L q = 59 then (true, q + 1, sm) else badP q
def isDg (x : Int) : Prop := 48 ≤ x ∧ x ≤ 57
def isNm (x : Int) : Prop := 65 ≤ x ∧ x ≤ 68
def stP (L : List Int) (p : Nat) : RD :=
  if ltr L p = 115 then (if ¬ (48 ≤ ltr L (p + 1) ∧ ltr L (p + 1) ≤ 57) then badP (p + 1) else if ¬ (48 ≤ ltr L (p + 2) ∧ ltr L (p + 2) ≤ 57) then badP (p + 2) else endP L (p + 3) (115, p, ltr L (p + 1) - 48, ltr L (p + 2) - 48, []))
  else if ltr L p = 104 then (if (sayP L 20 1 (p + 1)).1 then endP L (sayP L 20 1 (p + 1)).2.1 (104, p, 0, 0, (sayP L 20 1 (p + 1)).2.2) else badP (sayP L 20 1 (p + 1)).2.1)
  else if ltr L p = 99 then (if ¬ (65 ≤ ltr L (p + 1) ∧ ltr L (p + 1) ≤ 68) then badP (p + 1) else if (sayP L 20 1 (p + 2)).1 then endP L (sayP L 20 1 (p + 2)).2.1 (99, p, ltr L (p + 1) - 65, 0, (sayP L 20 1 (p + 2)).2.2) else badP (sayP L 20 1 (p + 2)).2.1)
  else if ltr L p = 108 then (if ¬ (48 ≤ ltr L (p + 1) ∧ ltr L (p + 1) ≤ 57) then badP (p + 1) else if ¬ (65 ≤ ltr L (p + 2) ∧ ltr L (p + 2) ≤ 68) then badP (p + 2) else endP L (p + 3) (108, p, ltr L (p + 1) - 48, ltr L (p + 2) - 65, []))
  else badP p
/-- statements from p on, to the end; no more than f -/
def allP (L : List Int) : Nat → Nat → Bool × Nat × List SM
  | 0, p => (true, p, [])
  | f + 1, p => if (stP L p).1 then (if L.length ≤ (stP L p).2.1 then (true, (stP L p).2.1, [(stP L p).2.2]) else ((allP L f (stP L p).2.1).1, (allP L f (stP L p).2.1).2.1, (stP L p).2.2 :: (allP L f (stP L p).2.1).2.2)) else (false, (stP L p).2.1, [])
/-- a statement comes; none: it is not as it must be -/
noncomputable def cmS (s : SC) (sm : SM) : Option SC :=
  if sm.1 = 115 then (if 5 < sm.2.2.1 ∨ s_n s = 5 then none else some (s_n s + 1, updI (s_k s) (s_n s) sm.2.2.1, updI (s_g s) (s_n s) sm.2.2.2.1, updI (s_l s) (s_n s) 0, s.2.2.2.2))
  else if sm.1 = 104 then (if s_h s = 6 then none else some (s_n s, s_k s, s_g s, s_l s, s_h s + 1, (fun i => if i = s_h s then sm.2.2.2.2 else s_w s i), s_c s))
  else if sm.1 = 99 then some (sc_c s (updI (s_c s) sm.2.2.1.toNat (cnS s (-1) sm.2.2.2.2)))
  else if ¬ sm.2.2.1 < s_n s then none else some (sc_l s (updI (s_l s) sm.2.2.1.toNat (a_xor (s_l s sm.2.2.1.toNat) (a_shl 1 sm.2.2.2.1))))
/-- they come one by one: the place of the first that is not as it must be -/
noncomputable def trF (s : SC) : List SM → Option Nat × SC
  | [] => (none, s)
  | sm :: t => match cmS s sm with
    | none => (some sm.2.1, s)
    | some s' => trF s' t
noncomputable def o_school (S : ST) : Int × ST :=
  if (allP S.2.2.1 80 0).1 then (match trF S.1 (allP S.2.2.1 80 0).2.2 with
    | (some p, _) => (-2000 - (p : Int), (S.1, S.2.1, [], S.2.2.2))
    | (none, s) => (((allP S.2.2.1 80 0).2.2.length : Int), (s, S.2.1, [], S.2.2.2)))
  else (-1000 - ((allP S.2.2.1 80 0).2.1 : Int), (S.1, S.2.1, [], S.2.2.2))
/-! what is read is as it should be -/
theorem ltr_lt {L : List Int} {p : Nat} (h : 0 ≤ ltr L p) : p < L.length := by
  rcases Nat.lt_or_ge p L.length with q | q
  · exact q
  · unfold ltr at h
    rw [List.getD_eq_getElem?_getD, List.getElem?_eq_none q] at h
    exact absurd h (by decide)
theorem wdO_pos {x : Int} (h : 0 ≤ wdO x) : 0 ≤ x := by
  unfold wdO at h
  repeat' split at h
  all_goals omega
theorem sayP_s {L : List Int} {n k p : Nat} (h : ¬ wdO (ltr L p) < 0) : sayP L (n + 1) (k + 1) p = ((sayP L n (k + ptW (wdO (ltr L p)).toNat) (p + 1)).1, (sayP L n (k + ptW (wdO (ltr L p)).toNat) (p + 1)).2.1, (wdO (ltr L p)).toNat :: (sayP L n (k + ptW (wdO (ltr L p)).toNat) (p + 1)).2.2) := by
  rw [sayP, if_neg h]
theorem sayP_n {L : List Int} {n k p : Nat} (h : wdO (ltr L p) < 0) : sayP L (n + 1) (k + 1) p = (false, p, []) := by
  rw [sayP, if_pos h]
theorem sayP_0 {L : List Int} {n p : Nat} : sayP L n 0 p = (true, p, []) := by
  cases n <;> rfl
theorem sayP_ok {L : List Int} : ∀ (n k p : Nat), (sayP L n k p).1 = true → hgt (sayP L n k p).2.2 = some k ∧ (sayP L n k p).2.2.length ≤ n ∧ (sayP L n k p).2.1 = p + (sayP L n k p).2.2.length ∧ ∀ j w : Nat, (sayP L n k p).2.2[j]? = some w → wdO (ltr L (p + j)) = (w : Int) := by
  intro n
  induction n with
  | zero =>
    intro k p h
    cases k with
    | zero => exact ⟨rfl, Nat.le_refl _, rfl, fun j w hj => by simp [sayP] at hj⟩
    | succ k => cases h
  | succ n ih =>
    intro k p h
    cases k with
    | zero => exact ⟨rfl, Nat.zero_le _, rfl, fun j w hj => by simp [sayP] at hj⟩
    | succ k =>
      by_cases e : wdO (ltr L p) < 0
      · rw [sayP_n e] at h; cases h
      · rw [sayP_s e] at h ⊢
        obtain ⟨h1, h2, h3, h4⟩ := ih _ _ h
        have hb := wdO_b (ltr L p)
        refine ⟨?_, by simp only [List.length_cons]; omega, by simp only [List.length_cons]; omega, fun j w hj => ?_⟩
        · show hgt ((wdO (ltr L p)).toNat :: _) = _
          by_cases e7 : (wdO (ltr L p)).toNat < 7
          · have ep : ptW (wdO (ltr L p)).toNat = 0 := by unfold ptW; rw [if_pos e7]
            rw [ep] at h1
            rw [ep]
            exact hgt_leaf h1 e7
          · have hp1 : 1 ≤ ptW (wdO (ltr L p)).toNat := by unfold ptW; rw [if_neg e7]; split <;> omega
            rw [hgt_cons h1 (by omega) (by omega)]
            congr 1
            omega
        · cases j with
          | zero =>
            simp only [List.getElem?_cons_zero, Option.some.injEq] at hj
            rw [Nat.add_zero]
            omega
          | succ j =>
            simp only [List.getElem?_cons_succ] at hj
            rw [show p + (j + 1) = p + 1 + j by omega]
            exact h4 j w hj
theorem sayP_pl {L : List Int} : ∀ (n k p : Nat), p ≤ L.length → p ≤ (sayP L n k p).2.1 ∧ (sayP L n k p).2.1 ≤ L.length := by
  intro n
  induction n with
  | zero =>
    intro k p h
    cases k with
    | zero => exact ⟨Nat.le_refl _, h⟩
    | succ k => exact ⟨Nat.le_refl _, h⟩
  | succ n ih =>
    intro k p h
    cases k with
    | zero => exact ⟨Nat.le_refl _, h⟩
    | succ k =>
      by_cases e : wdO (ltr L p) < 0
      · rw [sayP_n e]; exact ⟨Nat.le_refl _, h⟩
      · rw [sayP_s e]
        have := ltr_lt (wdO_pos (show 0 ≤ wdO (ltr L p) by omega))
        have := ih (k + ptW (wdO (ltr L p)).toNat) (p + 1) (by omega)
        exact ⟨by show p ≤ (sayP L n _ _).2.1; omega, this.2⟩
theorem endP_ok {L : List Int} {q : Nat} {sm : SM} (h : (endP L q sm).1 = true) : ltr L q = 59 ∧ endP L q sm = (true, q + 1, sm) := by
  unfold endP at h ⊢
  by_cases e : ltr L q = 59
  · rw [if_pos e]; exact ⟨e, rfl⟩
  · rw [if_neg e] at h; cases h
/-- a statement is as a reader leaves it -/
def smOK (sm : SM) : Prop := (sm.1 = 115 ∧ (0 ≤ sm.2.2.1 ∧ sm.2.2.1 ≤ 9) ∧ 0 ≤ sm.2.2.2.1 ∧ sm.2.2.2.1 ≤ 9) ∨ (sm.1 = 104 ∧ hgt sm.2.2.2.2 = some 1 ∧ sm.2.2.2.2.length ≤ 20) ∨ (sm.1 = 99 ∧ (0 ≤ sm.2.2.1 ∧ sm.2.2.1 ≤ 3) ∧ hgt sm.2.2.2.2 = some 1 ∧ sm.2.2.2.2.length ≤ 20) ∨ (sm.1 = 108 ∧ (0 ≤ sm.2.2.1 ∧ sm.2.2.1 ≤ 9) ∧ 0 ≤ sm.2.2.2.1 ∧ sm.2.2.2.1 ≤ 3)
/-- it comes to a school that is as it must be: the school is so again -/
theorem cmS_ok {s s' : SC} {sm : SM} (ok : scOK s) (hm : smOK sm) (h : cmS s sm = some s') : scOK s' := by
  sorry

