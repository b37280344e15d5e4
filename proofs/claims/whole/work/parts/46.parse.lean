/-! A SCHOOL IN LETTERS: what its letters are (promise 3) -/
def ltr (L : List Int) (p : Nat) : Int := L.getD p (-1)
/-- a saying from p on, of n words at most, k are to come: is it one; the place behind (or at which it can't go on); its words -/
def sayP (L : List Int) : Nat → Nat → Nat → Bool × Nat × List Nat
  | _, 0, p => (true, p, [])
  | 0, _ + 1, p => (false, p, [])
  | n + 1, k + 1, p => if wdO (ltr L p) < 0 then (false, p, []) else ((sayP L n (k + ptW (wdO (ltr L p)).toNat) (p + 1)).1, (sayP L n (k + ptW (wdO (ltr L p)).toNat) (p + 1)).2.1, (wdO (ltr L p)).toNat :: (sayP L n (k + ptW (wdO (ltr L p)).toNat) (p + 1)).2.2)
/-- a statement: its letter, its place, two numbers, words -/
abbrev SM : Type := Int × Nat × Int × Int × List Nat
/-- is one read; the place behind, or at which it can't go on; it -/
abbrev RD : Type := Bool × Nat × SM
def badP (p : Nat) : RD := (false, p, 0, 0, 0, 0, [])
/-- the ; behind -/
def endP (L : List Int) (q : Nat) (sm : SM) : RD := if ltr L q = 59 then (true, q + 1, sm) else badP q
def isDg (x : Int) : Prop := 48 ≤ x ∧ x ≤ 57
def isNm (x : Int) : Prop := 65 ≤ x ∧ x ≤ 68
/-- what belongs to a letter, from p on -/
def raP (L : List Int) (lt : Int) (p : Nat) : RD :=
  if lt = 115 then (if ¬ (48 ≤ ltr L p ∧ ltr L p ≤ 57) then badP p else if ¬ (48 ≤ ltr L (p + 1) ∧ ltr L (p + 1) ≤ 57) then badP (p + 1) else (true, p + 2, 115, p - 1, ltr L p - 48, ltr L (p + 1) - 48, []))
  else if lt = 104 then ((sayP L 20 1 p).1, (sayP L 20 1 p).2.1, 104, p - 1, 0, 0, (sayP L 20 1 p).2.2)
  else if lt = 99 then (if ¬ (65 ≤ ltr L p ∧ ltr L p ≤ 68) then badP p else ((sayP L 20 1 (p + 1)).1, (sayP L 20 1 (p + 1)).2.1, 99, p - 1, ltr L p - 65, 0, (sayP L 20 1 (p + 1)).2.2))
  else (if ¬ (48 ≤ ltr L p ∧ ltr L p ≤ 57) then badP p else if ¬ (65 ≤ ltr L (p + 1) ∧ ltr L (p + 1) ≤ 68) then badP (p + 1) else (true, p + 2, 108, p - 1, ltr L p - 48, ltr L (p + 1) - 65, []))
def isLt (x : Int) : Prop := x = 115 ∨ x = 104 ∨ x = 99 ∨ x = 108
noncomputable def stP (L : List Int) (p : Nat) : RD := by
  classical
  exact if isLt (ltr L p) then (if (raP L (ltr L p) (p + 1)).1 then endP L (raP L (ltr L p) (p + 1)).2.1 (raP L (ltr L p) (p + 1)).2.2 else badP (raP L (ltr L p) (p + 1)).2.1) else badP p
theorem stP_n {L : List Int} {p : Nat} (h : ¬ isLt (ltr L p)) : stP L p = badP p := by
  unfold stP
  rw [if_neg h]
theorem stP_f {L : List Int} {p : Nat} (h : isLt (ltr L p)) (hr : (raP L (ltr L p) (p + 1)).1 = false) : stP L p = badP (raP L (ltr L p) (p + 1)).2.1 := by
  unfold stP
  rw [if_pos h, if_neg (by rw [hr]; decide)]
theorem stP_t {L : List Int} {p : Nat} (h : isLt (ltr L p)) (hr : (raP L (ltr L p) (p + 1)).1 = true) : stP L p = endP L (raP L (ltr L p) (p + 1)).2.1 (raP L (ltr L p) (p + 1)).2.2 := by
  unfold stP
  rw [if_pos h, if_pos hr]
/-- statements from p on, to the end; no more than f -/
noncomputable def allP (L : List Int) : Nat → Nat → Bool × Nat × List SM
  | 0, p => (true, p, [])
  | f + 1, p => if (stP L p).1 then (if L.length ≤ (stP L p).2.1 then (true, (stP L p).2.1, [(stP L p).2.2]) else ((allP L f (stP L p).2.1).1, (allP L f (stP L p).2.1).2.1, (stP L p).2.2 :: (allP L f (stP L p).2.1).2.2)) else (false, (stP L p).2.1, [])
/-- a statement comes; none: it is not as it must be -/
noncomputable def cmS (s : SC) (sm : SM) : Option SC :=
  if sm.1 = 115 then (if 5 < sm.2.2.1 ∨ s_n s = 5 then none else some (s_n s + 1, updI (s_k s) (s_n s) sm.2.2.1, updI (s_g s) (s_n s) sm.2.2.2.1, updI (s_l s) (s_n s) 0, s.2.2.2.2))
  else if sm.1 = 104 then (if s_h s = 6 then none else some (s_n s, s_k s, s_g s, s_l s, s_h s + 1, (fun i => if i = s_h s then sm.2.2.2.2 else s_w s i), s_c s))
  else if sm.1 = 99 then some (sc_c s (updI (s_c s) sm.2.2.1.toNat (cnS s (-1) sm.2.2.2.2)))
  else if ¬ sm.2.2.1 < s_n s then none else some (sc_l s (updI (s_l s) sm.2.2.1.toNat (a_xor (s_l s sm.2.2.1.toNat) (a_shl 1 sm.2.2.2.1))))
/-- they come one by one: the place of the first that is not as it must be -/
noncomputable def trF (s : SC) : List SM → Option Nat × SC
  | [] => (none, s)
  | sm :: t => match cmS s sm with
    | none => (some sm.2.1, s)
    | some s' => trF s' t
noncomputable def o_school (S : ST) : Int × ST :=
  if (allP S.2.2.1 80 0).1 then (match trF S.1 (allP S.2.2.1 80 0).2.2 with
    | (some p, _) => (-2000 - (p : Int), (S.1, S.2.1, [], S.2.2.2))
    | (none, s) => (((allP S.2.2.1 80 0).2.2.length : Int), (s, S.2.1, [], S.2.2.2)))
  else (-1000 - ((allP S.2.2.1 80 0).2.1 : Int), (S.1, S.2.1, [], S.2.2.2))
/-! what is read is as it should be -/
theorem ltr_lt {L : List Int} {p : Nat} (h : 0 ≤ ltr L p) : p < L.length := by
  rcases Nat.lt_or_ge p L.length with q | q
  · exact q
  · unfold ltr at h
    rw [List.getD_eq_getElem?_getD, List.getElem?_eq_none q] at h
    exact absurd h (by decide)
theorem wdO_pos {x : Int} (h : 0 ≤ wdO x) : 0 ≤ x := by
  unfold wdO at h
  repeat' split at h
  all_goals omega
theorem sayP_s {L : List Int} {n k p : Nat} (h : ¬ wdO (ltr L p) < 0) : sayP L (n + 1) (k + 1) p = ((sayP L n (k + ptW (wdO (ltr L p)).toNat) (p + 1)).1, (sayP L n (k + ptW (wdO (ltr L p)).toNat) (p + 1)).2.1, (wdO (ltr L p)).toNat :: (sayP L n (k + ptW (wdO (ltr L p)).toNat) (p + 1)).2.2) := by
  rw [sayP, if_neg h]
theorem sayP_n {L : List Int} {n k p : Nat} (h : wdO (ltr L p) < 0) : sayP L (n + 1) (k + 1) p = (false, p, []) := by
  rw [sayP, if_pos h]
theorem sayP_0 {L : List Int} {n p : Nat} : sayP L n 0 p = (true, p, []) := by
  cases n <;> rfl
theorem sayP_ok {L : List Int} : ∀ (n k p : Nat), (sayP L n k p).1 = true → hgt (sayP L n k p).2.2 = some k ∧ (sayP L n k p).2.2.length ≤ n ∧ (sayP L n k p).2.1 = p + (sayP L n k p).2.2.length ∧ ∀ j w : Nat, (sayP L n k p).2.2[j]? = some w → wdO (ltr L (p + j)) = (w : Int) := by
  intro n
  induction n with
  | zero =>
    intro k p h
    cases k with
    | zero => exact ⟨rfl, Nat.le_refl _, rfl, fun j w hj => by simp [sayP] at hj⟩
    | succ k => cases h
  | succ n ih =>
    intro k p h
    cases k with
    | zero => exact ⟨rfl, Nat.zero_le _, rfl, fun j w hj => by simp [sayP] at hj⟩
    | succ k =>
      by_cases e : wdO (ltr L p) < 0
      · rw [sayP_n e] at h; cases h
      · rw [sayP_s e] at h ⊢
        obtain ⟨h1, h2, h3, h4⟩ := ih _ _ h
        have hb := wdO_b (ltr L p)
        refine ⟨?_, by simp only [List.length_cons]; omega, by simp only [List.length_cons]; omega, fun j w hj => ?_⟩
        · show hgt ((wdO (ltr L p)).toNat :: _) = _
          by_cases e7 : (wdO (ltr L p)).toNat < 7
          · have ep : ptW (wdO (ltr L p)).toNat = 0 := by unfold ptW; rw [if_pos e7]
            rw [ep] at h1
            rw [ep]
            exact hgt_leaf h1 e7
          · have hp1 : 1 ≤ ptW (wdO (ltr L p)).toNat := by unfold ptW; rw [if_neg e7]; split <;> omega
            rw [hgt_cons h1 (by omega) (by omega)]
            congr 1
            omega
        · cases j with
          | zero =>
            simp only [List.getElem?_cons_zero, Option.some.injEq] at hj
            rw [Nat.add_zero]
            omega
          | succ j =>
            simp only [List.getElem?_cons_succ] at hj
            rw [show p + (j + 1) = p + 1 + j by omega]
            exact h4 j w hj
theorem sayP_pl {L : List Int} : ∀ (n k p : Nat), p ≤ L.length → p ≤ (sayP L n k p).2.1 ∧ (sayP L n k p).2.1 ≤ L.length := by
  intro n
  induction n with
  | zero =>
    intro k p h
    cases k with
    | zero => exact ⟨Nat.le_refl _, h⟩
    | succ k => exact ⟨Nat.le_refl _, h⟩
  | succ n ih =>
    intro k p h
    cases k with
    | zero => exact ⟨Nat.le_refl _, h⟩
    | succ k =>
      by_cases e : wdO (ltr L p) < 0
      · rw [sayP_n e]; exact ⟨Nat.le_refl _, h⟩
      · rw [sayP_s e]
        have := ltr_lt (wdO_pos (show 0 ≤ wdO (ltr L p) by omega))
        have := ih (k + ptW (wdO (ltr L p)).toNat) (p + 1) (by omega)
        exact ⟨by show p ≤ (sayP L n _ _).2.1; omega, this.2⟩
theorem endP_ok {L : List Int} {q : Nat} {sm : SM} (h : (endP L q sm).1 = true) : ltr L q = 59 ∧ endP L q sm = (true, q + 1, sm) := by
  unfold endP at h ⊢
  by_cases e : ltr L q = 59
  · rw [if_pos e]; exact ⟨e, rfl⟩
  · rw [if_neg e] at h; cases h
/-- a statement is as a reader leaves it -/
def smOK (sm : SM) : Prop := (sm.1 = 115 ∧ (0 ≤ sm.2.2.1 ∧ sm.2.2.1 ≤ 9) ∧ 0 ≤ sm.2.2.2.1 ∧ sm.2.2.2.1 ≤ 9) ∨ (sm.1 = 104 ∧ hgt sm.2.2.2.2 = some 1 ∧ sm.2.2.2.2.length ≤ 20) ∨ (sm.1 = 99 ∧ (0 ≤ sm.2.2.1 ∧ sm.2.2.1 ≤ 3) ∧ hgt sm.2.2.2.2 = some 1 ∧ sm.2.2.2.2.length ≤ 20) ∨ (sm.1 = 108 ∧ (0 ≤ sm.2.2.1 ∧ sm.2.2.1 ≤ 9) ∧ 0 ≤ sm.2.2.2.1 ∧ sm.2.2.2.1 ≤ 3)
theorem raP_ok {L : List Int} {lt : Int} {p : Nat} (hl : isLt lt) (h : (raP L lt p).1 = true) : smOK (raP L lt p).2.2 ∧ (raP L lt p).2.2.1 = lt ∧ (raP L lt p).2.2.2.1 = p - 1 ∧ p + 1 ≤ (raP L lt p).2.1 := by
  unfold isLt at hl
  unfold raP at h ⊢
  by_cases e1 : lt = 115
  · rw [if_pos e1] at h ⊢
    by_cases e2 : 48 ≤ ltr L p ∧ ltr L p ≤ 57
    · rw [if_neg (not_not_intro e2)] at h ⊢
      by_cases e3 : 48 ≤ ltr L (p + 1) ∧ ltr L (p + 1) ≤ 57
      · rw [if_neg (not_not_intro e3)] at h ⊢
        exact ⟨Or.inl ⟨rfl, ⟨by show 0 ≤ ltr L p - 48; omega, by show ltr L p - 48 ≤ 9; omega⟩, by show 0 ≤ ltr L (p + 1) - 48; omega, by show ltr L (p + 1) - 48 ≤ 9; omega⟩, e1.symm, rfl, by show p + 1 ≤ p + 2; omega⟩
      · rw [if_pos e3] at h; cases h
    · rw [if_pos e2] at h; cases h
  · rw [if_neg e1] at h ⊢
    by_cases e4 : lt = 104
    · rw [if_pos e4] at h ⊢
      obtain ⟨h1, h2, h3, -⟩ := sayP_ok 20 1 p h
      have := hgt_pos h1
      exact ⟨Or.inr (Or.inl ⟨rfl, h1, h2⟩), e4.symm, rfl, by show p + 1 ≤ (sayP L 20 1 p).2.1; omega⟩
    · rw [if_neg e4] at h ⊢
      by_cases e5 : lt = 99
      · rw [if_pos e5] at h ⊢
        by_cases e6 : 65 ≤ ltr L p ∧ ltr L p ≤ 68
        · rw [if_neg (not_not_intro e6)] at h ⊢
          obtain ⟨h1, h2, h3, -⟩ := sayP_ok 20 1 (p + 1) h
          have := hgt_pos h1
          exact ⟨Or.inr (Or.inr (Or.inl ⟨rfl, ⟨by show 0 ≤ ltr L p - 65; omega, by show ltr L p - 65 ≤ 3; omega⟩, h1, h2⟩)), e5.symm, rfl, by show p + 1 ≤ (sayP L 20 1 (p + 1)).2.1; omega⟩
        · rw [if_pos e6] at h; cases h
      · rw [if_neg e5] at h ⊢
        by_cases e2 : 48 ≤ ltr L p ∧ ltr L p ≤ 57
        · rw [if_neg (not_not_intro e2)] at h ⊢
          by_cases e3 : 65 ≤ ltr L (p + 1) ∧ ltr L (p + 1) ≤ 68
          · rw [if_neg (not_not_intro e3)] at h ⊢
            exact ⟨Or.inr (Or.inr (Or.inr ⟨rfl, ⟨by show 0 ≤ ltr L p - 48; omega, by show ltr L p - 48 ≤ 9; omega⟩, by show 0 ≤ ltr L (p + 1) - 65; omega, by show ltr L (p + 1) - 65 ≤ 3; omega⟩)), (show (108 : Int) = lt by omega), rfl, by show p + 1 ≤ p + 2; omega⟩
          · rw [if_pos e3] at h; cases h
        · rw [if_pos e2] at h; cases h
theorem raP_pl {L : List Int} {lt : Int} {p : Nat} (hp : p ≤ L.length) : (raP L lt p).2.1 ≤ L.length := by
  have hd : ∀ q, 48 ≤ ltr L q → q + 1 ≤ L.length := fun q hq => ltr_lt (by omega)
  unfold raP
  repeat' split
  · exact hp
  · rename_i a b; exact hd p (by omega)
  · rename_i a b c; exact hd (p + 1) (by omega)
  · exact (sayP_pl 20 1 p hp).2
  · exact hp
  · rename_i a b; exact (sayP_pl 20 1 (p + 1) (hd p (by omega))).2
  · exact hp
  · rename_i a b; exact hd p (by omega)
  · rename_i a b c; exact hd (p + 1) (by omega)
theorem stP_ok {L : List Int} {p : Nat} (h : (stP L p).1 = true) : smOK (stP L p).2.2 ∧ (stP L p).2.2.1 = ltr L p ∧ (stP L p).2.2.2.1 = p ∧ p + 3 ≤ (stP L p).2.1 ∧ (stP L p).2.1 ≤ L.length := by
  by_cases e : isLt (ltr L p)
  · cases hr : (raP L (ltr L p) (p + 1)).1 with
    | false => rw [stP_f e hr] at h; cases h
    | true =>
      rw [stP_t e hr] at h ⊢
      obtain ⟨h1, h2⟩ := endP_ok h
      rw [h2]
      obtain ⟨g1, g2, g3, g4⟩ := raP_ok e hr
      have := ltr_lt (L := L) (p := (raP L (ltr L p) (p + 1)).2.1) (by omega)
      exact ⟨g1, g2, g3, by show p + 3 ≤ (raP L (ltr L p) (p + 1)).2.1 + 1; omega, this⟩
  · rw [stP_n e] at h; cases h
theorem stP_pl {L : List Int} {p : Nat} (hp : p ≤ L.length) : (stP L p).2.1 ≤ L.length := by
  by_cases e : isLt (ltr L p)
  · have hp1 : p + 1 ≤ L.length := ltr_lt (by unfold isLt at e; omega)
    cases hr : (raP L (ltr L p) (p + 1)).1 with
    | false => rw [stP_f e hr]; exact raP_pl hp1
    | true =>
      rw [stP_t e hr]
      unfold endP
      split
      · exact ltr_lt (by omega)
      · exact raP_pl hp1
  · rw [stP_n e]; exact hp
theorem xor4 : ∀ l : Nat, l < 16 → ∀ n : Nat, n < 4 → 0 ≤ a_xor (l : Int) (a_shl 1 (n : Int)) ∧ a_xor (l : Int) (a_shl 1 (n : Int)) ≤ 15 := by decide +kernel
/-- it comes to a school that is as it must be: the school is so again -/
theorem cmS_ok {s s' : SC} {sm : SM} (ok : scOK s) (hm : smOK sm) (h : cmS s sm = some s') : scOK s' := by
  obtain ⟨o1, o2, o3, o4, o5⟩ := id ok
  unfold cmS at h
  rcases hm with ⟨e, ⟨a1, a2⟩, b1, b2⟩ | ⟨e, a1, a2⟩ | ⟨e, ⟨a1, a2⟩, b1, b2⟩ | ⟨e, ⟨a1, a2⟩, b1, b2⟩
  · rw [if_pos e] at h
    by_cases q : 5 < sm.2.2.1 ∨ s_n s = 5
    · rw [if_pos q] at h; cases h
    · rw [if_neg q] at h
      cases h
      refine ⟨by show s_n s + 1 ≤ 5; omega, o2, fun i hi => ?_, o4, o5⟩
      have hi' : i < s_n s + 1 := hi
      show (0 ≤ updI (s_k s) (s_n s) sm.2.2.1 i ∧ updI (s_k s) (s_n s) sm.2.2.1 i ≤ 5) ∧ (0 ≤ updI (s_g s) (s_n s) sm.2.2.2.1 i ∧ updI (s_g s) (s_n s) sm.2.2.2.1 i ≤ 9) ∧ 0 ≤ updI (s_l s) (s_n s) 0 i ∧ updI (s_l s) (s_n s) 0 i ≤ 15
      rcases Nat.lt_or_ge i (s_n s) with z | z
      · have := o3 i z
        rw [updI_ne _ _ (by omega), updI_ne _ _ (by omega), updI_ne _ _ (by omega)]
        exact this
      · rw [show i = s_n s by omega, updI_eq, updI_eq, updI_eq]
        omega
  · rw [if_neg (by omega), if_pos e] at h
    by_cases q : s_h s = 6
    · rw [if_pos q] at h; cases h
    · rw [if_neg q] at h
      cases h
      refine ⟨o1, by show s_h s + 1 ≤ 6; omega, o3, o4, fun i hi => ?_⟩
      have hi' : i < s_h s + 1 := hi
      show hgt (if i = s_h s then sm.2.2.2.2 else s_w s i) = some 1 ∧ (if i = s_h s then sm.2.2.2.2 else s_w s i).length ≤ 20
      by_cases z : i = s_h s
      · rw [if_pos z]; exact ⟨a1, a2⟩
      · rw [if_neg z]; exact o5 i (by omega)
  · rw [if_neg (by omega), if_neg (by omega), if_pos e] at h
    cases h
    refine ⟨o1, o2, o3, fun i hi => ?_, o5⟩
    show updI (s_c s) sm.2.2.1.toNat (cnS s (-1) sm.2.2.2.2) i = -9 ∨ _
    unfold updI
    by_cases z : i = sm.2.2.1.toNat
    · rw [if_pos z]
      refine Or.inr ?_
      show 0 ≤ updI (s_c s) sm.2.2.1.toNat (cnS s (-1) sm.2.2.2.2) i ∧ updI (s_c s) sm.2.2.1.toNat (cnS s (-1) sm.2.2.2.2) i ≤ 255
      rw [z, updI_eq]
      exact cnS_in8 ok (by omega) _
    · rw [if_neg z]
      have := o4 i hi
      show _ ∨ 0 ≤ updI (s_c s) sm.2.2.1.toNat (cnS s (-1) sm.2.2.2.2) i ∧ updI (s_c s) sm.2.2.1.toNat (cnS s (-1) sm.2.2.2.2) i ≤ 255
      rw [updI_ne _ _ z]
      exact this
  · rw [if_neg (by omega), if_neg (by omega), if_neg (by omega)] at h
    by_cases q : sm.2.2.1 < s_n s
    · rw [if_neg (not_not_intro q)] at h
      cases h
      refine ⟨o1, o2, fun i hi => ?_, o4, o5⟩
      have hi' : i < s_n s := hi
      refine ⟨(o3 i hi').1, (o3 i hi').2.1, ?_⟩
      have h3 := (o3 i hi').2.2
      show 0 ≤ updI (s_l s) sm.2.2.1.toNat (a_xor (s_l s sm.2.2.1.toNat) (a_shl 1 sm.2.2.2.1)) i ∧ updI (s_l s) sm.2.2.1.toNat (a_xor (s_l s sm.2.2.1.toNat) (a_shl 1 sm.2.2.2.1)) i ≤ 15
      by_cases z : i = sm.2.2.1.toNat
      · rw [z, updI_eq]
        rw [z] at h3
        have := xor4 (s_l s sm.2.2.1.toNat).toNat (by omega) sm.2.2.2.1.toNat (by omega)
        rw [Int.toNat_of_nonneg h3.1, Int.toNat_of_nonneg b1] at this
        exact this
      · rw [updI_ne _ _ z]; exact h3
    · rw [if_pos q] at h; cases h

