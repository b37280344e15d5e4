/-! WHAT THE DOCUMENT SAYS, as functions -/
def wd (g : Int) : Int := a_shl 1 (a_rem g 8)
def notF (k g x : Int) : Int := if k = 2 then x else if k = 5 then a_and x (a_xor (wd g) (-1)) else a_and 255 (a_xor x (-1))
def andF (k x y : Int) : Int := if k = 3 then a_and x (a_xor y (-1)) else a_and x y
def orF (k g x y : Int) : Int := if k = 1 then a_xor x y else if k = 4 then a_or (a_xor x y) (wd g) else a_or x y
def stepF (k g : Int) (lf : Nat → Int) (w : Nat) (l : List Int) : List Int :=
  if w < 7 then lf w :: l
  else if w = 7 then (match l with | x :: t => notF k g x :: t | [] => [])
  else (match l with | x :: y :: t => (if w = 8 then andF k x y else orF k g x y) :: t | _ => [])
def evF (k g : Int) (lf : Nat → Int) (ws : List Nat) : List Int := ws.foldr (stepF k g lf) []
def concF (k g : Int) (lf : Nat → Int) (ws : List Nat) : Int := (evF k g lf ws).headD 0
/-- how many sayings stand in a row of words; none: it is no row of sayings -/
def hgt : List Nat → Option Nat
  | [] => some 0
  | w :: t => match hgt t with
    | none => none
    | some n => if w < 7 then some (n + 1) else if w = 7 then (if 1 ≤ n then some n else none) else if w ≤ 9 then (if 2 ≤ n then some (n - 1) else none) else none
theorem hgt_tail {w : Nat} {t : List Nat} {n : Nat} (h : hgt (w :: t) = some n) : ∃ k, hgt t = some k ∧ ((w < 7 ∧ n = k + 1) ∨ (w = 7 ∧ 1 ≤ k ∧ n = k) ∨ ((w = 8 ∨ w = 9) ∧ 2 ≤ k ∧ n + 1 = k)) := by
  unfold hgt at h
  cases hk : hgt t with
  | none => rw [hk] at h; cases h
  | some k =>
    rw [hk] at h
    refine ⟨k, rfl, ?_⟩
    simp only at h
    split at h
    · cases h; exact Or.inl ⟨by assumption, rfl⟩
    · split at h
      · split at h
        · cases h; exact Or.inr (Or.inl ⟨by assumption, by assumption, rfl⟩)
        · cases h
      · split at h
        · split at h
          · cases h; exact Or.inr (Or.inr ⟨by omega, by assumption, by omega⟩)
          · cases h
        · cases h
theorem hgt_drop {ws : List Nat} {n : Nat} (h : hgt ws = some n) (k : Nat) : ∃ j, hgt (ws.drop k) = some j := by
  induction k generalizing ws n with
  | zero => exact ⟨n, by simpa using h⟩
  | succ k ih =>
    cases ws with
    | nil => exact ⟨0, by simp [hgt]⟩
    | cons w t =>
      obtain ⟨j, hj, -⟩ := hgt_tail h
      simpa using ih hj
theorem hgt_le {ws : List Nat} {n : Nat} (h : hgt ws = some n) : n ≤ ws.length := by
  induction ws generalizing n with
  | nil => cases h; exact Nat.le_refl _
  | cons w t ih =>
    obtain ⟨k, hk, hc⟩ := hgt_tail h
    have := ih hk
    simp only [List.length_cons]
    omega
theorem evF_cons (k g : Int) (lf : Nat → Int) (w : Nat) (t : List Nat) : evF k g lf (w :: t) = stepF k g lf w (evF k g lf t) := rfl
theorem evF_len {k g : Int} {lf : Nat → Int} {ws : List Nat} {n : Nat} (h : hgt ws = some n) : (evF k g lf ws).length = n := by
  induction ws generalizing n with
  | nil => cases h; rfl
  | cons w t ih =>
    obtain ⟨j, hj, hc⟩ := hgt_tail h
    have h1 := ih hj
    rw [evF_cons]
    generalize evF k g lf t = l at h1 ⊢
    unfold stepF
    rcases hc with ⟨hw, rfl⟩ | ⟨hw, hj1, rfl⟩ | ⟨hw, hj2, hn⟩
    · rw [if_pos hw, List.length_cons, h1]
    · rw [if_neg (by omega), if_pos hw]
      match l, h1 with
      | x :: t, h1 => exact h1
      | [], h1 => simp at h1; omega
    · rw [if_neg (by omega), if_neg (by omega)]
      match l, h1 with
      | x :: y :: t, h1 => simp at h1 ⊢; omega
      | [x], h1 => simp at h1; omega
      | [], h1 => simp at h1; omega
/-- a pile: the list's head is its top -/
def PR (f : Nat → Int) (l : List Int) : Prop := ∀ j, j < l.length → f (l.length - 1 - j) = l.getD j 0
theorem PR.nil (f : Nat → Int) : PR f [] := fun j hj => absurd hj (Nat.not_lt_zero _)
theorem PR.tail {f : Nat → Int} {x : Int} {t : List Int} (h : PR f (x :: t)) : PR f t := fun j hj => by
  have h1 := h (j + 1) (by simp; omega)
  simp only [List.length_cons, List.getD_cons_succ] at h1
  rw [← h1]
  congr 1
  omega
theorem PR.top {f : Nat → Int} {x : Int} {t : List Int} (h : PR f (x :: t)) : f t.length = x := by
  have h1 := h 0 (by simp)
  simpa using h1
theorem PR.cons {f : Nat → Int} {t : List Int} (h : PR f t) (v : Int) : PR (updI f t.length v) (v :: t) := fun j hj => by
  cases j with
  | zero => simp [updI]
  | succ j =>
    simp only [List.length_cons] at hj
    simp only [List.length_cons, List.getD_cons_succ]
    rw [← h j (by omega)]
    unfold updI
    rw [if_neg (by omega)]
    congr 1
    omega
theorem PR.cons_at {f : Nat → Int} {t : List Int} (h : PR f t) (v : Int) {i : Nat} (hi : i = t.length) : PR (updI f i v) (v :: t) := hi ▸ h.cons v
theorem drop_cons {ws : List Nat} {k w : Nat} (h : ws[k]? = some w) : ws.drop k = w :: ws.drop (k + 1) := by
  obtain ⟨hk, he⟩ := List.getElem?_eq_some_iff.mp h
  rw [List.drop_eq_getElem_cons hk, he]

