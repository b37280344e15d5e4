/-! THE STATE: strangers (how many; kind, figure, learnt), scholars (how many; sayings), names; an image; letters; the row; refusals -/
abbrev SC : Type := Nat × (Nat → Int) × (Nat → Int) × (Nat → Int) × Nat × (Nat → List Nat) × (Nat → Int)
abbrev ST : Type := SC × Option SC × List Int × List Int × (Nat → Int)
abbrev s_n (s : SC) : Nat := s.1
abbrev s_k (s : SC) : Nat → Int := s.2.1
abbrev s_g (s : SC) : Nat → Int := s.2.2.1
abbrev s_l (s : SC) : Nat → Int := s.2.2.2.1
abbrev s_h (s : SC) : Nat := s.2.2.2.2.1
abbrev s_w (s : SC) : Nat → List Nat := s.2.2.2.2.2.1
abbrev s_c (s : SC) : Nat → Int := s.2.2.2.2.2.2
def scOK (s : SC) : Prop := s_n s ≤ 5 ∧ s_h s ≤ 6 ∧ (∀ i, i < s_n s → (0 ≤ s_k s i ∧ s_k s i ≤ 5) ∧ (0 ≤ s_g s i ∧ s_g s i ≤ 9) ∧ 0 ≤ s_l s i ∧ s_l s i ≤ 15) ∧ (∀ i, i < 4 → s_c s i = -9 ∨ (0 ≤ s_c s i ∧ s_c s i ≤ 255)) ∧ ∀ i, i < s_h s → hgt (s_w s i) = some 1 ∧ (s_w s i).length ≤ 20
def stOK (S : ST) : Prop := scOK S.1 ∧ (∀ s, S.2.1 = some s → scOK s) ∧ S.2.2.1.length ≤ 80 ∧ (∀ x ∈ S.2.2.1, 0 ≤ x ∧ x ≤ 255) ∧ S.2.2.2.1.length ≤ 6 ∧ ∀ x ∈ S.2.2.2.1, 0 ≤ x ∧ x ≤ 255
def isWho (s : SC) (who : Int) : Prop := -1 ≤ who ∧ who < s_n s
def isStr (s : SC) (who : Int) : Prop := 0 ≤ who ∧ who < s_n s
def isSch (s : SC) (i : Int) : Prop := 0 ≤ i ∧ i < s_h s
def kkS (s : SC) (who : Int) : Int := if who < 0 then 0 else s_k s who.toNat
def ggS (s : SC) (who : Int) : Int := if who < 0 then 0 else s_g s who.toNat
def nmS (s : SC) (who : Int) (n : Nat) : Int := if who < 0 ∨ a_and (a_shr (s_l s who.toNat) n) 1 = 1 then s_c s n else -9
def lfK (nm : Nat → Int) (w : Nat) : Int := if w = 0 then 170 else if w = 1 then 204 else if w = 2 then 240 else if nm (w - 3) < 0 then 0 else nm (w - 3)
def cnS (s : SC) (who : Int) (ws : List Nat) : Int := concF (kkS s who) (ggS s who) (lfK (nmS s who)) ws
theorem evF_congr {k g : Int} {lf lf' : Nat → Int} (h : ∀ w, w < 7 → lf w = lf' w) (ws : List Nat) : evF k g lf ws = evF k g lf' ws := by
  induction ws with
  | nil => rfl
  | cons w t ih =>
    rw [evF_cons, evF_cons, ih]
    unfold stepF
    by_cases hw : w < 7
    · rw [if_pos hw, if_pos hw, h w hw]
    · rw [if_neg hw, if_neg hw]
theorem concF_congr {k g : Int} {lf lf' : Nat → Int} (h : ∀ w, w < 7 → lf w = lf' w) (ws : List Nat) : concF k g lf ws = concF k g lf' ws := by
  unfold concF
  rw [evF_congr h]
/-! the model's rows and the state -/
def MSC (m : Nat → Int) (A : Nat → Nat → Int) (s : SC) : Prop := m 7 = (s_n s : Int) ∧ m 8 = (s_h s : Int) ∧ (∀ i, i < s_n s → A 118 i = s_k s i ∧ A 119 i = s_g s i ∧ A 120 i = s_l s i) ∧ (∀ i, i < 4 → A 121 i = s_c s i) ∧ (∀ i, i < s_h s → A 122 i = ((s_w s i).length : Int)) ∧ ∀ i, i < s_h s → ∀ j w : Nat, (s_w s i)[j]? = some w → A 123 (20 * i + j) = (w : Int)
def KSC (f : Nat → Int) (b : Nat) (s : SC) : Prop := f (b + 148) = (s_n s : Int) ∧ f (b + 149) = (s_h s : Int) ∧ (∀ i, i < s_n s → f (b + i) = s_k s i ∧ f (b + 6 + i) = s_g s i ∧ f (b + 12 + i) = s_l s i) ∧ (∀ i, i < 4 → f (b + 18 + i) = s_c s i) ∧ (∀ i, i < s_h s → f (b + 22 + i) = ((s_w s i).length : Int)) ∧ ∀ i, i < s_h s → ∀ j w : Nat, (s_w s i)[j]? = some w → f (b + 28 + (20 * i + j)) = (w : Int)
def MIm (m : Nat → Int) (f : Nat → Int) (o : Option SC) : Prop := match o with
  | none => m 19 = 0
  | some s => m 19 = 1 ∧ KSC f 0 s
def MP (m : Nat → Int) (A : Nat → Nat → Int) (S : ST) : Prop := MSC m A S.1 ∧ MIm m (A 130) S.2.1 ∧ m 15 = (S.2.2.1.length : Int) ∧ (∀ (i : Nat) (x : Int), S.2.2.1[i]? = some x → A 124 i = x) ∧ m 31 = (S.2.2.2.1.length : Int) ∧ (∀ (i : Nat) (x : Int), S.2.2.2.1[i]? = some x → A 135 i = x) ∧ ∀ i, 1 ≤ i → i ≤ 6 → A 117 i = S.2.2.2.2 i
/-- the model stands for S -/
def MS (h0 h : AH) (S : ST) : Prop := ∃ (m : Nat → Int) (A : Nat → Nat → Int), MR h0 h m A ∧ MP m A S ∧ stOK S
/-- only what no call shows has changed -/
def SQ (m m' : Nat → Int) (A A' : Nat → Nat → Int) : Prop := (m' 7 = m 7 ∧ m' 8 = m 8 ∧ m' 15 = m 15 ∧ m' 19 = m 19 ∧ m' 31 = m 31) ∧ A' 117 = A 117 ∧ A' 118 = A 118 ∧ A' 119 = A 119 ∧ A' 120 = A 120 ∧ A' 121 = A 121 ∧ A' 122 = A 122 ∧ A' 123 = A 123 ∧ A' 124 = A 124 ∧ A' 130 = A 130 ∧ A' 135 = A 135
theorem SQ.rfl' {m : Nat → Int} {A : Nat → Nat → Int} : SQ m m A A := ⟨⟨rfl, rfl, rfl, rfl, rfl⟩, rfl, rfl, rfl, rfl, rfl, rfl, rfl, rfl, rfl, rfl⟩
theorem SQ.trans {m m' m2 : Nat → Int} {A A' A2 : Nat → Nat → Int} (h : SQ m m' A A') (h' : SQ m' m2 A' A2) : SQ m m2 A A2 := by
  obtain ⟨⟨a1, a2, a3, a4, a5⟩, b1, b2, b3, b4, b5, b6, b7, b8, b9, b10⟩ := h
  obtain ⟨⟨c1, c2, c3, c4, c5⟩, d1, d2, d3, d4, d5, d6, d7, d8, d9, d10⟩ := h'
  exact ⟨⟨c1.trans a1, c2.trans a2, c3.trans a3, c4.trans a4, c5.trans a5⟩, d1.trans b1, d2.trans b2, d3.trans b3, d4.trans b4, d5.trans b5, d6.trans b6, d7.trans b7, d8.trans b8, d9.trans b9, d10.trans b10⟩
theorem MSC.sq {m m' : Nat → Int} {A A' : Nat → Nat → Int} {s : SC} (q : SQ m m' A A') (h : MSC m A s) : MSC m' A' s := by
  obtain ⟨⟨a1, a2, a3, a4, a5⟩, b1, b2, b3, b4, b5, b6, b7, b8, b9, b10⟩ := q
  unfold MSC
  rw [a1, a2, b2, b3, b4, b5, b6, b7]
  exact h
theorem MP.sq {m m' : Nat → Int} {A A' : Nat → Nat → Int} {S : ST} (q : SQ m m' A A') (h : MP m A S) : MP m' A' S := by
  obtain ⟨h1, h2, h3, h4, h5, h6, h7⟩ := h
  have hs := h1.sq q
  obtain ⟨⟨a1, a2, a3, a4, a5⟩, b1, b2, b3, b4, b5, b6, b7, b8, b9, b10⟩ := q
  refine ⟨hs, ?_, a3.trans h3, by rw [b8]; exact h4, a5.trans h5, by rw [b10]; exact h6, by rw [b1]; exact h7⟩
  rw [b9]
  unfold MIm at h2 ⊢
  rw [a4]
  exact h2
/-- a refusal -/
def rf (S : ST) (k : Nat) : ST := (S.1, S.2.1, S.2.2.1, S.2.2.2.1, updI S.2.2.2.2 k (a_add (S.2.2.2.2 k) 1))
theorem rf_ok {S : ST} {k : Nat} (h : stOK S) : stOK (rf S k) := h
theorem MP.rf {m : Nat → Int} {A : Nat → Nat → Int} {S : ST} {k : Nat} (h1 : 1 ≤ k) (h6 : k ≤ 6) (h : MP m A S) : MP m (rfA A k) (rf S k) := by
  obtain ⟨g1, g2, g3, g4, g5, g6, g7⟩ := h
  refine ⟨g1, g2, g3, g4, g5, g6, fun i hi1 hi2 => ?_⟩
  show updI (A 117) k (a_add (A 117 k) 1) i = updI S.2.2.2.2 k (a_add (S.2.2.2.2 k) 1) i
  unfold updI
  rw [g7 i hi1 hi2, g7 k h1 h6]
/-! what the calls answer and do -/
def LETT (w : Nat) : Int := rowOf [112, 113, 114, 65, 66, 67, 68, 110, 97, 111] w
def sumN : Nat → (Nat → Int) → Int
  | 0, _ => 0
  | n + 1, f => sumN n f + f n
noncomputable def o_feed (S : ST) (x : Int) : Int × ST := if x < 0 then (-4, rf S 4) else if 255 < x ∨ S.2.2.1.length = 80 then (-6, rf S 6) else ((S.2.2.1.length : Int) + 1, (S.1, S.2.1, S.2.2.1 ++ [x], S.2.2.2))
def lnF (l n is : Int) : Int := a_or (a_and l (a_xor (a_shl 1 n) (-1))) (a_shl is n)
def sc_l (s : SC) (f : Nat → Int) : SC := (s.1, s.2.1, s.2.2.1, f, s.2.2.2.2)
def sc_c (s : SC) (f : Nat → Int) : SC := (s.1, s.2.1, s.2.2.1, s.2.2.2.1, s.2.2.2.2.1, s.2.2.2.2.2.1, f)
def sc_h (s : SC) (n : Nat) : SC := (s.1, s.2.1, s.2.2.1, s.2.2.2.1, n, s.2.2.2.2.2)
noncomputable def o_stranger (S : ST) (who what : Int) : Int × ST := if ¬ (0 ≤ who ∧ who < s_n S.1) then (-1, rf S 1) else if what = 0 then (s_k S.1 who.toNat, S) else if what = 1 then (s_g S.1 who.toNat, S) else if what = 2 then (s_l S.1 who.toNat, S) else (-2, rf S 2)
noncomputable def o_learn (S : ST) (who n is : Int) : Int × ST := if ¬ ((0 ≤ who ∧ who < s_n S.1) ∧ 0 ≤ n ∧ n < 4) then (-1, rf S 1) else if ¬ (0 ≤ is ∧ is ≤ 1) then (-2, rf S 2) else (a_and (a_shr (s_l S.1 who.toNat) n) 1, (sc_l S.1 (updI (s_l S.1) who.toNat (lnF (s_l S.1 who.toNat) n is)), S.2))
noncomputable def o_name (S : ST) (n : Int) : Int × ST := if ¬ (0 ≤ n ∧ n < 4) then (-1, rf S 1) else (s_c S.1 n.toNat, S)
def cvF (v : Int) : Int := if v < 0 then -9 else v
noncomputable def o_coin (S : ST) (n v : Int) : Int × ST := if ¬ (0 ≤ n ∧ n < 4) then (-1, rf S 1) else if v < -1 then (-4, rf S 4) else if 255 < v then (-6, rf S 6) else (s_c S.1 n.toNat, (sc_c S.1 (updI (s_c S.1) n.toNat (cvF v)), S.2))
noncomputable def o_saying (S : ST) (i j : Int) : Int × ST := if ¬ (0 ≤ i ∧ i < s_h S.1) then (-1, rf S 1) else if j < -1 then (-4, rf S 4) else (if j < 0 then ((s_w S.1 i.toNat).length : Int) else if j < ((s_w S.1 i.toNat).length : Int) then LETT ((s_w S.1 i.toNat).getD j.toNat 0) else -9, S)
noncomputable def o_leave (S : ST) : Int × ST := if s_h S.1 = 0 then (-3, rf S 3) else ((s_h S.1 : Int) - 1, (sc_h S.1 (s_h S.1 - 1), S.2))
noncomputable def o_concludes (S : ST) (who i : Int) : Int × ST := if ¬ ((-1 ≤ who ∧ who < s_n S.1) ∧ 0 ≤ i ∧ i < s_h S.1) then (-1, rf S 1) else (cnS S.1 who (s_w S.1 i.toNat), S)
/-- the least world that is in u, from 8 - n on -/
noncomputable def ptF (u : Int) : Nat → Int
  | 0 => -9
  | n + 1 => if a_and (a_shr u (7 - (n : Int))) 1 = 1 then 7 - (n : Int) else ptF u n
noncomputable def o_parts (S : ST) (who i j : Int) : Int × ST := if ¬ ((-1 ≤ who ∧ who < s_n S.1) ∧ (0 ≤ i ∧ i < s_h S.1) ∧ (0 ≤ j ∧ j < s_h S.1) ∧ i ≠ j) then (-1, rf S 1) else (ptF (a_xor (cnS S.1 who (s_w S.1 i.toNat)) (cnS S.1 who (s_w S.1 j.toNat))) 8, S)
def btS (s : SC) (who : Int) (a b : Nat) : Prop := (s_w s a).length < (s_w s b).length ∧ cnS s who (s_w s a) = cnS s who (s_w s b)
noncomputable def iv (p : Prop) (v : Int) : Int := by
  classical
  exact if p then v else 0
theorem iv_pos {p : Prop} {v : Int} (h : p) : iv p v = v := if_pos h
theorem iv_neg {p : Prop} {v : Int} (h : ¬ p) : iv p v = 0 := if_neg h
noncomputable def o_won (S : ST) (who i : Int) : Int × ST := if ¬ ((-1 ≤ who ∧ who < s_n S.1) ∧ 0 ≤ i ∧ i < s_h S.1) then (-1, rf S 1) else (sumN (s_h S.1) (fun j => iv (btS S.1 who i.toNat j) 1), S)
noncomputable def mwF (s : SC) (who : Int) (j : Nat) : Int := iv (¬ ∃ i, i < s_h s ∧ btS s who i j) ((2 ^ j : Nat) : Int)
noncomputable def o_masters (S : ST) (who : Int) : Int × ST := if ¬ (-1 ≤ who ∧ who < s_n S.1) then (-1, rf S 1) else (sumN (s_h S.1) (mwF S.1 who), S)
noncomputable def o_row (S : ST) (v : Int) : Int × ST := if v < 0 then (-4, rf S 4) else if 255 < v ∨ S.2.2.2.1.length = 6 then (-6, rf S 6) else ((S.2.2.2.1.length : Int) + 1, (S.1, S.2.1, S.2.2.1, S.2.2.2.1 ++ [v], S.2.2.2.2))
/-- the first of n scholars, from i on, from whose saying a told one is not concluded; e if there is none -/
noncomputable def jdF (s : SC) (who : Int) (row : List Int) (e : Int) : Nat → Nat → Int
  | _, 0 => e
  | i, n + 1 => if row.getD i 0 ≠ cnS s who (s_w s i) then (i : Int) else jdF s who row e (i + 1) n
noncomputable def o_judge (S : ST) (who : Int) : Int × ST := if ¬ (-1 ≤ who ∧ who < s_n S.1) then (-1, rf S 1) else (jdF S.1 who S.2.2.2.1 (if S.2.2.2.1.length = s_h S.1 then -9 else ((min S.2.2.2.1.length (s_h S.1) : Nat) : Int)) 0 (min S.2.2.2.1.length (s_h S.1)), (S.1, S.2.1, S.2.2.1, [], S.2.2.2.2))
noncomputable def o_unlike (S : ST) (i : Int) : Int × ST := if ¬ (0 ≤ i ∧ i < s_h S.1) then (-1, rf S 1) else (sumN (s_n S.1) (fun a => iv (¬ ∃ b : Nat, b < a ∧ cnS S.1 b (s_w S.1 i.toNat) = cnS S.1 a (s_w S.1 i.toNat)) 1), S)
def agS (s : SC) (a b : Nat) : Prop := ∀ i, i < s_h s → cnS s a (s_w s i) = cnS s b (s_w s i)
noncomputable def o_agree (S : ST) : Int × ST := (sumN (s_n S.1) (fun a => sumN (s_n S.1) (fun b => iv (a < b ∧ agS S.1 a b) 1)), S)
def o_image (S : ST) : Int × ST := ((s_h S.1 : Int), (S.1, some S.1, S.2.2))
noncomputable def o_restore (S : ST) : Int × ST := match S.2.1 with
  | none => (-3, rf S 3)
  | some s => ((s_h s : Int), (s, S.2.1, S.2.2))
noncomputable def o_count (S : ST) (what : Int) : Int × ST := (if what = 0 then (s_n S.1 : Int) else if what = 1 then (s_h S.1 : Int) else if what = 2 then sumN 4 (fun i => if 0 ≤ s_c S.1 i then 1 else 0) else if what = 3 then sumN (s_h S.1) (fun i => ((s_w S.1 i).length : Int)) else if what = 4 then (S.2.2.1.length : Int) else if what = 5 then (S.2.2.2.1.length : Int) else if 11 ≤ what ∧ what ≤ 16 then S.2.2.2.2 (what - 10).toNat else -9, S)
/-- a word that was not heard: which it can have been (those below n) -/
def alike (a b : Nat) : Prop := if a < 7 then b < 7 else if a = 7 then b = 7 else 7 < b
noncomputable def hdF (s : SC) (who : Int) (ws : List Nat) (j : Nat) (v : Int) (w : Nat) : Int := iv (alike (ws.getD j 0) w ∧ cnS s who (ws.set j w) = v) ((2 ^ w : Nat) : Int)
noncomputable def o_heard (S : ST) (who i j v : Int) : Int × ST := if ¬ ((-1 ≤ who ∧ who < s_n S.1) ∧ 0 ≤ i ∧ i < s_h S.1) then (-1, rf S 1) else if j < 0 ∨ v < 0 then (-4, rf S 4) else if ((s_w S.1 i.toNat).length : Int) ≤ j ∨ 255 < v then (-6, rf S 6)
    else (sumN 10 (hdF S.1 who (s_w S.1 i.toNat) j.toNat v), S)

