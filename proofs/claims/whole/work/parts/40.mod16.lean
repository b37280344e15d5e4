/-! what can be dropped -/
def ptW (w : Nat) : Nat := if w < 7 then 0 else if w = 7 then 1 else 2
/-- how many words n sayings are -/
def sk : Nat → List Nat → Nat
  | 0, _ => 0
  | _ + 1, [] => 0
  | n + 1, w :: t => 1 + sk (n + ptW w) t
theorem sk_z (t : List Nat) : sk 0 t = 0 := by cases t <;> rfl
theorem sk_cons (n w : Nat) (t : List Nat) : sk (n + 1) (w :: t) = 1 + sk (n + ptW w) t := rfl
theorem hgt_cons {w : Nat} {t : List Nat} {r : Nat} (ht : hgt t = some r) (hw : w ≤ 9) (hr : ptW w ≤ r) : hgt (w :: t) = some (r + 1 - ptW w) := by
  unfold hgt
  rw [ht]
  unfold ptW at hr ⊢
  simp only
  by_cases h7 : w < 7
  · rw [if_pos h7, if_pos h7]; rfl
  · rw [if_neg h7] at hr ⊢
    rw [if_neg h7]
    by_cases e7 : w = 7
    · rw [if_pos e7] at hr ⊢
      rw [if_pos e7, if_pos hr]
      rfl
    · rw [if_neg e7] at hr ⊢
      rw [if_neg e7, if_pos hw, if_pos hr]
      rfl
theorem hgt_un {w : Nat} {t : List Nat} {k : Nat} (h : hgt (w :: t) = some k) : w ≤ 9 ∧ ∃ r, hgt t = some r ∧ ptW w ≤ r ∧ k = r + 1 - ptW w := by
  obtain ⟨r, hr, hc⟩ := hgt_tail h
  unfold ptW
  rcases hc with ⟨h7, e⟩ | ⟨h7, h1, e⟩ | ⟨h7, h1, e⟩
  · exact ⟨by omega, r, hr, by rw [if_pos h7]; omega, by rw [if_pos h7]; omega⟩
  · exact ⟨by omega, r, hr, by rw [if_neg (by omega), if_pos h7]; omega, by rw [if_neg (by omega), if_pos h7]; omega⟩
  · exact ⟨by omega, r, hr, by rw [if_neg (by omega), if_neg (by omega)]; omega, by rw [if_neg (by omega), if_neg (by omega)]; omega⟩
theorem sk_ok {t : List Nat} : ∀ {n k : Nat}, hgt t = some k → n ≤ k → sk n t ≤ t.length ∧ hgt (t.drop (sk n t)) = some (k - n) ∧ ∀ (R : List Nat) (r : Nat), hgt R = some r → hgt (t.take (sk n t) ++ R) = some (r + n) := by
  induction t with
  | nil =>
    intro n k h hn
    cases h
    have : n = 0 := by omega
    subst this
    exact ⟨by simp [sk], by simp [sk, hgt], fun R r hR => by simpa [sk] using hR⟩
  | cons w t ih =>
    intro n k h hn
    cases n with
    | zero => exact ⟨by rw [sk_z]; exact Nat.zero_le _, by rw [sk_z]; simpa using h, fun R r hR => by rw [sk_z]; simpa using hR⟩
    | succ n =>
      obtain ⟨h9, r', hr', hp, hk⟩ := hgt_un h
      obtain ⟨a1, a2, a3⟩ := ih (n := n + ptW w) hr' (by omega)
      rw [sk_cons, Nat.add_comm 1]
      refine ⟨by simp only [List.length_cons]; omega, ?_, fun R r hR => ?_⟩
      · rw [List.drop_succ_cons, a2]
        congr 1
        omega
      · rw [List.take_succ_cons, List.cons_append, hgt_cons (a3 R r hR) h9 (by omega)]
        congr 1
        omega
/-- the place behind the saying that begins at i -/
def bhF (ws : List Nat) (i : Nat) : Nat := i + sk 1 (ws.drop i)
def butL (ws : List Nat) (f a b : Nat) : Nat → List Nat
  | 0 => []
  | j + 1 => if j = f ∨ (a ≤ j ∧ j < b) then butL ws f a b j else butL ws f a b j ++ [ws.getD j 0]
def sg (ws : List Nat) (a b : Nat) : List Nat := (ws.drop a).take (b - a)
theorem sg_succ {ws : List Nat} {a b : Nat} (hab : a ≤ b) (hb : b < ws.length) : sg ws a (b + 1) = sg ws a b ++ [ws.getD b 0] := by
  unfold sg
  rw [show b + 1 - a = (b - a) + 1 by omega, List.take_succ, List.getElem?_drop, show a + (b - a) = b by omega, List.getElem?_eq_getElem hb, List.getD_eq_getElem?_getD, List.getElem?_eq_getElem hb]
  rfl
theorem sg_self (ws : List Nat) (a : Nat) : sg ws a a = [] := by simp [sg]
theorem butL_eq {ws : List Nat} {f a b : Nat} (hfa : f + 1 ≤ a) (hab : a ≤ b) (hb : b ≤ ws.length) : ∀ n, n ≤ ws.length → (n ≤ f → butL ws f a b n = sg ws 0 n) ∧ (f < n → n ≤ a → butL ws f a b n = sg ws 0 f ++ sg ws (f + 1) n) ∧ (a ≤ n → n ≤ b → butL ws f a b n = sg ws 0 f ++ sg ws (f + 1) a) ∧ (b ≤ n → butL ws f a b n = sg ws 0 f ++ sg ws (f + 1) a ++ sg ws b n) := by
  intro n
  induction n with
  | zero =>
    intro _
    refine ⟨fun _ => by simp [butL, sg], fun h => by omega, fun h => by omega, fun h => by omega⟩
  | succ n ih =>
    intro hn
    obtain ⟨i1, i2, i3, i4⟩ := ih (by omega)
    refine ⟨fun h => ?_, fun h1 h2 => ?_, fun h1 h2 => ?_, fun h => ?_⟩
    · unfold butL
      rw [if_neg (by omega), i1 (by omega), sg_succ (by omega) (by omega)]
    · unfold butL
      by_cases e : n = f
      · subst e
        rw [if_pos (Or.inl rfl), i1 (Nat.le_refl _), sg_self, List.append_nil]
      · rw [if_neg (by omega), i2 (by omega) (by omega), sg_succ (by omega) (by omega), List.append_assoc]
    · by_cases e : n + 1 = a
      · have key : butL ws f a b (n + 1) = sg ws 0 f ++ sg ws (f + 1) (n + 1) := by
          unfold butL
          by_cases e2 : n = f
          · subst e2
            rw [if_pos (Or.inl rfl), i1 (Nat.le_refl _), sg_self, List.append_nil]
          · rw [if_neg (by omega), i2 (by omega) (by omega), sg_succ (by omega) (by omega), List.append_assoc]
        rw [key, e]
      · unfold butL
        rw [if_pos (Or.inr ⟨by omega, by omega⟩), i3 (by omega) (by omega)]
    · by_cases e : n + 1 = b
      · by_cases ea : a = b
        · have key : butL ws f a b (n + 1) = sg ws 0 f ++ sg ws (f + 1) (n + 1) := by
            unfold butL
            by_cases e2 : n = f
            · subst e2
              rw [if_pos (Or.inl rfl), i1 (Nat.le_refl _), sg_self, List.append_nil]
            · rw [if_neg (by omega), i2 (by omega) (by omega), sg_succ (by omega) (by omega), List.append_assoc]
          rw [key, ← e, sg_self, List.append_nil, ea, ← e]
        · unfold butL
          rw [if_pos (Or.inr ⟨by omega, by omega⟩), i3 (by omega) (by omega), ← e, sg_self, List.append_nil]
      · unfold butL
        rw [if_neg (by omega), i4 (by omega), sg_succ (by omega) (by omega)]
        simp only [List.append_assoc]
theorem butL_0 {ws : List Nat} {f : Nat} (n : Nat) : butL ws f 0 0 n = butL ws f (f + 1) (f + 1) n := by
  induction n with
  | zero => rfl
  | succ n ih =>
    unfold butL
    rw [ih]
    by_cases e : n = f
    · rw [if_pos (Or.inl e), if_pos (Or.inl e)]
    · rw [if_neg (by omega), if_neg (by omega)]
/-- the candidates at place i: without "n"; with the second saying alone; with the first alone -/
def cdN (ws : List Nat) (i : Nat) : List Nat := sg ws 0 i ++ ws.drop (i + 1)
def cdB (ws : List Nat) (i : Nat) : List Nat := sg ws 0 i ++ ws.drop (bhF ws (i + 1))
def cdA (ws : List Nat) (i : Nat) : List Nat := sg ws 0 i ++ sg ws (i + 1) (bhF ws (i + 1)) ++ ws.drop (bhF ws (bhF ws (i + 1)))
theorem sg_end (ws : List Nat) (b : Nat) : sg ws b ws.length = ws.drop b := by
  unfold sg
  rw [List.take_of_length_le (by simp)]
theorem hgt_app {p t t' : List Nat} {k : Nat} (h : hgt t = some k) (h' : hgt t' = some k) : hgt (p ++ t) = hgt (p ++ t') := by
  induction p with
  | nil => rw [List.nil_append, List.nil_append, h, h']
  | cons w p ih => rw [List.cons_append, List.cons_append, hgt, hgt, ih]
theorem sg_0 (ws : List Nat) (i : Nat) : sg ws 0 i = ws.take i := by simp [sg]
theorem cd_ok {ws : List Nat} (wf : hgt ws = some 1) {i w : Nat} (hi : ws[i]? = some w) : (w = 7 → hgt (cdN ws i) = some 1) ∧ (7 < w → (i + 1 < bhF ws (i + 1) ∨ i + 1 ≤ bhF ws (i + 1)) ∧ bhF ws (i + 1) ≤ ws.length ∧ bhF ws (i + 1) ≤ bhF ws (bhF ws (i + 1)) ∧ bhF ws (bhF ws (i + 1)) ≤ ws.length ∧ hgt (cdB ws i) = some 1 ∧ hgt (cdA ws i) = some 1) := by
  have hdr := drop_cons hi
  obtain ⟨k, hk⟩ := hgt_drop wf i
  have hws : hgt (ws.take i ++ ws.drop i) = some 1 := by rw [List.take_append_drop]; exact wf
  rw [hdr] at hk
  obtain ⟨h9, r, hr, hp, hkr⟩ := hgt_un hk
  have hk2 : hgt (ws.drop i) = some k := by rw [hdr]; exact hk
  have hl := (List.getElem?_eq_some_iff.mp hi).1
  refine ⟨fun h7 => ?_, fun h7 => ?_⟩
  · unfold cdN
    have ep : ptW w = 1 := by subst h7; rfl
    rw [sg_0, hgt_app (k := k) (by rw [hr]; congr 1; omega) hk2]
    exact hws
  · have ep : ptW w = 2 := by unfold ptW; rw [if_neg (by omega), if_neg (by omega)]
    obtain ⟨a1, a2, a3⟩ := sk_ok (n := 1) hr (by omega)
    rw [List.drop_drop] at a2
    have e1 : bhF ws (i + 1) = i + 1 + sk 1 (ws.drop (i + 1)) := rfl
    rw [← e1] at a2
    obtain ⟨b1, b2, b3⟩ := sk_ok (n := 1) a2 (by omega)
    rw [List.drop_drop] at b2
    have e2 : bhF ws (bhF ws (i + 1)) = bhF ws (i + 1) + sk 1 (ws.drop (bhF ws (i + 1))) := rfl
    rw [← e2] at b2
    rw [List.length_drop] at a1 b1
    refine ⟨Or.inr (by omega), by omega, by omega, by omega, ?_, ?_⟩
    · unfold cdB
      rw [sg_0, hgt_app (k := k) (by rw [a2]; congr 1; omega) hk2]
      exact hws
    · unfold cdA
      rw [sg_0, List.append_assoc]
      have h3 := a3 _ _ b2
      have e3 : sg ws (i + 1) (bhF ws (i + 1)) = (ws.drop (i + 1)).take (sk 1 (ws.drop (i + 1))) := by unfold sg; rw [e1, show i + 1 + sk 1 (ws.drop (i + 1)) - (i + 1) = sk 1 (ws.drop (i + 1)) by omega]
      rw [e3, hgt_app (k := k) (by rw [h3]; congr 1; omega) hk2]
      exact hws
noncomputable def drS (s : SC) (who due : Int) (c : List Nat) (p : Int × Int) : Int × Int := if cnS s who c = due then (p.1 + 1, if (c.length : Int) < p.2 then (c.length : Int) else p.2) else p
noncomputable def drAt (s : SC) (who due : Int) (ws : List Nat) (i : Nat) (p : Int × Int) : Int × Int := if ws.getD i 0 < 7 then p else if ws.getD i 0 = 7 then drS s who due (cdN ws i) p else drS s who due (cdA ws i) (drS s who due (cdB ws i) p)
noncomputable def drN (s : SC) (who due : Int) (ws : List Nat) : Nat → Int × Int
  | 0 => (0, (ws.length : Int))
  | n + 1 => drAt s who due ws n (drN s who due ws n)
noncomputable def o_drops (S : ST) (who i what : Int) : Int × ST := if ¬ ((-1 ≤ who ∧ who < s_n S.1) ∧ 0 ≤ i ∧ i < s_h S.1) then (-1, rf S 1) else if ¬ (0 ≤ what ∧ what ≤ 1) then (-2, rf S 2) else if what = 0 then ((drN S.1 who (cnS S.1 who (s_w S.1 i.toNat)) (s_w S.1 i.toNat) (s_w S.1 i.toNat).length).1, S) else ((drN S.1 who (cnS S.1 who (s_w S.1 i.toNat)) (s_w S.1 i.toNat) (s_w S.1 i.toNat).length).2, S)
theorem drS_b {s : SC} {who due : Int} {c : List Nat} {p : Int × Int} {n : Int} (h0 : 0 ≤ p.1) (h1 : p.1 ≤ n) (h2 : 0 ≤ p.2) (h3 : p.2 ≤ 20) : (0 ≤ (drS s who due c p).1 ∧ (drS s who due c p).1 ≤ n + 1) ∧ 0 ≤ (drS s who due c p).2 ∧ (drS s who due c p).2 ≤ 20 := by
  unfold drS
  split
  · refine ⟨⟨by show 0 ≤ p.1 + 1; omega, by show p.1 + 1 ≤ n + 1; omega⟩, ?_⟩
    show 0 ≤ (if (c.length : Int) < p.2 then (c.length : Int) else p.2) ∧ (if (c.length : Int) < p.2 then (c.length : Int) else p.2) ≤ 20
    split <;> omega
  · omega
theorem drN_b {s : SC} {who due : Int} {ws : List Nat} (h20 : ws.length ≤ 20) (n : Nat) : (0 ≤ (drN s who due ws n).1 ∧ (drN s who due ws n).1 ≤ 2 * (n : Int)) ∧ 0 ≤ (drN s who due ws n).2 ∧ (drN s who due ws n).2 ≤ 20 := by
  induction n with
  | zero => exact ⟨⟨Int.le_refl _, Int.le_refl _⟩, by show (0 : Int) ≤ (ws.length : Int); omega, by show (ws.length : Int) ≤ 20; omega⟩
  | succ n ih =>
    have e : drN s who due ws (n + 1) = drAt s who due ws n (drN s who due ws n) := rfl
    rw [e]
    unfold drAt
    split
    · omega
    · split
      · have := drS_b (s := s) (who := who) (due := due) (c := cdN ws n) ih.1.1 ih.1.2 ih.2.1 ih.2.2
        omega
      · have h1 := drS_b (s := s) (who := who) (due := due) (c := cdB ws n) ih.1.1 ih.1.2 ih.2.1 ih.2.2
        have h2 := drS_b (s := s) (who := who) (due := due) (c := cdA ws n) h1.1.1 h1.1.2 h1.2.1 h1.2.2
        omega

