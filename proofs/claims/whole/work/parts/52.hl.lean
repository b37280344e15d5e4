/-! new cells, in a row -/
section HLs
variable {d bc bs bc' bs' bc'' bs'' d' : Nat} {M N : MT} {Q : Option AV → AH → Prop} {pc : Nat} {ls : List (Option AV)} {st rest : List AV} {h h0 h1 h2 : AH} {l l2 : List AC} {B : Nat} {c : AC}
def HL (B : Nat) (h0 h : AH) (l : List AC) : Prop := 16 + h.1 = B + l.length ∧ (∀ (j : Nat) (c : AC), l[j]? = some c → h.2 (B + j) = c) ∧ ∀ a, a < B → h.2 a = h0.2 a
theorem HL.nil (h1 : 16 + h.1 = B) : HL B h h [] := ⟨h1, fun j c hj => by simp at hj, fun _ _ => rfl⟩
theorem HL.push (H : HL B h0 h l) : HL B h0 (hpush h c) (l ++ [c]) := by
  obtain ⟨g1, g2, g3⟩ := H
  refine ⟨by rw [hpush_1, List.length_append, List.length_singleton]; omega, fun j x hj => ?_, fun a ha => by rw [hpush_ne _ _ (by omega)]; exact g3 a ha⟩
  rcases Nat.lt_or_ge j l.length with q | q
  · rw [List.getElem?_append_left q] at hj
    rw [hpush_ne _ _ (by omega)]
    exact g2 j x hj
  · rw [List.getElem?_append_right q] at hj
    have h5 := (List.getElem?_eq_some_iff.mp hj).1
    simp only [List.length_singleton] at h5
    rw [show j - l.length = 0 by omega] at hj
    cases hj
    rw [show B + j = 16 + h.1 by omega, hpush_eq]
theorem HL.one (e : 16 + h.1 = B) : HL B h (hpush h c) [c] := HL.push (HL.nil e)
theorem HL.upd {j : Nat} (H : HL B h0 h l) (hj : j < l.length) (e1 : h1.1 = h.1) (e2 : h1.2 (B + j) = c) (e3 : ∀ b, b ≠ B + j → h1.2 b = h.2 b) : HL B h0 h1 (l.set j c) := by
  obtain ⟨g1, g2, g3⟩ := H
  refine ⟨by rw [e1, List.length_set]; exact g1, fun i x hi => ?_, fun a ha => by rw [e3 _ (by omega)]; exact g3 a ha⟩
  by_cases q : i = j
  · subst q
    rw [List.getElem?_set_self hj] at hi
    cases hi
    exact e2
  · rw [List.getElem?_set_ne (by omega)] at hi
    rw [e3 _ (by omega)]
    exact g2 i x hi
theorem HL.set {j : Nat} (H : HL B h0 h l) (hj : j < l.length) : HL B h0 (hset h (B + j) c) (l.set j c) := HL.upd H hj rfl (hset_eq _ _ _) (fun b hb => hset_ne _ _ hb)
theorem HL.app (H : HL B h0 h l) (H2 : HL (B + l.length) h h2 l2) : HL B h0 h2 (l ++ l2) := by
  obtain ⟨g1, g2, g3⟩ := H
  obtain ⟨k1, k2, k3⟩ := H2
  refine ⟨by rw [List.length_append]; omega, fun j x hj => ?_, fun a ha => by rw [k3 a (by omega)]; exact g3 a ha⟩
  rcases Nat.lt_or_ge j l.length with q | q
  · rw [List.getElem?_append_left q] at hj
    rw [k3 _ (by omega)]
    exact g2 j x hj
  · rw [List.getElem?_append_right q] at hj
    have := k2 _ _ hj
    rw [show B + l.length + (j - l.length) = B + j by omega] at this
    exact this
theorem HL.gp (H : HL B h0 h l) (k : ∀ h', HL B h0 h' (l ++ [c]) → AW d bc bs M Q pc ls st h') : AW d bc bs M Q pc ls st (hpush h c) := k _ H.push
theorem HL.gs (j : Nat) (H : HL B h0 h l) (hj : j < l.length) (k : ∀ h', HL B h0 h' (l.set j c) → AW d bc bs M Q pc ls st h') : AW d bc bs M Q pc ls st (hset h (B + j) c) := k _ (H.set hj)
theorem AW.kI1 {a t : Nat} {fs : List AV} (bc' bs' : Nat) {ins : Instr} (hs : Site M ins N 0 (some t)) (hN : MOK N 0) (hd : decode M.2.1 pc = .ok (ins, 3)) (ha : h.2 a = .inl (t + 1, fs)) (hdp : d' + 1 ≤ d) (hb : bc = bc' + bc'') (hb2 : bs = bs' + bs'') (k : MW d' bc' bs' N [.inr a] h (fun r h' => AW d bc'' bs'' M Q (pc + 3) ls (psh r rest) h')) (ht : t < 32 := by decide) (hr : rest.length ≤ 8 := by exact Nat.le_of_ble_eq_true rfl) (hvs : 1 ≤ N.2.2.1 := by exact Nat.le_of_ble_eq_true rfl) : AW d bc bs M Q pc ls (.inr a :: rest) h :=
  AW.call (vs := [.inr a]) (rest := rest) (bc' := bc') (bs' := bs') (bc'' := bc'') (bs'' := bs'') hs hN hd hdp hr hb hb2 rfl hvs ⟨rfl, a, fs, _, rfl, ha, ht⟩ (by simp only [psh_eq]; exact k)
theorem AW.kI2 {a t : Nat} {v1 : AV} {fs : List AV} (bc' bs' : Nat) {ins : Instr} (hs : Site M ins N 1 (some t)) (hN : MOK N 1) (hd : decode M.2.1 pc = .ok (ins, 3)) (ha : h.2 a = .inl (t + 1, fs)) (hdp : d' + 1 ≤ d) (hb : bc = bc' + bc'') (hb2 : bs = bs' + bs'') (k : MW d' bc' bs' N [.inr a, v1] h (fun r h' => AW d bc'' bs'' M Q (pc + 3) ls (psh r rest) h')) (ht : t < 32 := by decide) (hr : rest.length ≤ 8 := by exact Nat.le_of_ble_eq_true rfl) (hvs : 2 ≤ N.2.2.1 := by exact Nat.le_of_ble_eq_true rfl) : AW d bc bs M Q pc ls (v1 :: .inr a :: rest) h :=
  AW.call (vs := [.inr a, v1]) (rest := rest) (bc' := bc') (bs' := bs') (bc'' := bc'') (bs'' := bs'') hs hN hd hdp hr hb hb2 rfl hvs ⟨rfl, a, fs, _, rfl, ha, ht⟩ (by simp only [psh_eq]; exact k)
/-- a row that is filled up to n -/
def fillF (f : Nat → Int) (v : Int) (n : Nat) : Nat → Int := fun j => if j < n then v else f j
theorem fillF_s (f : Nat → Int) (v : Int) (n : Nat) : updI (fillF f v n) n v = fillF f v (n + 1) := by
  funext j
  unfold updI fillF
  by_cases q : j = n
  · rw [if_pos q, if_pos (by omega)]
  · rw [if_neg q]
    by_cases z : j < n
    · rw [if_pos z, if_pos (by omega)]
    · rw [if_neg z, if_neg (by omega)]
theorem fillF_at {f : Nat → Int} {v : Int} {n j : Nat} (h : j < n) : fillF f v n j = v := if_pos h
theorem L_fill {a n : Nat} {f : Nat → Int} {v : Int} (h16 : 16 ≤ a) (hn : n ≤ 100000) (hq : ∀ h', h'.1 = h.1 → h'.2 a = .inr (n, fillF f v n) → (∀ b, b ≠ a → h'.2 b = h.2 b) → Q none h') :
    ∀ (r k : Nat) (h' : AH), k + r = n → h'.1 = h.1 → h'.2 a = .inr (n, fillF f v k) → (∀ b, b ≠ a → h'.2 b = h.2 b) → AW d 0 0 mJ7_fill_53178 Q 5 [some (.inr a), some (.inl v), some (.inl (k : Int)), some (.inl (n : Int))] [] h' := by
  intro r
  induction r with
  | zero =>
    intro k h' hk e1 e2 e3
    have hk' : k = n := by omega
    subst hk'
    refine AW.iload_n dJ7_fill_53178_5 rfl ?_
    refine AW.iload_n dJ7_fill_53178_6 rfl ?_
    refine AW.if_icmpge (tgt := 20) dJ7_fill_53178_7 (by decide) (fun c7 => ?_) (fun c7 => absurd c7 (by omega))
    refine AW.vreturn dJ7_fill_53178_20 rfl ?_
    exact hq h' e1 e2 e3
  | succ r ih =>
    intro k h' hk e1 e2 e3
    refine AW.iload_n dJ7_fill_53178_5 rfl ?_
    refine AW.iload_n dJ7_fill_53178_6 rfl ?_
    refine AW.if_icmpge (tgt := 20) dJ7_fill_53178_7 (by decide) (fun c7 => absurd c7 (by omega)) (fun c7 => ?_)
    refine AW.aload_n dJ7_fill_53178_10 rfl ?_
    refine AW.iload_n dJ7_fill_53178_11 rfl ?_
    refine AW.iload_n dJ7_fill_53178_12 rfl ?_
    refine AW.iastore dJ7_fill_53178_13 (by omega) e2 (by omega) (by omega) ?_
    refine AW.inc2 dJ7_fill_53178_14 (by decide) (by unfold RI; omega) ?_
    refine AW.goto (tgt := 5) dJ7_fill_53178_17 (by decide) ?_
    refine ih (k + 1) _ (by omega) e1 ?_ (fun b hb => (hset_ne _ _ hb).trans (e3 b hb))
    rw [show (k : Int).toNat = k by omega, fillF_s]
    exact hset_eq _ _ _
theorem W_fill {a n : Nat} {f : Nat → Int} {v : Int} (h16 : 16 ≤ a) (hn : n ≤ 100000) (ha : h.2 a = .inr (n, f)) (hq : ∀ h', h'.1 = h.1 → h'.2 a = .inr (n, fillF f v n) → (∀ b, b ≠ a → h'.2 b = h.2 b) → Q none h') : MW d 0 0 mJ7_fill_53178 [.inr a, .inl v] h Q := by
  show AW d 0 0 mJ7_fill_53178 Q 0 [some (.inr a), some (.inl v), none, none] [] h
  refine AW.iconst dJ7_fill_53178_0 ?_
  refine AW.ist2 dJ7_fill_53178_1 (by decide) ?_
  refine AW.aload_n dJ7_fill_53178_2 rfl ?_
  refine AW.alen dJ7_fill_53178_3 ha (by omega) ?_
  refine AW.ist3 dJ7_fill_53178_4 (by decide) ?_
  exact L_fill h16 hn hq n 0 h (by omega) rfl (by rw [ha]; rfl) (fun _ _ => rfl)
end HLs

