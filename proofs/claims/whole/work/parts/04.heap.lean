def tyC (t : Nat) : Nat → FieldType := match t with
  | 0 => tyX0
  | 1 => tyX1
  | 2 => tyX2
  | 3 => tyX3
  | 4 => tyX4
  | 5 => tyX5
  | 6 => tyX6
  | 7 => tyX7
  | 8 => tyX8
  | 9 => tyX9
  | 10 => tyX10
  | 11 => tyX11
  | _ => tyX12
theorem inlw {l : List Cond} (h : l.all (fun w => decide (w ∈ tables_1) && goodWord w) = true) : ∀ w ∈ l, w ∈ lw_tbl ∧ goodWord w = true := by
  intro w hw
  have h1 := List.all_eq_true.mp h w hw
  simp only [Bool.and_eq_true, decide_eq_true_eq] at h1
  exact ⟨List.mem_append_right _ h1.1, h1.2⟩
theorem cw_0 : (u_ws RX0 TX0 1).all (fun w => decide (w ∈ tables_1) && goodWord w) = true := by decide +kernel
theorem cw_1 : (u_ws RX1 TX1 1).all (fun w => decide (w ∈ tables_1) && goodWord w) = true := by decide +kernel
theorem cw_2 : (u_ws RX2 TX2 1).all (fun w => decide (w ∈ tables_1) && goodWord w) = true := by decide +kernel
theorem cw_3 : (u_ws RX3 TX3 8).all (fun w => decide (w ∈ tables_1) && goodWord w) = true := by decide +kernel
theorem cw_4 : (u_ws RX4 TX4 1).all (fun w => decide (w ∈ tables_1) && goodWord w) = true := by decide +kernel
theorem cw_5 : (u_ws RX5 TX5 3).all (fun w => decide (w ∈ tables_1) && goodWord w) = true := by decide +kernel
theorem cw_6 : (u_ws RX6 TX6 3).all (fun w => decide (w ∈ tables_1) && goodWord w) = true := by decide +kernel
theorem cw_7 : (u_ws RX7 TX7 2).all (fun w => decide (w ∈ tables_1) && goodWord w) = true := by decide +kernel
theorem cw_8 : (u_ws RX8 TX8 6).all (fun w => decide (w ∈ tables_1) && goodWord w) = true := by decide +kernel
theorem cw_9 : (u_ws RX9 TX9 1).all (fun w => decide (w ∈ tables_1) && goodWord w) = true := by decide +kernel
theorem cw_10 : (u_ws RX10 TX10 1).all (fun w => decide (w ∈ tables_1) && goodWord w) = true := by decide +kernel
theorem cw_11 : (u_ws RX11 TX11 15).all (fun w => decide (w ∈ tables_1) && goodWord w) = true := by decide +kernel
theorem cw_12 : (u_ws RX12 TX12 33).all (fun w => decide (w ∈ tables_1) && goodWord w) = true := by decide +kernel
theorem cls_ok (t : Nat) (r : vw_C) (h : vwCl[t]? = some r) : (∀ w ∈ u_ws r.1 r.2.1 r.2.2, w ∈ lw_tbl ∧ goodWord w = true) ∧ (∀ a, a < r.2.2 → ∀ b, b < r.2.2 → a ≠ b → (r.2.1 a).2.1 ≠ (r.2.1 b).2.1) ∧ ∀ k, k < r.2.2 → parseFieldDescriptor (r.2.1 k).2.2.1 = some (tyC t k) := by
  match t, h with
  | 0, h => cases h; exact ⟨inlw cw_0, nmX0, tyX0_ok⟩
  | 1, h => cases h; exact ⟨inlw cw_1, nmX1, tyX1_ok⟩
  | 2, h => cases h; exact ⟨inlw cw_2, nmX2, tyX2_ok⟩
  | 3, h => cases h; exact ⟨inlw cw_3, nmX3, tyX3_ok⟩
  | 4, h => cases h; exact ⟨inlw cw_4, nmX4, tyX4_ok⟩
  | 5, h => cases h; exact ⟨inlw cw_5, nmX5, tyX5_ok⟩
  | 6, h => cases h; exact ⟨inlw cw_6, nmX6, tyX6_ok⟩
  | 7, h => cases h; exact ⟨inlw cw_7, nmX7, tyX7_ok⟩
  | 8, h => cases h; exact ⟨inlw cw_8, nmX8, tyX8_ok⟩
  | 9, h => cases h; exact ⟨inlw cw_9, nmX9, tyX9_ok⟩
  | 10, h => cases h; exact ⟨inlw cw_10, nmX10, tyX10_ok⟩
  | 11, h => cases h; exact ⟨inlw cw_11, nmX11, tyX11_ok⟩
  | 12, h => cases h; exact ⟨inlw cw_12, nmX12, tyX12_ok⟩
  | t + 13, h => simp [vwCl] at h
/-! what a heap row says -/
section Hp
variable {w : Om} {H H' : Heap} {h : AH}
theorem aw_word {M : MT} {p : Program} {s : State} {m : MethodId} {meth : Method} {c : Code} (hw : aw_Wd w) (hE : aw_En w M p s m meth c) {q : Cond} (hq : q ∈ lw_tbl) (hg : goodWord q = true) {args : Array Value} : q.before args s = true :=
  word_at hE.2.2.2.2.2.2.2 (good_of_word hg) (hw.1 q hq)
theorem aw_K {M : MT} {p : Program} {s : State} {m : MethodId} {meth : Method} {c : Code} (hw : aw_Wd w) (hE : aw_En w M p s m meth c) : va_K w.2.2.1 vwCl (aw_tys w) s := va_K.moved hE.2.2.2.2.2.2.2.alike hw.2.1
theorem aw_ge {a t : Nat} {vs : List AV} (hH : aw_RH w H h) (ha : h.2 a = .inl (t + 1, vs)) : 16 ≤ a ∧ a < 16 + h.1 := by
  rcases Nat.lt_or_ge a 16 with q | q
  · have h1 := hH.2.2.2.2.1 a q
    rw [ha] at h1
    cases h1
  · refine ⟨q, ?_⟩
    rcases Nat.lt_or_ge a (16 + h.1) with q2 | q2
    · exact q2
    · have h1 := hH.2.2.2.1 a q2
      rw [ha] at h1
      cases h1
theorem aw_lt {a n : Nat} {f : Nat → Int} (hH : aw_RH w H h) (ha : h.2 a = .inr (n, f)) : a < 16 + h.1 := by
  rcases Nat.lt_or_ge a (16 + h.1) with q2 | q2
  · exact q2
  · have h1 := hH.2.2.2.1 a q2
    rw [ha] at h1
    cases h1
theorem aw_adr_ge {a : Nat} (ha : 16 ≤ a) : aw_adr w a = w.1.heap.size + (a - 16) := if_neg (by omega)
theorem aw_tr_ref {a : Nat} (ha : a ≠ 0) : aw_tr w (.inr a) = .ref (aw_adr w a) := by simp [aw_tr, ha]
theorem aw_at {a : Nat} (hH : aw_RH w H h) (h1 : 16 ≤ a) (h2 : a < 16 + h.1) : aw_CO w H a (h.2 a) := hH.2.2.1 a h1 h2
/-- the object at a -/
theorem aw_obj {a t : Nat} {vs : List AV} (hH : aw_RH w H h) (ha : h.2 a = .inl (t + 1, vs)) (ht : t < 32) : ∃ r : vw_C, vwCl[t]? = some r ∧ vs.length = r.2.2 ∧ t_OB (aw_adr w a) (w.2.2.1.1 t) r.2.2 (w.2.2.1.2 t) H (vp_V (vs.map (aw_tr w))) := by
  have hg := aw_ge hH ha
  have h1 := aw_at hH hg.1 hg.2
  rw [ha] at h1
  simp only [aw_CO, if_pos ht] at h1
  exact h1
theorem aw_arr {a t : Nat} {vs : List AV} (hH : aw_RH w H h) (ha : h.2 a = .inl (t + 1, vs)) (ht : ¬ t < 32) : H[aw_adr w a]? = some (arrV (w.2.2.2 (t - 31)) vs.length (fun j => aw_tr w (vs.getD j (.inr 0)))) := by
  have hg := aw_ge hH ha
  have h1 := aw_at hH hg.1 hg.2
  rw [ha] at h1
  simp only [aw_CO, if_neg ht] at h1
  exact h1
theorem aw_ints {a n : Nat} {f : Nat → Int} (hH : aw_RH w H h) (h16 : 16 ≤ a) (ha : h.2 a = .inr (n, f)) : H[aw_adr w a]? = some (arrV (w.2.2.2 0) n (fun j => .int (Int32.ofInt (f j)))) := by
  have h1 := aw_at hH h16 (aw_lt hH ha)
  rw [ha] at h1
  exact h1
theorem aw_stat {a n : Nat} {f : Nat → Int} (hH : aw_RH w H h) (h16 : a < 16) (ha : h.2 a = .inr (n, f)) : a ≠ 0 ∧ a ≤ 5 ∧ n < 2147483648 ∧ va_T .int (w.2.1 a) n (fun j => .int (Int32.ofInt (f j))) (fun q => w.1.heap.size ≤ q) w.1 w.1.heap := by
  have h1 := hH.2.2.2.2.1 a h16
  rw [ha] at h1
  exact h1
def hset (h : AH) (a : Nat) (c : AC) : AH := (h.1, fun b => if b = a then c else h.2 b)
theorem hset_1 (h : AH) (a : Nat) (c : AC) : (hset h a c).1 = h.1 := rfl
theorem hset_eq (h : AH) (a : Nat) (c : AC) : (hset h a c).2 a = c := if_pos rfl
theorem hset_ne (h : AH) {a b : Nat} (c : AC) (hb : b ≠ a) : (hset h a c).2 b = h.2 b := if_neg hb
/-- a cell that is the same elsewhere -/
theorem aw_CO_kept {a : Nat} {c : AC} (hc : aw_CO w H a c) (hk : H'[aw_adr w a]? = H[aw_adr w a]?) : aw_CO w H' a c := by
  match c with
  | .inl (0, _) => trivial
  | .inl (t + 1, vs) =>
    simp only [aw_CO] at hc ⊢
    split at hc
    · rename_i q
      rw [if_pos q]
      obtain ⟨r, h1, h2, h3⟩ := hc
      exact ⟨r, h1, h2, h3.kept hk⟩
    · rename_i q
      rw [if_neg q, hk]
      exact hc
  | .inr (n, f) =>
    simp only [aw_CO] at hc ⊢
    rw [hk]
    exact hc
theorem aw_RH_set {a : Nat} {c : AC} (hH : aw_RH w H h) (h16 : 16 ≤ a) (hl : a < 16 + h.1) (hz : H'.size = H.size) (ho : ∀ q : Nat, q ≠ aw_adr w a → H'[q]? = H[q]?) (hc : aw_CO w H' a c) (hr : aw_RC c) : aw_RH w H' (hset h a c) := by
  obtain ⟨g1, g2, g3, g4, g5, g6⟩ := hH
  have ea := aw_adr_ge (w := w) h16
  refine ⟨hz.trans g1, fun q hq => (ho q (by omega)).trans (g2 q hq), fun b hb1 hb2 => ?_, fun b hb => ?_, fun b hb => ?_, fun b => ?_⟩
  · by_cases q : b = a
    · subst q
      rw [hset_eq]
      exact hc
    · rw [hset_ne h c q]
      refine aw_CO_kept (g3 b hb1 hb2) (ho _ ?_)
      rw [aw_adr_ge hb1, ea]
      omega
  · rw [hset_ne h c (by rw [hset_1] at hb; omega)]
    exact g4 b hb
  · rw [hset_ne h c (by omega)]
    exact g5 b hb
  · by_cases q : b = a
    · subst q
      rw [hset_eq]
      exact hr
    · rw [hset_ne h c q]
      exact g6 b
def hpush (h : AH) (c : AC) : AH := (h.1 + 1, fun b => if b = 16 + h.1 then c else h.2 b)
theorem hpush_1 (h : AH) (c : AC) : (hpush h c).1 = h.1 + 1 := rfl
theorem hpush_eq (h : AH) (c : AC) : (hpush h c).2 (16 + h.1) = c := if_pos rfl
theorem hpush_ne (h : AH) {b : Nat} (c : AC) (hb : b ≠ 16 + h.1) : (hpush h c).2 b = h.2 b := if_neg hb
theorem aw_RH_push {c : AC} (hH : aw_RH w H h) (hz : H'.size = H.size + 1) (ho : ∀ q : Nat, q < H.size → H'[q]? = H[q]?) (hc : aw_CO w H' (16 + h.1) c) (hr : aw_RC c) : aw_RH w H' (hpush h c) := by
  obtain ⟨g1, g2, g3, g4, g5, g6⟩ := hH
  refine ⟨by rw [hz, g1, hpush_1]; omega, fun q hq => (ho q (by omega)).trans (g2 q hq), fun b hb1 hb2 => ?_, fun b hb => ?_, fun b hb => ?_, fun b => ?_⟩
  · by_cases q : b = 16 + h.1
    · subst q
      rw [hpush_eq]
      exact hc
    · rw [hpush_ne h c q]
      rw [hpush_1] at hb2
      refine aw_CO_kept (g3 b hb1 (by omega)) (ho _ ?_)
      rw [aw_adr_ge hb1]
      omega
  · rw [hpush_1] at hb
    rw [hpush_ne h c (by omega)]
    exact g4 b (by omega)
  · rw [hpush_ne h c (by omega)]
    exact g5 b hb
  · by_cases q : b = 16 + h.1
    · subst q
      rw [hpush_eq]
      exact hr
    · rw [hpush_ne h c q]
      exact g6 b
theorem aw_adr_new (hH : aw_RH w H h) : aw_adr w (16 + h.1) = H.size := by
  rw [aw_adr_ge (by omega), hH.1]
  omega
theorem aw_tr_new (hH : aw_RH w H h) : aw_tr w (.inr (16 + h.1)) = .ref H.size := by rw [aw_tr_ref (by omega), aw_adr_new hH]
theorem vp_map {vs : List AV} {k : Nat} {v : AV} (hv : vs[k]? = some v) : vp_V (vs.map (aw_tr w)) k = aw_tr w v := by
  simp [vp_V, List.getD_eq_getElem?_getD, hv]
end Hp
