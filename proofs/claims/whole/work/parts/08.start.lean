section Cp
variable {d bc bs : Nat} {M : MT} {Q : Option AV → AH → Prop} {pc idx a b : Nat} {ls : List (Option AV)} {st : List AV} {h : AH} {x : Int}
theorem ay_1 : Cond.native arraycopyName ∈ tables_1 := by decide +kernel
theorem ay_2 : Cond.static arraycopyName ∈ tables_1 := by decide +kernel
theorem ay_3 : Cond.initialized "java/lang/System" ∈ tables_1 := by decide +kernel
theorem AW.arraycopy {n0 n1 : Nat} {f g : Nat → Int} (hd : decode M.2.1 pc = .ok (.invokestatic idx, 3)) (hs : Cond.methodLink M.1.cls idx arraycopyName ∈ tables_1) (h1 : 1 ≤ d) (h8 : st.length ≤ 8) (ha : h.2 a = .inr (n0, f)) (hb : h.2 b = .inr (n1, g)) (ha16 : 16 ≤ a) (hb16 : 16 ≤ b) (hx0 : 0 ≤ x) (hxa : x ≤ n0) (hxb : x ≤ n1)
    (kk : AW d bc bs M Q (pc + 3) ls st (hset h b (.inr (n1, fun k => if k < x.toNat then f k else g k)))) : AW d bc bs M Q pc ls (.inl x :: .inl 0 :: .inr b :: .inl 0 :: .inr a :: st) h := by
  intro w p l e R s m args below meth c H locs cells slots rl hw hE hR hH hL hst hlo
  have hrx : RI x := ri_hd hst
  have hc0 := aw_ints hH ha16 ha
  have hc1 := aw_ints hH hb16 hb
  have hK := aw_K hw hE
  have h8' := aw_cats w st h8 m pc rl []
  have e8 : 2 * 0 + ((st.map (aw_tr w)).map fun v => v.category).sum ≤ 8 := h8'
  show W p l e R s m args below meth c H locs cells slots _ (F0 m pc rl (.int (Int32.ofInt x) :: .int (Int32.ofInt 0) :: aw_tr w (.inr b) :: .int (Int32.ofInt 0) :: aw_tr w (.inr a) :: st.map (aw_tr w)))
  rw [aw_tr_ref (a := a) (by omega), aw_tr_ref (a := b) (by omega), ← ri_z]
  intro T hT X
  obtain ⟨-, k0, hk0, cm0, hkk0⟩ := (hK.2 0 _ rfl).1 n0 (fun j => .int (Int32.ofInt (f j)))
  obtain ⟨-, k1, hk1, cm1, hkk1⟩ := (hK.2 0 _ rfl).1 n1 (fun j => .int (Int32.ofInt (g j)))
  have hz : (0 : Int32).toNatClampNeg = 0 := rfl
  have hxn := ri_nat hrx
  have hxi := ri_back hrx
  obtain ⟨vm', X', step⟩ := X.arraycopy hE.1 hE.2.2.2.2.2.2.1 (aw_word hw hE (List.mem_append_right _ hs) rfl) (aw_word hw hE (List.mem_append_right _ ay_1) rfl) (aw_word hw hE (List.mem_append_right _ ay_2) rfl) (aw_word hw hE (List.mem_append_right _ ay_3) rfl) (src := aw_adr w a) (dst := aw_adr w b) (srcPos := 0) (destPos := 0) (n := Int32.ofInt x) (by rw [hT]; exact hc0) (by rw [hT]; exact hc1)
    (fun _ h => by cases h) (fun _ h => by cases h) (fun h => by cases h) (fun h => by cases h) hk0 hk1 hkk0 hkk1 (by simp [refKind]) (by decide) (by decide) (by rw [ri_z, ri_lt hrx ri_0]; omega)
    (by rw [hxi, arrV_size]; show ¬ (0 : Int) + x > _; omega)
    (by rw [hxi, arrV_size]; show ¬ (0 : Int) + x > _; omega)
    (fun vm₁ _ i hi => by
      rw [hxn] at hi
      have e : (arrV (w.2.2.2 0) n0 (fun j => .int (Int32.ofInt (f j)))).slots.getD ((0 : Int32).toNatClampNeg + i) .null = .int (Int32.ofInt (f i)) := by
        rw [hz, Nat.zero_add, Array.getD_eq_getD_getElem?, arrV_read _ _ (by omega)]
        rfl
      refine ⟨?_, ?_⟩
      · rw [e]
        rfl
      · rw [e]
        exact trivial)
    (g := F0 m pc rl (.int (Int32.ofInt x) :: .int 0 :: .ref (aw_adr w b) :: .int 0 :: .ref (aw_adr w a) :: st.map (aw_tr w))) rfl (hL.1.trans hE.2.2.1.symm) (rest := st.map (aw_tr w)) rfl (by rw [hE.2.1]; exact hd) (by omega) (by show 2 * 0 + _ + (7 + 11) ≤ _; omega)
  have e1 : copied (arrV (w.2.2.2 0) n0 (fun j => .int (Int32.ofInt (f j)))) (arrV (w.2.2.2 0) n1 (fun j => .int (Int32.ofInt (g j)))) 0 0 (Int32.ofInt x) = arrV (w.2.2.2 0) n1 (fun j => .int (Int32.ofInt (if j < x.toNat then f j else g j))) := by
    have e2 := va_copied (fun z : Int => Value.int (Int32.ofInt z)) (w.2.2.2 0) (w.2.2.2 0) (n0 := n0) (n1 := n1) (sp := (0 : Int32).toNatClampNeg) (dp := (0 : Int32).toNatClampNeg) (n := (Int32.ofInt x).toNatClampNeg) f g (by rw [hxn, hz]; omega)
    refine Eq.trans e2 ?_
    congr 1
    funext k
    rw [hxn, hz]
    simp [va_cpy]
  rw [e1] at X' step
  have hl : aw_adr w b < H.size := (Array.getElem?_eq_some_iff.mp hc1).1
  obtain ⟨t, a1, b1⟩ := kk w p l e R s m args below meth c (H.setIfInBounds (aw_adr w b) (arrV (w.2.2.2 0) n1 (fun j => .int (Int32.ofInt (if j < x.toNat then f j else g j))))) _ cells slots rl hw hE hR (aw_RH_set hH hb16 (aw_lt hH hb) (by simp) (fun q hq => by simp [Array.getElem?_setIfInBounds, Ne.symm hq]) (by
      show (H.setIfInBounds (aw_adr w b) _)[aw_adr w b]? = _
      simp [Array.getElem?_setIfInBounds, hl]) (fun j => by
      show RI (if j < x.toNat then f j else g j)
      have g1 := hH.2.2.2.2.2 a
      have g2 := hH.2.2.2.2.2 b
      rw [ha] at g1
      rw [hb] at g2
      split
      · exact g1 j
      · exact g2 j)) hL (fun z hz => hst z (by simp [hz])) (fun q hq => by
      rcases List.mem_append.mp hq with z | z
      · exact hlo q z
      · obtain ⟨y, -, hy⟩ := List.mem_map.mp z
        rw [← hy]
        show w.1.heap.size ≤ aw_adr w b
        rw [aw_adr_ge hb16]
        omega) _ (by rw [← hT]; rfl) X'
  exact ⟨t, step t a1, b1⟩
end Cp
/-! THE START -/
def rowOf (l : List Int) : Nat → Int := fun j => l.getD j 0
def h_start (L : Nat) (xs : Nat → Int) : AH := (0, fun a => if a = 1 then .inr (L, xs) else if a = 2 then .inr (10, rowOf [112, 113, 114, 65, 66, 67, 68, 110, 97, 111]) else if a = 3 then .inr (6, rowOf [112, 113, 114, 110, 97, 111]) else if a = 4 then .inr (3, rowOf [170, 204, 240]) else if a = 5 then .inr (10, rowOf [112, 113, 114, 65, 66, 67, 68, 110, 97, 111]) else .inl (0, []))
abbrev mt_law : MT := (yL_law, cL_law, 4, ret)
theorem sameButNew_fg {s t : State} {L : List Loc} {k n : Nat} (h : s.sameButNew t L k n) (hf : ∀ q ∈ L, s.heap.size ≤ q.base) : s.sameButNew t [] k n :=
  State.sameButNew.weaken h (fun y hy hlt => absurd hlt (Nat.not_lt.mpr (hf y hy))) (Nat.le_refl _) (Nat.le_refl _)
theorem st_arr {s : State} {b : Nat} {C : String} (h : (Cond.arrayOver (.object C)).before #[Value.ref b] s = true) : ∃ cA : ClassId, ArrOfT s cA (.object C) ∧ va_RA s cA (.object C) := by
  obtain ⟨comp, c, k, h1, -, h2, h3, h4⟩ := Cond.arrayOver_spec h
  exact ⟨c, fun n z => ⟨fun q hq => (by cases hq), k, h2, comp, h3⟩, k, comp, h2, h3, h1, h4⟩
theorem st_int {s : State} {b : Nat} (h : (Cond.arrayClass .int).before #[Value.ref b] s = true) : ∃ cA : ClassId, ArrOfT s cA .int ∧ va_RA s cA .int := by
  obtain ⟨c, k, comp, h1, h2, h3⟩ := Cond.arrayClass_spec h
  exact ⟨c, fun n z => ⟨fun q hq => (by cases hq), k, h2, comp, h3⟩, h1⟩
theorem st_stat {s : State} {b : Nat} {C n : String} {vs : List Int} (hl : (Cond.laysStatic C n "[I").before #[Value.ref b] s = true) (hini : (Cond.initialized C).before #[Value.ref b] s = true) (harr : (Cond.arrayOf (.static C n "[I") .int).before #[Value.ref b] s = true) (hvl : vs.length < 2147483648)
    (hlen : (Cond.eq (.length (.static C n "[I")) (.int (Int32.ofNat vs.length))).before #[Value.ref b] s = true) (hel : ∀ j : Nat, j < vs.length → (Cond.eq (.elem (.static C n "[I") (.int (Int32.ofNat j))) (.int (Int32.ofInt (rowOf vs j)))).before #[Value.ref b] s = true) :
    ∃ t : Nat, va_Z C n "[I" (.ref t) (fun q => s.heap.size ≤ q) s s.heap ∧ va_T .int t vs.length (fun j => .int (Int32.ofInt (rowOf vs j))) (fun q => s.heap.size ≤ q) s s.heap := by
  obtain ⟨t, h1, h2⟩ := va_Tof (A := fun q => s.heap.size ≤ q) (f := fun j => .int (Int32.ofInt (rowOf vs j))) (by omega) harr (va_eqt hlen) (fun j hj => va_eqt (hel j hj)) (fun a ha => Nat.not_le.mpr ha)
  exact ⟨t, va_Zref hl hini h1 (fun a ha => Nat.not_le.mpr ha), h2⟩
theorem st_10 {P : Nat → Prop} (h0 : P 0) (h1 : P 1) (h2 : P 2) (h3 : P 3) (h4 : P 4) (h5 : P 5) (h6 : P 6) (h7 : P 7) (h8 : P 8) (h9 : P 9) : ∀ j, j < 10 → P j := by
  intro j hj
  match j, hj with
  | 0, _ => exact h0
  | 1, _ => exact h1
  | 2, _ => exact h2
  | 3, _ => exact h3
  | 4, _ => exact h4
  | 5, _ => exact h5
  | 6, _ => exact h6
  | 7, _ => exact h7
  | 8, _ => exact h8
  | 9, _ => exact h9
theorem st_6 {P : Nat → Prop} (h0 : P 0) (h1 : P 1) (h2 : P 2) (h3 : P 3) (h4 : P 4) (h5 : P 5) : ∀ j, j < 6 → P j := by
  intro j hj
  match j, hj with
  | 0, _ => exact h0
  | 1, _ => exact h1
  | 2, _ => exact h2
  | 3, _ => exact h3
  | 4, _ => exact h4
  | 5, _ => exact h5
theorem st_3 {P : Nat → Prop} (h0 : P 0) (h1 : P 1) (h2 : P 2) : ∀ j, j < 3 → P j := by
  intro j hj
  match j, hj with
  | 0, _ => exact h0
  | 1, _ => exact h1
  | 2, _ => exact h2
theorem st_lw {w : Cond} (h : w ∈ tables_1) : w ∈ lw_tbl := List.mem_append_right _ h
set_option maxRecDepth 100000 in
set_option maxHeartbeats 8000000 in
theorem whole_open (hlaw : ∀ (L : Nat) (xs : Nat → Int), L ≤ 2560 → (∀ j, RI (xs j)) → AW 2048 600000 7302250 mt_law (fun r _ => r = some (.inl 1)) 0 [some (.inr 1), none, none, none] [] (h_start L xs)) {p : Program} {e : Env} {s : State} {m : MethodId} {below : List Frame} {meth : Method} {c : Code} (l : Launch) {b L : Nat} {xs : Nat → Int32} (hL : L ≤ 2560) (C0 : lw_At p s m meth c b L xs) :
    W p l e room_1 s m #[Value.ref b] below meth c s.heap [] 0 0 (lw_Z below #[Value.ref b] s) (entryFrame m ([Value.ref b] : List Value).toArray 4) := by
  obtain ⟨hx, hb, hr, hml, hown, hts, hX, hbl, hlocks, hgv⟩ := C0
  have hfl := flat_of_before _ hgv
  obtain ⟨cI, hI⟩ := st_int (hts _ (st_lw ac_int))
  obtain ⟨c1, h1⟩ := st_arr (C := "SaidShorter$Stranger") (hts _ (st_lw (by decide +kernel)))
  obtain ⟨c2, h2⟩ := st_arr (C := "SaidShorter$Saying") (hts _ (st_lw (by decide +kernel)))
  obtain ⟨c3, h3⟩ := st_arr (C := "SaidShorter$Fewest") (hts _ (st_lw (by decide +kernel)))
  obtain ⟨t2, z2, T2⟩ := st_stat (C := "SaidShorter") (n := "WORDS") (vs := [112, 113, 114, 65, 66, 67, 68, 110, 97, 111]) (hts _ (st_lw (by decide +kernel))) (hts _ (st_lw (by decide +kernel))) (hfl _ (by decide +kernel)) (by decide) (hfl _ (by decide +kernel)) (st_10 (hfl _ (by decide +kernel)) (hfl _ (by decide +kernel)) (hfl _ (by decide +kernel)) (hfl _ (by decide +kernel)) (hfl _ (by decide +kernel)) (hfl _ (by decide +kernel)) (hfl _ (by decide +kernel)) (hfl _ (by decide +kernel)) (hfl _ (by decide +kernel)) (hfl _ (by decide +kernel)))
  obtain ⟨t3, z3, T3⟩ := st_stat (C := "SaidShorter") (n := "DRAWN") (vs := [112, 113, 114, 110, 97, 111]) (hts _ (st_lw (by decide +kernel))) (hts _ (st_lw (by decide +kernel))) (hfl _ (by decide +kernel)) (by decide) (hfl _ (by decide +kernel)) (st_6 (hfl _ (by decide +kernel)) (hfl _ (by decide +kernel)) (hfl _ (by decide +kernel)) (hfl _ (by decide +kernel)) (hfl _ (by decide +kernel)) (hfl _ (by decide +kernel)))
  obtain ⟨t4, z4, T4⟩ := st_stat (C := "SaidShorter") (n := "FACT_MEANINGS") (vs := [170, 204, 240]) (hts _ (st_lw (by decide +kernel))) (hts _ (st_lw (by decide +kernel))) (hfl _ (by decide +kernel)) (by decide) (hfl _ (by decide +kernel)) (st_3 (hfl _ (by decide +kernel)) (hfl _ (by decide +kernel)) (hfl _ (by decide +kernel)))
  obtain ⟨t5, z5, T5⟩ := st_stat (C := "SaidShorterModel") (n := "LETTERS") (vs := [112, 113, 114, 65, 66, 67, 68, 110, 97, 111]) (hts _ (st_lw (by decide +kernel))) (hts _ (st_lw (by decide +kernel))) (hfl _ (by decide +kernel)) (by decide) (hfl _ (by decide +kernel)) (st_10 (hfl _ (by decide +kernel)) (hfl _ (by decide +kernel)) (hfl _ (by decide +kernel)) (hfl _ (by decide +kernel)) (hfl _ (by decide +kernel)) (hfl _ (by decide +kernel)) (hfl _ (by decide +kernel)) (hfl _ (by decide +kernel)) (hfl _ (by decide +kernel)) (hfl _ (by decide +kernel)))
  have hkn : ∀ k : Nat, ∃ (cC : ClassId) (iS : Nat → Nat), ∀ q : vw_C, vwCl[k]? = some q → u_Kn s q.1 q.2.1 q.2.2 cC iS := by
    intro k
    cases hq : vwCl[k]? with
    | none => exact ⟨0, fun _ => 0, fun q h => by cases h⟩
    | some q =>
      have hin := (cls_ok k q hq).1
      have hins : ∃ n, Cond.instantiable q.1 n ∈ tables_1 := by
        match k, hq with
        | 0, hq => cases hq; exact ⟨1, by decide +kernel⟩
        | 1, hq => cases hq; exact ⟨1, by decide +kernel⟩
        | 2, hq => cases hq; exact ⟨1, by decide +kernel⟩
        | 3, hq => cases hq; exact ⟨8, by decide +kernel⟩
        | 4, hq => cases hq; exact ⟨1, by decide +kernel⟩
        | 5, hq => cases hq; exact ⟨3, by decide +kernel⟩
        | 6, hq => cases hq; exact ⟨3, by decide +kernel⟩
        | 7, hq => cases hq; exact ⟨2, by decide +kernel⟩
        | 8, hq => cases hq; exact ⟨6, by decide +kernel⟩
        | 9, hq => cases hq; exact ⟨1, by decide +kernel⟩
        | 10, hq => cases hq; exact ⟨1, by decide +kernel⟩
        | 11, hq => cases hq; exact ⟨15, by decide +kernel⟩
        | 12, hq => cases hq; exact ⟨33, by decide +kernel⟩
        | k + 13, hq => simp [vwCl] at hq
      obtain ⟨n, hn⟩ := hins
      obtain ⟨cC, iS, hK⟩ := u_known (C := q.1) (T := q.2.1) (N := q.2.2) hts (fun w hw => (hin w hw).1) (hts _ (st_lw hn))
      exact ⟨cC, iS, fun q' h => by cases h; exact hK⟩
  let sa : Nat → Nat := fun k => if k = 1 then b else if k = 2 then t2 else if k = 3 then t3 else if k = 4 then t4 else t5
  let w : Om := (s, sa, (fun k => (hkn k).choose, fun k => (hkn k).choose_spec.choose), fun k => if k = 0 then cI else if k = 1 then c1 else if k = 2 then c2 else c3)
  have hw : aw_Wd w := by
    refine ⟨hts, ⟨fun k q hq => (hkn k).choose_spec.choose_spec q hq, fun k q hq => ?_⟩, fun k g1 g2 => ?_, fun k g1 g2 => ?_⟩
    · match k, hq with
      | 0, hq => cases hq; exact hI
      | 1, hq => cases hq; exact h1
      | 2, hq => cases hq; exact h2
      | 3, hq => cases hq; exact h3
      | k + 4, hq => simp [aw_tys] at hq
    · rcases (show k = 2 ∨ k = 3 ∨ k = 4 ∨ k = 5 by omega) with rfl | rfl | rfl | rfl
      · exact z2
      · exact z3
      · exact z4
      · exact z5
    · have hT : ∀ {t N : Nat} {f : Nat → Value}, va_T .int t N f (fun q => s.heap.size ≤ q) s s.heap → t < s.heap.size := fun h => by
        obtain ⟨cl0, q1, -⟩ := h
        exact (Array.getElem?_eq_some_iff.mp q1).1
      rcases (show k = 1 ∨ k = 2 ∨ k = 3 ∨ k = 4 ∨ k = 5 by omega) with rfl | rfl | rfl | rfl | rfl
      · exact hbl
      · exact hT T2
      · exact hT T3
      · exact hT T4
      · exact hT T5
  obtain ⟨scr, x1, x2, x3, x4, x5⟩ := hX
  have hL2 : (L : Int) < 2147483648 := by omega
  have hH : aw_RH w s.heap (h_start L (fun j => (xs j).toInt)) := by
    refine ⟨rfl, fun _ _ => rfl, fun a g1 g2 => ?_, fun a g => ?_, fun a g => ?_, fun a => ?_⟩
    · exact absurd g2 (by show ¬ a < 16 + 0; omega)
    · show (if a = 1 then _ else if a = 2 then _ else if a = 3 then _ else if a = 4 then _ else if a = 5 then _ else _ : AC) = _
      have g : 16 + 0 ≤ a := g
      rw [if_neg (by omega), if_neg (by omega), if_neg (by omega), if_neg (by omega), if_neg (by omega)]
    · by_cases q1 : a = 1
      · subst q1
        refine ⟨by decide, by decide, by omega, scr, x1, x2, x3, by omega, by rw [x4], fun j hj => ?_, Nat.not_le.mpr hbl⟩
        rw [x5 j hj]
        show some (Value.int (xs j)) = some (Value.int (Int32.ofInt (xs j).toInt))
        rw [Int32.ofInt_toInt]
      · by_cases q2 : a = 2
        · subst q2
          exact ⟨by decide, by decide, by decide, T2⟩
        · by_cases q3 : a = 3
          · subst q3
            exact ⟨by decide, by decide, by decide, T3⟩
          · by_cases q4 : a = 4
            · subst q4
              exact ⟨by decide, by decide, by decide, T4⟩
            · by_cases q5 : a = 5
              · subst q5
                exact ⟨by decide, by decide, by decide, T5⟩
              · have e : (h_start L (fun j => (xs j).toInt)).2 a = .inl (0, []) := by
                  show (if a = 1 then _ else if a = 2 then _ else if a = 3 then _ else if a = 4 then _ else if a = 5 then _ else _ : AC) = _
                  rw [if_neg q1, if_neg q2, if_neg q3, if_neg q4, if_neg q5]
                rw [e]
                rfl
    · have hro : ∀ (l : List Int), (∀ v ∈ l, RI v) → ∀ j, RI (rowOf l j) := fun l hl j => by
        unfold rowOf
        rw [List.getD_eq_getElem?_getD]
        cases hj : l[j]? with
        | none => exact ri_0
        | some v => exact hl v (List.mem_of_getElem? hj)
      have hri : ∀ l : List Int, (l.all fun v => decide (-2147483648 ≤ v) && decide (v < 2147483648)) = true → ∀ v ∈ l, RI v := fun l hl v hv => by
        have := List.all_eq_true.mp hl v hv
        simp only [Bool.and_eq_true, decide_eq_true_eq] at this
        exact this
      show aw_RC (if a = 1 then _ else if a = 2 then _ else if a = 3 then _ else if a = 4 then _ else if a = 5 then _ else _ : AC)
      split
      · exact fun j => ri_of _
      split
      · exact hro _ (hri _ (by decide))
      split
      · exact hro _ (hri _ (by decide))
      split
      · exact hro _ (hri _ (by decide))
      split
      · exact hro _ (hri _ (by decide))
      · exact fun v hv => by cases hv
  have hent : entryFrame m ([Value.ref b] : List Value).toArray 4 = F0 m 0 ((lg_sl ([(.inr 1 : AV)].map (aw_tr w)) ++ List.replicate (4 - (lg_sl ([(.inr 1 : AV)].map (aw_tr w))).length) Slot.unset).toArray) [] := lg_entry_eq m [Value.ref b] 4
  rw [hent]
  have hk := hlaw L (fun j => (xs j).toInt) hL (fun j => ri_of _) w p l e room_1 s m #[Value.ref b] below meth c s.heap [] 0 0 _ hw ⟨hx, hb, hml, hr, hlocks, fun hi => absurd hi (by decide), hown, State.WarmedH.refl s⟩ ⟨by decide, by decide, by decide, by decide⟩ hH (aw_entry (vs := [.inr 1]) (by decide) (fun v hv => by rw [List.mem_singleton.mp hv]; trivial)) (fun v hv => by cases hv) (fun q hq => by cases hq)
  intro T hT X
  obtain ⟨t, a1, o, b1, b2, ⟨r, h', hq, ho, -, -⟩, Lc, hF, hfr⟩ := hk T hT X
  subst hq
  refine ⟨t, a1, o, b1, b2, ho, hF.1, hF.2.1, sameButNew_fg hF.2.2 hfr⟩
