section Mod5
variable {d : Nat} {Q : Option AV → AH → Prop} {h h0 : AH} {m : Nat → Int} {A : Nat → Nat → Int} {who x y z v : Int} {S : ST} {s : SC}
theorem ms_sq {m' : Nat → Int} {A' : Nat → Nat → Int} (hM : MR h0 h m' A') (q : SQ m m' A A') (hP : MP m A S) (ok : stOK S) : MS h0 h S := ⟨m', A', hM, hP.sq q, ok⟩
theorem hgt_word {ws : List Nat} {n : Nat} (h : hgt ws = some n) : ∀ w ∈ ws, w ≤ 9 := by
  induction ws generalizing n with
  | nil => intro w hw; cases hw
  | cons a t ih =>
    obtain ⟨k, hk, hc⟩ := hgt_tail h
    intro w hw
    rcases List.mem_cons.mp hw with rfl | q
    · omega
    · exact ih hk w q
theorem hgt_pos {ws : List Nat} (h : hgt ws = some 1) : 1 ≤ ws.length := by
  cases ws with
  | nil => cases h
  | cons a t => simp
theorem W_saying (hM : MS h0 h S) (hL : h0.2 5 = .inr (10, rowOf [112, 113, 114, 65, 66, 67, 68, 110, 97, 111])) (hd : 2 ≤ d) (hq : ∀ r S' h', (r, S') = o_saying S x y → MS h0 h' S' → Q (some (.inl r)) h') : MW d 0 0 mX12_saying [.inr 116, .inl x, .inl y] h Q := by
  obtain ⟨m, A, hM, hP, ok⟩ := hM
  have hMS : MS h0 h S := ⟨m, A, hM, hP, ok⟩
  obtain ⟨g116, g117, g118, g119, g120, g121, g122, g123, -, -, -, -, -, -, -, -, -, -, -, -, -, go⟩ := id hM
  have g5 := (go 5 (by decide)).trans hL
  obtain ⟨⟨q1, q2, q3, q4, q5, q6⟩, p2, p3⟩ := id hP
  have h6 := ok.1.2.1
  have hw : ∀ (i j : Nat), i < s_h S.1 → (j : Int) < A 122 i → ∃ w : Nat, (s_w S.1 i)[j]? = some w ∧ A 123 (20 * i + j) = (w : Int) ∧ w ≤ 9 ∧ j < 20 := by
    intro i j hi hj
    rw [q5 i hi] at hj
    have hj2 : j < (s_w S.1 i).length := by omega
    have h20 := (ok.1.2.2.2.2 i hi).2
    exact ⟨(s_w S.1 i)[j], List.getElem?_eq_getElem hj2, q6 i hi j _ (List.getElem?_eq_getElem hj2), hgt_word (ok.1.2.2.2.2 i hi).1 _ (List.getElem_mem hj2), by omega⟩
  show AW d 0 0 mX12_saying Q 0 [some (.inr 116), some (.inl x), some (.inl y)] [] h
  refine AW.aload_n dX12_saying_0 rfl ?_
  refine AW.iload_n dX12_saying_1 rfl ?_
  refine AW.cI2 (d' := d - 1) (cX12_189 rfl) okX12_isScholar dX12_saying_2 (by repeat (first | assumption | exact hset_eq _ _ _ | refine (hset_ne _ _ (by omega)).trans ?_)) (by omega) (W_isScholar (by assumption) (fun c2 c2b => ?_) (fun c2 => ?_))
  · refine AW.ifne_t (tgt := 14) dX12_saying_5 (by decide) (by decide) ?_
    refine AW.iload_n dX12_saying_14 rfl ?_
    refine AW.iconst dX12_saying_15 ?_
    refine AW.if_icmpge (tgt := 26) dX12_saying_16 (by decide) (fun c16 => ?_) (fun c16 => ?_)
    · refine AW.iload_n dX12_saying_26 rfl ?_
      refine AW.ifge (tgt := 39) dX12_saying_27 (by decide) (fun c27 => ?_) (fun c27 => ?_)
      · refine AW.iload_n dX12_saying_39 rfl ?_
        refine AW.aload_n dX12_saying_40 rfl ?_
        refine AW.getf dX12_saying_41 gX12_25 (by repeat (first | assumption | exact hset_eq _ _ _ | refine (hset_ne _ _ (by omega)).trans ?_)) rfl ?_
        refine AW.iload_n dX12_saying_44 rfl ?_
        refine AW.iaload dX12_saying_45 (by repeat (first | assumption | exact hset_eq _ _ _ | refine (hset_ne _ _ (by omega)).trans ?_)) (by omega) (by omega) ?_
        refine AW.if_icmpge (tgt := 67) dX12_saying_46 (by decide) (fun c46 => ?_) (fun c46 => ?_)
        · refine AW.bipush dX12_saying_67 ?_
          refine AW.ireturn dX12_saying_69 rfl ?_
          first
            | (rw [q5 x.toNat (by omega)]; exact hq _ S _ (by unfold o_saying; rw [if_neg (by omega), if_neg (by omega), if_pos (by omega)]) hMS)
            | (rw [q5 x.toNat (by omega)] at c46; exact hq _ S _ (by unfold o_saying; rw [if_neg (by omega), if_neg (by omega), if_neg (by omega), if_neg (by omega)]) hMS)
        · obtain ⟨w, w1, w2, w3, w4⟩ := hw x.toNat y.toNat (by omega) (by omega)
          have e1 : (20 * x + y).toNat = 20 * x.toNat + y.toNat := by omega
          refine AW.gets dX12_saying_49 sX12_192 ?_
          refine AW.aload_n dX12_saying_52 rfl ?_
          refine AW.getf dX12_saying_53 gX12_28 (by repeat (first | assumption | exact hset_eq _ _ _ | refine (hset_ne _ _ (by omega)).trans ?_)) rfl ?_
          refine AW.bipush dX12_saying_56 ?_
          refine AW.iload_n dX12_saying_58 rfl ?_
          refine AW.imulR dX12_saying_59 (by unfold RI; omega) ?_
          refine AW.iload_n dX12_saying_60 rfl ?_
          refine AW.iaddR dX12_saying_61 (by unfold RI; omega) ?_
          refine AW.iaload dX12_saying_62 (by repeat (first | assumption | exact hset_eq _ _ _ | refine (hset_ne _ _ (by omega)).trans ?_)) (by omega) (by omega) ?_
          rw [e1, w2]
          refine AW.iaload dX12_saying_63 (by repeat (first | assumption | exact hset_eq _ _ _ | refine (hset_ne _ _ (by omega)).trans ?_)) (by omega) (by omega) ?_
          refine AW.goto (tgt := 69) dX12_saying_64 (by decide) ?_
          refine AW.ireturn dX12_saying_69 rfl ?_
          have e2 : rowOf [112, 113, 114, 65, 66, 67, 68, 110, 97, 111] (w : Int).toNat = LETT ((s_w S.1 x.toNat).getD y.toNat 0) := by rw [List.getD_eq_getElem?_getD, w1]; rfl
          rw [e2]
          rw [q5 x.toNat (by omega)] at c46
          exact hq _ S _ (by unfold o_saying; rw [if_neg (by omega), if_neg (by omega), if_neg (by omega), if_pos (by omega)]) hMS
      · refine AW.aload_n dX12_saying_30 rfl ?_
        refine AW.getf dX12_saying_31 gX12_25 (by repeat (first | assumption | exact hset_eq _ _ _ | refine (hset_ne _ _ (by omega)).trans ?_)) rfl ?_
        refine AW.iload_n dX12_saying_34 rfl ?_
        refine AW.iaload dX12_saying_35 (by repeat (first | assumption | exact hset_eq _ _ _ | refine (hset_ne _ _ (by omega)).trans ?_)) (by omega) (by omega) ?_
        refine AW.goto (tgt := 69) dX12_saying_36 (by decide) ?_
        refine AW.ireturn dX12_saying_69 rfl ?_
        first
          | (rw [q5 x.toNat (by omega)]; exact hq _ S _ (by unfold o_saying; rw [if_neg (by omega), if_neg (by omega), if_pos (by omega)]) hMS)
          | (rw [q5 x.toNat (by omega)] at c46; exact hq _ S _ (by unfold o_saying; rw [if_neg (by omega), if_neg (by omega), if_neg (by omega), if_neg (by omega)]) hMS)
    · refine AW.aload_n dX12_saying_19 rfl ?_
      refine AW.bipush dX12_saying_20 ?_
      refine AW.cI2 (d' := d - 1) (cX12_82 rfl) okX12_no dX12_saying_22 (by repeat (first | assumption | exact hset_eq _ _ _ | refine (hset_ne _ _ (by omega)).trans ?_)) (by omega) (W_no (by assumption) (by decide) (by decide) (fun h22 hM => ?_))
      refine AW.ireturn dX12_saying_25 rfl ?_
      first | exact hq (-1) (rf S 1) _ (by unfold o_saying; rw [if_pos (by omega)]) (ms_rf hM hP ok) | exact hq (-4) (rf S 4) _ (by unfold o_saying; rw [if_neg (by omega), if_pos (by omega)]) (ms_rf hM hP ok)
  · refine AW.ifne_f (tgt := 14) dX12_saying_5 (by decide) rfl ?_
    refine AW.aload_n dX12_saying_8 rfl ?_
    refine AW.iconst dX12_saying_9 ?_
    refine AW.cI2 (d' := d - 1) (cX12_82 rfl) okX12_no dX12_saying_10 (by repeat (first | assumption | exact hset_eq _ _ _ | refine (hset_ne _ _ (by omega)).trans ?_)) (by omega) (W_no (by assumption) (by decide) (by decide) (fun h10 hM => ?_))
    refine AW.ireturn dX12_saying_13 rfl ?_
    first | exact hq (-1) (rf S 1) _ (by unfold o_saying; rw [if_pos (by omega)]) (ms_rf hM hP ok) | exact hq (-4) (rf S 4) _ (by unfold o_saying; rw [if_neg (by omega), if_pos (by omega)]) (ms_rf hM hP ok)
theorem sc_h_ok {s : SC} {n : Nat} (ok : scOK s) (h : n ≤ s_h s) : scOK (sc_h s n) := by
  obtain ⟨k1, k2, k3, k4, k5⟩ := ok
  exact ⟨k1, Nat.le_trans h k2, k3, k4, fun i hi => k5 i (Nat.lt_of_lt_of_le hi h)⟩
theorem W_leave (hM : MS h0 h S) (hd : 2 ≤ d) (hq : ∀ r S' h', (r, S') = o_leave S → MS h0 h' S' → Q (some (.inl r)) h') : MW d 0 0 mX12_leave [.inr 116] h Q := by
  obtain ⟨m, A, hM, hP, ok⟩ := hM
  obtain ⟨g116, -⟩ := id hM
  obtain ⟨⟨q1, q2, q3, q4, q5, q6⟩, p2, p3⟩ := id hP
  have h6 := ok.1.2.1
  show AW d 0 0 mX12_leave Q 0 [some (.inr 116)] [] h
  refine AW.aload_n dX12_leave_0 rfl ?_
  refine AW.getf dX12_leave_1 gX12_72 (by repeat (first | assumption | exact hset_eq _ _ _ | refine (hset_ne _ _ (by omega)).trans ?_)) rfl ?_
  refine AW.ifne (tgt := 14) dX12_leave_4 (by decide) (fun c4 => ?_) (fun c4 => ?_)
  · refine AW.aload_n dX12_leave_14 rfl ?_
    refine AW.dup dX12_leave_15 ?_
    refine AW.getf dX12_leave_16 gX12_72 (by repeat (first | assumption | exact hset_eq _ _ _ | refine (hset_ne _ _ (by omega)).trans ?_)) rfl ?_
    refine AW.iconst dX12_leave_19 ?_
    refine AW.isubR dX12_leave_20 (by unfold RI; omega) ?_
    refine AW.putf dX12_leave_21 pX12_72 (by repeat (first | assumption | exact hset_eq _ _ _ | refine (hset_ne _ _ (by omega)).trans ?_)) trivial ?_
    refine AW.aload_n dX12_leave_24 rfl ?_
    refine AW.getf dX12_leave_25 gX12_72 (by repeat (first | assumption | exact hset_eq _ _ _ | refine (hset_ne _ _ (by omega)).trans ?_)) rfl ?_
    refine AW.ireturn dX12_leave_28 rfl ?_
    rw [q2]
    refine hq _ (sc_h S.1 (s_h S.1 - 1), S.2) _ (by unfold o_leave; rw [if_neg (by omega)]) ⟨updI m 8 (m 8 - 1), A, by rw [← q2]; exact MR.p rfl hM, ⟨⟨q1, ?_, q3, q4, fun i hi => q5 i ?_, fun i hi => q6 i ?_⟩, p2, p3⟩, ⟨sc_h_ok ok.1 (Nat.sub_le _ _), ok.2⟩⟩
    · show m 8 - 1 = ((s_h S.1 - 1 : Nat) : Int)
      omega
    · exact Nat.lt_of_lt_of_le hi (Nat.sub_le _ _)
    · exact Nat.lt_of_lt_of_le hi (Nat.sub_le _ _)
  · refine AW.aload_n dX12_leave_7 rfl ?_
    refine AW.bipush dX12_leave_8 ?_
    refine AW.cI2 (d' := d - 1) (cX12_82 rfl) okX12_no dX12_leave_10 (by repeat (first | assumption | exact hset_eq _ _ _ | refine (hset_ne _ _ (by omega)).trans ?_)) (by omega) (W_no (by assumption) (by decide) (by decide) (fun h10 hM => ?_))
    refine AW.ireturn dX12_leave_13 rfl ?_
    exact hq (-3) (rf S 3) _ (by unfold o_leave; rw [if_pos (by omega)]) (ms_rf hM hP ok)
theorem W_cF {hh : Int} (hM : MR h0 h m A) (hS : MSC m A s) (ok : scOK s) (hd : 4 ≤ d) (h1 : -1 ≤ who) (h2 : who < s_n s) (hh0 : 0 ≤ hh) (hh6 : hh < s_h s)
    (hq : ∀ h' m' A', MR h0 h' m' A' → T3 m m' A A' → Q (some (.inl (cnS s who (s_w s hh.toNat)))) h') : MW d 0 0 mX12_concludedFrom [.inr 116, .inl who, .inl hh] h Q := by
  have e : hh = (hh.toNat : Int) := by omega
  rw [e]
  exact W_concludedFrom hM hS ok hd h1 h2 (by omega) hq
theorem W_concludes (hM : MS h0 h S) (hd : 5 ≤ d) (hq : ∀ r S' h', (r, S') = o_concludes S x y → MS h0 h' S' → Q (some (.inl r)) h') : MW d 0 0 mX12_concludes [.inr 116, .inl x, .inl y] h Q := by
  obtain ⟨m, A, hM, hP, ok⟩ := hM
  obtain ⟨g116, -⟩ := id hM
  obtain ⟨⟨q1, q2, q3⟩, p2⟩ := id hP
  show AW d 0 0 mX12_concludes Q 0 [some (.inr 116), some (.inl x), some (.inl y)] [] h
  refine AW.aload_n dX12_concludes_0 rfl ?_
  refine AW.iload_n dX12_concludes_1 rfl ?_
  refine AW.cI2 (d' := d - 1) (cX12_195 rfl) okX12_isWho dX12_concludes_2 (by repeat (first | assumption | exact hset_eq _ _ _ | refine (hset_ne _ _ (by omega)).trans ?_)) (by omega) (W_isWho (by assumption) (fun c2 c2b => ?_) (fun c2 => ?_))
  · refine AW.ifeq_f (tgt := 25) dX12_concludes_5 (by decide) (by decide) ?_
    refine AW.aload_n dX12_concludes_8 rfl ?_
    refine AW.iload_n dX12_concludes_9 rfl ?_
    refine AW.cI2 (d' := d - 1) (cX12_189 rfl) okX12_isScholar dX12_concludes_10 (by repeat (first | assumption | exact hset_eq _ _ _ | refine (hset_ne _ _ (by omega)).trans ?_)) (by omega) (W_isScholar (by assumption) (fun c10 c10b => ?_) (fun c10 => ?_))
    · refine AW.ifeq_f (tgt := 25) dX12_concludes_13 (by decide) (by decide) ?_
      refine AW.aload_n dX12_concludes_16 rfl ?_
      refine AW.iload_n dX12_concludes_17 rfl ?_
      refine AW.iload_n dX12_concludes_18 rfl ?_
      refine AW.cI3 (d' := d - 1) (cX12_198 rfl) okX12_concludedFrom dX12_concludes_19 (by repeat (first | assumption | exact hset_eq _ _ _ | refine (hset_ne _ _ (by omega)).trans ?_)) (by omega) (W_cF hM hP.1 ok.1 (by omega) (by omega) (by omega) (by omega) (by omega) (fun h1 m1 A1 hM1 t1 => ?_))
      refine AW.goto (tgt := 30) dX12_concludes_22 (by decide) ?_
      refine AW.ireturn dX12_concludes_30 rfl ?_
      first | exact hq (-1) (rf S 1) _ (by unfold o_concludes; rw [if_pos (by omega)]) (ms_rf hM hP ok) | exact hq _ S _ (by unfold o_concludes; rw [if_neg (by omega)]) (ms_sq hM1 t1.sq hP ok)
    · refine AW.ifeq_t (tgt := 25) dX12_concludes_13 (by decide) rfl ?_
      refine AW.aload_n dX12_concludes_25 rfl ?_
      refine AW.iconst dX12_concludes_26 ?_
      refine AW.cI2 (d' := d - 1) (cX12_82 rfl) okX12_no dX12_concludes_27 (by repeat (first | assumption | exact hset_eq _ _ _ | refine (hset_ne _ _ (by omega)).trans ?_)) (by omega) (W_no (by assumption) (by decide) (by decide) (fun h27 hM => ?_))
      refine AW.ireturn dX12_concludes_30 rfl ?_
      first | exact hq (-1) (rf S 1) _ (by unfold o_concludes; rw [if_pos (by omega)]) (ms_rf hM hP ok) | exact hq _ S _ (by unfold o_concludes; rw [if_neg (by omega)]) (ms_sq hM1 t1.sq hP ok)
  · refine AW.ifeq_t (tgt := 25) dX12_concludes_5 (by decide) rfl ?_
    refine AW.aload_n dX12_concludes_25 rfl ?_
    refine AW.iconst dX12_concludes_26 ?_
    refine AW.cI2 (d' := d - 1) (cX12_82 rfl) okX12_no dX12_concludes_27 (by repeat (first | assumption | exact hset_eq _ _ _ | refine (hset_ne _ _ (by omega)).trans ?_)) (by omega) (W_no (by assumption) (by decide) (by decide) (fun h27 hM => ?_))
    refine AW.ireturn dX12_concludes_30 rfl ?_
    first | exact hq (-1) (rf S 1) _ (by unfold o_concludes; rw [if_pos (by omega)]) (ms_rf hM hP ok) | exact hq _ S _ (by unfold o_concludes; rw [if_neg (by omega)]) (ms_sq hM1 t1.sq hP ok)
theorem L_parts {u : Int} (hu : RI u) (hq : ∀ r, r = ptF u 8 → Q (some (.inl r)) h) {a0 a1 a2 a3 : Option AV} : ∀ n w : Nat, w + n = 8 → ptF u 8 = ptF u n → AW d 0 0 mX12_parts Q 53 [a0, a1, a2, a3, some (.inl u), some (.inl (w : Int))] [] h := by
  intro n
  induction n with
  | zero =>
    intro w hw e
    refine AW.iload dX12_parts_53 rfl ?_
    refine AW.bipush dX12_parts_55 ?_
    refine AW.if_icmpge (tgt := 80) dX12_parts_57 (by decide) (fun c57 => ?_) (fun c57 => absurd c57 (by omega))
    refine AW.bipush dX12_parts_80 ?_
    refine AW.ireturn dX12_parts_82 rfl ?_
    exact hq _ (by rw [e]; rfl)
  | succ n ih =>
    intro w hw e
    have ew : (7 - (n : Int)) = (w : Int) := by omega
    have e2 : ptF u (n + 1) = if a_and (a_shr u (w : Int)) 1 = 1 then (w : Int) else ptF u n := by rw [← ew]; rfl
    rw [e2] at e
    refine AW.iload dX12_parts_53 rfl ?_
    refine AW.bipush dX12_parts_55 ?_
    refine AW.if_icmpge (tgt := 80) dX12_parts_57 (by decide) (fun c57 => absurd c57 (by omega)) (fun c57 => ?_)
    refine AW.iload dX12_parts_60 rfl ?_
    refine AW.iload dX12_parts_62 rfl ?_
    refine AW.ishr dX12_parts_64 ?_
    refine AW.iconst dX12_parts_65 ?_
    refine AW.iand dX12_parts_66 ?_
    refine AW.iconst dX12_parts_67 ?_
    refine AW.if_icmpne (tgt := 74) dX12_parts_68 (by decide) (fun c68 => ?_) (fun c68 => ?_)
    · refine AW.inc5 dX12_parts_74 (by decide) (by unfold RI; omega) ?_
      refine AW.goto (tgt := 53) dX12_parts_77 (by decide) ?_
      exact ih (w + 1) (by omega) (by rw [e, if_neg c68])
    · refine AW.iload dX12_parts_71 rfl ?_
      refine AW.ireturn dX12_parts_73 rfl ?_
      exact hq _ (by rw [e, if_pos c68])
theorem W_parts (hM : MS h0 h S) (hd : 5 ≤ d) (hq : ∀ r S' h', (r, S') = o_parts S x y z → MS h0 h' S' → Q (some (.inl r)) h') : MW d 0 0 mX12_parts [.inr 116, .inl x, .inl y, .inl z] h Q := by
  obtain ⟨m, A, hM, hP, ok⟩ := hM
  obtain ⟨g116, -⟩ := id hM
  obtain ⟨⟨q1, q2, q3⟩, p2⟩ := id hP
  show AW d 0 0 mX12_parts Q 0 [some (.inr 116), some (.inl x), some (.inl y), some (.inl z), none, none] [] h
  refine AW.aload_n dX12_parts_0 rfl ?_
  refine AW.iload_n dX12_parts_1 rfl ?_
  refine AW.cI2 (d' := d - 1) (cX12_195 rfl) okX12_isWho dX12_parts_2 (by repeat (first | assumption | exact hset_eq _ _ _ | refine (hset_ne _ _ (by omega)).trans ?_)) (by omega) (W_isWho (by assumption) (fun c2 c2b => ?_) (fun c2 => ?_))
  · refine AW.ifeq_f (tgt := 29) dX12_parts_5 (by decide) (by decide) ?_
    refine AW.aload_n dX12_parts_8 rfl ?_
    refine AW.iload_n dX12_parts_9 rfl ?_
    refine AW.cI2 (d' := d - 1) (cX12_189 rfl) okX12_isScholar dX12_parts_10 (by repeat (first | assumption | exact hset_eq _ _ _ | refine (hset_ne _ _ (by omega)).trans ?_)) (by omega) (W_isScholar (by assumption) (fun c10 c10b => ?_) (fun c10 => ?_))
    · refine AW.ifeq_f (tgt := 29) dX12_parts_13 (by decide) (by decide) ?_
      refine AW.aload_n dX12_parts_16 rfl ?_
      refine AW.iload_n dX12_parts_17 rfl ?_
      refine AW.cI2 (d' := d - 1) (cX12_189 rfl) okX12_isScholar dX12_parts_18 (by repeat (first | assumption | exact hset_eq _ _ _ | refine (hset_ne _ _ (by omega)).trans ?_)) (by omega) (W_isScholar (by assumption) (fun c18 c18b => ?_) (fun c18 => ?_))
      · refine AW.ifeq_f (tgt := 29) dX12_parts_21 (by decide) (by decide) ?_
        refine AW.iload_n dX12_parts_24 rfl ?_
        refine AW.iload_n dX12_parts_25 rfl ?_
        refine AW.if_icmpne (tgt := 35) dX12_parts_26 (by decide) (fun c26 => ?_) (fun c26 => ?_)
        · refine AW.aload_n dX12_parts_35 rfl ?_
          refine AW.iload_n dX12_parts_36 rfl ?_
          refine AW.iload_n dX12_parts_37 rfl ?_
          refine AW.cI3 (d' := d - 1) (cX12_198 rfl) okX12_concludedFrom dX12_parts_38 (by repeat (first | assumption | exact hset_eq _ _ _ | refine (hset_ne _ _ (by omega)).trans ?_)) (by omega) (W_cF hM hP.1 ok.1 (by omega) (by omega) (by omega) (by omega) (by omega) (fun h1 m1 A1 hM1 t1 => ?_))
          refine AW.aload_n dX12_parts_41 rfl ?_
          refine AW.iload_n dX12_parts_42 rfl ?_
          refine AW.iload_n dX12_parts_43 rfl ?_
          refine AW.cI3 (d' := d - 1) (cX12_198 rfl) okX12_concludedFrom dX12_parts_44 (by have := hM1.1; assumption) (by omega) (W_cF hM1 (hP.1.sq t1.sq) ok.1 (by omega) (by omega) (by omega) (by omega) (by omega) (fun h2 m2 A2 hM2 t2 => ?_))
          refine AW.ixor dX12_parts_47 ?_
          refine AW.ist4 dX12_parts_48 (by decide) ?_
          refine AW.iconst dX12_parts_50 ?_
          refine AW.ist5 dX12_parts_51 (by decide) ?_
          refine L_parts (ri_of _) (fun r hr => ?_) 8 0 rfl rfl
          exact hq r S _ (by unfold o_parts; rw [if_neg (by omega), hr]; rfl) (ms_sq hM2 (t1.trans t2).sq hP ok)
        · refine AW.aload_n dX12_parts_29 rfl ?_
          refine AW.iconst dX12_parts_30 ?_
          refine AW.cI2 (d' := d - 1) (cX12_82 rfl) okX12_no dX12_parts_31 (by repeat (first | assumption | exact hset_eq _ _ _ | refine (hset_ne _ _ (by omega)).trans ?_)) (by omega) (W_no (by assumption) (by decide) (by decide) (fun h31 hM => ?_))
          refine AW.ireturn dX12_parts_34 rfl ?_
          exact hq (-1) (rf S 1) _ (by unfold o_parts; rw [if_pos (by omega)]) (ms_rf hM hP ok)
      · refine AW.ifeq_t (tgt := 29) dX12_parts_21 (by decide) rfl ?_
        refine AW.aload_n dX12_parts_29 rfl ?_
        refine AW.iconst dX12_parts_30 ?_
        refine AW.cI2 (d' := d - 1) (cX12_82 rfl) okX12_no dX12_parts_31 (by repeat (first | assumption | exact hset_eq _ _ _ | refine (hset_ne _ _ (by omega)).trans ?_)) (by omega) (W_no (by assumption) (by decide) (by decide) (fun h31 hM => ?_))
        refine AW.ireturn dX12_parts_34 rfl ?_
        exact hq (-1) (rf S 1) _ (by unfold o_parts; rw [if_pos (by omega)]) (ms_rf hM hP ok)
    · refine AW.ifeq_t (tgt := 29) dX12_parts_13 (by decide) rfl ?_
      refine AW.aload_n dX12_parts_29 rfl ?_
      refine AW.iconst dX12_parts_30 ?_
      refine AW.cI2 (d' := d - 1) (cX12_82 rfl) okX12_no dX12_parts_31 (by repeat (first | assumption | exact hset_eq _ _ _ | refine (hset_ne _ _ (by omega)).trans ?_)) (by omega) (W_no (by assumption) (by decide) (by decide) (fun h31 hM => ?_))
      refine AW.ireturn dX12_parts_34 rfl ?_
      exact hq (-1) (rf S 1) _ (by unfold o_parts; rw [if_pos (by omega)]) (ms_rf hM hP ok)
  · refine AW.ifeq_t (tgt := 29) dX12_parts_5 (by decide) rfl ?_
    refine AW.aload_n dX12_parts_29 rfl ?_
    refine AW.iconst dX12_parts_30 ?_
    refine AW.cI2 (d' := d - 1) (cX12_82 rfl) okX12_no dX12_parts_31 (by repeat (first | assumption | exact hset_eq _ _ _ | refine (hset_ne _ _ (by omega)).trans ?_)) (by omega) (W_no (by assumption) (by decide) (by decide) (fun h31 hM => ?_))
    refine AW.ireturn dX12_parts_34 rfl ?_
    exact hq (-1) (rf S 1) _ (by unfold o_parts; rw [if_pos (by omega)]) (ms_rf hM hP ok)
end Mod5

