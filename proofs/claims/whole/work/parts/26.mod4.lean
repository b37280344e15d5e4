section Mod4
variable {d : Nat} {Q : Option AV → AH → Prop} {h h0 : AH} {m : Nat → Int} {A : Nat → Nat → Int} {who x y z v : Int} {S : ST}
theorem ms_rf {k : Nat} (hM : MR h0 h m (rfA A k)) (hP : MP m A S) (ok : stOK S) (h1 : 1 ≤ k := by decide) (h6 : k ≤ 6 := by decide) : MS h0 h (rf S k) := ⟨m, _, hM, hP.rf h1 h6, rf_ok ok⟩
theorem getElem?_snoc {l : List Int} {x y : Int} {i : Nat} (h : (l ++ [x])[i]? = some y) : (i < l.length ∧ l[i]? = some y) ∨ (i = l.length ∧ y = x) := by
  rcases Nat.lt_or_ge i l.length with q | q
  · rw [List.getElem?_append_left q] at h
    exact Or.inl ⟨q, h⟩
  · rw [List.getElem?_append_right q] at h
    have h2 := (List.getElem?_eq_some_iff.mp h).1
    simp only [List.length_singleton] at h2
    rw [show i - l.length = 0 by omega] at h
    cases h
    exact Or.inr ⟨by omega, rfl⟩
theorem W_feed (hM : MS h0 h S) (hd : 2 ≤ d) (hq : ∀ r S' h', (r, S') = o_feed S x → MS h0 h' S' → Q (some (.inl r)) h') : MW d 0 0 mX12_feed [.inr 116, .inl x] h Q := by
  obtain ⟨m, A, hM, hP, ok⟩ := hM
  obtain ⟨g116, g117, g118, g119, g120, g121, g122, g123, g124, -⟩ := id hM
  obtain ⟨p1, p2, p3, p4, p5, p6, p7⟩ := id hP
  obtain ⟨k1, k2, k3, k4, k5, k6⟩ := id ok
  show AW d 0 0 mX12_feed Q 0 [some (.inr 116), some (.inl x), none] [] h
  refine AW.iload_n dX12_feed_0 rfl ?_
  refine AW.iconst dX12_feed_1 ?_
  refine AW.sipush dX12_feed_2 ?_
  refine AW.cS3 (d' := d - 1) (cX12_75 rfl) okX12_bound dX12_feed_5 (by omega) (W_bound (fun c5 => ?_) (fun c5 c5b => ?_) (fun c5 c5b => ?_))
  · refine AW.ist2 dX12_feed_8 (by decide) ?_
    refine AW.iload_n dX12_feed_9 rfl ?_
    refine AW.ifne_t (tgt := 25) dX12_feed_10 (by decide) (by decide) ?_
    refine AW.iload_n dX12_feed_25 rfl ?_
    refine AW.ifeq_f (tgt := 35) dX12_feed_26 (by decide) (by decide) ?_
    refine AW.aload_n dX12_feed_29 rfl ?_
    refine AW.iload_n dX12_feed_30 rfl ?_
    refine AW.cI2 (d' := d - 1) (cX12_82 rfl) okX12_no dX12_feed_31 (by repeat (first | assumption | exact hset_eq _ _ _ | refine (hset_ne _ _ (by omega)).trans ?_)) (by omega) (W_no (by assumption) (by decide) (by decide) (fun h31 hM => ?_))
    refine AW.ireturn dX12_feed_34 rfl ?_
    first | exact hq (-4) (rf S 4) _ (by unfold o_feed; rw [if_pos (by omega)]) (ms_rf hM hP ok) | exact hq (-6) (rf S 6) _ (by unfold o_feed; rw [if_neg (by omega), if_pos (by omega)]) (ms_rf hM hP ok)
  · refine AW.ist2 dX12_feed_8 (by decide) ?_
    refine AW.iload_n dX12_feed_9 rfl ?_
    refine AW.ifne_t (tgt := 25) dX12_feed_10 (by decide) (by decide) ?_
    refine AW.iload_n dX12_feed_25 rfl ?_
    refine AW.ifeq_f (tgt := 35) dX12_feed_26 (by decide) (by decide) ?_
    refine AW.aload_n dX12_feed_29 rfl ?_
    refine AW.iload_n dX12_feed_30 rfl ?_
    refine AW.cI2 (d' := d - 1) (cX12_82 rfl) okX12_no dX12_feed_31 (by repeat (first | assumption | exact hset_eq _ _ _ | refine (hset_ne _ _ (by omega)).trans ?_)) (by omega) (W_no (by assumption) (by decide) (by decide) (fun h31 hM => ?_))
    refine AW.ireturn dX12_feed_34 rfl ?_
    first | exact hq (-4) (rf S 4) _ (by unfold o_feed; rw [if_pos (by omega)]) (ms_rf hM hP ok) | exact hq (-6) (rf S 6) _ (by unfold o_feed; rw [if_neg (by omega), if_pos (by omega)]) (ms_rf hM hP ok)
  · refine AW.ist2 dX12_feed_8 (by decide) ?_
    refine AW.iload_n dX12_feed_9 rfl ?_
    refine AW.ifne_f (tgt := 25) dX12_feed_10 (by decide) rfl ?_
    refine AW.aload_n dX12_feed_13 rfl ?_
    refine AW.getf dX12_feed_14 gX12_79 (by repeat (first | assumption | exact hset_eq _ _ _ | refine (hset_ne _ _ (by omega)).trans ?_)) rfl ?_
    refine AW.bipush dX12_feed_17 ?_
    refine AW.if_icmpne (tgt := 25) dX12_feed_19 (by decide) (fun c19 => ?_) (fun c19 => ?_)
    · refine AW.iload_n dX12_feed_25 rfl ?_
      refine AW.ifeq_t (tgt := 35) dX12_feed_26 (by decide) rfl ?_
      refine AW.aload_n dX12_feed_35 rfl ?_
      refine AW.getf dX12_feed_36 gX12_31 (by repeat (first | assumption | exact hset_eq _ _ _ | refine (hset_ne _ _ (by omega)).trans ?_)) rfl ?_
      refine AW.aload_n dX12_feed_39 rfl ?_
      refine AW.getf dX12_feed_40 gX12_79 (by repeat (first | assumption | exact hset_eq _ _ _ | refine (hset_ne _ _ (by omega)).trans ?_)) rfl ?_
      refine AW.iload_n dX12_feed_43 rfl ?_
      refine AW.iastore dX12_feed_44 (by omega) (by repeat (first | assumption | exact hset_eq _ _ _ | refine (hset_ne _ _ (by omega)).trans ?_)) (by omega) (by omega) ?_
      refine AW.aload_n dX12_feed_45 rfl ?_
      refine AW.dup dX12_feed_46 ?_
      refine AW.getf dX12_feed_47 gX12_79 (by repeat (first | assumption | exact hset_eq _ _ _ | refine (hset_ne _ _ (by omega)).trans ?_)) rfl ?_
      refine AW.iconst dX12_feed_50 ?_
      refine AW.iaddR dX12_feed_51 (by unfold RI; omega) ?_
      refine AW.putf dX12_feed_52 pX12_79 (by repeat (first | assumption | exact hset_eq _ _ _ | refine (hset_ne _ _ (by omega)).trans ?_)) trivial ?_
      refine AW.aload_n dX12_feed_55 rfl ?_
      refine AW.getf dX12_feed_56 gX12_79 (by repeat (first | assumption | exact hset_eq _ _ _ | refine (hset_ne _ _ (by omega)).trans ?_)) rfl ?_
      refine AW.ireturn dX12_feed_59 rfl ?_
      rw [p3]
      refine hq _ (S.1, S.2.1, S.2.2.1 ++ [x], S.2.2.2) _ (by unfold o_feed; rw [if_neg (by omega), if_neg (by omega)]) ⟨updI m 15 (m 15 + 1), updA A 124 (updI (A 124) (m 15).toNat x), by rw [← p3]; exact MR.p rfl (MR.s124 hM), ⟨p1, p2, ?_, fun i y hi => ?_, p5, p6, p7⟩, ⟨k1, k2, ?_, fun y hy => ?_, k5, k6⟩⟩
      · show m 15 + 1 = _
        simp only [List.length_append, List.length_singleton]
        omega
      · show updI (A 124) (m 15).toNat x i = y
        unfold updI
        rcases getElem?_snoc hi with ⟨q1, q2⟩ | ⟨q1, q2⟩
        · rw [if_neg (by omega)]; exact p4 i y q2
        · rw [if_pos (by omega)]; exact q2.symm
      · simp only [List.length_append, List.length_singleton]
        omega
      · rcases List.mem_append.mp hy with q | q
        · exact k4 y q
        · rw [List.mem_singleton.mp q]; omega
    · refine AW.bipush dX12_feed_22 ?_
      refine AW.ist2 dX12_feed_24 (by decide) ?_
      refine AW.iload_n dX12_feed_25 rfl ?_
      refine AW.ifeq_f (tgt := 35) dX12_feed_26 (by decide) (by decide) ?_
      refine AW.aload_n dX12_feed_29 rfl ?_
      refine AW.iload_n dX12_feed_30 rfl ?_
      refine AW.cI2 (d' := d - 1) (cX12_82 rfl) okX12_no dX12_feed_31 (by repeat (first | assumption | exact hset_eq _ _ _ | refine (hset_ne _ _ (by omega)).trans ?_)) (by omega) (W_no (by assumption) (by decide) (by decide) (fun h31 hM => ?_))
      refine AW.ireturn dX12_feed_34 rfl ?_
      first | exact hq (-4) (rf S 4) _ (by unfold o_feed; rw [if_pos (by omega)]) (ms_rf hM hP ok) | exact hq (-6) (rf S 6) _ (by unfold o_feed; rw [if_neg (by omega), if_pos (by omega)]) (ms_rf hM hP ok)
theorem W_stranger (hM : MS h0 h S) (hd : 2 ≤ d) (hq : ∀ r S' h', (r, S') = o_stranger S x y → MS h0 h' S' → Q (some (.inl r)) h') : MW d 0 0 mX12_stranger [.inr 116, .inl x, .inl y] h Q := by
  obtain ⟨m, A, hM, hP, ok⟩ := hM
  have hMS : MS h0 h S := ⟨m, A, hM, hP, ok⟩
  obtain ⟨g116, g117, g118, g119, g120, -⟩ := id hM
  obtain ⟨⟨q1, q2, q3, -⟩, -⟩ := id hP
  have h5 := ok.1.1
  show AW d 0 0 mX12_stranger Q 0 [some (.inr 116), some (.inl x), some (.inl y)] [] h
  refine AW.aload_n dX12_stranger_0 rfl ?_
  refine AW.iload_n dX12_stranger_1 rfl ?_
  refine AW.cI2 (d' := d - 1) (cX12_128 rfl) okX12_isStranger dX12_stranger_2 (by repeat (first | assumption | exact hset_eq _ _ _ | refine (hset_ne _ _ (by omega)).trans ?_)) (by omega) (W_isStranger (by assumption) (fun c2 c2b => ?_) (fun c2 => ?_))
  · refine AW.ifne_t (tgt := 14) dX12_stranger_5 (by decide) (by decide) ?_
    refine AW.iload_n dX12_stranger_14 rfl ?_
    refine AW.tab (tgt := 61) [40, 47, 54] dX12_stranger_15 (by decide) (by decide) (by decide) (fun i t hi c15 => ?_) (fun c15 => ?_)
    · match i, hi with
      | 0, hi =>
        cases hi
        refine AW.aload_n dX12_stranger_40 rfl ?_
        refine AW.getf dX12_stranger_41 gX12_13 (by repeat (first | assumption | exact hset_eq _ _ _ | refine (hset_ne _ _ (by omega)).trans ?_)) rfl ?_
        refine AW.iload_n dX12_stranger_44 rfl ?_
        refine AW.iaload dX12_stranger_45 (by repeat (first | assumption | exact hset_eq _ _ _ | refine (hset_ne _ _ (by omega)).trans ?_)) (by omega) (by omega) ?_
        refine AW.ireturn dX12_stranger_46 rfl ?_
        rw [(q3 x.toNat (by omega)).1]; exact hq _ S _ (by unfold o_stranger; rw [if_neg (by omega), if_pos (by omega)]) hMS
      | 1, hi =>
        cases hi
        refine AW.aload_n dX12_stranger_47 rfl ?_
        refine AW.getf dX12_stranger_48 gX12_16 (by repeat (first | assumption | exact hset_eq _ _ _ | refine (hset_ne _ _ (by omega)).trans ?_)) rfl ?_
        refine AW.iload_n dX12_stranger_51 rfl ?_
        refine AW.iaload dX12_stranger_52 (by repeat (first | assumption | exact hset_eq _ _ _ | refine (hset_ne _ _ (by omega)).trans ?_)) (by omega) (by omega) ?_
        refine AW.ireturn dX12_stranger_53 rfl ?_
        rw [(q3 x.toNat (by omega)).2.1]; exact hq _ S _ (by unfold o_stranger; rw [if_neg (by omega), if_neg (by omega), if_pos (by omega)]) hMS
      | 2, hi =>
        cases hi
        refine AW.aload_n dX12_stranger_54 rfl ?_
        refine AW.getf dX12_stranger_55 gX12_19 (by repeat (first | assumption | exact hset_eq _ _ _ | refine (hset_ne _ _ (by omega)).trans ?_)) rfl ?_
        refine AW.iload_n dX12_stranger_58 rfl ?_
        refine AW.iaload dX12_stranger_59 (by repeat (first | assumption | exact hset_eq _ _ _ | refine (hset_ne _ _ (by omega)).trans ?_)) (by omega) (by omega) ?_
        refine AW.ireturn dX12_stranger_60 rfl ?_
        rw [(q3 x.toNat (by omega)).2.2]; exact hq _ S _ (by unfold o_stranger; rw [if_neg (by omega), if_neg (by omega), if_neg (by omega), if_pos (by omega)]) hMS
      | i + 3, hi => simp at hi
    · refine AW.aload_n dX12_stranger_61 rfl ?_
      refine AW.bipush dX12_stranger_62 ?_
      refine AW.cI2 (d' := d - 1) (cX12_82 rfl) okX12_no dX12_stranger_64 (by repeat (first | assumption | exact hset_eq _ _ _ | refine (hset_ne _ _ (by omega)).trans ?_)) (by omega) (W_no (by assumption) (by decide) (by decide) (fun h64 hM => ?_))
      refine AW.ireturn dX12_stranger_67 rfl ?_
      first | exact hq (-1) (rf S 1) _ (by unfold o_stranger; rw [if_pos (by omega)]) (ms_rf hM hP ok) | exact hq (-2) (rf S 2) _ (by unfold o_stranger; rw [if_neg (by omega), if_neg (by omega), if_neg (by omega), if_neg (by omega)]) (ms_rf hM hP ok)
  · refine AW.ifne_f (tgt := 14) dX12_stranger_5 (by decide) rfl ?_
    refine AW.aload_n dX12_stranger_8 rfl ?_
    refine AW.iconst dX12_stranger_9 ?_
    refine AW.cI2 (d' := d - 1) (cX12_82 rfl) okX12_no dX12_stranger_10 (by repeat (first | assumption | exact hset_eq _ _ _ | refine (hset_ne _ _ (by omega)).trans ?_)) (by omega) (W_no (by assumption) (by decide) (by decide) (fun h10 hM => ?_))
    refine AW.ireturn dX12_stranger_13 rfl ?_
    first | exact hq (-1) (rf S 1) _ (by unfold o_stranger; rw [if_pos (by omega)]) (ms_rf hM hP ok) | exact hq (-2) (rf S 2) _ (by unfold o_stranger; rw [if_neg (by omega), if_neg (by omega), if_neg (by omega), if_neg (by omega)]) (ms_rf hM hP ok)
theorem sc_l_ok {s : SC} {i : Nat} {x : Int} (ok : scOK s) (h0 : 0 ≤ x) (h15 : x ≤ 15) : scOK (sc_l s (updI (s_l s) i x)) := by
  obtain ⟨k1, k2, k3, k4, k5⟩ := ok
  refine ⟨k1, k2, fun j hj => ⟨(k3 j hj).1, (k3 j hj).2.1, ?_⟩, k4, k5⟩
  show 0 ≤ updI (s_l s) i x j ∧ updI (s_l s) i x j ≤ 15
  unfold updI
  split
  · exact ⟨h0, h15⟩
  · exact (k3 j hj).2.2
theorem lnF_ok : ∀ l : Nat, l < 16 → ∀ n : Nat, n < 4 → ∀ is : Nat, is < 2 → 0 ≤ lnF (l : Int) (n : Int) (is : Int) ∧ lnF (l : Int) (n : Int) (is : Int) ≤ 15 := by decide +kernel
theorem lnF_ok' {l n is : Int} (h1 : 0 ≤ l) (h2 : l ≤ 15) (h3 : 0 ≤ n) (h4 : n < 4) (h5 : 0 ≤ is) (h6 : is ≤ 1) : 0 ≤ lnF l n is ∧ lnF l n is ≤ 15 := by
  have := lnF_ok l.toNat (by omega) n.toNat (by omega) is.toNat (by omega)
  rw [show ((l.toNat : Nat) : Int) = l by omega, show ((n.toNat : Nat) : Int) = n by omega, show ((is.toNat : Nat) : Int) = is by omega] at this
  exact this
theorem W_learn (hM : MS h0 h S) (hd : 2 ≤ d) (hq : ∀ r S' h', (r, S') = o_learn S x y z → MS h0 h' S' → Q (some (.inl r)) h') : MW d 0 0 mX12_learn [.inr 116, .inl x, .inl y, .inl z] h Q := by
  obtain ⟨m, A, hM, hP, ok⟩ := hM
  obtain ⟨g116, g117, g118, g119, g120, -⟩ := id hM
  obtain ⟨⟨q1, q2, q3, q4, q5, q6⟩, p2, p3⟩ := id hP
  have h5 := ok.1.1
  show AW d 0 0 mX12_learn Q 0 [some (.inr 116), some (.inl x), some (.inl y), some (.inl z), none] [] h
  refine AW.aload_n dX12_learn_0 rfl ?_
  refine AW.iload_n dX12_learn_1 rfl ?_
  refine AW.cI2 (d' := d - 1) (cX12_128 rfl) okX12_isStranger dX12_learn_2 (by repeat (first | assumption | exact hset_eq _ _ _ | refine (hset_ne _ _ (by omega)).trans ?_)) (by omega) (W_isStranger (by assumption) (fun c2 c2b => ?_) (fun c2 => ?_))
  · refine AW.ifeq_f (tgt := 15) dX12_learn_5 (by decide) (by decide) ?_
    refine AW.iload_n dX12_learn_8 rfl ?_
    refine AW.cS1 (d' := d - 1) (cX12_186 rfl) okX12_isName dX12_learn_9 (by omega) (W_isName (fun c9 c9b => ?_) (fun c9 => ?_))
    · refine AW.ifne_t (tgt := 21) dX12_learn_12 (by decide) (by decide) ?_
      refine AW.iload_n dX12_learn_21 rfl ?_
      refine AW.iconst dX12_learn_22 ?_
      refine AW.iconst dX12_learn_23 ?_
      refine AW.cS3 (d' := d - 1) (cX12_89 rfl) okX12_isIn dX12_learn_24 (by omega) (W_isIn (fun c24 c24b => ?_) (fun c24 => ?_))
      · refine AW.ifne_t (tgt := 37) dX12_learn_27 (by decide) (by decide) ?_
        refine AW.aload_n dX12_learn_37 rfl ?_
        refine AW.getf dX12_learn_38 gX12_19 (by repeat (first | assumption | exact hset_eq _ _ _ | refine (hset_ne _ _ (by omega)).trans ?_)) rfl ?_
        refine AW.iload_n dX12_learn_41 rfl ?_
        refine AW.iaload dX12_learn_42 (by repeat (first | assumption | exact hset_eq _ _ _ | refine (hset_ne _ _ (by omega)).trans ?_)) (by omega) (by omega) ?_
        refine AW.iload_n dX12_learn_43 rfl ?_
        refine AW.ishr dX12_learn_44 ?_
        refine AW.iconst dX12_learn_45 ?_
        refine AW.iand dX12_learn_46 ?_
        refine AW.ist4 dX12_learn_47 (by decide) ?_
        refine AW.aload_n dX12_learn_49 rfl ?_
        refine AW.getf dX12_learn_50 gX12_19 (by repeat (first | assumption | exact hset_eq _ _ _ | refine (hset_ne _ _ (by omega)).trans ?_)) rfl ?_
        refine AW.iload_n dX12_learn_53 rfl ?_
        refine AW.aload_n dX12_learn_54 rfl ?_
        refine AW.getf dX12_learn_55 gX12_19 (by repeat (first | assumption | exact hset_eq _ _ _ | refine (hset_ne _ _ (by omega)).trans ?_)) rfl ?_
        refine AW.iload_n dX12_learn_58 rfl ?_
        refine AW.iaload dX12_learn_59 (by repeat (first | assumption | exact hset_eq _ _ _ | refine (hset_ne _ _ (by omega)).trans ?_)) (by omega) (by omega) ?_
        refine AW.iconst dX12_learn_60 ?_
        refine AW.iload_n dX12_learn_61 rfl ?_
        refine AW.ishl dX12_learn_62 ?_
        refine AW.iconst dX12_learn_63 ?_
        refine AW.ixor dX12_learn_64 ?_
        refine AW.iand dX12_learn_65 ?_
        refine AW.iload_n dX12_learn_66 rfl ?_
        refine AW.iload_n dX12_learn_67 rfl ?_
        refine AW.ishl dX12_learn_68 ?_
        refine AW.ior dX12_learn_69 ?_
        refine AW.iastore dX12_learn_70 (by omega) (by repeat (first | assumption | exact hset_eq _ _ _ | refine (hset_ne _ _ (by omega)).trans ?_)) (by omega) (by omega) ?_
        refine AW.iload dX12_learn_71 rfl ?_
        refine AW.ireturn dX12_learn_73 rfl ?_
        have hk := ok.1.2.2.1 x.toNat (by omega)
        have e1 := (q3 x.toNat (by omega)).2.2
        rw [e1]
        refine hq _ (sc_l S.1 (updI (s_l S.1) x.toNat (lnF (s_l S.1 x.toNat) y z)), S.2) _ (by unfold o_learn; rw [if_neg (by omega), if_neg (by omega)]) ⟨m, updA A 120 (updI (A 120) x.toNat (lnF (s_l S.1 x.toNat) y z)), ?_, ⟨⟨q1, q2, fun i hi => ⟨(q3 i hi).1, (q3 i hi).2.1, ?_⟩, q4, q5, q6⟩, p2, p3⟩, ⟨sc_l_ok ok.1 (lnF_ok' hk.2.2.1 hk.2.2.2 (by omega) (by omega) (by omega) (by omega)).1 (lnF_ok' hk.2.2.1 hk.2.2.2 (by omega) (by omega) (by omega) (by omega)).2, ok.2⟩⟩
        · exact MR.s120 hM
        · show updI (A 120) x.toNat _ i = updI (s_l S.1) x.toNat _ i
          unfold updI
          split
          · rfl
          · exact (q3 i hi).2.2
      · refine AW.ifne_f (tgt := 37) dX12_learn_27 (by decide) rfl ?_
        refine AW.aload_n dX12_learn_30 rfl ?_
        refine AW.bipush dX12_learn_31 ?_
        refine AW.cI2 (d' := d - 1) (cX12_82 rfl) okX12_no dX12_learn_33 (by repeat (first | assumption | exact hset_eq _ _ _ | refine (hset_ne _ _ (by omega)).trans ?_)) (by omega) (W_no (by assumption) (by decide) (by decide) (fun h33 hM => ?_))
        refine AW.ireturn dX12_learn_36 rfl ?_
        first | exact hq (-1) (rf S 1) _ (by unfold o_learn; rw [if_pos (by omega)]) (ms_rf hM hP ok) | exact hq (-2) (rf S 2) _ (by unfold o_learn; rw [if_neg (by omega), if_pos (by omega)]) (ms_rf hM hP ok)
    · refine AW.ifne_f (tgt := 21) dX12_learn_12 (by decide) rfl ?_
      refine AW.aload_n dX12_learn_15 rfl ?_
      refine AW.iconst dX12_learn_16 ?_
      refine AW.cI2 (d' := d - 1) (cX12_82 rfl) okX12_no dX12_learn_17 (by repeat (first | assumption | exact hset_eq _ _ _ | refine (hset_ne _ _ (by omega)).trans ?_)) (by omega) (W_no (by assumption) (by decide) (by decide) (fun h17 hM => ?_))
      refine AW.ireturn dX12_learn_20 rfl ?_
      first | exact hq (-1) (rf S 1) _ (by unfold o_learn; rw [if_pos (by omega)]) (ms_rf hM hP ok) | exact hq (-2) (rf S 2) _ (by unfold o_learn; rw [if_neg (by omega), if_pos (by omega)]) (ms_rf hM hP ok)
  · refine AW.ifeq_t (tgt := 15) dX12_learn_5 (by decide) rfl ?_
    refine AW.aload_n dX12_learn_15 rfl ?_
    refine AW.iconst dX12_learn_16 ?_
    refine AW.cI2 (d' := d - 1) (cX12_82 rfl) okX12_no dX12_learn_17 (by repeat (first | assumption | exact hset_eq _ _ _ | refine (hset_ne _ _ (by omega)).trans ?_)) (by omega) (W_no (by assumption) (by decide) (by decide) (fun h17 hM => ?_))
    refine AW.ireturn dX12_learn_20 rfl ?_
    first | exact hq (-1) (rf S 1) _ (by unfold o_learn; rw [if_pos (by omega)]) (ms_rf hM hP ok) | exact hq (-2) (rf S 2) _ (by unfold o_learn; rw [if_neg (by omega), if_pos (by omega)]) (ms_rf hM hP ok)
theorem W_name (hM : MS h0 h S) (hd : 2 ≤ d) (hq : ∀ r S' h', (r, S') = o_name S x → MS h0 h' S' → Q (some (.inl r)) h') : MW d 0 0 mX12_name [.inr 116, .inl x] h Q := by
  obtain ⟨m, A, hM, hP, ok⟩ := hM
  have hMS : MS h0 h S := ⟨m, A, hM, hP, ok⟩
  obtain ⟨g116, g117, g118, g119, g120, g121, -⟩ := id hM
  obtain ⟨⟨q1, q2, q3, q4, q5, q6⟩, p2, p3⟩ := id hP
  show AW d 0 0 mX12_name Q 0 [some (.inr 116), some (.inl x)] [] h
  refine AW.iload_n dX12_name_0 rfl ?_
  refine AW.cS1 (d' := d - 1) (cX12_186 rfl) okX12_isName dX12_name_1 (by omega) (W_isName (fun c1 c1b => ?_) (fun c1 => ?_))
  · refine AW.ifeq_f (tgt := 16) dX12_name_4 (by decide) (by decide) ?_
    refine AW.aload_n dX12_name_7 rfl ?_
    refine AW.getf dX12_name_8 gX12_22 (by repeat (first | assumption | exact hset_eq _ _ _ | refine (hset_ne _ _ (by omega)).trans ?_)) rfl ?_
    refine AW.iload_n dX12_name_11 rfl ?_
    refine AW.iaload dX12_name_12 (by repeat (first | assumption | exact hset_eq _ _ _ | refine (hset_ne _ _ (by omega)).trans ?_)) (by omega) (by omega) ?_
    refine AW.goto (tgt := 21) dX12_name_13 (by decide) ?_
    refine AW.ireturn dX12_name_21 rfl ?_
    first | exact hq (-1) (rf S 1) _ (by unfold o_name; rw [if_pos (by omega)]) (ms_rf hM hP ok) | (rw [q4 x.toNat (by omega)]; exact hq _ S _ (by unfold o_name; rw [if_neg (by omega)]) hMS)
  · refine AW.ifeq_t (tgt := 16) dX12_name_4 (by decide) rfl ?_
    refine AW.aload_n dX12_name_16 rfl ?_
    refine AW.iconst dX12_name_17 ?_
    refine AW.cI2 (d' := d - 1) (cX12_82 rfl) okX12_no dX12_name_18 (by repeat (first | assumption | exact hset_eq _ _ _ | refine (hset_ne _ _ (by omega)).trans ?_)) (by omega) (W_no (by assumption) (by decide) (by decide) (fun h18 hM => ?_))
    refine AW.ireturn dX12_name_21 rfl ?_
    first | exact hq (-1) (rf S 1) _ (by unfold o_name; rw [if_pos (by omega)]) (ms_rf hM hP ok) | (rw [q4 x.toNat (by omega)]; exact hq _ S _ (by unfold o_name; rw [if_neg (by omega)]) hMS)
theorem sc_c_ok {s : SC} {i : Nat} {x : Int} (ok : scOK s) (h0 : x = -9 ∨ (0 ≤ x ∧ x ≤ 255)) : scOK (sc_c s (updI (s_c s) i x)) := by
  obtain ⟨k1, k2, k3, k4, k5⟩ := ok
  refine ⟨k1, k2, k3, fun j hj => ?_, k5⟩
  show updI (s_c s) i x j = -9 ∨ (0 ≤ updI (s_c s) i x j ∧ updI (s_c s) i x j ≤ 255)
  unfold updI
  split
  · exact h0
  · exact k4 j hj
theorem W_coin (hM : MS h0 h S) (hd : 2 ≤ d) (hq : ∀ r S' h', (r, S') = o_coin S x y → MS h0 h' S' → Q (some (.inl r)) h') : MW d 0 0 mX12_coin [.inr 116, .inl x, .inl y] h Q := by
  obtain ⟨m, A, hM, hP, ok⟩ := hM
  obtain ⟨g116, g117, g118, g119, g120, g121, -⟩ := id hM
  obtain ⟨⟨q1, q2, q3, q4, q5, q6⟩, p2, p3⟩ := id hP
  show AW d 0 0 mX12_coin Q 0 [some (.inr 116), some (.inl x), some (.inl y), none, none] [] h
  refine AW.iload_n dX12_coin_0 rfl ?_
  refine AW.cS1 (d' := d - 1) (cX12_186 rfl) okX12_isName dX12_coin_1 (by omega) (W_isName (fun c1 c1b => ?_) (fun c1 => ?_))
  · refine AW.ifne_t (tgt := 11) dX12_coin_4 (by decide) (by decide) ?_
    refine AW.iload_n dX12_coin_11 rfl ?_
    refine AW.iconst dX12_coin_12 ?_
    refine AW.sipush dX12_coin_13 ?_
    refine AW.cS3 (d' := d - 1) (cX12_75 rfl) okX12_bound dX12_coin_16 (by omega) (W_bound (fun c16 => ?_) (fun c16 c16b => ?_) (fun c16 c16b => ?_))
    · refine AW.ist3 dX12_coin_19 (by decide) ?_
      refine AW.iload_n dX12_coin_20 rfl ?_
      refine AW.ifeq_f (tgt := 30) dX12_coin_21 (by decide) (by decide) ?_
      refine AW.aload_n dX12_coin_24 rfl ?_
      refine AW.iload_n dX12_coin_25 rfl ?_
      refine AW.cI2 (d' := d - 1) (cX12_82 rfl) okX12_no dX12_coin_26 (by repeat (first | assumption | exact hset_eq _ _ _ | refine (hset_ne _ _ (by omega)).trans ?_)) (by omega) (W_no (by assumption) (by decide) (by decide) (fun h26 hM => ?_))
      refine AW.ireturn dX12_coin_29 rfl ?_
      first | exact hq (-1) (rf S 1) _ (by unfold o_coin; rw [if_pos (by omega)]) (ms_rf hM hP ok) | exact hq (-4) (rf S 4) _ (by unfold o_coin; rw [if_neg (by omega), if_pos (by omega)]) (ms_rf hM hP ok) | exact hq (-6) (rf S 6) _ (by unfold o_coin; rw [if_neg (by omega), if_neg (by omega), if_pos (by omega)]) (ms_rf hM hP ok)
    · refine AW.ist3 dX12_coin_19 (by decide) ?_
      refine AW.iload_n dX12_coin_20 rfl ?_
      refine AW.ifeq_f (tgt := 30) dX12_coin_21 (by decide) (by decide) ?_
      refine AW.aload_n dX12_coin_24 rfl ?_
      refine AW.iload_n dX12_coin_25 rfl ?_
      refine AW.cI2 (d' := d - 1) (cX12_82 rfl) okX12_no dX12_coin_26 (by repeat (first | assumption | exact hset_eq _ _ _ | refine (hset_ne _ _ (by omega)).trans ?_)) (by omega) (W_no (by assumption) (by decide) (by decide) (fun h26 hM => ?_))
      refine AW.ireturn dX12_coin_29 rfl ?_
      first | exact hq (-1) (rf S 1) _ (by unfold o_coin; rw [if_pos (by omega)]) (ms_rf hM hP ok) | exact hq (-4) (rf S 4) _ (by unfold o_coin; rw [if_neg (by omega), if_pos (by omega)]) (ms_rf hM hP ok) | exact hq (-6) (rf S 6) _ (by unfold o_coin; rw [if_neg (by omega), if_neg (by omega), if_pos (by omega)]) (ms_rf hM hP ok)
    · refine AW.ist3 dX12_coin_19 (by decide) ?_
      refine AW.iload_n dX12_coin_20 rfl ?_
      refine AW.ifeq_t (tgt := 30) dX12_coin_21 (by decide) rfl ?_
      refine AW.aload_n dX12_coin_30 rfl ?_
      refine AW.getf dX12_coin_31 gX12_22 (by repeat (first | assumption | exact hset_eq _ _ _ | refine (hset_ne _ _ (by omega)).trans ?_)) rfl ?_
      refine AW.iload_n dX12_coin_34 rfl ?_
      refine AW.iaload dX12_coin_35 (by repeat (first | assumption | exact hset_eq _ _ _ | refine (hset_ne _ _ (by omega)).trans ?_)) (by omega) (by omega) ?_
      refine AW.ist4 dX12_coin_36 (by decide) ?_
      refine AW.aload_n dX12_coin_38 rfl ?_
      refine AW.getf dX12_coin_39 gX12_22 (by repeat (first | assumption | exact hset_eq _ _ _ | refine (hset_ne _ _ (by omega)).trans ?_)) rfl ?_
      refine AW.iload_n dX12_coin_42 rfl ?_
      refine AW.iload_n dX12_coin_43 rfl ?_
      refine AW.ifge (tgt := 52) dX12_coin_44 (by decide) (fun c44 => ?_) (fun c44 => ?_)
      · refine AW.iload_n dX12_coin_52 rfl ?_
        refine AW.iastore dX12_coin_53 (by omega) (by repeat (first | assumption | exact hset_eq _ _ _ | refine (hset_ne _ _ (by omega)).trans ?_)) (by omega) (by omega) ?_
        refine AW.iload dX12_coin_54 rfl ?_
        refine AW.ireturn dX12_coin_56 rfl ?_
        rw [q4 x.toNat (by omega)]
        refine hq _ (sc_c S.1 (updI (s_c S.1) x.toNat (cvF y)), S.2) _ (by unfold o_coin; rw [if_neg (by omega), if_neg (by omega), if_neg (by omega)]) ⟨m, updA A 121 (updI (A 121) x.toNat (cvF y)), ?_, ⟨⟨q1, q2, q3, fun i hi => ?_, q5, q6⟩, p2, p3⟩, ⟨sc_c_ok ok.1 (by unfold cvF; split <;> omega), ok.2⟩⟩
        · unfold cvF; first | (rw [if_pos (by omega)]; exact MR.s121 hM) | (rw [if_neg (by omega)]; exact MR.s121 hM)
        · show updI (A 121) x.toNat _ i = updI (s_c S.1) x.toNat _ i
          unfold updI
          split
          · rfl
          · exact q4 i hi
      · refine AW.bipush dX12_coin_47 ?_
        refine AW.goto (tgt := 53) dX12_coin_49 (by decide) ?_
        refine AW.iastore dX12_coin_53 (by omega) (by repeat (first | assumption | exact hset_eq _ _ _ | refine (hset_ne _ _ (by omega)).trans ?_)) (by omega) (by omega) ?_
        refine AW.iload dX12_coin_54 rfl ?_
        refine AW.ireturn dX12_coin_56 rfl ?_
        rw [q4 x.toNat (by omega)]
        refine hq _ (sc_c S.1 (updI (s_c S.1) x.toNat (cvF y)), S.2) _ (by unfold o_coin; rw [if_neg (by omega), if_neg (by omega), if_neg (by omega)]) ⟨m, updA A 121 (updI (A 121) x.toNat (cvF y)), ?_, ⟨⟨q1, q2, q3, fun i hi => ?_, q5, q6⟩, p2, p3⟩, ⟨sc_c_ok ok.1 (by unfold cvF; split <;> omega), ok.2⟩⟩
        · unfold cvF; first | (rw [if_pos (by omega)]; exact MR.s121 hM) | (rw [if_neg (by omega)]; exact MR.s121 hM)
        · show updI (A 121) x.toNat _ i = updI (s_c S.1) x.toNat _ i
          unfold updI
          split
          · rfl
          · exact q4 i hi
  · refine AW.ifne_f (tgt := 11) dX12_coin_4 (by decide) rfl ?_
    refine AW.iconst dX12_coin_7 ?_
    refine AW.goto (tgt := 19) dX12_coin_8 (by decide) ?_
    refine AW.ist3 dX12_coin_19 (by decide) ?_
    refine AW.iload_n dX12_coin_20 rfl ?_
    refine AW.ifeq_f (tgt := 30) dX12_coin_21 (by decide) (by decide) ?_
    refine AW.aload_n dX12_coin_24 rfl ?_
    refine AW.iload_n dX12_coin_25 rfl ?_
    refine AW.cI2 (d' := d - 1) (cX12_82 rfl) okX12_no dX12_coin_26 (by repeat (first | assumption | exact hset_eq _ _ _ | refine (hset_ne _ _ (by omega)).trans ?_)) (by omega) (W_no (by assumption) (by decide) (by decide) (fun h26 hM => ?_))
    refine AW.ireturn dX12_coin_29 rfl ?_
    first | exact hq (-1) (rf S 1) _ (by unfold o_coin; rw [if_pos (by omega)]) (ms_rf hM hP ok) | exact hq (-4) (rf S 4) _ (by unfold o_coin; rw [if_neg (by omega), if_pos (by omega)]) (ms_rf hM hP ok) | exact hq (-6) (rf S 6) _ (by unfold o_coin; rw [if_neg (by omega), if_neg (by omega), if_pos (by omega)]) (ms_rf hM hP ok)
end Mod4

