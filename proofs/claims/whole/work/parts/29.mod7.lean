section Mod7
variable {d : Nat} {Q : Option AV → AH → Prop} {h h0 : AH} {m : Nat → Int} {A : Nat → Nat → Int} {who x y z v : Int} {S : ST} {s : SC}
theorem W_row (hM : MS h0 h S) (hd : 2 ≤ d) (hq : ∀ r S' h', (r, S') = o_row S x → MS h0 h' S' → Q (some (.inl r)) h') : MW d 0 0 mX12_row [.inr 116, .inl x] h Q := by
  obtain ⟨m, A, hM, hP, ok⟩ := hM
  obtain ⟨g116, -, -, -, -, -, -, -, -, -, -, -, -, -, -, -, -, -, -, g135, -⟩ := id hM
  obtain ⟨p1, p2, p3, p4, p5, p6, p7⟩ := id hP
  obtain ⟨k1, k2, k3, k4, k5, k6⟩ := id ok
  show AW d 0 0 mX12_row Q 0 [some (.inr 116), some (.inl x), none] [] h
  refine AW.iload_n dX12_row_0 rfl ?_
  refine AW.iconst dX12_row_1 ?_
  refine AW.sipush dX12_row_2 ?_
  refine AW.cS3 (d' := d - 1) (cX12_75 rfl) okX12_bound dX12_row_5 (by omega) (W_bound (fun c5 => ?_) (fun c5 c5b => ?_) (fun c5 c5b => ?_))
  · refine AW.ist2 dX12_row_8 (by decide) ?_
    refine AW.iload_n dX12_row_9 rfl ?_
    refine AW.ifne_t (tgt := 25) dX12_row_10 (by decide) (by decide) ?_
    refine AW.iload_n dX12_row_25 rfl ?_
    refine AW.ifeq_f (tgt := 35) dX12_row_26 (by decide) (by decide) ?_
    refine AW.aload_n dX12_row_29 rfl ?_
    refine AW.iload_n dX12_row_30 rfl ?_
    refine AW.cI2 (d' := d - 1) (cX12_82 rfl) okX12_no dX12_row_31 (by repeat (first | assumption | exact hset_eq _ _ _ | refine (hset_ne _ _ (by omega)).trans ?_)) (by omega) (W_no (by assumption) (by decide) (by decide) (fun h31 hM => ?_))
    refine AW.ireturn dX12_row_34 rfl ?_
    first | exact hq (-4) (rf S 4) _ (by unfold o_row; rw [if_pos (by omega)]) (ms_rf hM hP ok) | exact hq (-6) (rf S 6) _ (by unfold o_row; rw [if_neg (by omega), if_pos (by omega)]) (ms_rf hM hP ok)
  · refine AW.ist2 dX12_row_8 (by decide) ?_
    refine AW.iload_n dX12_row_9 rfl ?_
    refine AW.ifne_t (tgt := 25) dX12_row_10 (by decide) (by decide) ?_
    refine AW.iload_n dX12_row_25 rfl ?_
    refine AW.ifeq_f (tgt := 35) dX12_row_26 (by decide) (by decide) ?_
    refine AW.aload_n dX12_row_29 rfl ?_
    refine AW.iload_n dX12_row_30 rfl ?_
    refine AW.cI2 (d' := d - 1) (cX12_82 rfl) okX12_no dX12_row_31 (by repeat (first | assumption | exact hset_eq _ _ _ | refine (hset_ne _ _ (by omega)).trans ?_)) (by omega) (W_no (by assumption) (by decide) (by decide) (fun h31 hM => ?_))
    refine AW.ireturn dX12_row_34 rfl ?_
    first | exact hq (-4) (rf S 4) _ (by unfold o_row; rw [if_pos (by omega)]) (ms_rf hM hP ok) | exact hq (-6) (rf S 6) _ (by unfold o_row; rw [if_neg (by omega), if_pos (by omega)]) (ms_rf hM hP ok)
  · refine AW.ist2 dX12_row_8 (by decide) ?_
    refine AW.iload_n dX12_row_9 rfl ?_
    refine AW.ifne_f (tgt := 25) dX12_row_10 (by decide) rfl ?_
    refine AW.aload_n dX12_row_13 rfl ?_
    refine AW.getf dX12_row_14 gX12_245 (by repeat (first | assumption | exact hset_eq _ _ _ | refine (hset_ne _ _ (by omega)).trans ?_)) rfl ?_
    refine AW.bipush dX12_row_17 ?_
    refine AW.if_icmpne (tgt := 25) dX12_row_19 (by decide) (fun c19 => ?_) (fun c19 => ?_)
    · refine AW.iload_n dX12_row_25 rfl ?_
      refine AW.ifeq_t (tgt := 35) dX12_row_26 (by decide) rfl ?_
      refine AW.aload_n dX12_row_35 rfl ?_
      refine AW.getf dX12_row_36 gX12_64 (by repeat (first | assumption | exact hset_eq _ _ _ | refine (hset_ne _ _ (by omega)).trans ?_)) rfl ?_
      refine AW.aload_n dX12_row_39 rfl ?_
      refine AW.getf dX12_row_40 gX12_245 (by repeat (first | assumption | exact hset_eq _ _ _ | refine (hset_ne _ _ (by omega)).trans ?_)) rfl ?_
      refine AW.iload_n dX12_row_43 rfl ?_
      refine AW.iastore dX12_row_44 (by omega) (by repeat (first | assumption | exact hset_eq _ _ _ | refine (hset_ne _ _ (by omega)).trans ?_)) (by omega) (by omega) ?_
      refine AW.aload_n dX12_row_45 rfl ?_
      refine AW.dup dX12_row_46 ?_
      refine AW.getf dX12_row_47 gX12_245 (by repeat (first | assumption | exact hset_eq _ _ _ | refine (hset_ne _ _ (by omega)).trans ?_)) rfl ?_
      refine AW.iconst dX12_row_50 ?_
      refine AW.iaddR dX12_row_51 (by unfold RI; omega) ?_
      refine AW.putf dX12_row_52 pX12_245 (by repeat (first | assumption | exact hset_eq _ _ _ | refine (hset_ne _ _ (by omega)).trans ?_)) trivial ?_
      refine AW.aload_n dX12_row_55 rfl ?_
      refine AW.getf dX12_row_56 gX12_245 (by repeat (first | assumption | exact hset_eq _ _ _ | refine (hset_ne _ _ (by omega)).trans ?_)) rfl ?_
      refine AW.ireturn dX12_row_59 rfl ?_
      rw [p5]
      refine hq _ (S.1, S.2.1, S.2.2.1, S.2.2.2.1 ++ [x], S.2.2.2.2) _ (by unfold o_row; rw [if_neg (by omega), if_neg (by omega)]) ⟨updI m 31 (m 31 + 1), updA A 135 (updI (A 135) (m 31).toNat x), by rw [← p5]; exact MR.p rfl (MR.s135 hM), ⟨p1, p2, p3, p4, ?_, fun i y hi => ?_, p7⟩, ⟨k1, k2, k3, k4, ?_, fun y hy => ?_⟩⟩
      · show m 31 + 1 = _
        simp only [List.length_append, List.length_singleton]
        omega
      · show updI (A 135) (m 31).toNat x i = y
        unfold updI
        rcases getElem?_snoc hi with ⟨q1, q2⟩ | ⟨q1, q2⟩
        · rw [if_neg (by omega)]; exact p6 i y q2
        · rw [if_pos (by omega)]; exact q2.symm
      · simp only [List.length_append, List.length_singleton]
        omega
      · rcases List.mem_append.mp hy with q | q
        · exact k6 y q
        · rw [List.mem_singleton.mp q]; omega
    · refine AW.bipush dX12_row_22 ?_
      refine AW.ist2 dX12_row_24 (by decide) ?_
      refine AW.iload_n dX12_row_25 rfl ?_
      refine AW.ifeq_f (tgt := 35) dX12_row_26 (by decide) (by decide) ?_
      refine AW.aload_n dX12_row_29 rfl ?_
      refine AW.iload_n dX12_row_30 rfl ?_
      refine AW.cI2 (d' := d - 1) (cX12_82 rfl) okX12_no dX12_row_31 (by repeat (first | assumption | exact hset_eq _ _ _ | refine (hset_ne _ _ (by omega)).trans ?_)) (by omega) (W_no (by assumption) (by decide) (by decide) (fun h31 hM => ?_))
      refine AW.ireturn dX12_row_34 rfl ?_
      first | exact hq (-4) (rf S 4) _ (by unfold o_row; rw [if_pos (by omega)]) (ms_rf hM hP ok) | exact hq (-6) (rf S 6) _ (by unfold o_row; rw [if_neg (by omega), if_pos (by omega)]) (ms_rf hM hP ok)
theorem L_judge {row : List Int} {e : Int} {n0 : Int} (ok : scOK s) (hd : 5 ≤ d) (h1 : -1 ≤ who) (h2 : who < s_n s) {b : Nat} (hb : b ≤ s_h s) (hbr : b ≤ row.length) (hA : ∀ (i : Nat) (y : Int), row[i]? = some y → A 135 i = y)
    (he : e = if n0 = (s_h s : Int) then -9 else (b : Int)) (hq : ∀ h' m' A', MR h0 h' m' A' → T3 m m' A A' → Q (some (.inl (jdF s who row e 0 b))) h') :
    ∀ (r i : Nat) (h : AH) (m' : Nat → Int) (A' : Nat → Nat → Int), i + r = b → MR h0 h m' A' → MSC m' A' s → T3 m m' A A' → jdF s who row e 0 b = jdF s who row e i r →
      AW d 0 0 mX12_judge Q 44 [some (.inr 116), some (.inl who), some (.inl n0), some (.inl (b : Int)), some (.inl (i : Int))] [] h := by
  have h6 := ok.2.1
  intro r
  induction r with
  | zero =>
    intro i h m' A' hi hM hS hT hj
    obtain ⟨g116, -⟩ := id hM
    have e8 := hS.2.1
    have hf := hq h m' A' hM hT
    rw [hj] at hf
    have hf : Q (some (.inl e)) h := hf
    rw [he] at hf
    refine AW.iload dX12_judge_44 rfl ?_
    refine AW.iload_n dX12_judge_46 rfl ?_
    refine AW.if_icmpge (tgt := 76) dX12_judge_47 (by decide) (fun c47 => ?_) (fun c47 => absurd c47 (by omega))
    refine AW.iload_n dX12_judge_76 rfl ?_
    refine AW.aload_n dX12_judge_77 rfl ?_
    refine AW.getf dX12_judge_78 gX12_72 (by repeat (first | assumption | exact hset_eq _ _ _ | refine (hset_ne _ _ (by omega)).trans ?_)) rfl ?_
    refine AW.if_icmpne (tgt := 89) dX12_judge_81 (by decide) (fun c81 => ?_) (fun c81 => ?_)
    · refine AW.iload_n dX12_judge_89 rfl ?_
      refine AW.ireturn dX12_judge_90 rfl ?_
      first | (rw [if_pos (by omega)] at hf; exact hf) | (rw [if_neg (by omega)] at hf; exact hf)
    · refine AW.bipush dX12_judge_84 ?_
      refine AW.goto (tgt := 90) dX12_judge_86 (by decide) ?_
      refine AW.ireturn dX12_judge_90 rfl ?_
      first | (rw [if_pos (by omega)] at hf; exact hf) | (rw [if_neg (by omega)] at hf; exact hf)
  | succ r ih =>
    intro i h m' A' hi hM hS hT hj
    obtain ⟨g116, -, -, -, -, -, -, -, -, -, -, -, -, -, -, -, -, -, -, g135, -⟩ := id hM
    have er : A' 135 ((i : Int)).toNat = row.getD i 0 := by
      rw [hT.2 135 (by decide) (by decide), show ((i : Int)).toNat = i by omega, List.getD_eq_getElem?_getD, List.getElem?_eq_getElem (show i < row.length by omega)]
      exact hA i _ (List.getElem?_eq_getElem (by omega))
    have e2 : jdF s who row e i (r + 1) = if row.getD i 0 ≠ cnS s who (s_w s i) then (i : Int) else jdF s who row e (i + 1) r := rfl
    rw [e2] at hj
    refine AW.iload dX12_judge_44 rfl ?_
    refine AW.iload_n dX12_judge_46 rfl ?_
    refine AW.if_icmpge (tgt := 76) dX12_judge_47 (by decide) (fun c47 => absurd c47 (by omega)) (fun c47 => ?_)
    refine AW.aload_n dX12_judge_50 rfl ?_
    refine AW.getf dX12_judge_51 gX12_64 (by repeat (first | assumption | exact hset_eq _ _ _ | refine (hset_ne _ _ (by omega)).trans ?_)) rfl ?_
    refine AW.iload dX12_judge_54 rfl ?_
    refine AW.iaload dX12_judge_56 (by repeat (first | assumption | exact hset_eq _ _ _ | refine (hset_ne _ _ (by omega)).trans ?_)) (by omega) (by omega) ?_
    refine AW.aload_n dX12_judge_57 rfl ?_
    refine AW.iload_n dX12_judge_58 rfl ?_
    refine AW.iload dX12_judge_59 rfl ?_
    refine AW.cI3 (d' := d - 1) (cX12_198 rfl) okX12_concludedFrom dX12_judge_61 (by repeat (first | assumption | exact hset_eq _ _ _ | refine (hset_ne _ _ (by omega)).trans ?_)) (by omega) (W_concludedFrom hM hS ok (by omega) (by omega) (by omega) (show i < s_h s by omega) (fun h1 m1 A1 hM1 t1 => ?_))
    refine AW.if_icmpeq (tgt := 70) dX12_judge_64 (by decide) (fun c64 => ?_) (fun c64 => ?_)
    · refine AW.inc4 dX12_judge_70 (by decide) (by unfold RI; omega) ?_
      refine AW.goto (tgt := 44) dX12_judge_73 (by decide) ?_
      exact ih (i + 1) h1 m1 A1 (by omega) hM1 (hS.sq t1.sq) (hT.trans t1) (by rw [hj, if_neg (by rw [← er]; exact fun q => q c64)])
    · refine AW.iload dX12_judge_67 rfl ?_
      refine AW.ireturn dX12_judge_69 rfl ?_
      have hf := hq h1 m1 A1 hM1 (hT.trans t1)
      rw [hj, if_pos (by rw [← er]; exact c64)] at hf
      exact hf
theorem W_judge (hM : MS h0 h S) (hd : 5 ≤ d) (hq : ∀ r S' h', (r, S') = o_judge S x → MS h0 h' S' → Q (some (.inl r)) h') : MW d 0 0 mX12_judge [.inr 116, .inl x] h Q := by
  obtain ⟨m, A, hM, hP, ok⟩ := hM
  obtain ⟨g116, -⟩ := id hM
  obtain ⟨⟨q1, q2, q3⟩, p2, p3, p4, p5, p6, p7⟩ := id hP
  obtain ⟨k1, k2, k3, k4, k5, k6⟩ := id ok
  have fin : ∀ b : Nat, b = min S.2.2.2.1.length (s_h S.1) → ¬ ¬ (-1 ≤ x ∧ x < s_n S.1) → AW d 0 0 mX12_judge Q 44 [some (.inr 116), some (.inl x), some (.inl (m 31)), some (.inl (b : Int)), some (.inl 0)] [] (hset h 116 (.inl (13, (mol m).set 31 (.inl 0)))) := by
    intro b hb hx
    have hM1 : MR h0 (hset h 116 (.inl (13, (mol m).set 31 (.inl 0)))) (updI m 31 0) A := MR.p rfl hM
    have hP1 : MP (updI m 31 0) A (S.1, S.2.1, S.2.2.1, [], S.2.2.2.2) := ⟨⟨q1, q2, q3⟩, p2, p3, p4, rfl, fun i y hi => by simp at hi, p7⟩
    refine L_judge (m := updI m 31 0) (A := A) (s := S.1) (row := S.2.2.2.1) k1 hd (by omega) (by omega) (b := b) (by omega) (by omega) p6 rfl (fun h' m' A' hM' hT => ?_) b 0 _ _ A (by omega) hM1 ⟨q1, q2, q3⟩ T3.rfl' rfl
    refine hq _ (S.1, S.2.1, S.2.2.1, [], S.2.2.2.2) _ ?_ (ms_sq hM' hT.sq hP1 ⟨k1, k2, k3, k4, Nat.zero_le _, fun y hy => by cases hy⟩)
    unfold o_judge
    rw [if_neg hx, ← hb, p5]
    by_cases e : S.2.2.2.1.length = s_h S.1
    · rw [if_pos e, if_pos (by omega)]
    · rw [if_neg e, if_neg (by omega)]
  show AW d 0 0 mX12_judge Q 0 [some (.inr 116), some (.inl x), none, none, none] [] h
  refine AW.aload_n dX12_judge_0 rfl ?_
  refine AW.iload_n dX12_judge_1 rfl ?_
  refine AW.cI2 (d' := d - 1) (cX12_195 rfl) okX12_isWho dX12_judge_2 (by repeat (first | assumption | exact hset_eq _ _ _ | refine (hset_ne _ _ (by omega)).trans ?_)) (by omega) (W_isWho (by assumption) (fun c2 c2b => ?_) (fun c2 => ?_))
  · refine AW.ifne_t (tgt := 14) dX12_judge_5 (by decide) (by decide) ?_
    refine AW.aload_n dX12_judge_14 rfl ?_
    refine AW.getf dX12_judge_15 gX12_245 (by repeat (first | assumption | exact hset_eq _ _ _ | refine (hset_ne _ _ (by omega)).trans ?_)) rfl ?_
    refine AW.ist2 dX12_judge_18 (by decide) ?_
    refine AW.aload_n dX12_judge_19 rfl ?_
    refine AW.iconst dX12_judge_20 ?_
    refine AW.putf dX12_judge_21 pX12_245 (by repeat (first | assumption | exact hset_eq _ _ _ | refine (hset_ne _ _ (by omega)).trans ?_)) trivial ?_
    refine AW.iload_n dX12_judge_24 rfl ?_
    refine AW.aload_n dX12_judge_25 rfl ?_
    refine AW.getf dX12_judge_26 gX12_72 (by repeat (first | assumption | exact hset_eq _ _ _ | refine (hset_ne _ _ (by omega)).trans ?_)) rfl ?_
    refine AW.if_icmpge (tgt := 36) dX12_judge_29 (by decide) (fun c29 => ?_) (fun c29 => ?_)
    · refine AW.aload_n dX12_judge_36 rfl ?_
      refine AW.getf dX12_judge_37 gX12_72 (by repeat (first | assumption | exact hset_eq _ _ _ | refine (hset_ne _ _ (by omega)).trans ?_)) rfl ?_
      refine AW.ist3 dX12_judge_40 (by decide) ?_
      refine AW.iconst dX12_judge_41 ?_
      refine AW.ist4 dX12_judge_42 (by decide) ?_
      first
        | (have f1 := fin S.2.2.2.1.length (by omega) (by omega); rw [← p5] at f1; exact f1)
        | (have f1 := fin (s_h S.1) (by omega) (by omega); rw [← q2] at f1; exact f1)
    · refine AW.iload_n dX12_judge_32 rfl ?_
      refine AW.goto (tgt := 40) dX12_judge_33 (by decide) ?_
      refine AW.ist3 dX12_judge_40 (by decide) ?_
      refine AW.iconst dX12_judge_41 ?_
      refine AW.ist4 dX12_judge_42 (by decide) ?_
      first
        | (have f1 := fin S.2.2.2.1.length (by omega) (by omega); rw [← p5] at f1; exact f1)
        | (have f1 := fin (s_h S.1) (by omega) (by omega); rw [← q2] at f1; exact f1)
  · refine AW.ifne_f (tgt := 14) dX12_judge_5 (by decide) rfl ?_
    refine AW.aload_n dX12_judge_8 rfl ?_
    refine AW.iconst dX12_judge_9 ?_
    refine AW.cI2 (d' := d - 1) (cX12_82 rfl) okX12_no dX12_judge_10 (by repeat (first | assumption | exact hset_eq _ _ _ | refine (hset_ne _ _ (by omega)).trans ?_)) (by omega) (W_no (by assumption) (by decide) (by decide) (fun h10 hM => ?_))
    refine AW.ireturn dX12_judge_13 rfl ?_
    exact hq (-1) (rf S 1) _ (by unfold o_judge; rw [if_pos (by omega)]) (ms_rf hM hP ok)
/-! unlike -/
theorem L_unl2 (ok : scOK s) (hd : 5 ≤ d) {i a : Nat} (hi : i < s_h s) (ha : a < s_n s) {n0 : Int}
    (hq : ∀ h' m' A' z, MR h0 h' m' A' → MSC m' A' s → T3 m m' A A' → AW d 0 0 mX12_unlike Q 72 [some (.inr 116), some (.inl (i : Int)), some (.inl n0), some (.inl (a : Int)), some (.inl (iv (¬ ∃ b : Nat, b < a ∧ cnS s b (s_w s i) = cnS s a (s_w s i)) 1)), z] [] h') :
    ∀ (r b : Nat) (h : AH) (m' : Nat → Int) (A' : Nat → Nat → Int), b + r = a → MR h0 h m' A' → MSC m' A' s → T3 m m' A A' →
      AW d 0 0 mX12_unlike Q 32 [some (.inr 116), some (.inl (i : Int)), some (.inl n0), some (.inl (a : Int)), some (.inl (iv (¬ ∃ c : Nat, c < b ∧ cnS s c (s_w s i) = cnS s a (s_w s i)) 1)), some (.inl (b : Int))] [] h := by
  have h5 := ok.1
  intro r
  induction r with
  | zero =>
    intro b h m' A' hb hM hS hT
    have hb2 : b = a := by omega
    subst hb2
    refine AW.iload dX12_unlike_32 rfl ?_
    refine AW.iload_n dX12_unlike_34 rfl ?_
    refine AW.if_icmpge (tgt := 72) dX12_unlike_35 (by decide) (fun c35 => ?_) (fun c35 => absurd c35 (by omega))
    exact hq h m' A' _ hM hS hT
  | succ r ih =>
    intro b h m' A' hb hM hS hT
    obtain ⟨g116, -⟩ := id hM
    have nx : ∀ (h' : AH) (m' : Nat → Int) (A' : Nat → Nat → Int) (W : Int), W = iv (¬ ∃ c : Nat, c < b + 1 ∧ cnS s c (s_w s i) = cnS s a (s_w s i)) 1 → MR h0 h' m' A' → MSC m' A' s → T3 m m' A A' → AW d 0 0 mX12_unlike Q 32 [some (.inr 116), some (.inl (i : Int)), some (.inl n0), some (.inl (a : Int)), some (.inl W), some (.inl ((b : Int) + 1))] [] h' := by
      intro h' m' A' W hW hM' hS' hT'
      rw [hW]
      exact ih (b + 1) h' m' A' (by omega) hM' hS' hT'
    have hb5 : (b : Int) < s_n s := by omega
    have ha5 : (a : Int) < s_n s := by omega
    by_cases q : ∃ c : Nat, c < b ∧ cnS s c (s_w s i) = cnS s a (s_w s i)
    · rw [iv_neg (fun z => z q)]
      refine AW.iload dX12_unlike_32 rfl ?_
      refine AW.iload_n dX12_unlike_34 rfl ?_
      refine AW.if_icmpge (tgt := 72) dX12_unlike_35 (by decide) (fun c35 => absurd c35 (by omega)) (fun c35 => ?_)
      refine AW.iload dX12_unlike_38 rfl ?_
      refine AW.ifeq (tgt := 63) dX12_unlike_40 (by decide) (fun c40 => ?_) (fun c40 => absurd rfl c40)
      refine AW.iconst dX12_unlike_63 ?_
      refine AW.ist4 dX12_unlike_64 (by decide) ?_
      refine AW.inc5 dX12_unlike_66 (by decide) (by unfold RI; omega) ?_
      refine AW.goto (tgt := 32) dX12_unlike_69 (by decide) ?_
      refine nx _ m' A' _ ?_ hM hS hT
      rw [iv_neg (fun z => z ⟨q.choose, by have := q.choose_spec.1; omega, q.choose_spec.2⟩)]
    · rw [iv_pos q]
      refine AW.iload dX12_unlike_32 rfl ?_
      refine AW.iload_n dX12_unlike_34 rfl ?_
      refine AW.if_icmpge (tgt := 72) dX12_unlike_35 (by decide) (fun c35 => absurd c35 (by omega)) (fun c35 => ?_)
      refine AW.iload dX12_unlike_38 rfl ?_
      refine AW.ifeq (tgt := 63) dX12_unlike_40 (by decide) (fun c40 => absurd c40 (by decide)) (fun c40 => ?_)
      refine AW.aload_n dX12_unlike_43 rfl ?_
      refine AW.iload dX12_unlike_44 rfl ?_
      refine AW.iload_n dX12_unlike_46 rfl ?_
      refine AW.cI3 (d' := d - 1) (cX12_198 rfl) okX12_concludedFrom dX12_unlike_47 (by repeat (first | assumption | exact hset_eq _ _ _ | refine (hset_ne _ _ (by omega)).trans ?_)) (by omega) (W_concludedFrom hM hS ok (by omega) (by omega) hb5 hi (fun h1 m1 A1 hM1 t1 => ?_))
      refine AW.aload_n dX12_unlike_50 rfl ?_
      refine AW.iload_n dX12_unlike_51 rfl ?_
      refine AW.iload_n dX12_unlike_52 rfl ?_
      refine AW.cI3 (d' := d - 1) (cX12_198 rfl) okX12_concludedFrom dX12_unlike_53 (by have := hM1.1; assumption) (by omega) (W_concludedFrom hM1 (hS.sq t1.sq) ok (by omega) (by omega) ha5 hi (fun h2 m2 A2 hM2 t2 => ?_))
      refine AW.if_icmpeq (tgt := 63) dX12_unlike_56 (by decide) (fun c56 => ?_) (fun c56 => ?_)
      · refine AW.iconst dX12_unlike_63 ?_
        refine AW.ist4 dX12_unlike_64 (by decide) ?_
        refine AW.inc5 dX12_unlike_66 (by decide) (by unfold RI; omega) ?_
        refine AW.goto (tgt := 32) dX12_unlike_69 (by decide) ?_
        refine nx _ m2 A2 _ ?_ hM2 (hS.sq (t1.trans t2).sq) (hT.trans (t1.trans t2))
        first
          | (rw [iv_neg (fun z => z ⟨b, by omega, c56⟩)]; done)
          | (rw [iv_pos (by
               rintro ⟨c, hc, he⟩
               by_cases hcb : c = b
               · subst hcb
                 exact c56 he
               · exact q ⟨c, by omega, he⟩)])
      · refine AW.iconst dX12_unlike_59 ?_
        refine AW.goto (tgt := 64) dX12_unlike_60 (by decide) ?_
        refine AW.ist4 dX12_unlike_64 (by decide) ?_
        refine AW.inc5 dX12_unlike_66 (by decide) (by unfold RI; omega) ?_
        refine AW.goto (tgt := 32) dX12_unlike_69 (by decide) ?_
        refine nx _ m2 A2 _ ?_ hM2 (hS.sq (t1.trans t2).sq) (hT.trans (t1.trans t2))
        first
          | (rw [iv_neg (fun z => z ⟨b, by omega, c56⟩)]; done)
          | (rw [iv_pos (by
               rintro ⟨c, hc, he⟩
               by_cases hcb : c = b
               · subst hcb
                 exact c56 he
               · exact q ⟨c, by omega, he⟩)])
theorem L_unl (ok : scOK s) (hd : 5 ≤ d) {i : Nat} (hi : i < s_h s)
    (hq : ∀ h' m' A', MR h0 h' m' A' → T3 m m' A A' → Q (some (.inl (sumN (s_n s) (fun a => iv (¬ ∃ b : Nat, b < a ∧ cnS s b (s_w s i) = cnS s a (s_w s i)) 1)))) h') :
    ∀ (r a : Nat) (h : AH) (m' : Nat → Int) (A' : Nat → Nat → Int) (z1 z2 : Option AV), a + r = s_n s → MR h0 h m' A' → MSC m' A' s → T3 m m' A A' →
      AW d 0 0 mX12_unlike Q 18 [some (.inr 116), some (.inl (i : Int)), some (.inl (sumN a (fun a => iv (¬ ∃ b : Nat, b < a ∧ cnS s b (s_w s i) = cnS s a (s_w s i)) 1))), some (.inl (a : Int)), z1, z2] [] h := by
  have h5 := ok.1
  intro r
  induction r with
  | zero =>
    intro a h m' A' z1 z2 ha hM hS hT
    obtain ⟨g116, -⟩ := id hM
    have e7 := hS.1
    have ha2 : a = s_n s := by omega
    subst ha2
    refine AW.iload_n dX12_unlike_18 rfl ?_
    refine AW.aload_n dX12_unlike_19 rfl ?_
    refine AW.getf dX12_unlike_20 gX12_68 (by repeat (first | assumption | exact hset_eq _ _ _ | refine (hset_ne _ _ (by omega)).trans ?_)) rfl ?_
    refine AW.if_icmpge (tgt := 91) dX12_unlike_23 (by decide) (fun c23 => ?_) (fun c23 => absurd c23 (by omega))
    refine AW.iload_n dX12_unlike_91 rfl ?_
    refine AW.ireturn dX12_unlike_92 rfl ?_
    exact hq h m' A' hM hT
  | succ r ih =>
    intro a h m' A' z1 z2 ha hM hS hT
    obtain ⟨g116, -⟩ := id hM
    have e7 := hS.1
    have hb := sumN_iv a (fun a => ¬ ∃ b : Nat, b < a ∧ cnS s b (s_w s i) = cnS s a (s_w s i))
    refine AW.iload_n dX12_unlike_18 rfl ?_
    refine AW.aload_n dX12_unlike_19 rfl ?_
    refine AW.getf dX12_unlike_20 gX12_68 (by repeat (first | assumption | exact hset_eq _ _ _ | refine (hset_ne _ _ (by omega)).trans ?_)) rfl ?_
    refine AW.if_icmpge (tgt := 91) dX12_unlike_23 (by decide) (fun c23 => absurd c23 (by omega)) (fun c23 => ?_)
    refine AW.iconst dX12_unlike_26 ?_
    refine AW.ist4 dX12_unlike_27 (by decide) ?_
    refine AW.iconst dX12_unlike_29 ?_
    refine AW.ist5 dX12_unlike_30 (by decide) ?_
    have e1 := L_unl2 (m := m) (A := A) (h0 := h0) (Q := Q) (d := d) ok hd hi (show a < s_n s by omega) (n0 := sumN a (fun a => iv (¬ ∃ b : Nat, b < a ∧ cnS s b (s_w s i) = cnS s a (s_w s i)) 1)) (fun h' m2 A2 z hM2 hS2 hT2 => ?_) a 0 h m' A' (by omega) hM hS hT
    · rw [iv_pos (by rintro ⟨c, hc, -⟩; omega)] at e1
      exact e1
    · have e2 := fun z1 z2 => ih (a + 1) h' m2 A2 z1 z2 (by omega) hM2 hS2 hT2
      simp only [sumN_succ] at e2
      by_cases q : ¬ ∃ b : Nat, b < a ∧ cnS s b (s_w s i) = cnS s a (s_w s i)
      · simp only [iv_pos q] at e2 ⊢
        refine AW.iload_n dX12_unlike_72 rfl ?_
        refine AW.iload dX12_unlike_73 rfl ?_
        refine AW.ifeq (tgt := 82) dX12_unlike_75 (by decide) (fun c75 => absurd c75 (by decide)) (fun c75 => ?_)
        refine AW.iconst dX12_unlike_78 ?_
        refine AW.goto (tgt := 83) dX12_unlike_79 (by decide) ?_
        refine AW.iaddR dX12_unlike_83 (by unfold RI; omega) ?_
        refine AW.ist2 dX12_unlike_84 (by decide) ?_
        refine AW.inc3 dX12_unlike_85 (by decide) (by unfold RI; omega) ?_
        refine AW.goto (tgt := 18) dX12_unlike_88 (by decide) ?_
        exact e2 _ _
      · simp only [iv_neg q] at e2 ⊢
        refine AW.iload_n dX12_unlike_72 rfl ?_
        refine AW.iload dX12_unlike_73 rfl ?_
        refine AW.ifeq (tgt := 82) dX12_unlike_75 (by decide) (fun c75 => ?_) (fun c75 => absurd rfl c75)
        refine AW.iconst dX12_unlike_82 ?_
        refine AW.iaddR dX12_unlike_83 (by unfold RI; omega) ?_
        refine AW.ist2 dX12_unlike_84 (by decide) ?_
        refine AW.inc3 dX12_unlike_85 (by decide) (by unfold RI; omega) ?_
        refine AW.goto (tgt := 18) dX12_unlike_88 (by decide) ?_
        exact e2 _ _
theorem W_unlike (hM : MS h0 h S) (hd : 5 ≤ d) (hq : ∀ r S' h', (r, S') = o_unlike S x → MS h0 h' S' → Q (some (.inl r)) h') : MW d 0 0 mX12_unlike [.inr 116, .inl x] h Q := by
  obtain ⟨m, A, hM, hP, ok⟩ := hM
  obtain ⟨g116, -⟩ := id hM
  obtain ⟨⟨q1, q2, q3⟩, p2⟩ := id hP
  show AW d 0 0 mX12_unlike Q 0 [some (.inr 116), some (.inl x), none, none, none, none] [] h
  refine AW.aload_n dX12_unlike_0 rfl ?_
  refine AW.iload_n dX12_unlike_1 rfl ?_
  refine AW.cI2 (d' := d - 1) (cX12_189 rfl) okX12_isScholar dX12_unlike_2 (by repeat (first | assumption | exact hset_eq _ _ _ | refine (hset_ne _ _ (by omega)).trans ?_)) (by omega) (W_isScholar (by assumption) (fun c2 c2b => ?_) (fun c2 => ?_))
  · refine AW.ifne_t (tgt := 14) dX12_unlike_5 (by decide) (by decide) ?_
    refine AW.iconst dX12_unlike_14 ?_
    refine AW.ist2 dX12_unlike_15 (by decide) ?_
    refine AW.iconst dX12_unlike_16 ?_
    refine AW.ist3 dX12_unlike_17 (by decide) ?_
    have ex : x = ((x.toNat : Nat) : Int) := by omega
    rw [ex]
    exact L_unl (m := m) (A := A) (s := S.1) ok.1 hd (show x.toNat < s_h S.1 by omega) (fun h' m' A' hM' hT => hq _ S _ (by unfold o_unlike; rw [if_neg (by omega)]) (ms_sq hM' hT.sq hP ok)) (s_n S.1) 0 h m A _ _ (by omega) hM hP.1 T3.rfl'
  · refine AW.ifne_f (tgt := 14) dX12_unlike_5 (by decide) rfl ?_
    refine AW.aload_n dX12_unlike_8 rfl ?_
    refine AW.iconst dX12_unlike_9 ?_
    refine AW.cI2 (d' := d - 1) (cX12_82 rfl) okX12_no dX12_unlike_10 (by repeat (first | assumption | exact hset_eq _ _ _ | refine (hset_ne _ _ (by omega)).trans ?_)) (by omega) (W_no (by assumption) (by decide) (by decide) (fun h10 hM => ?_))
    refine AW.ireturn dX12_unlike_13 rfl ?_
    exact hq (-1) (rf S 1) _ (by unfold o_unlike; rw [if_pos (by omega)]) (ms_rf hM hP ok)
end Mod7

