section Mod8
variable {d : Nat} {Q : Option AV → AH → Prop} {h h0 : AH} {m : Nat → Int} {A : Nat → Nat → Int} {who x y z v : Int} {S : ST} {s : SC}
theorem L_doAgree (ok : scOK s) (hd : 5 ≤ d) {a b : Nat} (ha : a < s_n s) (hb : b < s_n s)
    (hq1 : agS s a b → ∀ h' m' A', MR h0 h' m' A' → MSC m' A' s → T3 m m' A A' → Q (some (.inl 1)) h') (hq0 : ¬ agS s a b → ∀ h' m' A', MR h0 h' m' A' → MSC m' A' s → T3 m m' A A' → Q (some (.inl 0)) h') :
    ∀ (r i : Nat) (h : AH) (m' : Nat → Int) (A' : Nat → Nat → Int), i + r = s_h s → MR h0 h m' A' → MSC m' A' s → T3 m m' A A' → (∀ j, j < i → cnS s a (s_w s j) = cnS s b (s_w s j)) →
      AW d 0 0 mX12_doAgree Q 2 [some (.inr 116), some (.inl (a : Int)), some (.inl (b : Int)), some (.inl (i : Int))] [] h := by
  have h5 := ok.1
  have h6 := ok.2.1
  intro r
  induction r with
  | zero =>
    intro i h m' A' hi hM hS hT hA
    obtain ⟨g116, -⟩ := id hM
    have e8 := hS.2.1
    refine AW.iload_n dX12_doAgree_2 rfl ?_
    refine AW.aload_n dX12_doAgree_3 rfl ?_
    refine AW.getf dX12_doAgree_4 gX12_72 (by repeat (first | assumption | exact hset_eq _ _ _ | refine (hset_ne _ _ (by omega)).trans ?_)) rfl ?_
    refine AW.if_icmpge (tgt := 33) dX12_doAgree_7 (by decide) (fun c7 => ?_) (fun c7 => absurd c7 (by omega))
    refine AW.iconst dX12_doAgree_33 ?_
    refine AW.zreturn dX12_doAgree_34 rfl (Or.inr rfl) ?_
    exact hq1 (fun j hj => hA j (by omega)) h m' A' hM hS hT
  | succ r ih =>
    intro i h m' A' hi hM hS hT hA
    obtain ⟨g116, -⟩ := id hM
    have e8 := hS.2.1
    refine AW.iload_n dX12_doAgree_2 rfl ?_
    refine AW.aload_n dX12_doAgree_3 rfl ?_
    refine AW.getf dX12_doAgree_4 gX12_72 (by repeat (first | assumption | exact hset_eq _ _ _ | refine (hset_ne _ _ (by omega)).trans ?_)) rfl ?_
    refine AW.if_icmpge (tgt := 33) dX12_doAgree_7 (by decide) (fun c7 => absurd c7 (by omega)) (fun c7 => ?_)
    refine AW.aload_n dX12_doAgree_10 rfl ?_
    refine AW.iload_n dX12_doAgree_11 rfl ?_
    refine AW.iload_n dX12_doAgree_12 rfl ?_
    refine AW.cI3 (d' := d - 1) (cX12_198 rfl) okX12_concludedFrom dX12_doAgree_13 (by repeat (first | assumption | exact hset_eq _ _ _ | refine (hset_ne _ _ (by omega)).trans ?_)) (by omega) (W_concludedFrom hM hS ok (by omega) (by omega) (by omega) (show i < s_h s by omega) (fun h1 m1 A1 hM1 t1 => ?_))
    refine AW.aload_n dX12_doAgree_16 rfl ?_
    refine AW.iload_n dX12_doAgree_17 rfl ?_
    refine AW.iload_n dX12_doAgree_18 rfl ?_
    refine AW.cI3 (d' := d - 1) (cX12_198 rfl) okX12_concludedFrom dX12_doAgree_19 (by have := hM1.1; assumption) (by omega) (W_concludedFrom hM1 (hS.sq t1.sq) ok (by omega) (by omega) (by omega) (show i < s_h s by omega) (fun h2 m2 A2 hM2 t2 => ?_))
    refine AW.if_icmpeq (tgt := 27) dX12_doAgree_22 (by decide) (fun c22 => ?_) (fun c22 => ?_)
    · refine AW.inc3 dX12_doAgree_27 (by decide) (by unfold RI; omega) ?_
      refine AW.goto (tgt := 2) dX12_doAgree_30 (by decide) ?_
      refine ih (i + 1) h2 m2 A2 (by omega) hM2 (hS.sq (t1.trans t2).sq) (hT.trans (t1.trans t2)) (fun j hj => ?_)
      by_cases e : j = i
      · subst e; exact c22
      · exact hA j (by omega)
    · refine AW.iconst dX12_doAgree_25 ?_
      refine AW.zreturn dX12_doAgree_26 rfl (Or.inl rfl) ?_
      exact hq0 (fun q => c22 (q i (by omega))) h2 m2 A2 hM2 (hS.sq (t1.trans t2).sq) (hT.trans (t1.trans t2))
theorem W_doAgree (hM : MR h0 h m A) (hS : MSC m A s) (ok : scOK s) (hd : 5 ≤ d) {a b : Nat} (ha : a < s_n s) (hb : b < s_n s)
    (hq1 : agS s a b → ∀ h' m' A', MR h0 h' m' A' → MSC m' A' s → T3 m m' A A' → Q (some (.inl 1)) h') (hq0 : ¬ agS s a b → ∀ h' m' A', MR h0 h' m' A' → MSC m' A' s → T3 m m' A A' → Q (some (.inl 0)) h') : MW d 0 0 mX12_doAgree [.inr 116, .inl (a : Int), .inl (b : Int)] h Q := by
  show AW d 0 0 mX12_doAgree Q 0 [some (.inr 116), some (.inl (a : Int)), some (.inl (b : Int)), none] [] h
  refine AW.iconst dX12_doAgree_0 ?_
  refine AW.ist3 dX12_doAgree_1 (by decide) ?_
  exact L_doAgree ok hd ha hb hq1 hq0 (s_h s) 0 h m A (by omega) hM hS T3.rfl' (fun j hj => absurd hj (Nat.not_lt_zero _))
noncomputable def agF (s : SC) (a : Nat) (n : Nat) : Int := sumN n (fun b => iv (a < b ∧ agS s a b) 1)
theorem agF_low (s : SC) (a n : Nat) (h : n ≤ a + 1) : agF s a n = 0 := by
  induction n with
  | zero => rfl
  | succ n ih =>
    have e : agF s a (n + 1) = agF s a n + iv (a < n ∧ agS s a n) 1 := rfl
    rw [e, ih (by omega), iv_neg (fun q => by have := q.1; omega)]
    rfl
theorem agF_b (s : SC) (a n : Nat) : 0 ≤ agF s a n ∧ agF s a n ≤ n := sumN_iv n (fun b => a < b ∧ agS s a b)
theorem agS_b (s : SC) (k n : Nat) : 0 ≤ sumN n (fun a => agF s a k) ∧ sumN n (fun a => agF s a k) ≤ n * k := by
  induction n with
  | zero => exact ⟨Int.le_refl _, by simp [sumN]⟩
  | succ n ih =>
    rw [sumN_succ]
    have := agF_b s n k
    refine ⟨by omega, ?_⟩
    have e : ((n + 1 : Nat) : Int) * (k : Int) = (n : Int) * k + k := by rw [Int.natCast_add, Int.add_mul]; simp
    omega
theorem L_agr2 (ok : scOK s) (hd : 6 ≤ d) {a : Nat} (ha : a < s_n s) {n0 : Int} (hn0 : 0 ≤ n0) (hn1 : n0 ≤ 25)
    (hq : ∀ h' m' A' z, MR h0 h' m' A' → MSC m' A' s → T3 m m' A A' → AW d 0 0 mX12_agree Q 47 [some (.inr 116), some (.inl (n0 + agF s a (s_n s))), some (.inl (a : Int)), z] [] h') :
    ∀ (r b : Nat) (h : AH) (m' : Nat → Int) (A' : Nat → Nat → Int), b + r = s_n s → a < b → MR h0 h m' A' → MSC m' A' s → T3 m m' A A' →
      AW d 0 0 mX12_agree Q 16 [some (.inr 116), some (.inl (n0 + agF s a b)), some (.inl (a : Int)), some (.inl (b : Int))] [] h := by
  have h5 := ok.1
  intro r
  induction r with
  | zero =>
    intro b h m' A' hb hab hM hS hT
    obtain ⟨g116, -⟩ := id hM
    have e7 := hS.1
    have hb2 : b = s_n s := by omega
    subst hb2
    refine AW.iload_n dX12_agree_16 rfl ?_
    refine AW.aload_n dX12_agree_17 rfl ?_
    refine AW.getf dX12_agree_18 gX12_68 (by repeat (first | assumption | exact hset_eq _ _ _ | refine (hset_ne _ _ (by omega)).trans ?_)) rfl ?_
    refine AW.if_icmpge (tgt := 47) dX12_agree_21 (by decide) (fun c21 => ?_) (fun c21 => absurd c21 (by omega))
    exact hq h m' A' _ hM hS hT
  | succ r ih =>
    intro b h m' A' hb hab hM hS hT
    obtain ⟨g116, -⟩ := id hM
    have e7 := hS.1
    have hbb := agF_b s a b
    have e2 : agF s a (b + 1) = agF s a b + iv (a < b ∧ agS s a b) 1 := rfl
    refine AW.iload_n dX12_agree_16 rfl ?_
    refine AW.aload_n dX12_agree_17 rfl ?_
    refine AW.getf dX12_agree_18 gX12_68 (by repeat (first | assumption | exact hset_eq _ _ _ | refine (hset_ne _ _ (by omega)).trans ?_)) rfl ?_
    refine AW.if_icmpge (tgt := 47) dX12_agree_21 (by decide) (fun c21 => absurd c21 (by omega)) (fun c21 => ?_)
    refine AW.iload_n dX12_agree_24 rfl ?_
    refine AW.aload_n dX12_agree_25 rfl ?_
    refine AW.iload_n dX12_agree_26 rfl ?_
    refine AW.iload_n dX12_agree_27 rfl ?_
    refine AW.cI3 (d' := d - 1) (cX12_242 rfl) okX12_doAgree dX12_agree_28 (by repeat (first | assumption | exact hset_eq _ _ _ | refine (hset_ne _ _ (by omega)).trans ?_)) (by omega) (W_doAgree hM hS ok (by omega) ha (show b < s_n s by omega) (fun hag h1 m1 A1 hM1 hS1 t1 => ?_) (fun hag h1 m1 A1 hM1 hS1 t1 => ?_))
    · refine AW.ifeq_f (tgt := 38) dX12_agree_31 (by decide) (by decide) ?_
      refine AW.iconst dX12_agree_34 ?_
      refine AW.goto (tgt := 39) dX12_agree_35 (by decide) ?_
      refine AW.iaddR dX12_agree_39 (by unfold RI; omega) ?_
      refine AW.ist1 dX12_agree_40 (by decide) ?_
      refine AW.inc3 dX12_agree_41 (by decide) (by unfold RI; omega) ?_
      refine AW.goto (tgt := 16) dX12_agree_44 (by decide) ?_
      have e1 := ih (b + 1) h1 m1 A1 (by omega) (by omega) hM1 hS1 (hT.trans t1)
      rw [e2] at e1
      first
        | (rw [iv_pos ⟨hab, hag⟩, ← Int.add_assoc] at e1; exact e1)
        | (rw [iv_neg (fun q => hag q.2), ← Int.add_assoc] at e1; exact e1)
    · refine AW.ifeq_t (tgt := 38) dX12_agree_31 (by decide) rfl ?_
      refine AW.iconst dX12_agree_38 ?_
      refine AW.iaddR dX12_agree_39 (by unfold RI; omega) ?_
      refine AW.ist1 dX12_agree_40 (by decide) ?_
      refine AW.inc3 dX12_agree_41 (by decide) (by unfold RI; omega) ?_
      refine AW.goto (tgt := 16) dX12_agree_44 (by decide) ?_
      have e1 := ih (b + 1) h1 m1 A1 (by omega) (by omega) hM1 hS1 (hT.trans t1)
      rw [e2] at e1
      first
        | (rw [iv_pos ⟨hab, hag⟩, ← Int.add_assoc] at e1; exact e1)
        | (rw [iv_neg (fun q => hag q.2), ← Int.add_assoc] at e1; exact e1)
theorem L_agr (ok : scOK s) (hd : 6 ≤ d)
    (hq : ∀ h' m' A', MR h0 h' m' A' → T3 m m' A A' → Q (some (.inl (sumN (s_n s) (fun a => agF s a (s_n s))))) h') :
    ∀ (r a : Nat) (h : AH) (m' : Nat → Int) (A' : Nat → Nat → Int) (z : Option AV), a + r = s_n s → MR h0 h m' A' → MSC m' A' s → T3 m m' A A' →
      AW d 0 0 mX12_agree Q 4 [some (.inr 116), some (.inl (sumN a (fun a => agF s a (s_n s)))), some (.inl (a : Int)), z] [] h := by
  have h5 := ok.1
  intro r
  induction r with
  | zero =>
    intro a h m' A' z ha hM hS hT
    obtain ⟨g116, -⟩ := id hM
    have e7 := hS.1
    have ha2 : a = s_n s := by omega
    subst ha2
    refine AW.iload_n dX12_agree_4 rfl ?_
    refine AW.aload_n dX12_agree_5 rfl ?_
    refine AW.getf dX12_agree_6 gX12_68 (by repeat (first | assumption | exact hset_eq _ _ _ | refine (hset_ne _ _ (by omega)).trans ?_)) rfl ?_
    refine AW.if_icmpge (tgt := 53) dX12_agree_9 (by decide) (fun c9 => ?_) (fun c9 => absurd c9 (by omega))
    refine AW.iload_n dX12_agree_53 rfl ?_
    refine AW.ireturn dX12_agree_54 rfl ?_
    exact hq h m' A' hM hT
  | succ r ih =>
    intro a h m' A' z ha hM hS hT
    obtain ⟨g116, -⟩ := id hM
    have e7 := hS.1
    have hb := agS_b s (s_n s) a
    have hb2 : sumN a (fun a => agF s a (s_n s)) ≤ 25 := by
      have : (a : Int) * (s_n s : Int) ≤ 5 * 5 := Int.mul_le_mul (by omega) (by omega) (by omega) (by omega)
      omega
    refine AW.iload_n dX12_agree_4 rfl ?_
    refine AW.aload_n dX12_agree_5 rfl ?_
    refine AW.getf dX12_agree_6 gX12_68 (by repeat (first | assumption | exact hset_eq _ _ _ | refine (hset_ne _ _ (by omega)).trans ?_)) rfl ?_
    refine AW.if_icmpge (tgt := 53) dX12_agree_9 (by decide) (fun c9 => absurd c9 (by omega)) (fun c9 => ?_)
    refine AW.iload_n dX12_agree_12 rfl ?_
    refine AW.iconst dX12_agree_13 ?_
    refine AW.iaddR dX12_agree_14 (by unfold RI; omega) ?_
    refine AW.ist3 dX12_agree_15 (by decide) ?_
    have e1 := L_agr2 (m := m) (A := A) (h0 := h0) (Q := Q) (d := d) ok hd (show a < s_n s by omega) hb.1 hb2 (fun h' m2 A2 z hM2 hS2 hT2 => ?_) r (a + 1) h m' A' (by omega) (by omega) hM hS hT
    · rw [agF_low s a (a + 1) (Nat.le_refl _), Int.add_zero] at e1
      exact e1
    · have e2 := fun z => ih (a + 1) h' m2 A2 z (by omega) hM2 hS2 hT2
      simp only [sumN_succ] at e2
      refine AW.inc2 dX12_agree_47 (by decide) (by unfold RI; omega) ?_
      refine AW.goto (tgt := 4) dX12_agree_50 (by decide) ?_
      exact e2 _
theorem W_agree (hM : MS h0 h S) (hd : 6 ≤ d) (hq : ∀ r S' h', (r, S') = o_agree S → MS h0 h' S' → Q (some (.inl r)) h') : MW d 0 0 mX12_agree [.inr 116] h Q := by
  obtain ⟨m, A, hM, hP, ok⟩ := hM
  show AW d 0 0 mX12_agree Q 0 [some (.inr 116), none, none, none] [] h
  refine AW.iconst dX12_agree_0 ?_
  refine AW.ist1 dX12_agree_1 (by decide) ?_
  refine AW.iconst dX12_agree_2 ?_
  refine AW.ist2 dX12_agree_3 (by decide) ?_
  exact L_agr (m := m) (A := A) (s := S.1) ok.1 hd (fun h' m' A' hM' hT => hq _ S _ rfl (ms_sq hM' hT.sq hP ok)) (s_n S.1) 0 h m A _ (by omega) hM hP.1 T3.rfl'
/-! count -/
theorem L_cnt2 (hS : MSC m A s) (hM : MR h0 h m A) {a1 : Option AV} (hq : Q (some (.inl (sumN 4 (fun i => if 0 ≤ s_c s i then 1 else 0)))) h) :
    ∀ (r i : Nat), i + r = 4 → 0 ≤ sumN i (fun i => if 0 ≤ s_c s i then 1 else 0) → sumN i (fun i => if 0 ≤ s_c s i then 1 else 0) ≤ i → AW d 0 0 mX12_count Q 76 [some (.inr 116), a1, some (.inl (sumN i (fun i => if 0 ≤ s_c s i then 1 else 0))), some (.inl (i : Int))] [] h := by
  obtain ⟨g116, g117, g118, g119, g120, g121, -⟩ := id hM
  intro r
  induction r with
  | zero =>
    intro i hi h1 h2
    have hi2 : i = 4 := by omega
    subst hi2
    refine AW.iload_n dX12_count_76 rfl ?_
    refine AW.iconst dX12_count_77 ?_
    refine AW.if_icmpge (tgt := 104) dX12_count_78 (by decide) (fun c78 => ?_) (fun c78 => absurd c78 (by decide))
    refine AW.iload_n dX12_count_104 rfl ?_
    refine AW.ireturn dX12_count_105 rfl ?_
    exact hq
  | succ r ih =>
    intro i hi h1 h2
    have e1 : A 121 ((i : Int)).toNat = s_c s i := by rw [show ((i : Int)).toNat = i by omega]; exact hS.2.2.2.1 i (by omega)
    have e2 := ih (i + 1) (by omega)
    rw [sumN_succ] at e2
    refine AW.iload_n dX12_count_76 rfl ?_
    refine AW.iconst dX12_count_77 ?_
    refine AW.if_icmpge (tgt := 104) dX12_count_78 (by decide) (fun c78 => absurd c78 (by omega)) (fun c78 => ?_)
    refine AW.iload_n dX12_count_81 rfl ?_
    refine AW.aload_n dX12_count_82 rfl ?_
    refine AW.getf dX12_count_83 gX12_22 (by repeat (first | assumption | exact hset_eq _ _ _ | refine (hset_ne _ _ (by omega)).trans ?_)) rfl ?_
    refine AW.iload_n dX12_count_86 rfl ?_
    refine AW.iaload dX12_count_87 (by repeat (first | assumption | exact hset_eq _ _ _ | refine (hset_ne _ _ (by omega)).trans ?_)) (by omega) (by omega) ?_
    refine AW.iflt (tgt := 95) dX12_count_88 (by decide) (fun c88 => ?_) (fun c88 => ?_)
    · refine AW.iconst dX12_count_95 ?_
      refine AW.iaddR dX12_count_96 (by unfold RI; omega) ?_
      refine AW.ist2 dX12_count_97 (by decide) ?_
      refine AW.inc3 dX12_count_98 (by decide) (by unfold RI; omega) ?_
      refine AW.goto (tgt := 76) dX12_count_101 (by decide) ?_
      rw [e1] at c88
      first
        | (rw [if_pos (by omega)] at e2; exact e2 (by omega) (by omega))
        | (rw [if_neg (by omega)] at e2; exact e2 (by omega) (by omega))
    · refine AW.iconst dX12_count_91 ?_
      refine AW.goto (tgt := 96) dX12_count_92 (by decide) ?_
      refine AW.iaddR dX12_count_96 (by unfold RI; omega) ?_
      refine AW.ist2 dX12_count_97 (by decide) ?_
      refine AW.inc3 dX12_count_98 (by decide) (by unfold RI; omega) ?_
      refine AW.goto (tgt := 76) dX12_count_101 (by decide) ?_
      rw [e1] at c88
      first
        | (rw [if_pos (by omega)] at e2; exact e2 (by omega) (by omega))
        | (rw [if_neg (by omega)] at e2; exact e2 (by omega) (by omega))
theorem sumL_b (s : SC) (ok : scOK s) (n : Nat) (hn : n ≤ s_h s) : 0 ≤ sumN n (fun i => ((s_w s i).length : Int)) ∧ sumN n (fun i => ((s_w s i).length : Int)) ≤ 20 * n := by
  induction n with
  | zero => exact ⟨Int.le_refl _, Int.le_refl _⟩
  | succ n ih =>
    have := ih (by omega)
    have := (ok.2.2.2.2 n (by omega)).2
    rw [sumN_succ]
    omega
theorem L_cnt3 (ok : scOK s) (hS : MSC m A s) (hM : MR h0 h m A) {a1 : Option AV} (hq : Q (some (.inl (sumN (s_h s) (fun i => ((s_w s i).length : Int))))) h) :
    ∀ (r i : Nat), i + r = s_h s → AW d 0 0 mX12_count Q 108 [some (.inr 116), a1, some (.inl (sumN i (fun i => ((s_w s i).length : Int)))), some (.inl (i : Int))] [] h := by
  obtain ⟨g116, g117, g118, g119, g120, g121, g122, -⟩ := id hM
  have e8 := hS.2.1
  have h6 := ok.2.1
  intro r
  induction r with
  | zero =>
    intro i hi
    have hi2 : i = s_h s := by omega
    subst hi2
    refine AW.iload_n dX12_count_108 rfl ?_
    refine AW.aload_n dX12_count_109 rfl ?_
    refine AW.getf dX12_count_110 gX12_72 (by repeat (first | assumption | exact hset_eq _ _ _ | refine (hset_ne _ _ (by omega)).trans ?_)) rfl ?_
    refine AW.if_icmpge (tgt := 131) dX12_count_113 (by decide) (fun c113 => ?_) (fun c113 => absurd c113 (by omega))
    refine AW.iload_n dX12_count_131 rfl ?_
    refine AW.ireturn dX12_count_132 rfl ?_
    exact hq
  | succ r ih =>
    intro i hi
    have e1 : A 122 ((i : Int)).toNat = ((s_w s i).length : Int) := by rw [show ((i : Int)).toNat = i by omega]; exact hS.2.2.2.2.1 i (by omega)
    have e2 := ih (i + 1) (by omega)
    have hb := sumL_b s ok i (by omega)
    have hb1 := (ok.2.2.2.2 i (by omega)).2
    rw [sumN_succ] at e2
    refine AW.iload_n dX12_count_108 rfl ?_
    refine AW.aload_n dX12_count_109 rfl ?_
    refine AW.getf dX12_count_110 gX12_72 (by repeat (first | assumption | exact hset_eq _ _ _ | refine (hset_ne _ _ (by omega)).trans ?_)) rfl ?_
    refine AW.if_icmpge (tgt := 131) dX12_count_113 (by decide) (fun c113 => absurd c113 (by omega)) (fun c113 => ?_)
    refine AW.iload_n dX12_count_116 rfl ?_
    refine AW.aload_n dX12_count_117 rfl ?_
    refine AW.getf dX12_count_118 gX12_25 (by repeat (first | assumption | exact hset_eq _ _ _ | refine (hset_ne _ _ (by omega)).trans ?_)) rfl ?_
    refine AW.iload_n dX12_count_121 rfl ?_
    refine AW.iaload dX12_count_122 (by repeat (first | assumption | exact hset_eq _ _ _ | refine (hset_ne _ _ (by omega)).trans ?_)) (by omega) (by omega) ?_
    refine AW.iaddR dX12_count_123 (by unfold RI; omega) ?_
    refine AW.ist2 dX12_count_124 (by decide) ?_
    refine AW.inc3 dX12_count_125 (by decide) (by unfold RI; omega) ?_
    refine AW.goto (tgt := 108) dX12_count_128 (by decide) ?_
    rw [e1]; exact e2
theorem W_count (hM : MS h0 h S) (hd : 1 ≤ d) (hq : ∀ r S' h', (r, S') = o_count S x → MS h0 h' S' → Q (some (.inl r)) h') : MW d 0 0 mX12_count [.inr 116, .inl x] h Q := by
  obtain ⟨m, A, hM, hP, ok⟩ := hM
  have hMS : MS h0 h S := ⟨m, A, hM, hP, ok⟩
  obtain ⟨g116, g117, -⟩ := id hM
  obtain ⟨⟨q1, q2, q3⟩, p2, p3, p4, p5, p6, p7⟩ := id hP
  show AW d 0 0 mX12_count Q 0 [some (.inr 116), some (.inl x), none, none] [] h
  refine AW.iload_n dX12_count_0 rfl ?_
  refine AW.bipush dX12_count_1 ?_
  refine AW.bipush dX12_count_3 ?_
  refine AW.cS3 (d' := d - 1) (cX12_89 rfl) okX12_isIn dX12_count_5 (by omega) (W_isIn (fun c5 c5b => ?_) (fun c5 => ?_))
  · refine AW.ifeq_f (tgt := 21) dX12_count_8 (by decide) (by decide) ?_
    refine AW.aload_n dX12_count_11 rfl ?_
    refine AW.getf dX12_count_12 gX12_7 (by repeat (first | assumption | exact hset_eq _ _ _ | refine (hset_ne _ _ (by omega)).trans ?_)) rfl ?_
    refine AW.iload_n dX12_count_15 rfl ?_
    refine AW.bipush dX12_count_16 ?_
    refine AW.isubR dX12_count_18 (by unfold RI; omega) ?_
    refine AW.iaload dX12_count_19 (by repeat (first | assumption | exact hset_eq _ _ _ | refine (hset_ne _ _ (by omega)).trans ?_)) (by omega) (by omega) ?_
    refine AW.ireturn dX12_count_20 rfl ?_
    first
      | (rw [q1]; exact hq _ S _ (by unfold o_count; rw [if_pos (by omega)]) hMS)
      | (rw [q2]; exact hq _ S _ (by unfold o_count; rw [if_neg (by omega), if_pos (by omega)]) hMS)
      | (rw [p3]; exact hq _ S _ (by unfold o_count; rw [if_neg (by omega), if_neg (by omega), if_neg (by omega), if_neg (by omega), if_pos (by omega)]) hMS)
      | (rw [p5]; exact hq _ S _ (by unfold o_count; rw [if_neg (by omega), if_neg (by omega), if_neg (by omega), if_neg (by omega), if_neg (by omega), if_pos (by omega)]) hMS)
      | (rw [p7 _ (by omega) (by omega)]; exact hq _ S _ (by unfold o_count; rw [if_neg (by omega), if_neg (by omega), if_neg (by omega), if_neg (by omega), if_neg (by omega), if_neg (by omega), if_pos (by omega)]) hMS)
      | exact hq _ S _ (by unfold o_count; rw [if_neg (by omega), if_neg (by omega), if_neg (by omega), if_neg (by omega), if_neg (by omega), if_neg (by omega), if_neg (by omega)]) hMS
  · refine AW.ifeq_t (tgt := 21) dX12_count_8 (by decide) rfl ?_
    refine AW.iconst dX12_count_21 ?_
    refine AW.ist2 dX12_count_22 (by decide) ?_
    refine AW.iload_n dX12_count_23 rfl ?_
    refine AW.tab (tgt := 143) [64, 69, 74, 106, 133, 138] dX12_count_24 (by decide) (by decide) (by decide) (fun i t hi c24 => ?_) (fun c24 => ?_)
    · match i, hi with
      | 0, hi =>
        cases hi
        refine AW.aload_n dX12_count_64 rfl ?_
        refine AW.getf dX12_count_65 gX12_68 (by repeat (first | assumption | exact hset_eq _ _ _ | refine (hset_ne _ _ (by omega)).trans ?_)) rfl ?_
        refine AW.ireturn dX12_count_68 rfl ?_
        first
          | (rw [q1]; exact hq _ S _ (by unfold o_count; rw [if_pos (by omega)]) hMS)
          | (rw [q2]; exact hq _ S _ (by unfold o_count; rw [if_neg (by omega), if_pos (by omega)]) hMS)
          | (rw [p3]; exact hq _ S _ (by unfold o_count; rw [if_neg (by omega), if_neg (by omega), if_neg (by omega), if_neg (by omega), if_pos (by omega)]) hMS)
          | (rw [p5]; exact hq _ S _ (by unfold o_count; rw [if_neg (by omega), if_neg (by omega), if_neg (by omega), if_neg (by omega), if_neg (by omega), if_pos (by omega)]) hMS)
          | (rw [p7 _ (by omega) (by omega)]; exact hq _ S _ (by unfold o_count; rw [if_neg (by omega), if_neg (by omega), if_neg (by omega), if_neg (by omega), if_neg (by omega), if_neg (by omega), if_pos (by omega)]) hMS)
          | exact hq _ S _ (by unfold o_count; rw [if_neg (by omega), if_neg (by omega), if_neg (by omega), if_neg (by omega), if_neg (by omega), if_neg (by omega), if_neg (by omega)]) hMS
      | 1, hi =>
        cases hi
        refine AW.aload_n dX12_count_69 rfl ?_
        refine AW.getf dX12_count_70 gX12_72 (by repeat (first | assumption | exact hset_eq _ _ _ | refine (hset_ne _ _ (by omega)).trans ?_)) rfl ?_
        refine AW.ireturn dX12_count_73 rfl ?_
        first
          | (rw [q1]; exact hq _ S _ (by unfold o_count; rw [if_pos (by omega)]) hMS)
          | (rw [q2]; exact hq _ S _ (by unfold o_count; rw [if_neg (by omega), if_pos (by omega)]) hMS)
          | (rw [p3]; exact hq _ S _ (by unfold o_count; rw [if_neg (by omega), if_neg (by omega), if_neg (by omega), if_neg (by omega), if_pos (by omega)]) hMS)
          | (rw [p5]; exact hq _ S _ (by unfold o_count; rw [if_neg (by omega), if_neg (by omega), if_neg (by omega), if_neg (by omega), if_neg (by omega), if_pos (by omega)]) hMS)
          | (rw [p7 _ (by omega) (by omega)]; exact hq _ S _ (by unfold o_count; rw [if_neg (by omega), if_neg (by omega), if_neg (by omega), if_neg (by omega), if_neg (by omega), if_neg (by omega), if_pos (by omega)]) hMS)
          | exact hq _ S _ (by unfold o_count; rw [if_neg (by omega), if_neg (by omega), if_neg (by omega), if_neg (by omega), if_neg (by omega), if_neg (by omega), if_neg (by omega)]) hMS
      | 2, hi =>
        cases hi
        refine AW.iconst dX12_count_74 ?_
        refine AW.ist3 dX12_count_75 (by decide) ?_
        exact L_cnt2 hP.1 hM (hq _ S _ (by unfold o_count; rw [if_neg (by omega), if_neg (by omega), if_pos (by omega)]) hMS) 4 0 rfl (Int.le_refl _) (Int.le_refl _)
      | 3, hi =>
        cases hi
        refine AW.iconst dX12_count_106 ?_
        refine AW.ist3 dX12_count_107 (by decide) ?_
        exact L_cnt3 ok.1 hP.1 hM (hq _ S _ (by unfold o_count; rw [if_neg (by omega), if_neg (by omega), if_neg (by omega), if_pos (by omega)]) hMS) (s_h S.1) 0 (by omega)
      | 4, hi =>
        cases hi
        refine AW.aload_n dX12_count_133 rfl ?_
        refine AW.getf dX12_count_134 gX12_79 (by repeat (first | assumption | exact hset_eq _ _ _ | refine (hset_ne _ _ (by omega)).trans ?_)) rfl ?_
        refine AW.ireturn dX12_count_137 rfl ?_
        first
          | (rw [q1]; exact hq _ S _ (by unfold o_count; rw [if_pos (by omega)]) hMS)
          | (rw [q2]; exact hq _ S _ (by unfold o_count; rw [if_neg (by omega), if_pos (by omega)]) hMS)
          | (rw [p3]; exact hq _ S _ (by unfold o_count; rw [if_neg (by omega), if_neg (by omega), if_neg (by omega), if_neg (by omega), if_pos (by omega)]) hMS)
          | (rw [p5]; exact hq _ S _ (by unfold o_count; rw [if_neg (by omega), if_neg (by omega), if_neg (by omega), if_neg (by omega), if_neg (by omega), if_pos (by omega)]) hMS)
          | (rw [p7 _ (by omega) (by omega)]; exact hq _ S _ (by unfold o_count; rw [if_neg (by omega), if_neg (by omega), if_neg (by omega), if_neg (by omega), if_neg (by omega), if_neg (by omega), if_pos (by omega)]) hMS)
          | exact hq _ S _ (by unfold o_count; rw [if_neg (by omega), if_neg (by omega), if_neg (by omega), if_neg (by omega), if_neg (by omega), if_neg (by omega), if_neg (by omega)]) hMS
      | 5, hi =>
        cases hi
        refine AW.aload_n dX12_count_138 rfl ?_
        refine AW.getf dX12_count_139 gX12_245 (by repeat (first | assumption | exact hset_eq _ _ _ | refine (hset_ne _ _ (by omega)).trans ?_)) rfl ?_
        refine AW.ireturn dX12_count_142 rfl ?_
        first
          | (rw [q1]; exact hq _ S _ (by unfold o_count; rw [if_pos (by omega)]) hMS)
          | (rw [q2]; exact hq _ S _ (by unfold o_count; rw [if_neg (by omega), if_pos (by omega)]) hMS)
          | (rw [p3]; exact hq _ S _ (by unfold o_count; rw [if_neg (by omega), if_neg (by omega), if_neg (by omega), if_neg (by omega), if_pos (by omega)]) hMS)
          | (rw [p5]; exact hq _ S _ (by unfold o_count; rw [if_neg (by omega), if_neg (by omega), if_neg (by omega), if_neg (by omega), if_neg (by omega), if_pos (by omega)]) hMS)
          | (rw [p7 _ (by omega) (by omega)]; exact hq _ S _ (by unfold o_count; rw [if_neg (by omega), if_neg (by omega), if_neg (by omega), if_neg (by omega), if_neg (by omega), if_neg (by omega), if_pos (by omega)]) hMS)
          | exact hq _ S _ (by unfold o_count; rw [if_neg (by omega), if_neg (by omega), if_neg (by omega), if_neg (by omega), if_neg (by omega), if_neg (by omega), if_neg (by omega)]) hMS
      | i + 6, hi => simp at hi
    · refine AW.bipush dX12_count_143 ?_
      refine AW.ireturn dX12_count_145 rfl ?_
      first
        | (rw [q1]; exact hq _ S _ (by unfold o_count; rw [if_pos (by omega)]) hMS)
        | (rw [q2]; exact hq _ S _ (by unfold o_count; rw [if_neg (by omega), if_pos (by omega)]) hMS)
        | (rw [p3]; exact hq _ S _ (by unfold o_count; rw [if_neg (by omega), if_neg (by omega), if_neg (by omega), if_neg (by omega), if_pos (by omega)]) hMS)
        | (rw [p5]; exact hq _ S _ (by unfold o_count; rw [if_neg (by omega), if_neg (by omega), if_neg (by omega), if_neg (by omega), if_neg (by omega), if_pos (by omega)]) hMS)
        | (rw [p7 _ (by omega) (by omega)]; exact hq _ S _ (by unfold o_count; rw [if_neg (by omega), if_neg (by omega), if_neg (by omega), if_neg (by omega), if_neg (by omega), if_neg (by omega), if_pos (by omega)]) hMS)
        | exact hq _ S _ (by unfold o_count; rw [if_neg (by omega), if_neg (by omega), if_neg (by omega), if_neg (by omega), if_neg (by omega), if_neg (by omega), if_neg (by omega)]) hMS
/-! heard -/
theorem W_isAlike {a b : Nat} (hq1 : alike a b → Q (some (.inl 1)) h) (hq0 : ¬ alike a b → Q (some (.inl 0)) h) : MW d 0 0 mX12_isAlike [.inl (a : Int), .inl (b : Int)] h Q := by
  unfold alike at hq1 hq0
  show AW d 0 0 mX12_isAlike Q 0 [some (.inl (a : Int)), some (.inl (b : Int))] [] h
  refine AW.iload_n dX12_isAlike_0 rfl ?_
  refine AW.bipush dX12_isAlike_1 ?_
  refine AW.if_icmpge (tgt := 20) dX12_isAlike_3 (by decide) (fun c3 => ?_) (fun c3 => ?_)
  · refine AW.iload_n dX12_isAlike_20 rfl ?_
    refine AW.bipush dX12_isAlike_21 ?_
    refine AW.if_icmpne (tgt := 40) dX12_isAlike_23 (by decide) (fun c23 => ?_) (fun c23 => ?_)
    · refine AW.iload_n dX12_isAlike_40 rfl ?_
      refine AW.bipush dX12_isAlike_41 ?_
      refine AW.if_icmple (tgt := 50) dX12_isAlike_43 (by decide) (fun c43 => ?_) (fun c43 => ?_)
      · refine AW.iconst dX12_isAlike_50 ?_
        refine AW.zreturn dX12_isAlike_51 rfl (Or.inl rfl) ?_
        first
          | (rw [if_pos (by omega)] at hq1; exact hq1 (by omega))
          | (rw [if_pos (by omega)] at hq0; exact hq0 (by omega))
          | (rw [if_neg (by omega), if_pos (by omega)] at hq1; exact hq1 (by omega))
          | (rw [if_neg (by omega), if_pos (by omega)] at hq0; exact hq0 (by omega))
          | (rw [if_neg (by omega), if_neg (by omega)] at hq1; exact hq1 (by omega))
          | (rw [if_neg (by omega), if_neg (by omega)] at hq0; exact hq0 (by omega))
      · refine AW.iconst dX12_isAlike_46 ?_
        refine AW.goto (tgt := 51) dX12_isAlike_47 (by decide) ?_
        refine AW.zreturn dX12_isAlike_51 rfl (Or.inr rfl) ?_
        first
          | (rw [if_pos (by omega)] at hq1; exact hq1 (by omega))
          | (rw [if_pos (by omega)] at hq0; exact hq0 (by omega))
          | (rw [if_neg (by omega), if_pos (by omega)] at hq1; exact hq1 (by omega))
          | (rw [if_neg (by omega), if_pos (by omega)] at hq0; exact hq0 (by omega))
          | (rw [if_neg (by omega), if_neg (by omega)] at hq1; exact hq1 (by omega))
          | (rw [if_neg (by omega), if_neg (by omega)] at hq0; exact hq0 (by omega))
    · refine AW.iload_n dX12_isAlike_26 rfl ?_
      refine AW.bipush dX12_isAlike_27 ?_
      refine AW.if_icmpne (tgt := 36) dX12_isAlike_29 (by decide) (fun c29 => ?_) (fun c29 => ?_)
      · refine AW.iconst dX12_isAlike_36 ?_
        refine AW.goto (tgt := 51) dX12_isAlike_37 (by decide) ?_
        refine AW.zreturn dX12_isAlike_51 rfl (Or.inl rfl) ?_
        first
          | (rw [if_pos (by omega)] at hq1; exact hq1 (by omega))
          | (rw [if_pos (by omega)] at hq0; exact hq0 (by omega))
          | (rw [if_neg (by omega), if_pos (by omega)] at hq1; exact hq1 (by omega))
          | (rw [if_neg (by omega), if_pos (by omega)] at hq0; exact hq0 (by omega))
          | (rw [if_neg (by omega), if_neg (by omega)] at hq1; exact hq1 (by omega))
          | (rw [if_neg (by omega), if_neg (by omega)] at hq0; exact hq0 (by omega))
      · refine AW.iconst dX12_isAlike_32 ?_
        refine AW.goto (tgt := 51) dX12_isAlike_33 (by decide) ?_
        refine AW.zreturn dX12_isAlike_51 rfl (Or.inr rfl) ?_
        first
          | (rw [if_pos (by omega)] at hq1; exact hq1 (by omega))
          | (rw [if_pos (by omega)] at hq0; exact hq0 (by omega))
          | (rw [if_neg (by omega), if_pos (by omega)] at hq1; exact hq1 (by omega))
          | (rw [if_neg (by omega), if_pos (by omega)] at hq0; exact hq0 (by omega))
          | (rw [if_neg (by omega), if_neg (by omega)] at hq1; exact hq1 (by omega))
          | (rw [if_neg (by omega), if_neg (by omega)] at hq0; exact hq0 (by omega))
  · refine AW.iload_n dX12_isAlike_6 rfl ?_
    refine AW.bipush dX12_isAlike_7 ?_
    refine AW.if_icmpge (tgt := 16) dX12_isAlike_9 (by decide) (fun c9 => ?_) (fun c9 => ?_)
    · refine AW.iconst dX12_isAlike_16 ?_
      refine AW.goto (tgt := 51) dX12_isAlike_17 (by decide) ?_
      refine AW.zreturn dX12_isAlike_51 rfl (Or.inl rfl) ?_
      first
        | (rw [if_pos (by omega)] at hq1; exact hq1 (by omega))
        | (rw [if_pos (by omega)] at hq0; exact hq0 (by omega))
        | (rw [if_neg (by omega), if_pos (by omega)] at hq1; exact hq1 (by omega))
        | (rw [if_neg (by omega), if_pos (by omega)] at hq0; exact hq0 (by omega))
        | (rw [if_neg (by omega), if_neg (by omega)] at hq1; exact hq1 (by omega))
        | (rw [if_neg (by omega), if_neg (by omega)] at hq0; exact hq0 (by omega))
    · refine AW.iconst dX12_isAlike_12 ?_
      refine AW.goto (tgt := 51) dX12_isAlike_13 (by decide) ?_
      refine AW.zreturn dX12_isAlike_51 rfl (Or.inr rfl) ?_
      first
        | (rw [if_pos (by omega)] at hq1; exact hq1 (by omega))
        | (rw [if_pos (by omega)] at hq0; exact hq0 (by omega))
        | (rw [if_neg (by omega), if_pos (by omega)] at hq1; exact hq1 (by omega))
        | (rw [if_neg (by omega), if_pos (by omega)] at hq0; exact hq0 (by omega))
        | (rw [if_neg (by omega), if_neg (by omega)] at hq1; exact hq1 (by omega))
        | (rw [if_neg (by omega), if_neg (by omega)] at hq0; exact hq0 (by omega))
theorem hgt_set {ws : List Nat} {n j a w : Nat} (h : hgt ws = some n) (hj : ws[j]? = some a) (hal : alike a w) (hw : w ≤ 9) : hgt (ws.set j w) = some n := by
  induction ws generalizing n j with
  | nil => simp at hj
  | cons b t ih =>
    obtain ⟨k, hk, hc⟩ := hgt_tail h
    cases j with
    | zero =>
      simp only [List.getElem?_cons_zero, Option.some.injEq] at hj
      subst hj
      rw [List.set_cons_zero]
      unfold alike at hal
      unfold hgt
      rw [hk]
      simp only
      rcases hc with ⟨hb, rfl⟩ | ⟨hb, h1, rfl⟩ | ⟨hb, h1, h2⟩
      · rw [if_pos hb] at hal
        rw [if_pos hal]
      · rw [if_neg (by omega), if_pos hb] at hal
        rw [if_neg (by omega), if_pos hal, if_pos h1]
      · rw [if_neg (by omega), if_neg (by omega)] at hal
        rw [if_neg (by omega), if_neg (by omega), if_pos hw, if_pos h1]
        congr 1
        omega
    | succ j =>
      rw [List.getElem?_cons_succ] at hj
      have h2 := ih hk hj
      rw [List.set_cons_succ]
      unfold hgt at h ⊢
      rw [hk] at h
      rw [h2]
      exact h
theorem or_bit : ∀ w : Nat, w < 10 → ∀ v : Nat, v < 2 ^ w → a_or (v : Int) (a_shl 1 (w : Int)) = (v : Int) + ((2 ^ w : Nat) : Int) := by decide +kernel
theorem or_0 : ∀ v : Nat, v < 1024 → a_or (v : Int) 0 = (v : Int) := by decide +kernel
theorem sumN_hd (s : SC) (who : Int) (ws : List Nat) (j : Nat) (v : Int) (n : Nat) : 0 ≤ sumN n (hdF s who ws j v) ∧ sumN n (hdF s who ws j v) < ((2 ^ n : Nat) : Int) := by
  induction n with
  | zero => exact ⟨Int.le_refl _, show (0 : Int) < ((2 ^ 0 : Nat) : Int) by decide⟩
  | succ n ih =>
    rw [sumN_succ, Nat.pow_succ]
    unfold hdF at ih ⊢
    by_cases q : alike (ws.getD j 0) n ∧ cnS s who (ws.set j n) = v
    · rw [iv_pos q]; omega
    · rw [iv_neg q]; omega
end Mod8

