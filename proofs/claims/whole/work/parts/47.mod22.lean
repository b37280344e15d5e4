section Mod22
variable {d : Nat} {Q : Option AV → AH → Prop} {h h0 : AH} {m : Nat → Int} {A : Nat → Nat → Int} {x : Int} {L : List Int} {p c : Nat}
/-- the letters, and the place at which they are read -/
def TP (L : List Int) (m : Nat → Int) (A : Nat → Nat → Int) (p : Nat) : Prop := m 15 = (L.length : Int) ∧ L.length ≤ 80 ∧ (∀ (i : Nat) (x : Int), L[i]? = some x → A 124 i = x) ∧ (∀ x ∈ L, 0 ≤ x ∧ x ≤ 255) ∧ m 16 = (p : Int)
theorem TP.nx {L : List Int} (hT : TP L m A p) : (if m 16 < m 15 then A 124 (m 16).toNat else -1) = ltr L p := by
  obtain ⟨t1, t2, t3, t4, t5⟩ := hT
  rw [t5, t1]
  unfold ltr
  rcases Nat.lt_or_ge p L.length with q | q
  · rw [if_pos (by omega), List.getD_eq_getElem?_getD, List.getElem?_eq_getElem q]
    exact t3 p _ (List.getElem?_eq_getElem q)
  · rw [if_neg (by omega), List.getD_eq_getElem?_getD, List.getElem?_eq_none q]
    rfl
theorem ltr_b {L : List Int} (h : ∀ x ∈ L, 0 ≤ x ∧ x ≤ 255) (p : Nat) : -1 ≤ ltr L p ∧ ltr L p ≤ 255 := by
  unfold ltr
  rw [List.getD_eq_getElem?_getD]
  rcases Nat.lt_or_ge p L.length with q | q
  · rw [List.getElem?_eq_getElem q]
    have := h _ (List.getElem_mem q)
    show -1 ≤ L[p] ∧ L[p] ≤ 255
    omega
  · rw [List.getElem?_eq_none q]
    exact ⟨by decide, by decide⟩
theorem TP.sq {m' : Nat → Int} {A' : Nat → Nat → Int} {q : Nat} (hT : TP L m A p) (h15 : m' 15 = m 15) (h124 : A' 124 = A 124) (h16 : m' 16 = (q : Int)) : TP L m' A' q := ⟨by rw [h15]; exact hT.1, hT.2.1, by rw [h124]; exact hT.2.2.1, hT.2.2.2.1, h16⟩
theorem W_nextL (hM : MR h0 h m A) (hT : TP L m A p) (hq : Q (some (.inl (ltr L p))) h) : MW d 0 0 mX12_next [.inr 116] h Q := by
  have e := hT.nx
  obtain ⟨t1, t2, t3, t4, t5⟩ := hT
  refine W_next hM (by omega) (by omega) ?_
  rw [e]
  exact hq
theorem W_readsDigit {i : Nat} (hM : MR h0 h m A) (hT : TP L m A p) (hi : i < 80) (hp : p ≤ 200) (hd : 1 ≤ d)
    (hq1 : 48 ≤ ltr L p → ltr L p ≤ 57 → ∀ h', MR h0 h' (updI m 16 ((p : Int) + 1)) (updA A 127 (updI (A 127) i (ltr L p - 48))) → Q (some (.inl 1)) h') (hq0 : ¬ (48 ≤ ltr L p ∧ ltr L p ≤ 57) → Q (some (.inl 0)) h) : MW d 0 0 mX12_readsDigit [.inr 116, .inl (i : Int)] h Q := by
  obtain ⟨g116, -, -, -, -, -, -, -, -, -, -, g127, -⟩ := id hM
  have e16 : m 16 = (p : Int) := hT.2.2.2.2
  have hb := ltr_b hT.2.2.2.1 p
  show AW d 0 0 mX12_readsDigit Q 0 [some (.inr 116), some (.inl (i : Int))] [] h
  refine AW.aload_n dX12_readsDigit_0 rfl ?_
  refine AW.cI1 (d' := d - 1) (cX12_93 rfl) okX12_next dX12_readsDigit_1 (by repeat (first | assumption | exact hset_eq _ _ _ | refine (hset_ne _ _ (by omega)).trans ?_)) (by omega) (W_nextL hM hT ?_)
  refine AW.bipush dX12_readsDigit_4 ?_
  refine AW.bipush dX12_readsDigit_6 ?_
  refine AW.cS3 (d' := d - 1) (cX12_89 rfl) okX12_isIn dX12_readsDigit_8 (by omega) (W_isIn (fun c8 c8b => ?_) (fun c8 => ?_))
  · refine AW.ifne_t (tgt := 16) dX12_readsDigit_11 (by decide) (by decide) ?_
    refine AW.aload_n dX12_readsDigit_16 rfl ?_
    refine AW.getf dX12_readsDigit_17 gX12_40 (by repeat (first | assumption | exact hset_eq _ _ _ | refine (hset_ne _ _ (by omega)).trans ?_)) rfl ?_
    refine AW.iload_n dX12_readsDigit_20 rfl ?_
    refine AW.aload_n dX12_readsDigit_21 rfl ?_
    refine AW.cI1 (d' := d - 1) (cX12_93 rfl) okX12_next dX12_readsDigit_22 (by repeat (first | assumption | exact hset_eq _ _ _ | refine (hset_ne _ _ (by omega)).trans ?_)) (by omega) (W_nextL hM hT ?_)
    refine AW.bipush dX12_readsDigit_25 ?_
    refine AW.isubR dX12_readsDigit_27 (by unfold RI; omega) ?_
    refine AW.iastore dX12_readsDigit_28 (by omega) (by repeat (first | assumption | exact hset_eq _ _ _ | refine (hset_ne _ _ (by omega)).trans ?_)) (by omega) (by omega) ?_
    refine AW.aload_n dX12_readsDigit_29 rfl ?_
    refine AW.dup dX12_readsDigit_30 ?_
    refine AW.getf dX12_readsDigit_31 gX12_86 (by repeat (first | assumption | exact hset_eq _ _ _ | refine (hset_ne _ _ (by omega)).trans ?_)) rfl ?_
    refine AW.iconst dX12_readsDigit_34 ?_
    refine AW.iaddR dX12_readsDigit_35 (by unfold RI; omega) ?_
    refine AW.putf dX12_readsDigit_36 pX12_86 (by repeat (first | assumption | exact hset_eq _ _ _ | refine (hset_ne _ _ (by omega)).trans ?_)) trivial ?_
    refine AW.iconst dX12_readsDigit_39 ?_
    refine AW.zreturn dX12_readsDigit_40 rfl (Or.inr rfl) ?_
    first
      | exact hq0 (by omega)
      | (rw [← e16] at hq1; exact hq1 (by omega) (by omega) _ (MR.p rfl (MR.s127 hM)))
  · refine AW.ifne_f (tgt := 16) dX12_readsDigit_11 (by decide) rfl ?_
    refine AW.iconst dX12_readsDigit_14 ?_
    refine AW.zreturn dX12_readsDigit_15 rfl (Or.inl rfl) ?_
    first
      | exact hq0 (by omega)
      | (rw [← e16] at hq1; exact hq1 (by omega) (by omega) _ (MR.p rfl (MR.s127 hM)))
theorem W_readsName {i : Nat} (hM : MR h0 h m A) (hT : TP L m A p) (hi : i < 80) (hp : p ≤ 200) (hd : 1 ≤ d)
    (hq1 : 65 ≤ ltr L p → ltr L p ≤ 68 → ∀ h', MR h0 h' (updI m 16 ((p : Int) + 1)) (updA A 127 (updI (A 127) i (ltr L p - 65))) → Q (some (.inl 1)) h') (hq0 : ¬ (65 ≤ ltr L p ∧ ltr L p ≤ 68) → Q (some (.inl 0)) h) : MW d 0 0 mX12_readsName [.inr 116, .inl (i : Int)] h Q := by
  obtain ⟨g116, -, -, -, -, -, -, -, -, -, -, g127, -⟩ := id hM
  have e16 : m 16 = (p : Int) := hT.2.2.2.2
  have hb := ltr_b hT.2.2.2.1 p
  show AW d 0 0 mX12_readsName Q 0 [some (.inr 116), some (.inl (i : Int))] [] h
  refine AW.aload_n dX12_readsName_0 rfl ?_
  refine AW.cI1 (d' := d - 1) (cX12_93 rfl) okX12_next dX12_readsName_1 (by repeat (first | assumption | exact hset_eq _ _ _ | refine (hset_ne _ _ (by omega)).trans ?_)) (by omega) (W_nextL hM hT ?_)
  refine AW.bipush dX12_readsName_4 ?_
  refine AW.bipush dX12_readsName_6 ?_
  refine AW.cS3 (d' := d - 1) (cX12_89 rfl) okX12_isIn dX12_readsName_8 (by omega) (W_isIn (fun c8 c8b => ?_) (fun c8 => ?_))
  · refine AW.ifne_t (tgt := 16) dX12_readsName_11 (by decide) (by decide) ?_
    refine AW.aload_n dX12_readsName_16 rfl ?_
    refine AW.getf dX12_readsName_17 gX12_40 (by repeat (first | assumption | exact hset_eq _ _ _ | refine (hset_ne _ _ (by omega)).trans ?_)) rfl ?_
    refine AW.iload_n dX12_readsName_20 rfl ?_
    refine AW.aload_n dX12_readsName_21 rfl ?_
    refine AW.cI1 (d' := d - 1) (cX12_93 rfl) okX12_next dX12_readsName_22 (by repeat (first | assumption | exact hset_eq _ _ _ | refine (hset_ne _ _ (by omega)).trans ?_)) (by omega) (W_nextL hM hT ?_)
    refine AW.bipush dX12_readsName_25 ?_
    refine AW.isubR dX12_readsName_27 (by unfold RI; omega) ?_
    refine AW.iastore dX12_readsName_28 (by omega) (by repeat (first | assumption | exact hset_eq _ _ _ | refine (hset_ne _ _ (by omega)).trans ?_)) (by omega) (by omega) ?_
    refine AW.aload_n dX12_readsName_29 rfl ?_
    refine AW.dup dX12_readsName_30 ?_
    refine AW.getf dX12_readsName_31 gX12_86 (by repeat (first | assumption | exact hset_eq _ _ _ | refine (hset_ne _ _ (by omega)).trans ?_)) rfl ?_
    refine AW.iconst dX12_readsName_34 ?_
    refine AW.iaddR dX12_readsName_35 (by unfold RI; omega) ?_
    refine AW.putf dX12_readsName_36 pX12_86 (by repeat (first | assumption | exact hset_eq _ _ _ | refine (hset_ne _ _ (by omega)).trans ?_)) trivial ?_
    refine AW.iconst dX12_readsName_39 ?_
    refine AW.zreturn dX12_readsName_40 rfl (Or.inr rfl) ?_
    first
      | exact hq0 (by omega)
      | (rw [← e16] at hq1; exact hq1 (by omega) (by omega) _ (MR.p rfl (MR.s127 hM)))
  · refine AW.ifne_f (tgt := 16) dX12_readsName_11 (by decide) rfl ?_
    refine AW.iconst dX12_readsName_14 ?_
    refine AW.zreturn dX12_readsName_15 rfl (Or.inl rfl) ?_
    first
      | exact hq0 (by omega)
      | (rw [← e16] at hq1; exact hq1 (by omega) (by omega) _ (MR.p rfl (MR.s127 hM)))
theorem L_rs {B : Bool} {E p0 : Nat} (hc : c < 40) (h17 : m 17 = (c : Int)) (hp0 : p0 ≤ 200) (hd : 2 ≤ d)
    (hq1 : B = true → ∀ h' m', MR h0 h' m' (updA A 129 (updI (A 129) c (E : Int))) → (∀ k, k ≠ 16 → m' k = m k) → m' 16 = (E : Int) → Q (some (.inl 1)) h')
    (hq0 : B = false → ∀ h' m', MR h0 h' m' A → (∀ k, k ≠ 16 → m' k = m k) → m' 16 = (E : Int) → Q (some (.inl 0)) h') (h128 : A 128 c = (p0 : Int)) :
    ∀ (n k p : Nat) (h : AH) (m' : Nat → Int) (z : Option AV), MR h0 h m' A → TP L m' A p → (∀ k, k ≠ 16 → m' k = m k) → p + n = p0 + 20 → k + n ≤ 21 + n → k ≤ 21 - n → (sayP L n k p).1 = B → (sayP L n k p).2.1 = E →
      AW d 0 0 mX12_readsSaying Q 15 [some (.inr 116), some (.inl (k : Int)), z] [] h := by
  intro n
  induction n with
  | zero =>
    intro k p h m' z hM hT hm hpn hk hk2 eB eE
    obtain ⟨g116, -, -, -, -, -, -, -, -, -, -, -, g128, g129, -⟩ := id hM
    have h17' : m' 17 = (c : Int) := (hm 17 (by decide)).trans h17
    have e16 : m' 16 = (p : Int) := hT.2.2.2.2
    have hb := ltr_b hT.2.2.2.1 p
    have e128 : A 128 (m' 17).toNat = (p0 : Int) := by rw [h17']; exact h128
    cases k with
    | zero =>
      have eE' : p = E := eE
      refine AW.iload_n dX12_readsSaying_15 rfl ?_
      refine AW.ifle (tgt := 89) dX12_readsSaying_16 (by decide) (fun c16 => ?_) (fun c16 => absurd c16 (by decide))
      refine AW.aload_n dX12_readsSaying_89 rfl ?_
      refine AW.getf dX12_readsSaying_90 gX12_46 (by repeat (first | assumption | exact hset_eq _ _ _ | refine (hset_ne _ _ (by omega)).trans ?_)) rfl ?_
      refine AW.aload_n dX12_readsSaying_93 rfl ?_
      refine AW.getf dX12_readsSaying_94 gX12_97 (by repeat (first | assumption | exact hset_eq _ _ _ | refine (hset_ne _ _ (by omega)).trans ?_)) rfl ?_
      refine AW.aload_n dX12_readsSaying_97 rfl ?_
      refine AW.getf dX12_readsSaying_98 gX12_86 (by repeat (first | assumption | exact hset_eq _ _ _ | refine (hset_ne _ _ (by omega)).trans ?_)) rfl ?_
      refine AW.iastore dX12_readsSaying_101 (by omega) (by repeat (first | assumption | exact hset_eq _ _ _ | refine (hset_ne _ _ (by omega)).trans ?_)) (by omega) (by omega) ?_
      refine AW.iconst dX12_readsSaying_102 ?_
      refine AW.zreturn dX12_readsSaying_103 rfl (Or.inr rfl) ?_
      have e17 : (m' 17).toNat = c := by omega
      rw [e17, e16, eE']
      exact hq1 eB.symm _ _ (MR.s129 hM) hm (by omega)
    | succ k =>
      have eE' : p = E := eE
      refine AW.iload_n dX12_readsSaying_15 rfl ?_
      refine AW.ifle (tgt := 89) dX12_readsSaying_16 (by decide) (fun c16 => absurd c16 (by omega)) (fun c16 => ?_)
      refine AW.aload_n dX12_readsSaying_19 rfl ?_
      refine AW.cI1 (d' := d - 1) (cX12_93 rfl) okX12_next dX12_readsSaying_20 (by repeat (first | assumption | exact hset_eq _ _ _ | refine (hset_ne _ _ (by omega)).trans ?_)) (by omega) (W_nextL hM hT ?_)
      refine AW.cS1 (d' := d - 1) (cX12_100 rfl) okX12_wordOf dX12_readsSaying_23 (by omega) (W_wordOf (by omega) (by omega) (by omega) ?_)
      refine AW.ist2 dX12_readsSaying_26 (by decide) ?_
      refine AW.iload_n dX12_readsSaying_27 rfl ?_
      refine AW.iflt (tgt := 50) dX12_readsSaying_28 (by decide) (fun c28 => ?_) (fun c28 => ?_)
      · refine AW.iconst dX12_readsSaying_50 ?_
        refine AW.zreturn dX12_readsSaying_51 rfl (Or.inl rfl) ?_
        exact hq0 eB.symm _ _ hM hm (by omega)
      · refine AW.aload_n dX12_readsSaying_31 rfl ?_
        refine AW.getf dX12_readsSaying_32 gX12_86 (by repeat (first | assumption | exact hset_eq _ _ _ | refine (hset_ne _ _ (by omega)).trans ?_)) rfl ?_
        refine AW.aload_n dX12_readsSaying_35 rfl ?_
        refine AW.getf dX12_readsSaying_36 gX12_43 (by repeat (first | assumption | exact hset_eq _ _ _ | refine (hset_ne _ _ (by omega)).trans ?_)) rfl ?_
        refine AW.aload_n dX12_readsSaying_39 rfl ?_
        refine AW.getf dX12_readsSaying_40 gX12_97 (by repeat (first | assumption | exact hset_eq _ _ _ | refine (hset_ne _ _ (by omega)).trans ?_)) rfl ?_
        refine AW.iaload dX12_readsSaying_43 (by repeat (first | assumption | exact hset_eq _ _ _ | refine (hset_ne _ _ (by omega)).trans ?_)) (by omega) (by omega) ?_
        refine AW.isubR dX12_readsSaying_44 (by unfold RI; omega) ?_
        refine AW.bipush dX12_readsSaying_45 ?_
        refine AW.if_icmpne (tgt := 52) dX12_readsSaying_47 (by decide) (fun c47 => absurd c47 (by omega)) (fun c47 => ?_)
        refine AW.iconst dX12_readsSaying_50 ?_
        refine AW.zreturn dX12_readsSaying_51 rfl (Or.inl rfl) ?_
        exact hq0 eB.symm _ _ hM hm (by omega)
  | succ n ih =>
    intro k p h m' z hM hT hm hpn hk hk2 eB eE
    obtain ⟨g116, -, -, -, -, -, -, -, -, -, -, -, g128, g129, -⟩ := id hM
    have h17' : m' 17 = (c : Int) := (hm 17 (by decide)).trans h17
    have e16 : m' 16 = (p : Int) := hT.2.2.2.2
    have hb := ltr_b hT.2.2.2.1 p
    have e128 : A 128 (m' 17).toNat = (p0 : Int) := by rw [h17']; exact h128
    cases k with
    | zero =>
      rw [sayP_0] at eB eE
      have eE' : p = E := eE
      refine AW.iload_n dX12_readsSaying_15 rfl ?_
      refine AW.ifle (tgt := 89) dX12_readsSaying_16 (by decide) (fun c16 => ?_) (fun c16 => absurd c16 (by decide))
      refine AW.aload_n dX12_readsSaying_89 rfl ?_
      refine AW.getf dX12_readsSaying_90 gX12_46 (by repeat (first | assumption | exact hset_eq _ _ _ | refine (hset_ne _ _ (by omega)).trans ?_)) rfl ?_
      refine AW.aload_n dX12_readsSaying_93 rfl ?_
      refine AW.getf dX12_readsSaying_94 gX12_97 (by repeat (first | assumption | exact hset_eq _ _ _ | refine (hset_ne _ _ (by omega)).trans ?_)) rfl ?_
      refine AW.aload_n dX12_readsSaying_97 rfl ?_
      refine AW.getf dX12_readsSaying_98 gX12_86 (by repeat (first | assumption | exact hset_eq _ _ _ | refine (hset_ne _ _ (by omega)).trans ?_)) rfl ?_
      refine AW.iastore dX12_readsSaying_101 (by omega) (by repeat (first | assumption | exact hset_eq _ _ _ | refine (hset_ne _ _ (by omega)).trans ?_)) (by omega) (by omega) ?_
      refine AW.iconst dX12_readsSaying_102 ?_
      refine AW.zreturn dX12_readsSaying_103 rfl (Or.inr rfl) ?_
      have e17 : (m' 17).toNat = c := by omega
      rw [e17, e16, eE']
      exact hq1 eB.symm _ _ (MR.s129 hM) hm (by omega)
    | succ k =>
      have hw := wdO_b (ltr L p)
      by_cases e : wdO (ltr L p) < 0
      · rw [sayP_n e] at eB eE
        have eE' : p = E := eE
        refine AW.iload_n dX12_readsSaying_15 rfl ?_
        refine AW.ifle (tgt := 89) dX12_readsSaying_16 (by decide) (fun c16 => absurd c16 (by omega)) (fun c16 => ?_)
        refine AW.aload_n dX12_readsSaying_19 rfl ?_
        refine AW.cI1 (d' := d - 1) (cX12_93 rfl) okX12_next dX12_readsSaying_20 (by repeat (first | assumption | exact hset_eq _ _ _ | refine (hset_ne _ _ (by omega)).trans ?_)) (by omega) (W_nextL hM hT ?_)
        refine AW.cS1 (d' := d - 1) (cX12_100 rfl) okX12_wordOf dX12_readsSaying_23 (by omega) (W_wordOf (by omega) (by omega) (by omega) ?_)
        refine AW.ist2 dX12_readsSaying_26 (by decide) ?_
        refine AW.iload_n dX12_readsSaying_27 rfl ?_
        refine AW.iflt (tgt := 50) dX12_readsSaying_28 (by decide) (fun c28 => ?_) (fun c28 => absurd c28 (by omega))
        refine AW.iconst dX12_readsSaying_50 ?_
        refine AW.zreturn dX12_readsSaying_51 rfl (Or.inl rfl) ?_
        exact hq0 eB.symm _ _ hM hm (by omega)
      · rw [sayP_s e] at eB eE
        have nx := fun (v : Int) (h1 : AH) (z1 : Option AV) (hv : v = ((k + ptW (wdO (ltr L p)).toNat : Nat) : Int)) (hM1 : MR h0 h1 (updI m' 16 ((p : Int) + 1)) A) (hkk : k + ptW (wdO (ltr L p)).toNat ≤ 21 - n) => hv ▸ ih (k + ptW (wdO (ltr L p)).toNat) (p + 1) h1 (updI m' 16 ((p : Int) + 1)) z1 hM1 (hT.sq (updI_ne _ _ (by decide)) rfl (by rw [updI_eq]; omega)) (fun j hj => by rw [updI_ne _ _ hj]; exact hm j hj) (by omega) (by omega) hkk eB eE
        rw [← e16] at nx
        unfold ptW at nx
        refine AW.iload_n dX12_readsSaying_15 rfl ?_
        refine AW.ifle (tgt := 89) dX12_readsSaying_16 (by decide) (fun c16 => absurd c16 (by omega)) (fun c16 => ?_)
        refine AW.aload_n dX12_readsSaying_19 rfl ?_
        refine AW.cI1 (d' := d - 1) (cX12_93 rfl) okX12_next dX12_readsSaying_20 (by repeat (first | assumption | exact hset_eq _ _ _ | refine (hset_ne _ _ (by omega)).trans ?_)) (by omega) (W_nextL hM hT ?_)
        refine AW.cS1 (d' := d - 1) (cX12_100 rfl) okX12_wordOf dX12_readsSaying_23 (by omega) (W_wordOf (by omega) (by omega) (by omega) ?_)
        refine AW.ist2 dX12_readsSaying_26 (by decide) ?_
        refine AW.iload_n dX12_readsSaying_27 rfl ?_
        refine AW.iflt (tgt := 50) dX12_readsSaying_28 (by decide) (fun c28 => absurd c28 (by omega)) (fun c28 => ?_)
        refine AW.aload_n dX12_readsSaying_31 rfl ?_
        refine AW.getf dX12_readsSaying_32 gX12_86 (by repeat (first | assumption | exact hset_eq _ _ _ | refine (hset_ne _ _ (by omega)).trans ?_)) rfl ?_
        refine AW.aload_n dX12_readsSaying_35 rfl ?_
        refine AW.getf dX12_readsSaying_36 gX12_43 (by repeat (first | assumption | exact hset_eq _ _ _ | refine (hset_ne _ _ (by omega)).trans ?_)) rfl ?_
        refine AW.aload_n dX12_readsSaying_39 rfl ?_
        refine AW.getf dX12_readsSaying_40 gX12_97 (by repeat (first | assumption | exact hset_eq _ _ _ | refine (hset_ne _ _ (by omega)).trans ?_)) rfl ?_
        refine AW.iaload dX12_readsSaying_43 (by repeat (first | assumption | exact hset_eq _ _ _ | refine (hset_ne _ _ (by omega)).trans ?_)) (by omega) (by omega) ?_
        refine AW.isubR dX12_readsSaying_44 (by unfold RI; omega) ?_
        refine AW.bipush dX12_readsSaying_45 ?_
        refine AW.if_icmpne (tgt := 52) dX12_readsSaying_47 (by decide) (fun c47 => ?_) (fun c47 => absurd c47 (by omega))
        refine AW.iload_n dX12_readsSaying_52 rfl ?_
        refine AW.iload_n dX12_readsSaying_53 rfl ?_
        refine AW.bipush dX12_readsSaying_54 ?_
        refine AW.if_icmpne (tgt := 63) dX12_readsSaying_56 (by decide) (fun c56 => ?_) (fun c56 => ?_)
        · refine AW.iload_n dX12_readsSaying_63 rfl ?_
          refine AW.bipush dX12_readsSaying_64 ?_
          refine AW.if_icmple (tgt := 73) dX12_readsSaying_66 (by decide) (fun c66 => ?_) (fun c66 => ?_)
          · refine AW.iconst dX12_readsSaying_73 ?_
            refine AW.iaddR dX12_readsSaying_74 (by unfold RI; omega) ?_
            refine AW.ist1 dX12_readsSaying_75 (by decide) ?_
            refine AW.aload_n dX12_readsSaying_76 rfl ?_
            refine AW.dup dX12_readsSaying_77 ?_
            refine AW.getf dX12_readsSaying_78 gX12_86 (by repeat (first | assumption | exact hset_eq _ _ _ | refine (hset_ne _ _ (by omega)).trans ?_)) rfl ?_
            refine AW.iconst dX12_readsSaying_81 ?_
            refine AW.iaddR dX12_readsSaying_82 (by unfold RI; omega) ?_
            refine AW.putf dX12_readsSaying_83 pX12_86 (by repeat (first | assumption | exact hset_eq _ _ _ | refine (hset_ne _ _ (by omega)).trans ?_)) trivial ?_
            refine AW.goto (tgt := 15) dX12_readsSaying_86 (by decide) ?_
            first
              | (rw [if_neg (by omega), if_pos (by omega)] at nx
                 exact nx _ _ _ (by omega) (MR.p rfl hM) (by omega))
              | (rw [if_neg (by omega), if_neg (by omega)] at nx
                 exact nx _ _ _ (by omega) (MR.p rfl hM) (by omega))
              | (rw [if_pos (by omega)] at nx
                 exact nx _ _ _ (by omega) (MR.p rfl hM) (by omega))
          · refine AW.iconst dX12_readsSaying_69 ?_
            refine AW.goto (tgt := 74) dX12_readsSaying_70 (by decide) ?_
            refine AW.iaddR dX12_readsSaying_74 (by unfold RI; omega) ?_
            refine AW.ist1 dX12_readsSaying_75 (by decide) ?_
            refine AW.aload_n dX12_readsSaying_76 rfl ?_
            refine AW.dup dX12_readsSaying_77 ?_
            refine AW.getf dX12_readsSaying_78 gX12_86 (by repeat (first | assumption | exact hset_eq _ _ _ | refine (hset_ne _ _ (by omega)).trans ?_)) rfl ?_
            refine AW.iconst dX12_readsSaying_81 ?_
            refine AW.iaddR dX12_readsSaying_82 (by unfold RI; omega) ?_
            refine AW.putf dX12_readsSaying_83 pX12_86 (by repeat (first | assumption | exact hset_eq _ _ _ | refine (hset_ne _ _ (by omega)).trans ?_)) trivial ?_
            refine AW.goto (tgt := 15) dX12_readsSaying_86 (by decide) ?_
            first
              | (rw [if_neg (by omega), if_pos (by omega)] at nx
                 exact nx _ _ _ (by omega) (MR.p rfl hM) (by omega))
              | (rw [if_neg (by omega), if_neg (by omega)] at nx
                 exact nx _ _ _ (by omega) (MR.p rfl hM) (by omega))
              | (rw [if_pos (by omega)] at nx
                 exact nx _ _ _ (by omega) (MR.p rfl hM) (by omega))
        · refine AW.iconst dX12_readsSaying_59 ?_
          refine AW.goto (tgt := 74) dX12_readsSaying_60 (by decide) ?_
          refine AW.iaddR dX12_readsSaying_74 (by unfold RI; omega) ?_
          refine AW.ist1 dX12_readsSaying_75 (by decide) ?_
          refine AW.aload_n dX12_readsSaying_76 rfl ?_
          refine AW.dup dX12_readsSaying_77 ?_
          refine AW.getf dX12_readsSaying_78 gX12_86 (by repeat (first | assumption | exact hset_eq _ _ _ | refine (hset_ne _ _ (by omega)).trans ?_)) rfl ?_
          refine AW.iconst dX12_readsSaying_81 ?_
          refine AW.iaddR dX12_readsSaying_82 (by unfold RI; omega) ?_
          refine AW.putf dX12_readsSaying_83 pX12_86 (by repeat (first | assumption | exact hset_eq _ _ _ | refine (hset_ne _ _ (by omega)).trans ?_)) trivial ?_
          refine AW.goto (tgt := 15) dX12_readsSaying_86 (by decide) ?_
          first
            | (rw [if_neg (by omega), if_pos (by omega)] at nx
               exact nx _ _ _ (by omega) (MR.p rfl hM) (by omega))
            | (rw [if_neg (by omega), if_neg (by omega)] at nx
               exact nx _ _ _ (by omega) (MR.p rfl hM) (by omega))
            | (rw [if_pos (by omega)] at nx
               exact nx _ _ _ (by omega) (MR.p rfl hM) (by omega))
theorem W_readsSaying (hM : MR h0 h m A) (hT : TP L m A p) (hc : c < 40) (h17 : m 17 = (c : Int)) (hp : p ≤ 200) (hd : 2 ≤ d)
    (hq1 : (sayP L 20 1 p).1 = true → ∀ h' m', MR h0 h' m' (updA (updA A 128 (updI (A 128) c (p : Int))) 129 (updI (A 129) c ((sayP L 20 1 p).2.1 : Int))) → (∀ k, k ≠ 16 → m' k = m k) → m' 16 = ((sayP L 20 1 p).2.1 : Int) → Q (some (.inl 1)) h')
    (hq0 : (sayP L 20 1 p).1 = false → ∀ h' m', MR h0 h' m' (updA A 128 (updI (A 128) c (p : Int))) → (∀ k, k ≠ 16 → m' k = m k) → m' 16 = ((sayP L 20 1 p).2.1 : Int) → Q (some (.inl 0)) h') : MW d 0 0 mX12_readsSaying [.inr 116] h Q := by
  obtain ⟨g116, -, -, -, -, -, -, -, -, -, -, -, g128, g129, -⟩ := id hM
  have e16 : m 16 = (p : Int) := hT.2.2.2.2
  show AW d 0 0 mX12_readsSaying Q 0 [some (.inr 116), none, none] [] h
  refine AW.aload_n dX12_readsSaying_0 rfl ?_
  refine AW.getf dX12_readsSaying_1 gX12_43 (by repeat (first | assumption | exact hset_eq _ _ _ | refine (hset_ne _ _ (by omega)).trans ?_)) rfl ?_
  refine AW.aload_n dX12_readsSaying_4 rfl ?_
  refine AW.getf dX12_readsSaying_5 gX12_97 (by repeat (first | assumption | exact hset_eq _ _ _ | refine (hset_ne _ _ (by omega)).trans ?_)) rfl ?_
  refine AW.aload_n dX12_readsSaying_8 rfl ?_
  refine AW.getf dX12_readsSaying_9 gX12_86 (by repeat (first | assumption | exact hset_eq _ _ _ | refine (hset_ne _ _ (by omega)).trans ?_)) rfl ?_
  refine AW.iastore dX12_readsSaying_12 (by omega) (by repeat (first | assumption | exact hset_eq _ _ _ | refine (hset_ne _ _ (by omega)).trans ?_)) (by omega) (by omega) ?_
  refine AW.iconst dX12_readsSaying_13 ?_
  refine AW.ist1 dX12_readsSaying_14 (by decide) ?_
  have e17 : (m 17).toNat = c := by omega
  rw [e17, e16]
  exact L_rs (A := updA A 128 (updI (A 128) c (p : Int))) (p0 := p) hc h17 hp hd hq1 hq0 (by rw [updA_eq, updI_eq]) 20 1 p _ m none (MR.s128 hM) (hT.sq rfl rfl e16) (fun _ _ => rfl) rfl (by omega) (by omega) rfl rfl
end Mod22

