section Lets
variable {d bc bs : Nat} {Q : Option AV → AH → Prop} {h h' : AH} {L : List Int} {p b : Nat} {P : Nat → Prop} {x y z : Int}
def P17 (a : Nat) : Prop := a = 17
theorem ltr_in {f : Nat → Int} (hf : ∀ (i : Nat) (x : Int), L[i]? = some x → f i = x) (hp : p < L.length) : f p = ltr L p := by
  unfold ltr
  rw [List.getD_eq_getElem?_getD, List.getElem?_eq_getElem hp]
  exact hf p _ (List.getElem?_eq_getElem hp)
theorem ltr_out (hp : L.length ≤ p) : ltr L p = -1 := by
  unfold ltr
  rw [List.getD_eq_getElem?_getD, List.getElem?_eq_none hp]
  rfl
theorem V_here (hL : L.length ≤ 80) (H : LetA h L (p : Int)) (hq : Q (some (.inl (ltr L p))) h) : MW d 0 0 mX5_here [.inr 17] h Q := by
  obtain ⟨h1, f, h2, h3⟩ := id H
  have e : ∀ v, ltr L p = v → Q (some (.inl v)) h := fun v hv => hv ▸ hq
  show AW d 0 0 mX5_here Q 0 [some (.inr 17)] [] h
  refine AW.aload_n dX5_here_0 rfl ?_
  refine AW.getf dX5_here_1 gX5_19 (by repeat (first | assumption | exact hset_eq _ _ _ | refine (hset_ne _ _ (by omega)).trans ?_)) rfl ?_
  refine AW.iflt (tgt := 30) dX5_here_4 (by decide) (fun c4 => absurd c4 (by omega)) (fun c4 => ?_)
  refine AW.aload_n dX5_here_7 rfl ?_
  refine AW.getf dX5_here_8 gX5_19 (by repeat (first | assumption | exact hset_eq _ _ _ | refine (hset_ne _ _ (by omega)).trans ?_)) rfl ?_
  refine AW.aload_n dX5_here_11 rfl ?_
  refine AW.getf dX5_here_12 gX5_15 (by repeat (first | assumption | exact hset_eq _ _ _ | refine (hset_ne _ _ (by omega)).trans ?_)) rfl ?_
  refine AW.if_icmpge (tgt := 30) dX5_here_15 (by decide) (fun c15 => ?_) (fun c15 => ?_)
  · refine AW.iconst dX5_here_30 ?_
    refine AW.ireturn dX5_here_31 rfl ?_
    first
      | exact e _ (ltr_out (by omega))
      | exact e _ (ltr_in h3 (by omega)).symm
  · refine AW.aload_n dX5_here_18 rfl ?_
    refine AW.getf dX5_here_19 gX5_9 (by repeat (first | assumption | exact hset_eq _ _ _ | refine (hset_ne _ _ (by omega)).trans ?_)) rfl ?_
    refine AW.aload_n dX5_here_22 rfl ?_
    refine AW.getf dX5_here_23 gX5_19 (by repeat (first | assumption | exact hset_eq _ _ _ | refine (hset_ne _ _ (by omega)).trans ?_)) rfl ?_
    refine AW.iaload dX5_here_26 (by repeat (first | assumption | exact hset_eq _ _ _ | refine (hset_ne _ _ (by omega)).trans ?_)) (by omega) (by omega) ?_
    refine AW.goto (tgt := 31) dX5_here_27 (by decide) ?_
    refine AW.ireturn dX5_here_31 rfl ?_
    first
      | exact e _ (ltr_out (by omega))
      | exact e _ (ltr_in h3 (by omega)).symm
theorem LetA.up (H : LetA h L y) : LetA (hset h 17 (.inl (5 + 1, [.inr 18, .inl (L.length : Int), .inl x]))) L x := by
  obtain ⟨h1, f, h2, h3⟩ := H
  exact ⟨hset_eq _ _ _, f, (hset_ne _ _ (by decide)).trans h2, h3⟩
theorem V_next (hL : L.length ≤ 80) (hp : p ≤ 1000) (H : LetA h L (p : Int)) (hd : 1 ≤ d) (hq : ∀ h', LetA h' L ((p + 1 : Nat) : Int) → Fr h h' P17 → Q (some (.inl (ltr L p))) h') : MW d 0 0 mX5_next [.inr 17] h Q := by
  obtain ⟨h1, -⟩ := id H
  show AW d 0 0 mX5_next Q 0 [some (.inr 17), none] [] h
  refine AW.aload_n dX5_next_0 rfl ?_
  refine AW.cI1 (d' := d - 1) (cX5_29 rfl) okX5_here dX5_next_1 (by repeat (first | assumption | exact hset_eq _ _ _ | refine (hset_ne _ _ (by omega)).trans ?_)) (by omega) (V_here hL H ?_)
  refine AW.ist1 dX5_next_4 (by decide) ?_
  refine AW.aload_n dX5_next_5 rfl ?_
  refine AW.dup dX5_next_6 ?_
  refine AW.getf dX5_next_7 gX5_19 (by repeat (first | assumption | exact hset_eq _ _ _ | refine (hset_ne _ _ (by omega)).trans ?_)) rfl ?_
  refine AW.iconst dX5_next_10 ?_
  refine AW.iaddR dX5_next_11 (by unfold RI; omega) ?_
  refine AW.putf dX5_next_12 pX5_19 (by repeat (first | assumption | exact hset_eq _ _ _ | refine (hset_ne _ _ (by omega)).trans ?_)) trivial ?_
  refine AW.iload_n dX5_next_15 rfl ?_
  refine AW.ireturn dX5_next_16 rfl ?_
  exact hq _ H.up (Fr.set rfl)
theorem V_nextDigit (hL : L.length ≤ 80) (hb : ∀ x ∈ L, 0 ≤ x ∧ x ≤ 255) (hp : p ≤ 1000) (H : LetA h L (p : Int)) (hd : 2 ≤ d) (hq : ∀ h', LetA h' L ((p + 1 : Nat) : Int) → Fr h h' P17 → Q (some (.inl (ltr L p - 48))) h') : MW d 0 0 mX5_nextDigit [.inr 17] h Q := by
  obtain ⟨h1, -⟩ := id H
  have := ltr_b (p := p) hb
  show AW d 0 0 mX5_nextDigit Q 0 [some (.inr 17)] [] h
  refine AW.aload_n dX5_nextDigit_0 rfl ?_
  refine AW.cI1 (d' := d - 1) (cX5_33 rfl) okX5_next dX5_nextDigit_1 (by repeat (first | assumption | exact hset_eq _ _ _ | refine (hset_ne _ _ (by omega)).trans ?_)) (by omega) (V_next hL hp H (by omega) (fun h2 H2 F2 => ?_))
  refine AW.bipush dX5_nextDigit_4 ?_
  refine AW.isubR dX5_nextDigit_6 (by unfold RI; omega) ?_
  refine AW.ireturn dX5_nextDigit_7 rfl ?_
  exact hq h2 H2 F2
theorem V_nextName (hL : L.length ≤ 80) (hb : ∀ x ∈ L, 0 ≤ x ∧ x ≤ 255) (hp : p ≤ 1000) (H : LetA h L (p : Int)) (hd : 2 ≤ d) (hq : ∀ h', LetA h' L ((p + 1 : Nat) : Int) → Fr h h' P17 → Q (some (.inl (ltr L p - 65))) h') : MW d 0 0 mX5_nextName [.inr 17] h Q := by
  obtain ⟨h1, -⟩ := id H
  have := ltr_b (p := p) hb
  show AW d 0 0 mX5_nextName Q 0 [some (.inr 17)] [] h
  refine AW.aload_n dX5_nextName_0 rfl ?_
  refine AW.cI1 (d' := d - 1) (cX5_33 rfl) okX5_next dX5_nextName_1 (by repeat (first | assumption | exact hset_eq _ _ _ | refine (hset_ne _ _ (by omega)).trans ?_)) (by omega) (V_next hL hp H (by omega) (fun h2 H2 F2 => ?_))
  refine AW.bipush dX5_nextName_4 ?_
  refine AW.isubR dX5_nextName_6 (by unfold RI; omega) ?_
  refine AW.ireturn dX5_nextName_7 rfl ?_
  exact hq h2 H2 F2
theorem V_within (hL : L.length ≤ 80) (hp : p ≤ 1000) (H : LetA h L (p : Int)) (hd : 1 ≤ d) (hq1 : x ≤ ltr L p → ltr L p ≤ y → ∀ h', LetA h' L ((p + 1 : Nat) : Int) → Fr h h' P17 → Q (some (.inl 1)) h') (hq0 : ¬ (x ≤ ltr L p ∧ ltr L p ≤ y) → Q (some (.inl 0)) h) : MW d 0 0 mX5_passWithin [.inr 17, .inl x, .inl y] h Q := by
  obtain ⟨h1, -⟩ := id H
  show AW d 0 0 mX5_passWithin Q 0 [some (.inr 17), some (.inl x), some (.inl y), none] [] h
  refine AW.aload_n dX5_passWithin_0 rfl ?_
  refine AW.cI1 (d' := d - 1) (cX5_29 rfl) okX5_here dX5_passWithin_1 (by repeat (first | assumption | exact hset_eq _ _ _ | refine (hset_ne _ _ (by omega)).trans ?_)) (by omega) (V_here hL H ?_)
  refine AW.ist3 dX5_passWithin_4 (by decide) ?_
  refine AW.iload_n dX5_passWithin_5 rfl ?_
  refine AW.iload_n dX5_passWithin_6 rfl ?_
  refine AW.if_icmplt (tgt := 15) dX5_passWithin_7 (by decide) (fun c7 => ?_) (fun c7 => ?_)
  · refine AW.iconst dX5_passWithin_15 ?_
    refine AW.zreturn dX5_passWithin_16 rfl (Or.inl rfl) ?_
    first
      | exact hq0 (by omega)
      | exact hq1 (by omega) (by omega) _ H.up (Fr.set rfl)
  · refine AW.iload_n dX5_passWithin_10 rfl ?_
    refine AW.iload_n dX5_passWithin_11 rfl ?_
    refine AW.if_icmple (tgt := 17) dX5_passWithin_12 (by decide) (fun c12 => ?_) (fun c12 => ?_)
    · refine AW.aload_n dX5_passWithin_17 rfl ?_
      refine AW.dup dX5_passWithin_18 ?_
      refine AW.getf dX5_passWithin_19 gX5_19 (by repeat (first | assumption | exact hset_eq _ _ _ | refine (hset_ne _ _ (by omega)).trans ?_)) rfl ?_
      refine AW.iconst dX5_passWithin_22 ?_
      refine AW.iaddR dX5_passWithin_23 (by unfold RI; omega) ?_
      refine AW.putf dX5_passWithin_24 pX5_19 (by repeat (first | assumption | exact hset_eq _ _ _ | refine (hset_ne _ _ (by omega)).trans ?_)) trivial ?_
      refine AW.iconst dX5_passWithin_27 ?_
      refine AW.zreturn dX5_passWithin_28 rfl (Or.inr rfl) ?_
      first
        | exact hq0 (by omega)
        | exact hq1 (by omega) (by omega) _ H.up (Fr.set rfl)
    · refine AW.iconst dX5_passWithin_15 ?_
      refine AW.zreturn dX5_passWithin_16 rfl (Or.inl rfl) ?_
      first
        | exact hq0 (by omega)
        | exact hq1 (by omega) (by omega) _ H.up (Fr.set rfl)
theorem LC_pass {p0 : Nat} (hL : L.length ≤ 80) (hd : 1 ≤ d) (f1 : ∀ h', (sayP L 20 1 p0).1 = true → LetA h' L ((sayP L 20 1 p0).2.1 : Int) → Fr h h' P17 → Q (some (.inl 1)) h') (f0 : ∀ h', (sayP L 20 1 p0).1 = false → LetA h' L ((sayP L 20 1 p0).2.1 : Int) → Fr h h' P17 → Q (some (.inl 0)) h') :
    ∀ (r n k p : Nat) (h1 : AH) (z : Option AV), n + r = 20 → k ≤ n + 1 → p ≤ 80 + n → LetA h1 L (p : Int) → Fr h h1 P17 → (sayP L r k p).1 = (sayP L 20 1 p0).1 → (sayP L r k p).2.1 = (sayP L 20 1 p0).2.1 →
      AW d 0 0 mX5_passSaying Q 4 [some (.inr 17), some (.inl (k : Int)), some (.inl (n : Int)), z] [] h1 := by
  intro r
  induction r with
  | zero =>
    intro n k p h1 z hn hk hp H F e1 e2
    obtain rfl : n = 20 := by omega
    obtain ⟨g17, -⟩ := id H
    cases k with
    | zero =>
      rw [sayP_0] at e1 e2
      refine AW.iload_n dX5_passSaying_4 rfl ?_
      refine AW.bipush dX5_passSaying_5 ?_
      refine AW.if_icmpge (tgt := 50) dX5_passSaying_7 (by decide) (fun c7 => ?_) (fun c7 => absurd c7 (by decide))
      refine AW.iload_n dX5_passSaying_50 rfl ?_
      refine AW.ifne (tgt := 58) dX5_passSaying_51 (by decide) (fun c51 => absurd c51 (by decide)) (fun c51 => ?_)
      refine AW.iconst dX5_passSaying_54 ?_
      refine AW.goto (tgt := 59) dX5_passSaying_55 (by decide) ?_
      refine AW.zreturn dX5_passSaying_59 rfl (Or.inr rfl) ?_
      exact f1 h1 e1.symm (by rw [← e2]; exact H) F
    | succ k =>
      have e3 : sayP L 0 (k + 1) p = (false, p, []) := rfl
      rw [e3] at e1 e2
      refine AW.iload_n dX5_passSaying_4 rfl ?_
      refine AW.bipush dX5_passSaying_5 ?_
      refine AW.if_icmpge (tgt := 50) dX5_passSaying_7 (by decide) (fun c7 => ?_) (fun c7 => absurd c7 (by decide))
      refine AW.iload_n dX5_passSaying_50 rfl ?_
      refine AW.ifne (tgt := 58) dX5_passSaying_51 (by decide) (fun c51 => ?_) (fun c51 => absurd c51 (by omega))
      refine AW.iconst dX5_passSaying_58 ?_
      refine AW.zreturn dX5_passSaying_59 rfl (Or.inl rfl) ?_
      exact f0 h1 e1.symm (by rw [← e2]; exact H) F
  | succ r ih =>
    intro n k p h1 z hn hk hp H F e1 e2
    obtain ⟨g17, -⟩ := id H
    cases k with
    | zero =>
      rw [sayP_0] at e1 e2
      refine AW.iload_n dX5_passSaying_4 rfl ?_
      refine AW.bipush dX5_passSaying_5 ?_
      refine AW.if_icmpge (tgt := 50) dX5_passSaying_7 (by decide) (fun c7 => absurd c7 (by omega)) (fun c7 => ?_)
      refine AW.iload_n dX5_passSaying_10 rfl ?_
      refine AW.ifle (tgt := 50) dX5_passSaying_11 (by decide) (fun c11 => ?_) (fun c11 => absurd c11 (by decide))
      refine AW.iload_n dX5_passSaying_50 rfl ?_
      refine AW.ifne (tgt := 58) dX5_passSaying_51 (by decide) (fun c51 => absurd c51 (by decide)) (fun c51 => ?_)
      refine AW.iconst dX5_passSaying_54 ?_
      refine AW.goto (tgt := 59) dX5_passSaying_55 (by decide) ?_
      refine AW.zreturn dX5_passSaying_59 rfl (Or.inr rfl) ?_
      exact f1 h1 e1.symm (by rw [← e2]; exact H) F
    | succ k =>
      refine AW.iload_n dX5_passSaying_4 rfl ?_
      refine AW.bipush dX5_passSaying_5 ?_
      refine AW.if_icmpge (tgt := 50) dX5_passSaying_7 (by decide) (fun c7 => absurd c7 (by omega)) (fun c7 => ?_)
      refine AW.iload_n dX5_passSaying_10 rfl ?_
      refine AW.ifle (tgt := 50) dX5_passSaying_11 (by decide) (fun c11 => absurd c11 (by omega)) (fun c11 => ?_)
      refine AW.aload_n dX5_passSaying_14 rfl ?_
      refine AW.cI1 (d' := d - 1) (cX5_29 rfl) okX5_here dX5_passSaying_15 (by repeat (first | assumption | exact hset_eq _ _ _ | refine (hset_ne _ _ (by omega)).trans ?_)) (by omega) (V_here hL H ?_)
      refine AW.cS1 (d' := d - 1) (cX5_45 rfl) okX7_partsOf dX5_passSaying_18 (by omega) (W_partsOf ?_)
      by_cases q : wdO (ltr L p) < 0
      · have ep : ptL (ltr L p) = -1 := if_pos q
        rw [sayP_n q] at e1 e2
        rw [ep]
        refine AW.ist3 dX5_passSaying_21 (by decide) ?_
        refine AW.iload_n dX5_passSaying_22 rfl ?_
        refine AW.ifge (tgt := 28) dX5_passSaying_23 (by decide) (fun c23 => absurd c23 (by decide)) (fun c23 => ?_)
        refine AW.iconst dX5_passSaying_26 ?_
        refine AW.zreturn dX5_passSaying_27 rfl (Or.inl rfl) ?_
        exact f0 h1 e1.symm (by rw [← e2]; exact H) F
      · have ep : ptL (ltr L p) = (ptW (wdO (ltr L p)).toNat : Int) := if_neg q
        have pw := ptW_le (wdO (ltr L p)).toNat
        rw [sayP_s q] at e1 e2
        rw [ep]
        refine AW.ist3 dX5_passSaying_21 (by decide) ?_
        refine AW.iload_n dX5_passSaying_22 rfl ?_
        refine AW.ifge (tgt := 28) dX5_passSaying_23 (by decide) (fun c23 => ?_) (fun c23 => absurd c23 (by omega))
        refine AW.iload_n dX5_passSaying_28 rfl ?_
        refine AW.iload_n dX5_passSaying_29 rfl ?_
        refine AW.iconst dX5_passSaying_30 ?_
        refine AW.isubR dX5_passSaying_31 (by unfold RI; omega) ?_
        refine AW.iaddR dX5_passSaying_32 (by unfold RI; omega) ?_
        refine AW.ist1 dX5_passSaying_33 (by decide) ?_
        refine AW.aload_n dX5_passSaying_34 rfl ?_
        refine AW.dup dX5_passSaying_35 ?_
        refine AW.getf dX5_passSaying_36 gX5_19 (by repeat (first | assumption | exact hset_eq _ _ _ | refine (hset_ne _ _ (by omega)).trans ?_)) rfl ?_
        refine AW.iconst dX5_passSaying_39 ?_
        refine AW.iaddR dX5_passSaying_40 (by unfold RI; omega) ?_
        refine AW.putf dX5_passSaying_41 pX5_19 (by repeat (first | assumption | exact hset_eq _ _ _ | refine (hset_ne _ _ (by omega)).trans ?_)) trivial ?_
        refine AW.inc2 dX5_passSaying_44 (by decide) (by unfold RI; omega) ?_
        refine AW.goto (tgt := 4) dX5_passSaying_47 (by decide) ?_
        rw [show ((k + 1 : Nat) : Int) + ((ptW (wdO (ltr L p)).toNat : Int) - 1) = ((k + ptW (wdO (ltr L p)).toNat : Nat) : Int) by omega]
        exact ih (n + 1) _ (p + 1) _ _ (by omega) (by omega) (by omega) H.up (F.trans (Fr.set rfl)) e1 e2
theorem V_passSaying (hL : L.length ≤ 80) (hp : p ≤ 80) (H : LetA h L (p : Int)) (hd : 1 ≤ d) (f1 : ∀ h', (sayP L 20 1 p).1 = true → LetA h' L ((sayP L 20 1 p).2.1 : Int) → Fr h h' P17 → Q (some (.inl 1)) h') (f0 : ∀ h', (sayP L 20 1 p).1 = false → LetA h' L ((sayP L 20 1 p).2.1 : Int) → Fr h h' P17 → Q (some (.inl 0)) h') : MW d 0 0 mX5_passSaying [.inr 17] h Q := by
  show AW d 0 0 mX5_passSaying Q 0 [some (.inr 17), none, none, none] [] h
  refine AW.iconst dX5_passSaying_0 ?_
  refine AW.ist1 dX5_passSaying_1 (by decide) ?_
  refine AW.iconst dX5_passSaying_2 ?_
  refine AW.ist2 dX5_passSaying_3 (by decide) ?_
  exact LC_pass hL hd f1 f0 20 0 1 p h _ (by omega) (by omega) (by omega) H Fr.rfl' rfl rfl
theorem stP_115 (e : ltr L p = 115) : stP L p = if ¬ (48 ≤ ltr L (p + 1) ∧ ltr L (p + 1) ≤ 57) then badP (p + 1) else if ¬ (48 ≤ ltr L (p + 2) ∧ ltr L (p + 2) ≤ 57) then badP (p + 2) else endP L (p + 3) (115, p, ltr L (p + 1) - 48, ltr L (p + 2) - 48, []) := by
  have hl : isLt (ltr L p) := Or.inl e
  have er : raP L (ltr L p) (p + 1) = (if ¬ (48 ≤ ltr L (p + 1) ∧ ltr L (p + 1) ≤ 57) then badP (p + 1) else if ¬ (48 ≤ ltr L (p + 2) ∧ ltr L (p + 2) ≤ 57) then badP (p + 2) else (true, p + 3, 115, p, ltr L (p + 1) - 48, ltr L (p + 2) - 48, [])) := by
    unfold raP
    rw [if_pos e]
    rfl
  by_cases a : 48 ≤ ltr L (p + 1) ∧ ltr L (p + 1) ≤ 57
  · by_cases b : 48 ≤ ltr L (p + 2) ∧ ltr L (p + 2) ≤ 57
    · rw [if_neg (not_not_intro a), if_neg (not_not_intro b)] at er ⊢
      rw [stP_t hl (by rw [er]), er]
    · rw [if_neg (not_not_intro a), if_pos b] at er ⊢
      rw [stP_f hl (by rw [er]; rfl), er]
      rfl
  · rw [if_pos a] at er ⊢
    rw [stP_f hl (by rw [er]; rfl), er]
    rfl
theorem stP_108 (e : ltr L p = 108) : stP L p = if ¬ (48 ≤ ltr L (p + 1) ∧ ltr L (p + 1) ≤ 57) then badP (p + 1) else if ¬ (65 ≤ ltr L (p + 2) ∧ ltr L (p + 2) ≤ 68) then badP (p + 2) else endP L (p + 3) (108, p, ltr L (p + 1) - 48, ltr L (p + 2) - 65, []) := by
  have hl : isLt (ltr L p) := Or.inr (Or.inr (Or.inr e))
  have er : raP L (ltr L p) (p + 1) = (if ¬ (48 ≤ ltr L (p + 1) ∧ ltr L (p + 1) ≤ 57) then badP (p + 1) else if ¬ (65 ≤ ltr L (p + 2) ∧ ltr L (p + 2) ≤ 68) then badP (p + 2) else (true, p + 3, 108, p, ltr L (p + 1) - 48, ltr L (p + 2) - 65, [])) := by
    unfold raP
    rw [if_neg (by omega), if_neg (by omega), if_neg (by omega)]
    rfl
  by_cases a : 48 ≤ ltr L (p + 1) ∧ ltr L (p + 1) ≤ 57
  · by_cases b : 65 ≤ ltr L (p + 2) ∧ ltr L (p + 2) ≤ 68
    · rw [if_neg (not_not_intro a), if_neg (not_not_intro b)] at er ⊢
      rw [stP_t hl (by rw [er]), er]
    · rw [if_neg (not_not_intro a), if_pos b] at er ⊢
      rw [stP_f hl (by rw [er]; rfl), er]
      rfl
  · rw [if_pos a] at er ⊢
    rw [stP_f hl (by rw [er]; rfl), er]
    rfl
theorem stP_104 (e : ltr L p = 104) : stP L p = if (sayP L 20 1 (p + 1)).1 = true then endP L (sayP L 20 1 (p + 1)).2.1 (104, p, 0, 0, (sayP L 20 1 (p + 1)).2.2) else badP (sayP L 20 1 (p + 1)).2.1 := by
  have hl : isLt (ltr L p) := Or.inr (Or.inl e)
  have er : raP L (ltr L p) (p + 1) = ((sayP L 20 1 (p + 1)).1, (sayP L 20 1 (p + 1)).2.1, 104, p, 0, 0, (sayP L 20 1 (p + 1)).2.2) := by
    unfold raP
    rw [if_neg (by omega), if_pos e]
    rfl
  by_cases a : (sayP L 20 1 (p + 1)).1 = true
  · rw [if_pos a, stP_t hl (by rw [er]; exact a), er]
  · rw [if_neg a, stP_f hl (by rw [er]; simpa using a), er]
theorem stP_99 (e : ltr L p = 99) : stP L p = if ¬ (65 ≤ ltr L (p + 1) ∧ ltr L (p + 1) ≤ 68) then badP (p + 1) else if (sayP L 20 1 (p + 2)).1 = true then endP L (sayP L 20 1 (p + 2)).2.1 (99, p, ltr L (p + 1) - 65, 0, (sayP L 20 1 (p + 2)).2.2) else badP (sayP L 20 1 (p + 2)).2.1 := by
  have hl : isLt (ltr L p) := Or.inr (Or.inr (Or.inl e))
  have er : raP L (ltr L p) (p + 1) = if ¬ (65 ≤ ltr L (p + 1) ∧ ltr L (p + 1) ≤ 68) then badP (p + 1) else ((sayP L 20 1 (p + 2)).1, (sayP L 20 1 (p + 2)).2.1, 99, p, ltr L (p + 1) - 65, 0, (sayP L 20 1 (p + 2)).2.2) := by
    unfold raP
    rw [if_neg (by omega), if_neg (by omega), if_pos e]
    rfl
  by_cases b : 65 ≤ ltr L (p + 1) ∧ ltr L (p + 1) ≤ 68
  · rw [if_neg (not_not_intro b)] at er ⊢
    by_cases a : (sayP L 20 1 (p + 2)).1 = true
    · rw [if_pos a, stP_t hl (by rw [er]; exact a), er]
    · rw [if_neg a, stP_f hl (by rw [er]; simpa using a), er]
  · rw [if_pos b] at er ⊢
    rw [stP_f hl (by rw [er]; rfl), er]
    rfl
end Lets

