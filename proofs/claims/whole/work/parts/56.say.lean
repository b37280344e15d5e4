/-- how many parts a letter has; -1: it is no word -/
def ptL (x : Int) : Int := if wdO x < 0 then -1 else (ptW (wdO x).toNat : Int)
theorem wdO_LETT : ∀ w : Nat, w ≤ 9 → wdO (LETT w) = (w : Int) := by decide
theorem ptL_LETT {w : Nat} (h : w ≤ 9) : ptL (LETT w) = (ptW w : Int) := by
  unfold ptL
  rw [wdO_LETT w h, if_neg (by omega)]
  rfl
theorem LETT_b : ∀ w : Nat, w ≤ 9 → 0 ≤ LETT w ∧ LETT w ≤ 255 := by decide
section Say
variable {d : Nat} {Q : Option AV → AH → Prop} {h : AH} {b c : Nat} {x : Int} {ws us : List Nat} {w : Nat}
theorem W_partsOf (hq : Q (some (.inl (ptL x))) h) : MW d 0 0 mX7_partsOf [.inl x] h Q := by
  have e : ∀ v, ptL x = v → Q (some (.inl v)) h := fun v hv => hv ▸ hq
  show AW d 0 0 mX7_partsOf Q 0 [some (.inl x)] [] h
  refine AW.iload_n dX7_partsOf_0 rfl ?_
  refine AW.lk dX7_partsOf_1 (by decide) 98 (by decide) (List.forall_mem_cons.mpr ⟨fun c1 => ?_, (List.forall_mem_cons.mpr ⟨fun c1 => ?_, (List.forall_mem_cons.mpr ⟨fun c1 => ?_, (List.forall_mem_cons.mpr ⟨fun c1 => ?_, (List.forall_mem_cons.mpr ⟨fun c1 => ?_, (List.forall_mem_cons.mpr ⟨fun c1 => ?_, (List.forall_mem_cons.mpr ⟨fun c1 => ?_, (List.forall_mem_cons.mpr ⟨fun c1 => ?_, (List.forall_mem_cons.mpr ⟨fun c1 => ?_, (List.forall_mem_cons.mpr ⟨fun c1 => ?_, (fun q hq => nomatch hq)⟩)⟩)⟩)⟩)⟩)⟩)⟩)⟩)⟩)⟩) (fun c1 => ?_)
  · dsimp only at c1
    show AW _ _ _ _ _ 92 _ _ _
    refine AW.iconst dX7_partsOf_92 ?_
    refine AW.ireturn dX7_partsOf_93 rfl ?_
    refine e _ ?_
    first
      | (subst c1; decide)
      | (obtain ⟨z1, z2, z3, z4, z5, z6, z7, z8, z9, z10, -⟩ := c1
         unfold ptL
         rw [if_pos]
         unfold wdO
         rw [if_neg (by omega), if_neg (by omega), if_neg (by omega), if_neg (by omega), if_neg (by omega), if_neg (by omega), if_neg (by omega)]
         decide)
  · dsimp only at c1
    show AW _ _ _ _ _ 92 _ _ _
    refine AW.iconst dX7_partsOf_92 ?_
    refine AW.ireturn dX7_partsOf_93 rfl ?_
    refine e _ ?_
    first
      | (subst c1; decide)
      | (obtain ⟨z1, z2, z3, z4, z5, z6, z7, z8, z9, z10, -⟩ := c1
         unfold ptL
         rw [if_pos]
         unfold wdO
         rw [if_neg (by omega), if_neg (by omega), if_neg (by omega), if_neg (by omega), if_neg (by omega), if_neg (by omega), if_neg (by omega)]
         decide)
  · dsimp only at c1
    show AW _ _ _ _ _ 92 _ _ _
    refine AW.iconst dX7_partsOf_92 ?_
    refine AW.ireturn dX7_partsOf_93 rfl ?_
    refine e _ ?_
    first
      | (subst c1; decide)
      | (obtain ⟨z1, z2, z3, z4, z5, z6, z7, z8, z9, z10, -⟩ := c1
         unfold ptL
         rw [if_pos]
         unfold wdO
         rw [if_neg (by omega), if_neg (by omega), if_neg (by omega), if_neg (by omega), if_neg (by omega), if_neg (by omega), if_neg (by omega)]
         decide)
  · dsimp only at c1
    show AW _ _ _ _ _ 92 _ _ _
    refine AW.iconst dX7_partsOf_92 ?_
    refine AW.ireturn dX7_partsOf_93 rfl ?_
    refine e _ ?_
    first
      | (subst c1; decide)
      | (obtain ⟨z1, z2, z3, z4, z5, z6, z7, z8, z9, z10, -⟩ := c1
         unfold ptL
         rw [if_pos]
         unfold wdO
         rw [if_neg (by omega), if_neg (by omega), if_neg (by omega), if_neg (by omega), if_neg (by omega), if_neg (by omega), if_neg (by omega)]
         decide)
  · dsimp only at c1
    show AW _ _ _ _ _ 96 _ _ _
    refine AW.iconst dX7_partsOf_96 ?_
    refine AW.ireturn dX7_partsOf_97 rfl ?_
    refine e _ ?_
    first
      | (subst c1; decide)
      | (obtain ⟨z1, z2, z3, z4, z5, z6, z7, z8, z9, z10, -⟩ := c1
         unfold ptL
         rw [if_pos]
         unfold wdO
         rw [if_neg (by omega), if_neg (by omega), if_neg (by omega), if_neg (by omega), if_neg (by omega), if_neg (by omega), if_neg (by omega)]
         decide)
  · dsimp only at c1
    show AW _ _ _ _ _ 94 _ _ _
    refine AW.iconst dX7_partsOf_94 ?_
    refine AW.ireturn dX7_partsOf_95 rfl ?_
    refine e _ ?_
    first
      | (subst c1; decide)
      | (obtain ⟨z1, z2, z3, z4, z5, z6, z7, z8, z9, z10, -⟩ := c1
         unfold ptL
         rw [if_pos]
         unfold wdO
         rw [if_neg (by omega), if_neg (by omega), if_neg (by omega), if_neg (by omega), if_neg (by omega), if_neg (by omega), if_neg (by omega)]
         decide)
  · dsimp only at c1
    show AW _ _ _ _ _ 96 _ _ _
    refine AW.iconst dX7_partsOf_96 ?_
    refine AW.ireturn dX7_partsOf_97 rfl ?_
    refine e _ ?_
    first
      | (subst c1; decide)
      | (obtain ⟨z1, z2, z3, z4, z5, z6, z7, z8, z9, z10, -⟩ := c1
         unfold ptL
         rw [if_pos]
         unfold wdO
         rw [if_neg (by omega), if_neg (by omega), if_neg (by omega), if_neg (by omega), if_neg (by omega), if_neg (by omega), if_neg (by omega)]
         decide)
  · dsimp only at c1
    show AW _ _ _ _ _ 92 _ _ _
    refine AW.iconst dX7_partsOf_92 ?_
    refine AW.ireturn dX7_partsOf_93 rfl ?_
    refine e _ ?_
    first
      | (subst c1; decide)
      | (obtain ⟨z1, z2, z3, z4, z5, z6, z7, z8, z9, z10, -⟩ := c1
         unfold ptL
         rw [if_pos]
         unfold wdO
         rw [if_neg (by omega), if_neg (by omega), if_neg (by omega), if_neg (by omega), if_neg (by omega), if_neg (by omega), if_neg (by omega)]
         decide)
  · dsimp only at c1
    show AW _ _ _ _ _ 92 _ _ _
    refine AW.iconst dX7_partsOf_92 ?_
    refine AW.ireturn dX7_partsOf_93 rfl ?_
    refine e _ ?_
    first
      | (subst c1; decide)
      | (obtain ⟨z1, z2, z3, z4, z5, z6, z7, z8, z9, z10, -⟩ := c1
         unfold ptL
         rw [if_pos]
         unfold wdO
         rw [if_neg (by omega), if_neg (by omega), if_neg (by omega), if_neg (by omega), if_neg (by omega), if_neg (by omega), if_neg (by omega)]
         decide)
  · dsimp only at c1
    show AW _ _ _ _ _ 92 _ _ _
    refine AW.iconst dX7_partsOf_92 ?_
    refine AW.ireturn dX7_partsOf_93 rfl ?_
    refine e _ ?_
    first
      | (subst c1; decide)
      | (obtain ⟨z1, z2, z3, z4, z5, z6, z7, z8, z9, z10, -⟩ := c1
         unfold ptL
         rw [if_pos]
         unfold wdO
         rw [if_neg (by omega), if_neg (by omega), if_neg (by omega), if_neg (by omega), if_neg (by omega), if_neg (by omega), if_neg (by omega)]
         decide)
  · dsimp only [lkall] at c1
    refine AW.iconst dX7_partsOf_98 ?_
    refine AW.ireturn dX7_partsOf_99 rfl ?_
    refine e _ ?_
    first
      | (subst c1; decide)
      | (obtain ⟨z1, z2, z3, z4, z5, z6, z7, z8, z9, z10, -⟩ := c1
         unfold ptL
         rw [if_pos]
         unfold wdO
         rw [if_neg (by omega), if_neg (by omega), if_neg (by omega), if_neg (by omega), if_neg (by omega), if_neg (by omega), if_neg (by omega)]
         decide)
theorem ptW_le (w : Nat) : ptW w ≤ 2 := by
  unfold ptW
  repeat' split
  all_goals omega
def PB (b : Nat) (a : Nat) : Prop := a = b ∨ a = b + 1
theorem W_add (h16 : 16 ≤ b) (H : SyA h b ws) (h20 : ws.length < 20) (hw : w ≤ 9) (hq : ∀ h', SyA h' b (ws ++ [w]) → Fr h h' (PB b) → Q none h') : MW d 0 0 mX7_add [.inr b, .inl (LETT w)] h Q := by
  obtain ⟨f, h1, h2, h3, h4, h5⟩ := H
  show AW d 0 0 mX7_add Q 0 [some (.inr b), some (.inl (LETT w))] [] h
  refine AW.aload_n dX7_add_0 rfl ?_
  refine AW.getf dX7_add_1 gX7_15 (by repeat (first | assumption | exact hset_eq _ _ _ | refine (hset_ne _ _ (by omega)).trans ?_)) rfl ?_
  refine AW.bipush dX7_add_4 ?_
  refine AW.if_icmpge (tgt := 29) dX7_add_6 (by decide) (fun c6 => absurd c6 (by omega)) (fun c6 => ?_)
  refine AW.aload_n dX7_add_9 rfl ?_
  refine AW.getf dX7_add_10 gX7_9 (by repeat (first | assumption | exact hset_eq _ _ _ | refine (hset_ne _ _ (by omega)).trans ?_)) rfl ?_
  refine AW.aload_n dX7_add_13 rfl ?_
  refine AW.getf dX7_add_14 gX7_15 (by repeat (first | assumption | exact hset_eq _ _ _ | refine (hset_ne _ _ (by omega)).trans ?_)) rfl ?_
  refine AW.iload_n dX7_add_17 rfl ?_
  refine AW.iastore dX7_add_18 (by omega) (by repeat (first | assumption | exact hset_eq _ _ _ | refine (hset_ne _ _ (by omega)).trans ?_)) (by omega) (by omega) ?_
  refine AW.aload_n dX7_add_19 rfl ?_
  refine AW.dup dX7_add_20 ?_
  refine AW.getf dX7_add_21 gX7_15 (by repeat (first | assumption | exact hset_eq _ _ _ | refine (hset_ne _ _ (by omega)).trans ?_)) rfl ?_
  refine AW.iconst dX7_add_24 ?_
  refine AW.iaddR dX7_add_25 (by unfold RI; omega) ?_
  refine AW.putf dX7_add_26 pX7_15 (by repeat (first | assumption | exact hset_eq _ _ _ | refine (hset_ne _ _ (by omega)).trans ?_)) trivial ?_
  refine AW.vreturn dX7_add_29 rfl ?_
  refine hq _ ⟨updI f ws.length (LETT w), ?_, ?_, ?_, ?_, fun j u hj => ?_⟩ ?_
  · rw [hset_eq, List.length_append, List.length_singleton]
    rfl
  · rw [hset_ne _ _ (by omega), show (ws.length : Int).toNat = ws.length by omega]
    exact hset_eq _ _ _
  · rw [List.length_append, List.length_singleton]; omega
  · intro u hu
    rcases List.mem_append.mp hu with q | q
    · exact h4 u q
    · rw [List.mem_singleton.mp q]; exact hw
  · rcases Nat.lt_or_ge j ws.length with q | q
    · rw [List.getElem?_append_left q] at hj
      rw [updI_ne _ _ (by omega)]
      exact h5 j u hj
    · rw [List.getElem?_append_right q] at hj
      have h7 := (List.getElem?_eq_some_iff.mp hj).1
      simp only [List.length_singleton] at h7
      rw [show j - ws.length = 0 by omega] at hj
      cases hj
      rw [show j = ws.length by omega, updI_eq]
  · exact Fr.trans (Fr.set (Or.inr rfl)) (Fr.set (Or.inl rfl))
theorem L_addFrom {i0 j : Nat} (h16 : 16 ≤ b) (hbc : b + 1 < c ∨ c + 1 < b) (hd : 1 ≤ d) (hj : j ≤ us.length)
    (hq : ∀ h', SyA h' b (ws ++ (us.take j).drop i0) → Fr h h' (PB b) → Q none h') (hfit : ws.length + (j - i0) ≤ 20) (hcs : c + 2 ≤ 16 + h.1) (hc : SyA h c us) :
    ∀ (r i : Nat) (h' : AH), i + r = j → i0 ≤ i → SyA h' b (ws ++ (us.take i).drop i0) → Fr h h' (PB b) →
      AW d 0 0 mX7_addFrom Q 3 [some (.inr b), some (.inr c), some (.inl (i0 : Int)), some (.inl (j : Int)), some (.inl (i : Int))] [] h' := by
  intro r
  induction r with
  | zero =>
    intro i h' hi hi0 H F
    rw [show i = j by omega] at H ⊢
    refine AW.iload dX7_addFrom_3 rfl ?_
    refine AW.iload_n dX7_addFrom_5 rfl ?_
    refine AW.if_icmpge (tgt := 35) dX7_addFrom_6 (by decide) (fun c6 => ?_) (fun c6 => absurd c6 (by omega))
    refine AW.vreturn dX7_addFrom_35 rfl ?_
    exact hq h' H F
  | succ r ih =>
    intro i h' hi hi0 H F
    have hc' : SyA h' c us := hc.fr F (by omega) (by unfold PB; omega)
    obtain ⟨f, e1, e2, e3, e4, e5⟩ := id hc'
    obtain ⟨w, hw⟩ : ∃ w, us[i]? = some w := ⟨_, List.getElem?_eq_getElem (by omega)⟩
    have ew : f ((i : Int)).toNat = LETT w := by rw [show ((i : Int)).toNat = i by omega]; exact e5 i w hw
    have hwm : w ≤ 9 := e4 w (List.mem_of_getElem? hw)
    have etk : us.take (i + 1) = us.take i ++ [w] := by rw [List.take_add_one, hw]; rfl
    have el : (us.take i).length = i := by rw [List.length_take]; omega
    have edr : (us.take (i + 1)).drop i0 = (us.take i).drop i0 ++ [w] := by rw [etk, List.drop_append_of_le_length (by omega)]
    obtain ⟨fb, b1, b2, -⟩ := id H
    refine AW.iload dX7_addFrom_3 rfl ?_
    refine AW.iload_n dX7_addFrom_5 rfl ?_
    refine AW.if_icmpge (tgt := 35) dX7_addFrom_6 (by decide) (fun c6 => absurd c6 (by omega)) (fun c6 => ?_)
    refine AW.iload dX7_addFrom_9 rfl ?_
    refine AW.aload_n dX7_addFrom_11 rfl ?_
    refine AW.getf dX7_addFrom_12 gX7_15 (by repeat (first | assumption | exact hset_eq _ _ _ | refine (hset_ne _ _ (by omega)).trans ?_)) rfl ?_
    refine AW.if_icmpge (tgt := 35) dX7_addFrom_15 (by decide) (fun c15 => absurd c15 (by omega)) (fun c15 => ?_)
    refine AW.aload_n dX7_addFrom_18 rfl ?_
    refine AW.aload_n dX7_addFrom_19 rfl ?_
    refine AW.getf dX7_addFrom_20 gX7_9 (by repeat (first | assumption | exact hset_eq _ _ _ | refine (hset_ne _ _ (by omega)).trans ?_)) rfl ?_
    refine AW.iload dX7_addFrom_23 rfl ?_
    refine AW.iaload dX7_addFrom_25 (by repeat (first | assumption | exact hset_eq _ _ _ | refine (hset_ne _ _ (by omega)).trans ?_)) (by omega) (by omega) ?_
    rw [ew]
    refine AW.cI2 (d' := d - 1) (cX7_27 rfl) okX7_add dX7_addFrom_26 (by repeat (first | assumption | exact hset_eq _ _ _ | refine (hset_ne _ _ (by omega)).trans ?_)) (by omega) (W_add h16 H (by rw [List.length_append, List.length_drop, el]; omega) hwm (fun h2 H2 F2 => ?_))
    refine AW.inc4 dX7_addFrom_29 (by decide) (by unfold RI; omega) ?_
    refine AW.goto (tgt := 3) dX7_addFrom_32 (by decide) ?_
    refine ih (i + 1) h2 (by omega) (by omega) ?_ (F.trans F2)
    rw [edr, ← List.append_assoc]
    exact H2
theorem W_addFrom {i j : Nat} (h16 : 16 ≤ b) (hbc : b + 1 < c ∨ c + 1 < b) (hd : 1 ≤ d) (hij : i ≤ j) (hj : j ≤ us.length) (hfit : ws.length + (j - i) ≤ 20) (hcs : c + 2 ≤ 16 + h.1) (hb : SyA h b ws) (hc : SyA h c us)
    (hq : ∀ h', SyA h' b (ws ++ (us.take j).drop i) → Fr h h' (PB b) → Q none h') : MW d 0 0 mX7_addFrom [.inr b, .inr c, .inl (i : Int), .inl (j : Int)] h Q := by
  show AW d 0 0 mX7_addFrom Q 0 [some (.inr b), some (.inr c), some (.inl (i : Int)), some (.inl (j : Int)), none] [] h
  refine AW.iload_n dX7_addFrom_0 rfl ?_
  refine AW.ist4 dX7_addFrom_1 (by decide) ?_
  refine L_addFrom h16 hbc hd hj hq hfit hcs hc (j - i) i h (by omega) (Nat.le_refl _) ?_ Fr.rfl'
  rw [List.drop_of_length_le (by rw [List.length_take]; omega), List.append_nil]
  exact hb
theorem SyR.zero (hb : SyR h b) : ∀ vs, h.2 b = .inl (8, vs) → SyA (hset h b (.inl (7 + 1, vs.set 1 (.inl 0)))) b [] := by
  intro vs hv
  obtain ⟨n, f, h1, h2⟩ := hb
  rw [h1] at hv
  cases hv
  exact ⟨f, hset_eq _ _ _, (hset_ne _ _ (by omega)).trans h2, Nat.zero_le _, fun w hw => by simp at hw, fun j w hj => by simp at hj⟩
theorem W_copy (h16 : 16 ≤ b) (hbc : b + 1 < c ∨ c + 1 < b) (hd : 2 ≤ d) (hcs : c + 2 ≤ 16 + h.1) (hb : SyR h b) (hc : SyA h c us)
    (hq : ∀ h', SyA h' b us → Fr h h' (PB b) → Q none h') : MW d 0 0 mX7_copy [.inr b, .inr c] h Q := by
  obtain ⟨n, f, h1, h2⟩ := id hb
  have hz := hb.zero _ h1
  have F0 : Fr h (hset h b (.inl (7 + 1, [.inr (b + 1), .inl 0]))) (PB b) := Fr.set (Or.inl rfl)
  have hc1 := hc.fr F0 (by omega) (by unfold PB; omega)
  obtain ⟨f2, k1, k2, k3, -⟩ := id hc1
  obtain ⟨fz, z1, -⟩ := id hz
  show AW d 0 0 mX7_copy Q 0 [some (.inr b), some (.inr c)] [] h
  refine AW.aload_n dX7_copy_0 rfl ?_
  refine AW.iconst dX7_copy_1 ?_
  refine AW.putf dX7_copy_2 pX7_15 (by repeat (first | assumption | exact hset_eq _ _ _ | refine (hset_ne _ _ (by omega)).trans ?_)) trivial ?_
  refine AW.aload_n dX7_copy_5 rfl ?_
  refine AW.aload_n dX7_copy_6 rfl ?_
  refine AW.iconst dX7_copy_7 ?_
  refine AW.aload_n dX7_copy_8 rfl ?_
  refine AW.getf dX7_copy_9 gX7_15 k1 rfl ?_
  refine AW.cI4 (d' := d - 1) (cX7_19 rfl) okX7_addFrom dX7_copy_12 z1 (by omega) (W_addFrom (i := 0) h16 hbc (by omega) (Nat.zero_le _) (Nat.le_refl _) (by simp; omega) hcs hz hc1 (fun h3 H3 F3 => ?_))
  refine AW.vreturn dX7_copy_15 rfl ?_
  rw [List.take_of_length_le (Nat.le_refl _), List.drop_zero, List.nil_append] at H3
  exact hq h3 H3 (F0.trans F3)
end Say

