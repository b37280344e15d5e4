section Mod2
variable {d : Nat} {Q : Option AV → AH → Prop} {h h0 : AH} {m : Nat → Int} {A : Nat → Nat → Int} {who x y : Int}
def kkM (A : Nat → Nat → Int) (who : Int) : Int := if who < 0 then 0 else A 118 who.toNat
def ggM (A : Nat → Nat → Int) (who : Int) : Int := if who < 0 then 0 else A 119 who.toNat
def lbM (A : Nat → Nat → Int) (who : Int) : Int := if who < 0 then 15 else A 120 who.toNat
def nmM (A : Nat → Nat → Int) (who : Int) (n : Nat) : Int := if a_and (a_shr (lbM A who) n) 1 = 1 ∧ 0 ≤ A 121 n then A 121 n else 0
def lfM (A : Nat → Nat → Int) (who : Int) (w : Nat) : Int := if w = 0 then 170 else if w = 1 then 204 else if w = 2 then 240 else nmM A who (w - 3)
theorem W_kindOf (hM : MR h0 h m A) (hw : who < 6) (hq : Q (some (.inl (kkM A who))) h) : MW d 0 0 mX12_kindOf [.inr 116, .inl who] h Q := by
  obtain ⟨g116, g117, g118, -⟩ := id hM
  unfold kkM at hq
  show AW d 0 0 mX12_kindOf Q 0 [some (.inr 116), some (.inl who)] [] h
  refine AW.iload_n dX12_kindOf_0 rfl ?_
  refine AW.ifge (tgt := 8) dX12_kindOf_1 (by decide) (fun c1 => ?_) (fun c1 => ?_)
  · refine AW.aload_n dX12_kindOf_8 rfl ?_
    refine AW.getf dX12_kindOf_9 gX12_13 (by repeat (first | assumption | exact hset_eq _ _ _ | refine (hset_ne _ _ (by omega)).trans ?_)) rfl ?_
    refine AW.iload_n dX12_kindOf_12 rfl ?_
    refine AW.iaload dX12_kindOf_13 (by repeat (first | assumption | exact hset_eq _ _ _ | refine (hset_ne _ _ (by omega)).trans ?_)) (by omega) (by omega) ?_
    refine AW.ireturn dX12_kindOf_14 rfl ?_
    first | (rw [if_neg (by omega)] at hq; exact hq) | (rw [if_pos (by omega)] at hq; exact hq)
  · refine AW.iconst dX12_kindOf_4 ?_
    refine AW.goto (tgt := 14) dX12_kindOf_5 (by decide) ?_
    refine AW.ireturn dX12_kindOf_14 rfl ?_
    first | (rw [if_neg (by omega)] at hq; exact hq) | (rw [if_pos (by omega)] at hq; exact hq)
theorem W_learntBy (hM : MR h0 h m A) (hw : who < 6) (hq : Q (some (.inl (lbM A who))) h) : MW d 0 0 mX12_learntBy [.inr 116, .inl who] h Q := by
  obtain ⟨g116, g117, g118, g119, g120, -⟩ := id hM
  unfold lbM at hq
  show AW d 0 0 mX12_learntBy Q 0 [some (.inr 116), some (.inl who)] [] h
  refine AW.iload_n dX12_learntBy_0 rfl ?_
  refine AW.ifge (tgt := 9) dX12_learntBy_1 (by decide) (fun c1 => ?_) (fun c1 => ?_)
  · refine AW.aload_n dX12_learntBy_9 rfl ?_
    refine AW.getf dX12_learntBy_10 gX12_19 (by repeat (first | assumption | exact hset_eq _ _ _ | refine (hset_ne _ _ (by omega)).trans ?_)) rfl ?_
    refine AW.iload_n dX12_learntBy_13 rfl ?_
    refine AW.iaload dX12_learntBy_14 (by repeat (first | assumption | exact hset_eq _ _ _ | refine (hset_ne _ _ (by omega)).trans ?_)) (by omega) (by omega) ?_
    refine AW.ireturn dX12_learntBy_15 rfl ?_
    first | (rw [if_neg (by omega)] at hq; exact hq) | (rw [if_pos (by omega)] at hq; exact hq)
  · refine AW.bipush dX12_learntBy_4 ?_
    refine AW.goto (tgt := 15) dX12_learntBy_6 (by decide) ?_
    refine AW.ireturn dX12_learntBy_15 rfl ?_
    first | (rw [if_neg (by omega)] at hq; exact hq) | (rw [if_pos (by omega)] at hq; exact hq)
theorem W_worldOf (hM : MR h0 h m A) (hw : who < 6) (hw0 : 0 ≤ who) (hq : Q (some (.inl (wd (ggM A who)))) h) : MW d 0 0 mX12_worldOf [.inr 116, .inl who] h Q := by
  obtain ⟨g116, g117, g118, g119, -⟩ := id hM
  unfold ggM at hq
  rw [if_neg (by omega)] at hq
  show AW d 0 0 mX12_worldOf Q 0 [some (.inr 116), some (.inl who)] [] h
  refine AW.iload_n dX12_worldOf_0 rfl ?_
  refine AW.ifge (tgt := 8) dX12_worldOf_1 (by decide) (fun c1 => ?_) (fun c1 => ?_)
  · refine AW.iconst dX12_worldOf_8 ?_
    refine AW.aload_n dX12_worldOf_9 rfl ?_
    refine AW.getf dX12_worldOf_10 gX12_16 (by repeat (first | assumption | exact hset_eq _ _ _ | refine (hset_ne _ _ (by omega)).trans ?_)) rfl ?_
    refine AW.iload_n dX12_worldOf_13 rfl ?_
    refine AW.iaload dX12_worldOf_14 (by repeat (first | assumption | exact hset_eq _ _ _ | refine (hset_ne _ _ (by omega)).trans ?_)) (by omega) (by omega) ?_
    refine AW.bipush dX12_worldOf_15 ?_
    refine AW.irem dX12_worldOf_17 (by decide) ?_
    refine AW.ishl dX12_worldOf_18 ?_
    refine AW.ireturn dX12_worldOf_19 rfl ?_
    first | exact hq | exact absurd hw0 (by assumption)
  · refine AW.iconst dX12_worldOf_4 ?_
    refine AW.goto (tgt := 19) dX12_worldOf_5 (by decide) ?_
    refine AW.ireturn dX12_worldOf_19 rfl ?_
    first | exact hq | exact absurd hw0 (by assumption)
theorem W_notOf (hM : MR h0 h m A) (hd : 1 ≤ d) (hw : who < 6) (hq : Q (some (.inl (notF (kkM A who) (ggM A who) x))) h) : MW d 0 0 mX12_notOf [.inr 116, .inl who, .inl x] h Q := by
  obtain ⟨g116, -⟩ := id hM
  unfold notF at hq
  have hk : who < 0 → kkM A who = 0 := fun q => if_pos q
  show AW d 0 0 mX12_notOf Q 0 [some (.inr 116), some (.inl who), some (.inl x), none] [] h
  refine AW.aload_n dX12_notOf_0 rfl ?_
  refine AW.iload_n dX12_notOf_1 rfl ?_
  refine AW.cI2 (d' := d - 1) (cX12_158 rfl) okX12_kindOf dX12_notOf_2 (by repeat (first | assumption | exact hset_eq _ _ _ | refine (hset_ne _ _ (by omega)).trans ?_)) (by omega) (W_kindOf (by assumption) (by omega) ?_)
  refine AW.ist3 dX12_notOf_5 (by decide) ?_
  refine AW.iload_n dX12_notOf_6 rfl ?_
  refine AW.iconst dX12_notOf_7 ?_
  refine AW.if_icmpne (tgt := 15) dX12_notOf_8 (by decide) (fun c8 => ?_) (fun c8 => ?_)
  · refine AW.iload_n dX12_notOf_15 rfl ?_
    refine AW.iconst dX12_notOf_16 ?_
    refine AW.if_icmpne (tgt := 32) dX12_notOf_17 (by decide) (fun c17 => ?_) (fun c17 => ?_)
    · refine AW.sipush dX12_notOf_32 ?_
      refine AW.iload_n dX12_notOf_35 rfl ?_
      refine AW.iconst dX12_notOf_36 ?_
      refine AW.ixor dX12_notOf_37 ?_
      refine AW.iand dX12_notOf_38 ?_
      refine AW.ireturn dX12_notOf_39 rfl ?_
      first | (rw [if_pos (by omega)] at hq; exact hq) | (rw [if_neg (by omega), if_pos (by omega)] at hq; exact hq) | (rw [if_neg (by omega), if_neg (by omega)] at hq; exact hq)
    · refine AW.iload_n dX12_notOf_20 rfl ?_
      refine AW.aload_n dX12_notOf_21 rfl ?_
      refine AW.iload_n dX12_notOf_22 rfl ?_
      refine AW.cI2 (d' := d - 1) (cX12_161 rfl) okX12_worldOf dX12_notOf_23 (by repeat (first | assumption | exact hset_eq _ _ _ | refine (hset_ne _ _ (by omega)).trans ?_)) (by omega) (W_worldOf (by assumption) (by omega) (by omega) ?_)
      refine AW.iconst dX12_notOf_26 ?_
      refine AW.ixor dX12_notOf_27 ?_
      refine AW.iand dX12_notOf_28 ?_
      refine AW.goto (tgt := 39) dX12_notOf_29 (by decide) ?_
      refine AW.ireturn dX12_notOf_39 rfl ?_
      first | (rw [if_pos (by omega)] at hq; exact hq) | (rw [if_neg (by omega), if_pos (by omega)] at hq; exact hq) | (rw [if_neg (by omega), if_neg (by omega)] at hq; exact hq)
  · refine AW.iload_n dX12_notOf_11 rfl ?_
    refine AW.goto (tgt := 39) dX12_notOf_12 (by decide) ?_
    refine AW.ireturn dX12_notOf_39 rfl ?_
    first | (rw [if_pos (by omega)] at hq; exact hq) | (rw [if_neg (by omega), if_pos (by omega)] at hq; exact hq) | (rw [if_neg (by omega), if_neg (by omega)] at hq; exact hq)
theorem W_andOf (hM : MR h0 h m A) (hd : 1 ≤ d) (hw : who < 6) (hq : Q (some (.inl (andF (kkM A who) x y))) h) : MW d 0 0 mX12_andOf [.inr 116, .inl who, .inl x, .inl y] h Q := by
  obtain ⟨g116, -⟩ := id hM
  unfold andF at hq
  show AW d 0 0 mX12_andOf Q 0 [some (.inr 116), some (.inl who), some (.inl x), some (.inl y)] [] h
  refine AW.aload_n dX12_andOf_0 rfl ?_
  refine AW.iload_n dX12_andOf_1 rfl ?_
  refine AW.cI2 (d' := d - 1) (cX12_158 rfl) okX12_kindOf dX12_andOf_2 (by repeat (first | assumption | exact hset_eq _ _ _ | refine (hset_ne _ _ (by omega)).trans ?_)) (by omega) (W_kindOf (by assumption) (by omega) ?_)
  refine AW.iconst dX12_andOf_5 ?_
  refine AW.if_icmpne (tgt := 17) dX12_andOf_6 (by decide) (fun c6 => ?_) (fun c6 => ?_)
  · refine AW.iload_n dX12_andOf_17 rfl ?_
    refine AW.iload_n dX12_andOf_18 rfl ?_
    refine AW.iand dX12_andOf_19 ?_
    refine AW.ireturn dX12_andOf_20 rfl ?_
    first | (rw [if_pos (by omega)] at hq; exact hq) | (rw [if_neg (by omega)] at hq; exact hq)
  · refine AW.iload_n dX12_andOf_9 rfl ?_
    refine AW.iload_n dX12_andOf_10 rfl ?_
    refine AW.iconst dX12_andOf_11 ?_
    refine AW.ixor dX12_andOf_12 ?_
    refine AW.iand dX12_andOf_13 ?_
    refine AW.goto (tgt := 20) dX12_andOf_14 (by decide) ?_
    refine AW.ireturn dX12_andOf_20 rfl ?_
    first | (rw [if_pos (by omega)] at hq; exact hq) | (rw [if_neg (by omega)] at hq; exact hq)
theorem W_orOf (hM : MR h0 h m A) (hd : 1 ≤ d) (hw : who < 6) (hq : Q (some (.inl (orF (kkM A who) (ggM A who) x y))) h) : MW d 0 0 mX12_orOf [.inr 116, .inl who, .inl x, .inl y] h Q := by
  obtain ⟨g116, -⟩ := id hM
  unfold orF at hq
  have hk : who < 0 → kkM A who = 0 := fun q => if_pos q
  show AW d 0 0 mX12_orOf Q 0 [some (.inr 116), some (.inl who), some (.inl x), some (.inl y), none] [] h
  refine AW.aload_n dX12_orOf_0 rfl ?_
  refine AW.iload_n dX12_orOf_1 rfl ?_
  refine AW.cI2 (d' := d - 1) (cX12_158 rfl) okX12_kindOf dX12_orOf_2 (by repeat (first | assumption | exact hset_eq _ _ _ | refine (hset_ne _ _ (by omega)).trans ?_)) (by omega) (W_kindOf (by assumption) (by omega) ?_)
  refine AW.ist4 dX12_orOf_5 (by decide) ?_
  refine AW.iload dX12_orOf_7 rfl ?_
  refine AW.iconst dX12_orOf_9 ?_
  refine AW.if_icmpne (tgt := 19) dX12_orOf_10 (by decide) (fun c10 => ?_) (fun c10 => ?_)
  · refine AW.iload dX12_orOf_19 rfl ?_
    refine AW.iconst dX12_orOf_21 ?_
    refine AW.if_icmpne (tgt := 37) dX12_orOf_22 (by decide) (fun c22 => ?_) (fun c22 => ?_)
    · refine AW.iload_n dX12_orOf_37 rfl ?_
      refine AW.iload_n dX12_orOf_38 rfl ?_
      refine AW.ior dX12_orOf_39 ?_
      refine AW.ireturn dX12_orOf_40 rfl ?_
      first | (rw [if_pos (by omega)] at hq; exact hq) | (rw [if_neg (by omega), if_pos (by omega)] at hq; exact hq) | (rw [if_neg (by omega), if_neg (by omega)] at hq; exact hq)
    · refine AW.iload_n dX12_orOf_25 rfl ?_
      refine AW.iload_n dX12_orOf_26 rfl ?_
      refine AW.ixor dX12_orOf_27 ?_
      refine AW.aload_n dX12_orOf_28 rfl ?_
      refine AW.iload_n dX12_orOf_29 rfl ?_
      refine AW.cI2 (d' := d - 1) (cX12_161 rfl) okX12_worldOf dX12_orOf_30 (by repeat (first | assumption | exact hset_eq _ _ _ | refine (hset_ne _ _ (by omega)).trans ?_)) (by omega) (W_worldOf (by assumption) (by omega) (by omega) ?_)
      refine AW.ior dX12_orOf_33 ?_
      refine AW.goto (tgt := 40) dX12_orOf_34 (by decide) ?_
      refine AW.ireturn dX12_orOf_40 rfl ?_
      first | (rw [if_pos (by omega)] at hq; exact hq) | (rw [if_neg (by omega), if_pos (by omega)] at hq; exact hq) | (rw [if_neg (by omega), if_neg (by omega)] at hq; exact hq)
  · refine AW.iload_n dX12_orOf_13 rfl ?_
    refine AW.iload_n dX12_orOf_14 rfl ?_
    refine AW.ixor dX12_orOf_15 ?_
    refine AW.goto (tgt := 40) dX12_orOf_16 (by decide) ?_
    refine AW.ireturn dX12_orOf_40 rfl ?_
    first | (rw [if_pos (by omega)] at hq; exact hq) | (rw [if_neg (by omega), if_pos (by omega)] at hq; exact hq) | (rw [if_neg (by omega), if_neg (by omega)] at hq; exact hq)
theorem W_nameTo (hM : MR h0 h m A) (hd : 1 ≤ d) (hw : who < 6) (h1 : 0 ≤ x) (h2 : x < 4) (hq : Q (some (.inl (nmM A who x.toNat))) h) : MW d 0 0 mX12_nameTo [.inr 116, .inl who, .inl x] h Q := by
  obtain ⟨g116, g117, g118, g119, g120, g121, -⟩ := id hM
  unfold nmM at hq
  rw [show ((x.toNat : Nat) : Int) = x by omega] at hq
  show AW d 0 0 mX12_nameTo Q 0 [some (.inr 116), some (.inl who), some (.inl x)] [] h
  refine AW.aload_n dX12_nameTo_0 rfl ?_
  refine AW.iload_n dX12_nameTo_1 rfl ?_
  refine AW.cI2 (d' := d - 1) (cX12_164 rfl) okX12_learntBy dX12_nameTo_2 (by repeat (first | assumption | exact hset_eq _ _ _ | refine (hset_ne _ _ (by omega)).trans ?_)) (by omega) (W_learntBy (by assumption) (by omega) ?_)
  refine AW.iload_n dX12_nameTo_5 rfl ?_
  refine AW.ishr dX12_nameTo_6 ?_
  refine AW.iconst dX12_nameTo_7 ?_
  refine AW.iand dX12_nameTo_8 ?_
  refine AW.iconst dX12_nameTo_9 ?_
  refine AW.if_icmpne (tgt := 31) dX12_nameTo_10 (by decide) (fun c10 => ?_) (fun c10 => ?_)
  · refine AW.iconst dX12_nameTo_31 ?_
    refine AW.ireturn dX12_nameTo_32 rfl ?_
    first | (rw [if_pos ⟨by assumption, by omega⟩] at hq; exact hq) | (rw [if_neg (fun q => by first | exact absurd q.1 (by assumption) | (have := q.2; omega))] at hq; exact hq)
  · refine AW.aload_n dX12_nameTo_13 rfl ?_
    refine AW.getf dX12_nameTo_14 gX12_22 (by repeat (first | assumption | exact hset_eq _ _ _ | refine (hset_ne _ _ (by omega)).trans ?_)) rfl ?_
    refine AW.iload_n dX12_nameTo_17 rfl ?_
    refine AW.iaload dX12_nameTo_18 (by repeat (first | assumption | exact hset_eq _ _ _ | refine (hset_ne _ _ (by omega)).trans ?_)) (by omega) (by omega) ?_
    refine AW.iflt (tgt := 31) dX12_nameTo_19 (by decide) (fun c19 => ?_) (fun c19 => ?_)
    · refine AW.iconst dX12_nameTo_31 ?_
      refine AW.ireturn dX12_nameTo_32 rfl ?_
      first | (rw [if_pos ⟨by assumption, by omega⟩] at hq; exact hq) | (rw [if_neg (fun q => by first | exact absurd q.1 (by assumption) | (have := q.2; omega))] at hq; exact hq)
    · refine AW.aload_n dX12_nameTo_22 rfl ?_
      refine AW.getf dX12_nameTo_23 gX12_22 (by repeat (first | assumption | exact hset_eq _ _ _ | refine (hset_ne _ _ (by omega)).trans ?_)) rfl ?_
      refine AW.iload_n dX12_nameTo_26 rfl ?_
      refine AW.iaload dX12_nameTo_27 (by repeat (first | assumption | exact hset_eq _ _ _ | refine (hset_ne _ _ (by omega)).trans ?_)) (by omega) (by omega) ?_
      refine AW.goto (tgt := 32) dX12_nameTo_28 (by decide) ?_
      refine AW.ireturn dX12_nameTo_32 rfl ?_
      first | (rw [if_pos ⟨by assumption, by omega⟩] at hq; exact hq) | (rw [if_neg (fun q => by first | exact absurd q.1 (by assumption) | (have := q.2; omega))] at hq; exact hq)
theorem W_factOrName (hM : MR h0 h m A) (hd : 2 ≤ d) (hw : who < 6) (h1 : 0 ≤ x) (h2 : x < 7) (hq : Q (some (.inl (lfM A who x.toNat))) h) : MW d 0 0 mX12_factOrName [.inr 116, .inl who, .inl x] h Q := by
  obtain ⟨g116, -⟩ := id hM
  unfold lfM at hq
  show AW d 0 0 mX12_factOrName Q 0 [some (.inr 116), some (.inl who), some (.inl x)] [] h
  refine AW.iload_n dX12_factOrName_0 rfl ?_
  refine AW.ifne (tgt := 10) dX12_factOrName_1 (by decide) (fun c1 => ?_) (fun c1 => ?_)
  · refine AW.iload_n dX12_factOrName_10 rfl ?_
    refine AW.iconst dX12_factOrName_11 ?_
    refine AW.if_icmpne (tgt := 21) dX12_factOrName_12 (by decide) (fun c12 => ?_) (fun c12 => ?_)
    · refine AW.iload_n dX12_factOrName_21 rfl ?_
      refine AW.iconst dX12_factOrName_22 ?_
      refine AW.if_icmpne (tgt := 32) dX12_factOrName_23 (by decide) (fun c23 => ?_) (fun c23 => ?_)
      · refine AW.aload_n dX12_factOrName_32 rfl ?_
        refine AW.iload_n dX12_factOrName_33 rfl ?_
        refine AW.iload_n dX12_factOrName_34 rfl ?_
        refine AW.iconst dX12_factOrName_35 ?_
        refine AW.isubR dX12_factOrName_36 (by unfold RI; omega) ?_
        refine AW.cI3 (d' := d - 1) (cX12_167 rfl) okX12_nameTo dX12_factOrName_37 (by repeat (first | assumption | exact hset_eq _ _ _ | refine (hset_ne _ _ (by omega)).trans ?_)) (by omega) (W_nameTo (by assumption) (by omega) (by omega) (by omega) (by omega) ?_)
        refine AW.ireturn dX12_factOrName_40 rfl ?_
        first | (rw [if_pos (by omega)] at hq; exact hq) | (rw [if_neg (by omega), if_pos (by omega)] at hq; exact hq) | (rw [if_neg (by omega), if_neg (by omega), if_pos (by omega)] at hq; exact hq) | (rw [if_neg (by omega), if_neg (by omega), if_neg (by omega), show x.toNat - 3 = (x - 3).toNat by omega] at hq; exact hq)
      · refine AW.sipush dX12_factOrName_26 ?_
        refine AW.goto (tgt := 40) dX12_factOrName_29 (by decide) ?_
        refine AW.ireturn dX12_factOrName_40 rfl ?_
        first | (rw [if_pos (by omega)] at hq; exact hq) | (rw [if_neg (by omega), if_pos (by omega)] at hq; exact hq) | (rw [if_neg (by omega), if_neg (by omega), if_pos (by omega)] at hq; exact hq) | (rw [if_neg (by omega), if_neg (by omega), if_neg (by omega), show x.toNat - 3 = (x - 3).toNat by omega] at hq; exact hq)
    · refine AW.sipush dX12_factOrName_15 ?_
      refine AW.goto (tgt := 40) dX12_factOrName_18 (by decide) ?_
      refine AW.ireturn dX12_factOrName_40 rfl ?_
      first | (rw [if_pos (by omega)] at hq; exact hq) | (rw [if_neg (by omega), if_pos (by omega)] at hq; exact hq) | (rw [if_neg (by omega), if_neg (by omega), if_pos (by omega)] at hq; exact hq) | (rw [if_neg (by omega), if_neg (by omega), if_neg (by omega), show x.toNat - 3 = (x - 3).toNat by omega] at hq; exact hq)
  · refine AW.sipush dX12_factOrName_4 ?_
    refine AW.goto (tgt := 40) dX12_factOrName_7 (by decide) ?_
    refine AW.ireturn dX12_factOrName_40 rfl ?_
    first | (rw [if_pos (by omega)] at hq; exact hq) | (rw [if_neg (by omega), if_pos (by omega)] at hq; exact hq) | (rw [if_neg (by omega), if_neg (by omega), if_pos (by omega)] at hq; exact hq) | (rw [if_neg (by omega), if_neg (by omega), if_neg (by omega), show x.toNat - 3 = (x - 3).toNat by omega] at hq; exact hq)
theorem M_congr {B : Nat → Nat → Int} (hB : ∀ k, k ≠ 132 → B k = A k) (who : Int) : kkM B who = kkM A who ∧ ggM B who = ggM A who ∧ lfM B who = lfM A who := by
  have e1 := hB 118 (by decide)
  have e2 := hB 119 (by decide)
  have e3 := hB 120 (by decide)
  have e4 := hB 121 (by decide)
  refine ⟨by simp only [kkM, e1], by simp only [ggM, e2], ?_⟩
  funext w
  unfold lfM nmM lbM
  rw [e3, e4]
set_option maxHeartbeats 4000000 in
theorem L_conc {ws : List Nat} (hd : 3 ≤ d) (hw : who < 6) (hws : ∀ (i w : Nat), ws[i]? = some w → A 131 i = (w : Int)) (wf : hgt ws = some 1) (hl : ws.length ≤ 20)
    (hq : ∀ h' B, MR h0 h' m B → (∀ k, k ≠ 132 → B k = A k) → Q (some (.inl (concF (kkM A who) (ggM A who) (lfM A who) ws))) h') :
    ∀ (k n : Nat) (h : AH) (B : Nat → Nat → Int) (z : Option AV), k ≤ ws.length → MR h0 h m B → (∀ j, j ≠ 132 → B j = A j) → hgt (ws.drop k) = some n → PR (B 132) (evF (kkM A who) (ggM A who) (lfM A who) (ws.drop k)) →
      AW d 0 0 mX12_concluded Q 9 [some (.inr 116), some (.inl who), some (.inl (n : Int)), some (.inl ((k : Int) - 1)), z] [] h := by
  intro k
  induction k with
  | zero =>
    intro n h B z hk hM hB hn hP
    obtain ⟨g116, g117, g118, g119, g120, g121, g122, g123, g124, g125, g126, g127, g128, g129, g130, g131, g132, -⟩ := id hM
    rw [List.drop_zero] at hP hn
    have he := evF_len (k := kkM A who) (g := ggM A who) (lf := lfM A who) wf
    refine AW.iload_n dX12_concluded_9 rfl ?_
    refine AW.iflt (tgt := 147) dX12_concluded_10 (by decide) (fun c10 => ?_) (fun c10 => absurd c10 (by omega))
    refine AW.aload_n dX12_concluded_147 rfl ?_
    refine AW.getf dX12_concluded_148 gX12_55 (by repeat (first | assumption | exact hset_eq _ _ _ | refine (hset_ne _ _ (by omega)).trans ?_)) rfl ?_
    refine AW.iconst dX12_concluded_151 ?_
    refine AW.iaload dX12_concluded_152 (by repeat (first | assumption | exact hset_eq _ _ _ | refine (hset_ne _ _ (by omega)).trans ?_)) (by omega) (by omega) ?_
    refine AW.ireturn dX12_concluded_153 rfl ?_
    have h1 := hq h B hM hB
    unfold concF at h1
    generalize evF (kkM A who) (ggM A who) (lfM A who) ws = l at hP he h1
    match l, he with
    | [v], _ =>
      have h2 := hP.top
      simp only [List.length_nil] at h2
      simp only [List.headD_cons] at h1
      rw [← h2] at h1
      exact h1
  | succ k ih =>
    intro n h B z hk hM hB hn hP
    obtain ⟨g116, g117, g118, g119, g120, g121, g122, g123, g124, g125, g126, g127, g128, g129, g130, g131, g132, -⟩ := id hM
    obtain ⟨w, hwk⟩ : ∃ w, ws[k]? = some w := ⟨_, List.getElem?_eq_getElem (by omega)⟩
    have hdr := drop_cons hwk
    obtain ⟨n', hn'⟩ := hgt_drop wf k
    have hnl := hgt_le hn
    have hnl2 : n ≤ 19 := by rw [List.length_drop] at hnl; omega
    rw [hdr] at hn'
    obtain ⟨n2, hn2, hcase⟩ := hgt_tail hn'
    cases hn.symm.trans hn2
    have hlen := evF_len (k := kkM A who) (g := ggM A who) (lf := lfM A who) hn
    have hbw : B 131 k = (w : Int) := by rw [hB 131 (by decide)]; exact hws k w hwk
    obtain ⟨ck, cg, cl⟩ := M_congr hB who
    have hkn : (((k + 1 : Nat) : Int) - 1).toNat = k := by omega
    have fin : ∀ (h' : AH) (f : Nat → Int) (z' : Option AV), MR h0 h' m (updA B 132 f) → PR f (stepF (kkM A who) (ggM A who) (lfM A who) w (evF (kkM A who) (ggM A who) (lfM A who) (ws.drop (k + 1)))) → AW d 0 0 mX12_concluded Q 9 [some (.inr 116), some (.inl who), some (.inl (n' : Int)), some (.inl ((k : Int) - 1)), z'] [] h' := by
      intro h' f z' hM' hP'
      refine ih n' h' (updA B 132 f) z' (by omega) hM' (fun j hj => by rw [updA_ne _ _ hj]; exact hB j hj) (by rw [hdr]; exact hn') ?_
      rw [updA_eq, hdr, evF_cons]
      exact hP'
    generalize hle : evF (kkM A who) (ggM A who) (lfM A who) (ws.drop (k + 1)) = l at hP hlen fin
    have hj : B 131 (((k + 1 : Nat) : Int) - 1).toNat = (w : Int) := by rw [hkn]; exact hbw
    refine AW.iload_n dX12_concluded_9 rfl ?_
    refine AW.iflt (tgt := 147) dX12_concluded_10 (by decide) (fun c10 => absurd c10 (by omega)) (fun c10 => ?_)
    refine AW.aload_n dX12_concluded_13 rfl ?_
    refine AW.getf dX12_concluded_14 gX12_52 (by repeat (first | assumption | exact hset_eq _ _ _ | refine (hset_ne _ _ (by omega)).trans ?_)) rfl ?_
    refine AW.iload_n dX12_concluded_17 rfl ?_
    refine AW.iaload dX12_concluded_18 (by repeat (first | assumption | exact hset_eq _ _ _ | refine (hset_ne _ _ (by omega)).trans ?_)) (by omega) (by omega) ?_
    rw [hj]
    refine AW.ist4 dX12_concluded_19 (by decide) ?_
    rw [show ((k : Int) - 1) = ((k + 1 : Nat) : Int) - 1 + -1 by omega] at fin
    rcases hcase with ⟨hw7, hn1⟩ | ⟨hw7, hn1, hn3⟩ | ⟨hw7, hn1, hn3⟩
    · rw [show ((n' : Nat) : Int) = (n : Int) + 1 by omega] at fin
      refine AW.iload dX12_concluded_21 rfl ?_
      refine AW.bipush dX12_concluded_23 ?_
      refine AW.if_icmpge (tgt := 47) dX12_concluded_25 (by decide) (fun c25 => absurd c25 (by omega)) (fun c25 => ?_)
      refine AW.aload_n dX12_concluded_28 rfl ?_
      refine AW.getf dX12_concluded_29 gX12_55 (by repeat (first | assumption | exact hset_eq _ _ _ | refine (hset_ne _ _ (by omega)).trans ?_)) rfl ?_
      refine AW.iload_n dX12_concluded_32 rfl ?_
      refine AW.aload_n dX12_concluded_33 rfl ?_
      refine AW.iload_n dX12_concluded_34 rfl ?_
      refine AW.iload dX12_concluded_35 rfl ?_
      refine AW.cI3 (d' := d - 1) (cX12_171 rfl) okX12_factOrName dX12_concluded_37 (by repeat (first | assumption | exact hset_eq _ _ _ | refine (hset_ne _ _ (by omega)).trans ?_)) (by omega) (W_factOrName (by assumption) (by omega) (by omega) (by omega) (by omega) ?_)
      refine AW.iastore dX12_concluded_40 (by omega) (by repeat (first | assumption | exact hset_eq _ _ _ | refine (hset_ne _ _ (by omega)).trans ?_)) (by omega) (by omega) ?_
      refine AW.inc2 dX12_concluded_41 (by decide) (by unfold RI; omega) ?_
      refine AW.goto (tgt := 141) dX12_concluded_44 (by decide) ?_
      refine AW.inc3 dX12_concluded_141 (by decide) (by unfold RI; omega) ?_
      refine AW.goto (tgt := 9) dX12_concluded_144 (by decide) ?_
      refine fin _ _ _ (MR.s132 hM) ?_
      unfold stepF
      rw [if_pos hw7, show lfM B who (w : Int).toNat = lfM A who w by rw [cl]; rfl]
      exact hP.cons_at _ (by omega)
    · rw [show ((n' : Nat) : Int) = (n : Int) by omega] at fin
      match l, hlen, hP, fin with
      | v :: t, hlen, hP, fin =>
        have htop := hP.top
        simp only [List.length_cons] at hlen
        refine AW.iload dX12_concluded_21 rfl ?_
        refine AW.bipush dX12_concluded_23 ?_
        refine AW.if_icmpge (tgt := 47) dX12_concluded_25 (by decide) (fun c25 => ?_) (fun c25 => absurd c25 (by omega))
        refine AW.iload dX12_concluded_47 rfl ?_
        refine AW.bipush dX12_concluded_49 ?_
        refine AW.if_icmpne (tgt := 78) dX12_concluded_51 (by decide) (fun c51 => absurd (show (w : Int) = 7 by omega) c51) (fun c51 => ?_)
        refine AW.aload_n dX12_concluded_54 rfl ?_
        refine AW.getf dX12_concluded_55 gX12_55 (by repeat (first | assumption | exact hset_eq _ _ _ | refine (hset_ne _ _ (by omega)).trans ?_)) rfl ?_
        refine AW.iload_n dX12_concluded_58 rfl ?_
        refine AW.iconst dX12_concluded_59 ?_
        refine AW.isubR dX12_concluded_60 (by unfold RI; omega) ?_
        refine AW.aload_n dX12_concluded_61 rfl ?_
        refine AW.iload_n dX12_concluded_62 rfl ?_
        refine AW.aload_n dX12_concluded_63 rfl ?_
        refine AW.getf dX12_concluded_64 gX12_55 (by repeat (first | assumption | exact hset_eq _ _ _ | refine (hset_ne _ _ (by omega)).trans ?_)) rfl ?_
        refine AW.iload_n dX12_concluded_67 rfl ?_
        refine AW.iconst dX12_concluded_68 ?_
        refine AW.isubR dX12_concluded_69 (by unfold RI; omega) ?_
        refine AW.iaload dX12_concluded_70 (by repeat (first | assumption | exact hset_eq _ _ _ | refine (hset_ne _ _ (by omega)).trans ?_)) (by omega) (by omega) ?_
        refine AW.cI3 (d' := d - 1) (cX12_174 rfl) okX12_notOf dX12_concluded_71 (by repeat (first | assumption | exact hset_eq _ _ _ | refine (hset_ne _ _ (by omega)).trans ?_)) (by omega) (W_notOf (by assumption) (by omega) (by omega) ?_)
        refine AW.iastore dX12_concluded_74 (by omega) (by repeat (first | assumption | exact hset_eq _ _ _ | refine (hset_ne _ _ (by omega)).trans ?_)) (by omega) (by omega) ?_
        refine AW.goto (tgt := 141) dX12_concluded_75 (by decide) ?_
        refine AW.inc3 dX12_concluded_141 (by decide) (by unfold RI; omega) ?_
        refine AW.goto (tgt := 9) dX12_concluded_144 (by decide) ?_
        refine fin _ _ _ (MR.s132 hM) ?_
        unfold stepF
        rw [if_neg (by omega), if_pos hw7]
        have e1 : ((n : Int) - 1).toNat = t.length := by omega
        rw [e1, htop, ck, cg]
        exact hP.tail.cons _
      | [], hlen, hP, fin => simp at hlen; omega
    · rw [show ((n' : Nat) : Int) = (n : Int) + -1 by omega] at fin
      match l, hlen, hP, fin with
      | v :: u :: t, hlen, hP, fin =>
        have htop := hP.top
        have htop2 := hP.tail.top
        simp only [List.length_cons] at hlen htop
        have e1 : ((n : Int) - 1).toNat = t.length + 1 := by omega
        have e2 : ((n : Int) - 2).toNat = t.length := by omega
        refine AW.iload dX12_concluded_21 rfl ?_
        refine AW.bipush dX12_concluded_23 ?_
        refine AW.if_icmpge (tgt := 47) dX12_concluded_25 (by decide) (fun c25 => ?_) (fun c25 => absurd c25 (by omega))
        refine AW.iload dX12_concluded_47 rfl ?_
        refine AW.bipush dX12_concluded_49 ?_
        refine AW.if_icmpne (tgt := 78) dX12_concluded_51 (by decide) (fun c51 => ?_) (fun c51 => absurd c51 (by omega))
        refine AW.aload_n dX12_concluded_78 rfl ?_
        refine AW.getf dX12_concluded_79 gX12_55 (by repeat (first | assumption | exact hset_eq _ _ _ | refine (hset_ne _ _ (by omega)).trans ?_)) rfl ?_
        refine AW.iload_n dX12_concluded_82 rfl ?_
        refine AW.iconst dX12_concluded_83 ?_
        refine AW.isubR dX12_concluded_84 (by unfold RI; omega) ?_
        refine AW.iload dX12_concluded_85 rfl ?_
        refine AW.bipush dX12_concluded_87 ?_
        refine AW.if_icmpne (tgt := 116) dX12_concluded_89 (by decide) (fun c89 => ?_) (fun c89 => ?_)
        · refine AW.aload_n dX12_concluded_116 rfl ?_
          refine AW.iload_n dX12_concluded_117 rfl ?_
          refine AW.aload_n dX12_concluded_118 rfl ?_
          refine AW.getf dX12_concluded_119 gX12_55 (by repeat (first | assumption | exact hset_eq _ _ _ | refine (hset_ne _ _ (by omega)).trans ?_)) rfl ?_
          refine AW.iload_n dX12_concluded_122 rfl ?_
          refine AW.iconst dX12_concluded_123 ?_
          refine AW.isubR dX12_concluded_124 (by unfold RI; omega) ?_
          refine AW.iaload dX12_concluded_125 (by repeat (first | assumption | exact hset_eq _ _ _ | refine (hset_ne _ _ (by omega)).trans ?_)) (by omega) (by omega) ?_
          refine AW.aload_n dX12_concluded_126 rfl ?_
          refine AW.getf dX12_concluded_127 gX12_55 (by repeat (first | assumption | exact hset_eq _ _ _ | refine (hset_ne _ _ (by omega)).trans ?_)) rfl ?_
          refine AW.iload_n dX12_concluded_130 rfl ?_
          refine AW.iconst dX12_concluded_131 ?_
          refine AW.isubR dX12_concluded_132 (by unfold RI; omega) ?_
          refine AW.iaload dX12_concluded_133 (by repeat (first | assumption | exact hset_eq _ _ _ | refine (hset_ne _ _ (by omega)).trans ?_)) (by omega) (by omega) ?_
          refine AW.cI4 (d' := d - 1) (cX12_180 rfl) okX12_orOf dX12_concluded_134 (by repeat (first | assumption | exact hset_eq _ _ _ | refine (hset_ne _ _ (by omega)).trans ?_)) (by omega) (W_orOf (by assumption) (by omega) (by omega) ?_)
          refine AW.iastore dX12_concluded_137 (by omega) (by repeat (first | assumption | exact hset_eq _ _ _ | refine (hset_ne _ _ (by omega)).trans ?_)) (by omega) (by omega) ?_
          refine AW.inc2 dX12_concluded_138 (by decide) (by unfold RI; omega) ?_
          refine AW.inc3 dX12_concluded_141 (by decide) (by unfold RI; omega) ?_
          refine AW.goto (tgt := 9) dX12_concluded_144 (by decide) ?_
          refine fin _ _ _ (MR.s132 hM) ?_
          unfold stepF
          rw [if_neg (by omega), if_neg (by omega), e1, e2, htop, htop2, ck]
          dsimp only
          first
            | (rw [if_neg (by omega), cg]; exact hP.tail.tail.cons _)
            | (rw [if_pos (by omega)]; exact hP.tail.tail.cons _)
        · refine AW.aload_n dX12_concluded_92 rfl ?_
          refine AW.iload_n dX12_concluded_93 rfl ?_
          refine AW.aload_n dX12_concluded_94 rfl ?_
          refine AW.getf dX12_concluded_95 gX12_55 (by repeat (first | assumption | exact hset_eq _ _ _ | refine (hset_ne _ _ (by omega)).trans ?_)) rfl ?_
          refine AW.iload_n dX12_concluded_98 rfl ?_
          refine AW.iconst dX12_concluded_99 ?_
          refine AW.isubR dX12_concluded_100 (by unfold RI; omega) ?_
          refine AW.iaload dX12_concluded_101 (by repeat (first | assumption | exact hset_eq _ _ _ | refine (hset_ne _ _ (by omega)).trans ?_)) (by omega) (by omega) ?_
          refine AW.aload_n dX12_concluded_102 rfl ?_
          refine AW.getf dX12_concluded_103 gX12_55 (by repeat (first | assumption | exact hset_eq _ _ _ | refine (hset_ne _ _ (by omega)).trans ?_)) rfl ?_
          refine AW.iload_n dX12_concluded_106 rfl ?_
          refine AW.iconst dX12_concluded_107 ?_
          refine AW.isubR dX12_concluded_108 (by unfold RI; omega) ?_
          refine AW.iaload dX12_concluded_109 (by repeat (first | assumption | exact hset_eq _ _ _ | refine (hset_ne _ _ (by omega)).trans ?_)) (by omega) (by omega) ?_
          refine AW.cI4 (d' := d - 1) (cX12_177 rfl) okX12_andOf dX12_concluded_110 (by repeat (first | assumption | exact hset_eq _ _ _ | refine (hset_ne _ _ (by omega)).trans ?_)) (by omega) (W_andOf (by assumption) (by omega) (by omega) ?_)
          refine AW.goto (tgt := 137) dX12_concluded_113 (by decide) ?_
          refine AW.iastore dX12_concluded_137 (by omega) (by repeat (first | assumption | exact hset_eq _ _ _ | refine (hset_ne _ _ (by omega)).trans ?_)) (by omega) (by omega) ?_
          refine AW.inc2 dX12_concluded_138 (by decide) (by unfold RI; omega) ?_
          refine AW.inc3 dX12_concluded_141 (by decide) (by unfold RI; omega) ?_
          refine AW.goto (tgt := 9) dX12_concluded_144 (by decide) ?_
          refine fin _ _ _ (MR.s132 hM) ?_
          unfold stepF
          rw [if_neg (by omega), if_neg (by omega), e1, e2, htop, htop2, ck]
          dsimp only
          first
            | (rw [if_neg (by omega), cg]; exact hP.tail.tail.cons _)
            | (rw [if_pos (by omega)]; exact hP.tail.tail.cons _)
      | [_], hlen, hP, fin => simp at hlen; omega
      | [], hlen, hP, fin => simp at hlen; omega
theorem W_concluded {ws : List Nat} (hM : MR h0 h m A) (hd : 3 ≤ d) (hw : who < 6) (hws : ∀ (i w : Nat), ws[i]? = some w → A 131 i = (w : Int)) (hm : m 24 = ws.length) (wf : hgt ws = some 1) (hl : ws.length ≤ 20)
    (hq : ∀ h' B, MR h0 h' m B → (∀ k, k ≠ 132 → B k = A k) → Q (some (.inl (concF (kkM A who) (ggM A who) (lfM A who) ws))) h') : MW d 0 0 mX12_concluded [.inr 116, .inl who] h Q := by
  obtain ⟨g116, -⟩ := id hM
  show AW d 0 0 mX12_concluded Q 0 [some (.inr 116), some (.inl who), none, none, none] [] h
  refine AW.iconst dX12_concluded_0 ?_
  refine AW.ist2 dX12_concluded_1 (by decide) ?_
  refine AW.aload_n dX12_concluded_2 rfl ?_
  refine AW.getf dX12_concluded_3 gX12_118 (by repeat (first | assumption | exact hset_eq _ _ _ | refine (hset_ne _ _ (by omega)).trans ?_)) rfl ?_
  refine AW.iconst dX12_concluded_6 ?_
  refine AW.isubR dX12_concluded_7 (by unfold RI; omega) ?_
  refine AW.ist3 dX12_concluded_8 (by decide) ?_
  rw [hm]
  exact L_conc hd hw hws wf hl hq ws.length 0 h A _ (Nat.le_refl _) hM (fun _ _ => rfl) (by rw [List.drop_length]; rfl) (by rw [List.drop_length]; exact PR.nil _)
end Mod2

