section Few4
variable {d : Nat} {Q : Option AV → AH → Prop} {h : AH} {b a : Nat} {k g : Int} {lv : Int → Prop} {L lg : Nat} {kn W FD ST : Nat → Int} {cnt : Nat}
theorem Mid.jn (hg0 : 0 ≤ g) (hg9 : g ≤ 9) (M : Mid k g lv L W FD ST 256) {x y : Nat} (hx : x < 256) (hy : y < 256) : Jn k g W x y := by
  have h1 := in8_andF (k := k) (y := (y : Int)) (in8_nat hx)
  have h2 := in8_orF (k := k) hg0 hg9 (in8_nat hx) (in8_nat hy)
  have h3 := in8_andF (k := k) (y := (x : Int)) (in8_nat hy)
  exact ⟨M.all (by have := h1.1; have := h1.2; omega), M.all (by have := h2.1; have := h2.2; omega), M.all (by have := h3.1; have := h3.2; omega)⟩
theorem L_j2 {one : Nat} (hg0 : 0 ≤ g) (hg9 : g ≤ 9) (hi : ∀ x, lv x → in8 x) (hb : 79 ≤ b ∧ b + 5 ≤ 116) (h9 : 120 ≤ h.1) (hS : StA h a k g) (hd : 3 ≤ d) (h1 : 1 ≤ one) (h2 : 2 * one ≤ L - 1) (hle : ST (L - 1 - one) ≤ ST (L - 1 - one + 1))
    (hq : ∀ h' W' FD' cnt' a3 a4 a5 a6 a7, FwX h' b a kn W' FD' ST cnt' L lg → Mid k g lv L W' FD' ST cnt' → EV W FD W' FD' cnt cnt' → Joi k g lv W' L one → Fr h h' (PF b) → AW d 0 0 mX3_addJoined Q 162 [some (.inr b), some (.inl (if k = 3 then 1 else 0)), some (.inl (one : Int)), a3, a4, a5, a6, a7] [] h') :
    ∀ (r i : Nat) (a5 a6 a7 : Option AV) (h' : AH) (W' FD' : Nat → Int) (cnt' : Nat), (i : Int) + r = ST (one + 1) → ST one ≤ (i : Int) → FwX h' b a kn W' FD' ST cnt' L lg → Mid k g lv L W' FD' ST cnt' → EV W FD W' FD' cnt cnt' → Fr h h' (PF b) → (∀ j : Nat, ST one ≤ (j : Int) → j < i → ∀ y : Nat, y < 256 → SH k g lv (L - 1 - one) (y : Int) → Jn k g W' (FD' j).toNat y) →
      AW d 0 0 mX3_addJoined Q 39 [some (.inr b), some (.inl (if k = 3 then 1 else 0)), some (.inl (one : Int)), some (.inl ((L - 1 - one : Nat) : Int)), some (.inl (i : Int)), a5, a6, a7] [] h' := by
  intro r
  induction r with
  | zero =>
    intro i a5 a6 a7 h' W' FD' cnt' hir hi0 H M E F hp
    obtain ⟨g0, g1, g2, g3, g4⟩ := id H
    have hL := M.1
    have eL : ST ((one : Int) + 1).toNat = ST (one + 1) := by rw [show ((one : Int) + 1).toNat = one + 1 by omega]
    refine AW.iload dX3_addJoined_39 rfl ?_
    refine AW.aload_n dX3_addJoined_41 rfl ?_
    refine AW.getf dX3_addJoined_42 gX3_29 (by repeat (first | assumption | exact hset_eq _ _ _ | refine (hset_ne _ _ (by omega)).trans ?_)) rfl ?_
    refine AW.iload_n dX3_addJoined_45 rfl ?_
    refine AW.iconst dX3_addJoined_46 ?_
    refine AW.iaddR dX3_addJoined_47 (by unfold RI; omega) ?_
    refine AW.iaload dX3_addJoined_48 (by repeat (first | assumption | exact hset_eq _ _ _ | refine (hset_ne _ _ (by omega)).trans ?_)) (by omega) (by omega) ?_
    refine AW.if_icmpge (tgt := 162) dX3_addJoined_49 (by decide) (fun c49 => ?_) (fun c49 => absurd c49 (by rw [eL]; omega))
    refine hq h' W' FD' cnt' _ _ _ _ _ H M E (fun x y hx hy hsx hsy => ?_) F
    obtain ⟨i', q1, q2, q3, q4⟩ := M.of h1 (by omega) hx hsx
    have := hp i' q3 (by omega) y hy hsy
    rw [q2, show ((x : Int)).toNat = x by omega] at this
    exact this
  | succ r ih =>
    intro i a5 a6 a7 h' W' FD' cnt' hir hi0 H M E F hp
    obtain ⟨g0, g1, g2, g3, g4⟩ := id H
    have hL := M.1
    have eL : ST ((one : Int) + 1).toNat = ST (one + 1) := by rw [show ((one : Int) + 1).toNat = one + 1 by omega]
    by_cases h256 : cnt' = 256
    · subst h256
      refine AW.iload dX3_addJoined_39 rfl ?_
      refine AW.aload_n dX3_addJoined_41 rfl ?_
      refine AW.getf dX3_addJoined_42 gX3_29 (by repeat (first | assumption | exact hset_eq _ _ _ | refine (hset_ne _ _ (by omega)).trans ?_)) rfl ?_
      refine AW.iload_n dX3_addJoined_45 rfl ?_
      refine AW.iconst dX3_addJoined_46 ?_
      refine AW.iaddR dX3_addJoined_47 (by unfold RI; omega) ?_
      refine AW.iaload dX3_addJoined_48 (by repeat (first | assumption | exact hset_eq _ _ _ | refine (hset_ne _ _ (by omega)).trans ?_)) (by omega) (by omega) ?_
      refine AW.if_icmpge (tgt := 162) dX3_addJoined_49 (by decide) (fun c49 => absurd c49 (by rw [eL]; omega)) (fun c49 => ?_)
      refine AW.aload_n dX3_addJoined_52 rfl ?_
      refine AW.getf dX3_addJoined_53 gX3_25 (by repeat (first | assumption | exact hset_eq _ _ _ | refine (hset_ne _ _ (by omega)).trans ?_)) rfl ?_
      refine AW.sipush dX3_addJoined_56 ?_
      refine AW.if_icmpge (tgt := 162) dX3_addJoined_59 (by decide) (fun c59 => ?_) (fun c59 => absurd c59 (by decide))
      exact hq h' W' FD' 256 _ _ _ _ _ H M E (fun x y hx hy _ _ => M.jn hg0 hg9 hx hy) F
    · obtain ⟨hic, x, hx, ex, hsx⟩ := M.at (i := i) (j := one) h1 (by omega) hi0 (by omega)
      have hS' := hS.fr F (by unfold PF; omega)
      have e1 : FD' ((i : Int)).toNat = (x : Int) := by rw [show ((i : Int)).toNat = i by omega]; exact ex
      have hst := M.2.2.2.2.2.2.1 (L - 1 - one) (by omega) (by omega)
      have e2 : ST (((L - 1 - one : Nat) : Int)).toNat = (((ST (L - 1 - one)).toNat : Nat) : Int) := by rw [show (((L - 1 - one : Nat) : Int)).toNat = L - 1 - one by omega]; omega
      refine AW.iload dX3_addJoined_39 rfl ?_
      refine AW.aload_n dX3_addJoined_41 rfl ?_
      refine AW.getf dX3_addJoined_42 gX3_29 (by repeat (first | assumption | exact hset_eq _ _ _ | refine (hset_ne _ _ (by omega)).trans ?_)) rfl ?_
      refine AW.iload_n dX3_addJoined_45 rfl ?_
      refine AW.iconst dX3_addJoined_46 ?_
      refine AW.iaddR dX3_addJoined_47 (by unfold RI; omega) ?_
      refine AW.iaload dX3_addJoined_48 (by repeat (first | assumption | exact hset_eq _ _ _ | refine (hset_ne _ _ (by omega)).trans ?_)) (by omega) (by omega) ?_
      refine AW.if_icmpge (tgt := 162) dX3_addJoined_49 (by decide) (fun c49 => absurd c49 (by rw [eL]; omega)) (fun c49 => ?_)
      refine AW.aload_n dX3_addJoined_52 rfl ?_
      refine AW.getf dX3_addJoined_53 gX3_25 (by repeat (first | assumption | exact hset_eq _ _ _ | refine (hset_ne _ _ (by omega)).trans ?_)) rfl ?_
      refine AW.sipush dX3_addJoined_56 ?_
      refine AW.if_icmpge (tgt := 162) dX3_addJoined_59 (by decide) (fun c59 => absurd c59 (by omega)) (fun c59 => ?_)
      refine AW.aload_n dX3_addJoined_62 rfl ?_
      refine AW.getf dX3_addJoined_63 gX3_22 (by repeat (first | assumption | exact hset_eq _ _ _ | refine (hset_ne _ _ (by omega)).trans ?_)) rfl ?_
      refine AW.iload dX3_addJoined_66 rfl ?_
      refine AW.iaload dX3_addJoined_68 (by repeat (first | assumption | exact hset_eq _ _ _ | refine (hset_ne _ _ (by omega)).trans ?_)) (by omega) (by omega) ?_
      rw [e1]
      refine AW.ist5 dX3_addJoined_69 (by decide) ?_
      refine AW.aload_n dX3_addJoined_71 rfl ?_
      refine AW.getf dX3_addJoined_72 gX3_29 (by repeat (first | assumption | exact hset_eq _ _ _ | refine (hset_ne _ _ (by omega)).trans ?_)) rfl ?_
      refine AW.iload_n dX3_addJoined_75 rfl ?_
      refine AW.iaload dX3_addJoined_76 (by repeat (first | assumption | exact hset_eq _ _ _ | refine (hset_ne _ _ (by omega)).trans ?_)) (by omega) (by omega) ?_
      rw [e2]
      refine AW.ist6 dX3_addJoined_77 (by decide) ?_
      refine L_j3 (h := h') (W := W') (FD := FD') (cnt := cnt') hg0 hg9 hi hb (by have := F.1; omega) hS' hd h1 h2 hx hsx (fun h2' W2 FD2 c2 e y H2 M2 E2 hj F2 => ?_) (ST (L - 1 - one + 1) - ST (L - 1 - one)).toNat (ST (L - 1 - one)).toNat _ h' W' FD' cnt' (by omega) (by omega) H M EV.rfl' Fr.rfl' (fun j q1 q2 => by omega)
      refine AW.inc4 dX3_addJoined_156 (by decide) (by unfold RI; omega) ?_
      refine AW.goto (tgt := 39) dX3_addJoined_159 (by decide) ?_
      refine ih (i + 1) _ _ _ h2' W2 FD2 c2 (by omega) (by omega) H2 M2 (E.trans E2) (F.trans F2) (fun j hj1 hj2 y hy hsy => ?_)
      rw [E2.2.1 j (by omega)]
      by_cases z : j = i
      · rw [z, ex, show ((x : Int)).toNat = x by omega]; exact hj y hy hsy
      · obtain ⟨-, x', hx', ex', -⟩ := M.at (i := j) (j := one) h1 (by omega) hj1 (by omega)
        have := hp j hj1 (by omega) y hy hsy
        rw [ex', show ((x' : Int)).toNat = x' by omega] at this ⊢
        exact this.ev hg0 hg9 hx' hy E2
theorem L_j1 (hg0 : 0 ≤ g) (hg9 : g ≤ 9) (hi : ∀ x, lv x → in8 x) (hb : 79 ≤ b ∧ b + 5 ≤ 116) (h9 : 120 ≤ h.1) (hS : StA h a k g) (hd : 3 ≤ d) (hL2 : 2 ≤ L) (hle : ∀ j, 1 ≤ j → j < L → ST j ≤ ST (j + 1))
    (hq : ∀ h' W' FD' cnt', FwX h' b a kn W' FD' ST cnt' L lg → Mid k g lv L W' FD' ST cnt' → EV W FD W' FD' cnt cnt' → (∀ i, 1 ≤ i → 2 * i ≤ L - 1 → Joi k g lv W' L i) → Fr h h' (PF b) → Q none h') :
    ∀ (r one : Nat) (a3 a4 a5 a6 a7 : Option AV) (h' : AH) (W' FD' : Nat → Int) (cnt' : Nat), one + r = (L - 1) / 2 + 1 → 1 ≤ one → FwX h' b a kn W' FD' ST cnt' L lg → Mid k g lv L W' FD' ST cnt' → EV W FD W' FD' cnt cnt' → Fr h h' (PF b) → (∀ i, 1 ≤ i → i < one → Joi k g lv W' L i) →
      AW d 0 0 mX3_addJoined Q 10 [some (.inr b), some (.inl (if k = 3 then 1 else 0)), some (.inl (one : Int)), a3, a4, a5, a6, a7] [] h' := by
  intro r
  induction r with
  | zero =>
    intro one a3 a4 a5 a6 a7 h' W' FD' cnt' hr h1 H M E F hp
    obtain ⟨g0, g1, g2, g3, g4⟩ := id H
    have hL := M.1
    have eD : a_div ((L : Int) - 1) 2 = ((L : Int) - 1) / 2 := a_div_eq (by omega) ⟨by omega, by omega⟩ (by decide) ⟨by decide, by decide⟩
    refine AW.iload_n dX3_addJoined_10 rfl ?_
    refine AW.aload_n dX3_addJoined_11 rfl ?_
    refine AW.getf dX3_addJoined_12 gX3_32 (by repeat (first | assumption | exact hset_eq _ _ _ | refine (hset_ne _ _ (by omega)).trans ?_)) rfl ?_
    refine AW.iconst dX3_addJoined_15 ?_
    refine AW.isubR dX3_addJoined_16 (by unfold RI; omega) ?_
    refine AW.iconst dX3_addJoined_17 ?_
    refine AW.idiv dX3_addJoined_18 (by decide) ?_
    refine AW.if_icmpgt (tgt := 168) dX3_addJoined_19 (by decide) (fun c19 => ?_) (fun c19 => absurd c19 (by rw [eD]; omega))
    refine AW.vreturn dX3_addJoined_168 rfl ?_
    exact hq h' W' FD' cnt' H M E (fun i i1 i2 => hp i i1 (by omega)) F
  | succ r ih =>
    intro one a3 a4 a5 a6 a7 h' W' FD' cnt' hr h1 H M E F hp
    obtain ⟨g0, g1, g2, g3, g4⟩ := id H
    have hL := M.1
    have eD : a_div ((L : Int) - 1) 2 = ((L : Int) - 1) / 2 := a_div_eq (by omega) ⟨by omega, by omega⟩ (by decide) ⟨by decide, by decide⟩
    have hS' := hS.fr F (by unfold PF; omega)
    have eo : (L : Int) - 1 - (one : Int) = ((L - 1 - one : Nat) : Int) := by omega
    have hst := M.2.2.2.2.2.2.1 one (by omega) (by omega)
    have e2 : ST ((one : Int)).toNat = (((ST one).toNat : Nat) : Int) := by rw [show ((one : Int)).toNat = one by omega]; omega
    have hl1 := hle one h1 (by omega)
    refine AW.iload_n dX3_addJoined_10 rfl ?_
    refine AW.aload_n dX3_addJoined_11 rfl ?_
    refine AW.getf dX3_addJoined_12 gX3_32 (by repeat (first | assumption | exact hset_eq _ _ _ | refine (hset_ne _ _ (by omega)).trans ?_)) rfl ?_
    refine AW.iconst dX3_addJoined_15 ?_
    refine AW.isubR dX3_addJoined_16 (by unfold RI; omega) ?_
    refine AW.iconst dX3_addJoined_17 ?_
    refine AW.idiv dX3_addJoined_18 (by decide) ?_
    refine AW.if_icmpgt (tgt := 168) dX3_addJoined_19 (by decide) (fun c19 => absurd c19 (by rw [eD]; omega)) (fun c19 => ?_)
    refine AW.aload_n dX3_addJoined_22 rfl ?_
    refine AW.getf dX3_addJoined_23 gX3_32 (by repeat (first | assumption | exact hset_eq _ _ _ | refine (hset_ne _ _ (by omega)).trans ?_)) rfl ?_
    refine AW.iconst dX3_addJoined_26 ?_
    refine AW.isubR dX3_addJoined_27 (by unfold RI; omega) ?_
    refine AW.iload_n dX3_addJoined_28 rfl ?_
    refine AW.isubR dX3_addJoined_29 (by unfold RI; omega) ?_
    rw [eo]
    refine AW.ist3 dX3_addJoined_30 (by decide) ?_
    refine AW.aload_n dX3_addJoined_31 rfl ?_
    refine AW.getf dX3_addJoined_32 gX3_29 (by repeat (first | assumption | exact hset_eq _ _ _ | refine (hset_ne _ _ (by omega)).trans ?_)) rfl ?_
    refine AW.iload_n dX3_addJoined_35 rfl ?_
    refine AW.iaload dX3_addJoined_36 (by repeat (first | assumption | exact hset_eq _ _ _ | refine (hset_ne _ _ (by omega)).trans ?_)) (by omega) (by omega) ?_
    rw [e2]
    refine AW.ist4 dX3_addJoined_37 (by decide) ?_
    refine L_j2 (h := h') (W := W') (FD := FD') (cnt := cnt') (one := one) hg0 hg9 hi hb (by have := F.1; omega) hS' hd h1 (by omega) (hle _ (by omega) (by omega)) (fun h2' W2 FD2 c2 b3 b4 b5 b6 b7 H2 M2 E2 hj F2 => ?_) (ST (one + 1) - ST one).toNat (ST one).toNat _ _ _ h' W' FD' cnt' (by omega) (by omega) H M EV.rfl' Fr.rfl' (fun j q1 q2 => by omega)
    refine AW.inc2 dX3_addJoined_162 (by decide) (by unfold RI; omega) ?_
    refine AW.goto (tgt := 10) dX3_addJoined_165 (by decide) ?_
    refine ih (one + 1) _ _ _ _ _ h2' W2 FD2 c2 (by omega) (by omega) H2 M2 (E.trans E2) (F.trans F2) (fun i i1 i2 => ?_)
    by_cases z : i = one
    · rw [z]; exact hj
    · intro x y hx hy hsx hsy
      exact Jn.ev hg0 hg9 hx hy E2 (hp i i1 (by omega) x y hx hy hsx hsy)
theorem W_addJoined (hg0 : 0 ≤ g) (hg9 : g ≤ 9) (hi : ∀ x, lv x → in8 x) (hb : 79 ≤ b ∧ b + 5 ≤ 116) (h9 : 120 ≤ h.1) (hS : StA h a k g) (hd : 3 ≤ d) (hL2 : 2 ≤ L) (hle : ∀ j, 1 ≤ j → j < L → ST j ≤ ST (j + 1)) (H : FwX h b a kn W FD ST cnt L lg) (M : Mid k g lv L W FD ST cnt)
    (hq : ∀ h' W' FD' cnt', FwX h' b a kn W' FD' ST cnt' L lg → Mid k g lv L W' FD' ST cnt' → EV W FD W' FD' cnt cnt' → (∀ i, 1 ≤ i → 2 * i ≤ L - 1 → Joi k g lv W' L i) → Fr h h' (PF b) → Q none h') : MW d 0 0 mX3_addJoined [.inr b] h Q := by
  obtain ⟨g0, g1, g2, g3, g4⟩ := id H
  show AW d 0 0 mX3_addJoined Q 0 [some (.inr b), none, none, none, none, none, none, none] [] h
  refine AW.aload_n dX3_addJoined_0 rfl ?_
  refine AW.getf dX3_addJoined_1 gX3_9 (by repeat (first | assumption | exact hset_eq _ _ _ | refine (hset_ne _ _ (by omega)).trans ?_)) rfl ?_
  refine AW.vX3_94 rfl dX3_addJoined_4 (by assumption) (by omega) (Nat.le_of_ble_eq_true rfl) ?_
  refine AW.ist1 dX3_addJoined_7 (by decide) ?_
  refine AW.iconst dX3_addJoined_8 ?_
  refine AW.ist2 dX3_addJoined_9 (by decide) ?_
  exact L_j1 hg0 hg9 hi hb h9 hS hd hL2 hle hq ((L - 1) / 2) 1 _ _ _ _ _ h W FD cnt (by omega) (Nat.le_refl _) H M EV.rfl' Fr.rfl' (fun i i1 i2 => by omega)
end Few4

