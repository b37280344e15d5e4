def Jn (k g : Int) (W : Nat → Int) (x y : Nat) : Prop := W (andF k (x : Int) (y : Int)).toNat ≠ -9 ∧ W (orF k g (x : Int) (y : Int)).toNat ≠ -9 ∧ W (andF k (y : Int) (x : Int)).toNat ≠ -9
theorem Jn.ev {k g : Int} {W FD W' FD' : Nat → Int} {c c' x y : Nat} (hg0 : 0 ≤ g) (hg9 : g ≤ 9) (hx : x < 256) (hy : y < 256) (E : EV W FD W' FD' c c') (H : Jn k g W x y) : Jn k g W' x y := by
  have h1 := in8_andF (k := k) (y := (y : Int)) (in8_nat hx)
  have h2 := in8_orF (k := k) hg0 hg9 (in8_nat hx) (in8_nat hy)
  have h3 := in8_andF (k := k) (y := (x : Int)) (in8_nat hy)
  exact ⟨E.ne (by have := h1.1; have := h1.2; omega) H.1, E.ne (by have := h2.1; have := h2.2; omega) H.2.1, E.ne (by have := h3.1; have := h3.2; omega) H.2.2⟩
section Few3
variable {d : Nat} {Q : Option AV → AH → Prop} {h : AH} {b a : Nat} {k g : Int} {lv : Int → Prop} {L lg : Nat} {kn W FD ST : Nat → Int} {cnt : Nat}
theorem L_j3 {one i x : Nat} (hg0 : 0 ≤ g) (hg9 : g ≤ 9) (hi : ∀ x, lv x → in8 x) (hb : 79 ≤ b ∧ b + 5 ≤ 116) (h9 : 120 ≤ h.1) (hS : StA h a k g) (hd : 3 ≤ d) (h1 : 1 ≤ one) (h2 : 2 * one ≤ L - 1) (hx : x < 256) (hsx : SH k g lv one (x : Int))
    (hq : ∀ h' W' FD' cnt' e y, FwX h' b a kn W' FD' ST cnt' L lg → Mid k g lv L W' FD' ST cnt' → EV W FD W' FD' cnt cnt' → (∀ y : Nat, y < 256 → SH k g lv (L - 1 - one) (y : Int) → Jn k g W' x y) → Fr h h' (PF b) → AW d 0 0 mX3_addJoined Q 156 [some (.inr b), some (.inl (if k = 3 then 1 else 0)), some (.inl (one : Int)), some (.inl ((L - 1 - one : Nat) : Int)), some (.inl (i : Int)), some (.inl (x : Int)), e, y] [] h') :
    ∀ (r j : Nat) (y0 : Option AV) (h' : AH) (W' FD' : Nat → Int) (cnt' : Nat), (j : Int) + r = ST (L - 1 - one + 1) → ST (L - 1 - one) ≤ (j : Int) → FwX h' b a kn W' FD' ST cnt' L lg → Mid k g lv L W' FD' ST cnt' → EV W FD W' FD' cnt cnt' → Fr h h' (PF b) → (∀ j' : Nat, ST (L - 1 - one) ≤ (j' : Int) → j' < j → Jn k g W' x (FD' j').toNat) →
      AW d 0 0 mX3_addJoined Q 79 [some (.inr b), some (.inl (if k = 3 then 1 else 0)), some (.inl (one : Int)), some (.inl ((L - 1 - one : Nat) : Int)), some (.inl (i : Int)), some (.inl (x : Int)), some (.inl (j : Int)), y0] [] h' := by
  intro r
  induction r with
  | zero =>
    intro j y0 h' W' FD' cnt' hir hi0 H M E F hp
    obtain ⟨g0, g1, g2, g3, g4⟩ := id H
    have hL := M.1
    have eL : ST (((L - 1 - one : Nat) : Int) + 1).toNat = ST (L - 1 - one + 1) := by rw [show (((L - 1 - one : Nat) : Int) + 1).toNat = L - 1 - one + 1 by omega]
    refine AW.iload dX3_addJoined_79 rfl ?_
    refine AW.aload_n dX3_addJoined_81 rfl ?_
    refine AW.getf dX3_addJoined_82 gX3_29 (by repeat (first | assumption | exact hset_eq _ _ _ | refine (hset_ne _ _ (by omega)).trans ?_)) rfl ?_
    refine AW.iload_n dX3_addJoined_85 rfl ?_
    refine AW.iconst dX3_addJoined_86 ?_
    refine AW.iaddR dX3_addJoined_87 (by unfold RI; omega) ?_
    refine AW.iaload dX3_addJoined_88 (by repeat (first | assumption | exact hset_eq _ _ _ | refine (hset_ne _ _ (by omega)).trans ?_)) (by omega) (by omega) ?_
    refine AW.if_icmpge (tgt := 156) dX3_addJoined_89 (by decide) (fun c89 => ?_) (fun c89 => absurd c89 (by rw [eL]; omega))
    refine hq h' W' FD' cnt' _ _ H M E (fun y hy hs => ?_) F
    obtain ⟨i', q1, q2, q3, q4⟩ := M.of (by omega) (by omega) hy hs
    have := hp i' q3 (by omega)
    rw [q2, show ((y : Int)).toNat = y by omega] at this
    exact this
  | succ r ih =>
    intro j y0 h' W' FD' cnt' hir hi0 H M E F hp
    obtain ⟨g0, g1, g2, g3, g4⟩ := id H
    have hL := M.1
    have eL : ST (((L - 1 - one : Nat) : Int) + 1).toNat = ST (L - 1 - one + 1) := by rw [show (((L - 1 - one : Nat) : Int) + 1).toNat = L - 1 - one + 1 by omega]
    obtain ⟨hic, y, hy, ey, hsy⟩ := M.at (i := j) (j := L - 1 - one) (by omega) (by omega) hi0 (by omega)
    have hS' := hS.fr F (by unfold PF; omega)
    have e1 : FD' ((j : Int)).toNat = (y : Int) := by rw [show ((j : Int)).toNat = j by omega]; exact ey
    have eLL : one + (L - 1 - one) + 1 = L := by omega
    have eLL2 : (L - 1 - one) + one + 1 = L := by omega
    have r1 : RS k g lv L (andF k (x : Int) (y : Int)) := by have := hsx.1.and hsy.1; rw [eLL] at this; exact this
    have r2 : RS k g lv L (orF k g (x : Int) (y : Int)) := by have := hsx.1.or hsy.1; rw [eLL] at this; exact this
    have r3 : RS k g lv L (andF k (y : Int) (x : Int)) := by have := hsy.1.and hsx.1; rw [eLL2] at this; exact this
    have i1 := RS_in8 hg0 hg9 hi r1
    have i2 := RS_in8 hg0 hg9 hi r2
    have i3 := RS_in8 hg0 hg9 hi r3
    have eN1 : andF k (x : Int) (y : Int) = (((andF k (x : Int) (y : Int)).toNat : Nat) : Int) := by have := i1.1; omega
    have eN2 : orF k g (x : Int) (y : Int) = (((orF k g (x : Int) (y : Int)).toNat : Nat) : Int) := by have := i2.1; omega
    have eN3 : andF k (y : Int) (x : Int) = (((andF k (y : Int) (x : Int)).toNat : Nat) : Int) := by have := i3.1; omega
    have fin : ∀ (y1 : Option AV) (h2 : AH) (W2 FD2 : Nat → Int) (c2 : Nat), FwX h2 b a kn W2 FD2 ST c2 L lg → Mid k g lv L W2 FD2 ST c2 → EV W' FD' W2 FD2 cnt' c2 → Fr h' h2 (PF b) → Jn k g W2 x y → AW d 0 0 mX3_addJoined Q 79 [some (.inr b), some (.inl (if k = 3 then 1 else 0)), some (.inl (one : Int)), some (.inl ((L - 1 - one : Nat) : Int)), some (.inl (i : Int)), some (.inl (x : Int)), some (.inl ((j : Int) + 1)), y1] [] h2 := by
      intro y1 h2 W2 FD2 c2 H2 M2 E2 F2 hj
      refine ih (j + 1) y1 h2 W2 FD2 c2 (by omega) (by omega) H2 M2 (E.trans E2) (F.trans F2) (fun j' hj1 hj2 => ?_)
      rw [E2.2.1 j' (by omega)]
      by_cases z : j' = j
      · rw [z, ey, show ((y : Int)).toNat = y by omega]; exact hj
      · obtain ⟨-, y', hy', ey', -⟩ := M.at (i := j') (j := L - 1 - one) (by omega) (by omega) hj1 (by omega)
        have := hp j' hj1 (by omega)
        rw [ey', show ((y' : Int)).toNat = y' by omega] at this ⊢
        exact this.ev hg0 hg9 hx hy' E2
    refine AW.iload dX3_addJoined_79 rfl ?_
    refine AW.aload_n dX3_addJoined_81 rfl ?_
    refine AW.getf dX3_addJoined_82 gX3_29 (by repeat (first | assumption | exact hset_eq _ _ _ | refine (hset_ne _ _ (by omega)).trans ?_)) rfl ?_
    refine AW.iload_n dX3_addJoined_85 rfl ?_
    refine AW.iconst dX3_addJoined_86 ?_
    refine AW.iaddR dX3_addJoined_87 (by unfold RI; omega) ?_
    refine AW.iaload dX3_addJoined_88 (by repeat (first | assumption | exact hset_eq _ _ _ | refine (hset_ne _ _ (by omega)).trans ?_)) (by omega) (by omega) ?_
    refine AW.if_icmpge (tgt := 156) dX3_addJoined_89 (by decide) (fun c89 => absurd c89 (by rw [eL]; omega)) (fun c89 => ?_)
    refine AW.aload_n dX3_addJoined_92 rfl ?_
    refine AW.getf dX3_addJoined_93 gX3_22 (by repeat (first | assumption | exact hset_eq _ _ _ | refine (hset_ne _ _ (by omega)).trans ?_)) rfl ?_
    refine AW.iload dX3_addJoined_96 rfl ?_
    refine AW.iaload dX3_addJoined_98 (by repeat (first | assumption | exact hset_eq _ _ _ | refine (hset_ne _ _ (by omega)).trans ?_)) (by omega) (by omega) ?_
    rw [e1]
    refine AW.ist7 dX3_addJoined_99 (by decide) ?_
    refine AW.aload_n dX3_addJoined_101 rfl ?_
    refine AW.aload_n dX3_addJoined_102 rfl ?_
    refine AW.getf dX3_addJoined_103 gX3_9 (by repeat (first | assumption | exact hset_eq _ _ _ | refine (hset_ne _ _ (by omega)).trans ?_)) rfl ?_
    refine AW.iload dX3_addJoined_106 rfl ?_
    refine AW.iload dX3_addJoined_108 rfl ?_
    refine AW.vX3_97 rfl dX3_addJoined_110 (by assumption) (by omega) (Nat.le_of_ble_eq_true rfl) ?_
    rw [eN1]
    refine AW.cI2 (d' := d - 1) (cX3_86 rfl) okX3_add dX3_addJoined_113 (by repeat (first | assumption | exact hset_eq _ _ _ | refine (hset_ne _ _ (by omega)).trans ?_)) (by omega) (W_fadd (by omega) H M (by have := i1.2; omega) (by rw [← eN1]; exact r1) (fun h2' W2 FD2 c2 H2 M2 E2 n2 F2 => ?_))
    have hS2 := hS'.fr F2 (by unfold PF; omega)
    obtain ⟨k0, -⟩ := id H2
    refine AW.aload_n dX3_addJoined_116 rfl ?_
    refine AW.aload_n dX3_addJoined_117 rfl ?_
    refine AW.getf dX3_addJoined_118 gX3_9 (by repeat (first | assumption | exact hset_eq _ _ _ | refine (hset_ne _ _ (by omega)).trans ?_)) rfl ?_
    refine AW.iload dX3_addJoined_121 rfl ?_
    refine AW.iload dX3_addJoined_123 rfl ?_
    refine AW.vX3_101 rfl dX3_addJoined_125 (by assumption) (by omega) (Nat.le_of_ble_eq_true rfl) ?_
    rw [eN2]
    refine AW.cI2 (d' := d - 1) (cX3_86 rfl) okX3_add dX3_addJoined_128 (by repeat (first | assumption | exact hset_eq _ _ _ | refine (hset_ne _ _ (by omega)).trans ?_)) (by omega) (W_fadd (by omega) H2 M2 (by have := i2.2; omega) (by rw [← eN2]; exact r2) (fun h3' W3 FD3 c3 H3 M3 E3 n3 F3 => ?_))
    have hS3 := hS2.fr F3 (by unfold PF; omega)
    obtain ⟨l0, -⟩ := id H3
    have n2' := E3.ne (by have := i1.1; have := i1.2; omega) n2
    by_cases hk : k = 3
    · have es : (if k = 3 then (1 : Int) else 0) = 1 := if_pos hk
      refine AW.iload_n dX3_addJoined_131 rfl ?_
      refine AW.ifeq (tgt := 150) dX3_addJoined_132 (by decide) (fun c132 => absurd c132 (by rw [es]; decide)) (fun c132 => ?_)
      refine AW.aload_n dX3_addJoined_135 rfl ?_
      refine AW.aload_n dX3_addJoined_136 rfl ?_
      refine AW.getf dX3_addJoined_137 gX3_9 (by repeat (first | assumption | exact hset_eq _ _ _ | refine (hset_ne _ _ (by omega)).trans ?_)) rfl ?_
      refine AW.iload dX3_addJoined_140 rfl ?_
      refine AW.iload dX3_addJoined_142 rfl ?_
      refine AW.vX3_97 rfl dX3_addJoined_144 (by assumption) (by omega) (Nat.le_of_ble_eq_true rfl) ?_
      rw [eN3]
      refine AW.cI2 (d' := d - 1) (cX3_86 rfl) okX3_add dX3_addJoined_147 (by repeat (first | assumption | exact hset_eq _ _ _ | refine (hset_ne _ _ (by omega)).trans ?_)) (by omega) (W_fadd (by omega) H3 M3 (by have := i3.2; omega) (by rw [← eN3]; exact r3) (fun h4' W4 FD4 c4 H4 M4 E4 n4 F4 => ?_))
      refine AW.inc6 dX3_addJoined_150 (by decide) (by unfold RI; omega) ?_
      refine AW.goto (tgt := 79) dX3_addJoined_153 (by decide) ?_
      exact fin _ h4' W4 FD4 c4 H4 M4 ((E2.trans E3).trans E4) ((F2.trans F3).trans F4) ⟨E4.ne (by have := i1.1; have := i1.2; omega) n2', E4.ne (by have := i2.1; have := i2.2; omega) n3, n4⟩
    · have es : (if k = 3 then (1 : Int) else 0) = 0 := if_neg hk
      refine AW.iload_n dX3_addJoined_131 rfl ?_
      refine AW.ifeq (tgt := 150) dX3_addJoined_132 (by decide) (fun c132 => ?_) (fun c132 => absurd es c132)
      refine AW.inc6 dX3_addJoined_150 (by decide) (by unfold RI; omega) ?_
      refine AW.goto (tgt := 79) dX3_addJoined_153 (by decide) ?_
      exact fin _ h3' W3 FD3 c3 H3 M3 (E2.trans E3) (F2.trans F3) ⟨n2', n3, by rw [andF_comm k _ _ hk]; exact n2'⟩
end Few3

