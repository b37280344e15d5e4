def FwX (h : AH) (b a : Nat) (kn W FD ST : Nat → Int) (cnt L lg : Nat) : Prop := h.2 b = .inl (4, [.inr a, .inr (b + 1), .inr (b + 2), .inr (b + 3), .inl (cnt : Int), .inr (b + 4), .inl (L : Int), .inl (lg : Int)]) ∧ h.2 (b + 1) = .inr (5, kn) ∧ h.2 (b + 2) = .inr (256, W) ∧ h.2 (b + 3) = .inr (256, FD) ∧ h.2 (b + 4) = .inr (300, ST)
def PF (b : Nat) (a : Nat) : Prop := b ≤ a ∧ a < b + 5
def EV (W FD W' FD' : Nat → Int) (cnt cnt' : Nat) : Prop := (∀ m, m < 256 → W m ≠ -9 → W' m = W m) ∧ (∀ i, i < cnt → FD' i = FD i) ∧ cnt ≤ cnt'
theorem EV.rfl' {W FD : Nat → Int} {cnt : Nat} : EV W FD W FD cnt cnt := ⟨fun _ _ _ => rfl, fun _ _ => rfl, Nat.le_refl _⟩
theorem EV.trans {W FD W' FD' W2 FD2 : Nat → Int} {c c' c2 : Nat} (h : EV W FD W' FD' c c') (h2 : EV W' FD' W2 FD2 c' c2) : EV W FD W2 FD2 c c2 := ⟨fun m hm q => by have e := h.1 m hm q; rw [h2.1 m hm (by rw [e]; exact q), e], fun i hi => by rw [h2.2.1 i (by have := h.2.2; omega), h.2.1 i hi], Nat.le_trans h.2.2 h2.2.2⟩
theorem EV.ne {W FD W' FD' : Nat → Int} {c c' : Nat} (h : EV W FD W' FD' c c') {m : Nat} (hm : m < 256) (q : W m ≠ -9) : W' m ≠ -9 := by rw [h.1 m hm q]; exact q
section Few2
variable {d : Nat} {Q : Option AV → AH → Prop} {h : AH} {b a : Nat} {k g : Int} {lv : Int → Prop} {L lg : Nat} {kn W FD ST : Nat → Int} {cnt : Nat}
theorem W_fadd {x : Nat} (h16 : 16 ≤ b) (H : FwX h b a kn W FD ST cnt L lg) (M : Mid k g lv L W FD ST cnt) (hx : x < 256) (hr : RS k g lv L (x : Int))
    (hq : ∀ h' W' FD' cnt', FwX h' b a kn W' FD' ST cnt' L lg → Mid k g lv L W' FD' ST cnt' → EV W FD W' FD' cnt cnt' → W' x ≠ -9 → Fr h h' (PF b) → Q none h') : MW d 0 0 mX3_add [.inr b, .inl (x : Int)] h Q := by
  obtain ⟨g0, g1, g2, g3, g4⟩ := id H
  have h255 := and_255 (in8_nat hx)
  have ex : ((x : Int)).toNat = x := by omega
  show AW d 0 0 mX3_add Q 0 [some (.inr b), some (.inl (x : Int)), none] [] h
  refine AW.iload_n dX3_add_0 rfl ?_
  refine AW.sipush dX3_add_1 ?_
  refine AW.iand dX3_add_4 ?_
  rw [h255]
  by_cases hW : W x = -9
  · obtain ⟨hc, M2⟩ := M.add hx hr hW
    have hW' : W ((x : Int)).toNat = -9 := by rw [ex]; exact hW
    refine AW.ist2 dX3_add_5 (by decide) ?_
    refine AW.aload_n dX3_add_6 rfl ?_
    refine AW.getf dX3_add_7 gX3_19 (by repeat (first | assumption | exact hset_eq _ _ _ | refine (hset_ne _ _ (by omega)).trans ?_)) rfl ?_
    refine AW.iload_n dX3_add_10 rfl ?_
    refine AW.iaload dX3_add_11 (by repeat (first | assumption | exact hset_eq _ _ _ | refine (hset_ne _ _ (by omega)).trans ?_)) (by omega) (by omega) ?_
    refine AW.bipush dX3_add_12 ?_
    refine AW.if_icmpne (tgt := 57) dX3_add_14 (by decide) (fun c14 => absurd hW' c14) (fun c14 => ?_)
    refine AW.aload_n dX3_add_17 rfl ?_
    refine AW.getf dX3_add_18 gX3_25 (by repeat (first | assumption | exact hset_eq _ _ _ | refine (hset_ne _ _ (by omega)).trans ?_)) rfl ?_
    refine AW.sipush dX3_add_21 ?_
    refine AW.if_icmpge (tgt := 57) dX3_add_24 (by decide) (fun c24 => absurd c24 (by omega)) (fun c24 => ?_)
    refine AW.aload_n dX3_add_27 rfl ?_
    refine AW.getf dX3_add_28 gX3_19 (by repeat (first | assumption | exact hset_eq _ _ _ | refine (hset_ne _ _ (by omega)).trans ?_)) rfl ?_
    refine AW.iload_n dX3_add_31 rfl ?_
    refine AW.aload_n dX3_add_32 rfl ?_
    refine AW.getf dX3_add_33 gX3_32 (by repeat (first | assumption | exact hset_eq _ _ _ | refine (hset_ne _ _ (by omega)).trans ?_)) rfl ?_
    refine AW.iastore dX3_add_36 (by omega) (by repeat (first | assumption | exact hset_eq _ _ _ | refine (hset_ne _ _ (by omega)).trans ?_)) (by omega) (by omega) ?_
    refine AW.aload_n dX3_add_37 rfl ?_
    refine AW.getf dX3_add_38 gX3_22 (by repeat (first | assumption | exact hset_eq _ _ _ | refine (hset_ne _ _ (by omega)).trans ?_)) rfl ?_
    refine AW.aload_n dX3_add_41 rfl ?_
    refine AW.getf dX3_add_42 gX3_25 (by repeat (first | assumption | exact hset_eq _ _ _ | refine (hset_ne _ _ (by omega)).trans ?_)) rfl ?_
    refine AW.iload_n dX3_add_45 rfl ?_
    refine AW.iastore dX3_add_46 (by omega) (by repeat (first | assumption | exact hset_eq _ _ _ | refine (hset_ne _ _ (by omega)).trans ?_)) (by omega) (by omega) ?_
    refine AW.aload_n dX3_add_47 rfl ?_
    refine AW.dup dX3_add_48 ?_
    refine AW.getf dX3_add_49 gX3_25 (by repeat (first | assumption | exact hset_eq _ _ _ | refine (hset_ne _ _ (by omega)).trans ?_)) rfl ?_
    refine AW.iconst dX3_add_52 ?_
    refine AW.iaddR dX3_add_53 (by unfold RI; omega) ?_
    refine AW.putf dX3_add_54 pX3_25 (by repeat (first | assumption | exact hset_eq _ _ _ | refine (hset_ne _ _ (by omega)).trans ?_)) trivial ?_
    refine AW.vreturn dX3_add_57 rfl ?_
    rw [ex, show ((cnt : Int)).toNat = cnt by omega]
    refine hq _ _ _ (cnt + 1) ⟨?_, ?_, ?_, ?_, ?_⟩ M2 ⟨fun m hm q => updI_ne _ _ (fun z => q (z ▸ hW)), fun i hi => updI_ne _ _ (by omega), by omega⟩ (by rw [updI_eq]; omega) ?_
    · rw [hset_eq]; rfl
    · rw [hset_ne _ _ (by omega), hset_ne _ _ (by omega), hset_ne _ _ (by omega)]; exact g1
    · rw [hset_ne _ _ (by omega), hset_ne _ _ (by omega)]; exact hset_eq _ _ _
    · rw [hset_ne _ _ (by omega)]; exact hset_eq _ _ _
    · rw [hset_ne _ _ (by omega), hset_ne _ _ (by omega), hset_ne _ _ (by omega)]; exact g4
    · exact Fr.trans (Fr.trans (Fr.set (by unfold PF; omega)) (Fr.set (by unfold PF; omega))) (Fr.set (by unfold PF; omega))
  · have hW' : ¬ W ((x : Int)).toNat = -9 := by rw [ex]; exact hW
    refine AW.ist2 dX3_add_5 (by decide) ?_
    refine AW.aload_n dX3_add_6 rfl ?_
    refine AW.getf dX3_add_7 gX3_19 (by repeat (first | assumption | exact hset_eq _ _ _ | refine (hset_ne _ _ (by omega)).trans ?_)) rfl ?_
    refine AW.iload_n dX3_add_10 rfl ?_
    refine AW.iaload dX3_add_11 (by repeat (first | assumption | exact hset_eq _ _ _ | refine (hset_ne _ _ (by omega)).trans ?_)) (by omega) (by omega) ?_
    refine AW.bipush dX3_add_12 ?_
    refine AW.if_icmpne (tgt := 57) dX3_add_14 (by decide) (fun c14 => ?_) (fun c14 => absurd c14 hW')
    refine AW.vreturn dX3_add_57 rfl ?_
    exact hq h W FD cnt H M EV.rfl' hW Fr.rfl'
/-- what was found with j words -/
theorem Mid.at (M : Mid k g lv L W FD ST cnt) {i j : Nat} (hj1 : 1 ≤ j) (hj : j < L) (h1 : ST j ≤ (i : Int)) (h2 : (i : Int) < ST (j + 1)) : i < cnt ∧ ∃ x : Nat, x < 256 ∧ FD i = (x : Int) ∧ SH k g lv j (x : Int) := by
  obtain ⟨a0, b0, c0, e0, f0, g0, s1, s2⟩ := M
  have hic : i < cnt := by have := s1 (j + 1) (by omega) (by omega); omega
  obtain ⟨m, q1, q2, q3⟩ := e0 i hic
  have hw := (s2 i hic j hj1 (by omega)).mpr ⟨h1, fun _ => h2⟩
  rw [show (FD i).toNat = m by omega] at hw
  rcases b0 m q1 with y | ⟨j', y1, y2, y3, y4⟩
  · exact absurd y q3
  · have : j' = j := by omega
    rw [this] at y4
    exact ⟨hic, m, q1, q2, y4⟩
theorem Mid.of (M : Mid k g lv L W FD ST cnt) {j x : Nat} (hj1 : 1 ≤ j) (hj : j < L) (hx : x < 256) (hs : SH k g lv j (x : Int)) : ∃ i : Nat, i < cnt ∧ FD i = (x : Int) ∧ ST j ≤ (i : Int) ∧ (i : Int) < ST (j + 1) := by
  obtain ⟨a0, b0, c0, e0, f0, g0, s1, s2⟩ := M
  have hn := c0 x hx j hj hs.1
  obtain ⟨i, q1, q2⟩ := f0 x hx hn
  rcases b0 x hx with y | ⟨j', y1, y2, y3, y4⟩
  · exact absurd y hn
  · have : j' = j := y4.uniq hs
    subst this
    have := (s2 i q1 j' hj1 (by omega)).mp (by rw [q2, show ((x : Int)).toNat = x by omega]; exact y3)
    exact ⟨i, q1, q2, this.1, this.2 hj⟩
theorem L_nots (hg0 : 0 ≤ g) (hg9 : g ≤ 9) (hi : ∀ x, lv x → in8 x) (hb : 79 ≤ b ∧ b + 5 ≤ 116) (h9 : 120 ≤ h.1) (hS : StA h a k g) (hd : 3 ≤ d) (h2 : 2 ≤ L)
    (hq : ∀ h' W' FD' cnt', FwX h' b a kn W' FD' ST cnt' L lg → Mid k g lv L W' FD' ST cnt' → EV W FD W' FD' cnt cnt' → (∀ x : Nat, x < 256 → SH k g lv (L - 1) (x : Int) → W' (notF k g (x : Int)).toNat ≠ -9) → Fr h h' (PF b) → Q none h') :
    ∀ (r i : Nat) (h' : AH) (W' FD' : Nat → Int) (cnt' : Nat), (i : Int) + r = ST L → ST (L - 1) ≤ (i : Int) → FwX h' b a kn W' FD' ST cnt' L lg → Mid k g lv L W' FD' ST cnt' → EV W FD W' FD' cnt cnt' → Fr h h' (PF b) → (∀ j : Nat, ST (L - 1) ≤ (j : Int) → j < i → W' (notF k g (FD' j)).toNat ≠ -9) →
      AW d 0 0 mX3_addNots Q 12 [some (.inr b), some (.inl (i : Int))] [] h' := by
  intro r
  induction r with
  | zero =>
    intro i h' W' FD' cnt' hir hi0 H M E F hp
    obtain ⟨g0, g1, g2, g3, g4⟩ := id H
    have eL : ST ((L : Int)).toNat = ST L := by rw [show ((L : Int)).toNat = L by omega]
    have hL := M.1
    refine AW.iload_n dX3_addNots_12 rfl ?_
    refine AW.aload_n dX3_addNots_13 rfl ?_
    refine AW.getf dX3_addNots_14 gX3_29 (by repeat (first | assumption | exact hset_eq _ _ _ | refine (hset_ne _ _ (by omega)).trans ?_)) rfl ?_
    refine AW.aload_n dX3_addNots_17 rfl ?_
    refine AW.getf dX3_addNots_18 gX3_32 (by repeat (first | assumption | exact hset_eq _ _ _ | refine (hset_ne _ _ (by omega)).trans ?_)) rfl ?_
    refine AW.iaload dX3_addNots_21 (by repeat (first | assumption | exact hset_eq _ _ _ | refine (hset_ne _ _ (by omega)).trans ?_)) (by omega) (by omega) ?_
    refine AW.if_icmpge (tgt := 48) dX3_addNots_22 (by decide) (fun c22 => ?_) (fun c22 => absurd c22 (by rw [eL]; omega))
    refine AW.vreturn dX3_addNots_48 rfl ?_
    refine hq h' W' FD' cnt' H M E (fun x hx hs => ?_) F
    obtain ⟨i', q1, q2, q3, q4⟩ := M.of (by omega) (by omega) hx hs
    rw [← q2]
    refine hp i' q3 ?_
    rw [show L - 1 + 1 = L by omega] at q4
    omega
  | succ r ih =>
    intro i h' W' FD' cnt' hir hi0 H M E F hp
    obtain ⟨g0, g1, g2, g3, g4⟩ := id H
    have eL : ST ((L : Int)).toNat = ST L := by rw [show ((L : Int)).toNat = L by omega]
    have hL := M.1
    have hST := M.2.2.2.2.2.2.1 L (by omega) (Nat.le_refl _)
    obtain ⟨hic, x, hx, ex, hsx⟩ := M.at (i := i) (j := L - 1) (by omega) (by omega) hi0 (by rw [show L - 1 + 1 = L by omega]; omega)
    have hS' := hS.fr F (by unfold PF; omega)
    have hr : RS k g lv L (notF k g (x : Int)) := by
      have := hsx.1.not
      rw [show L - 1 + 1 = L by omega] at this
      exact this
    have h8 := RS_in8 hg0 hg9 hi hr
    have eN : notF k g (x : Int) = (((notF k g (x : Int)).toNat : Nat) : Int) := by have := h8.1; omega
    have e1 : FD' ((i : Int)).toNat = (x : Int) := by rw [show ((i : Int)).toNat = i by omega]; exact ex
    refine AW.iload_n dX3_addNots_12 rfl ?_
    refine AW.aload_n dX3_addNots_13 rfl ?_
    refine AW.getf dX3_addNots_14 gX3_29 (by repeat (first | assumption | exact hset_eq _ _ _ | refine (hset_ne _ _ (by omega)).trans ?_)) rfl ?_
    refine AW.aload_n dX3_addNots_17 rfl ?_
    refine AW.getf dX3_addNots_18 gX3_32 (by repeat (first | assumption | exact hset_eq _ _ _ | refine (hset_ne _ _ (by omega)).trans ?_)) rfl ?_
    refine AW.iaload dX3_addNots_21 (by repeat (first | assumption | exact hset_eq _ _ _ | refine (hset_ne _ _ (by omega)).trans ?_)) (by omega) (by omega) ?_
    refine AW.if_icmpge (tgt := 48) dX3_addNots_22 (by decide) (fun c22 => absurd c22 (by rw [eL]; omega)) (fun c22 => ?_)
    refine AW.aload_n dX3_addNots_25 rfl ?_
    refine AW.aload_n dX3_addNots_26 rfl ?_
    refine AW.getf dX3_addNots_27 gX3_9 (by repeat (first | assumption | exact hset_eq _ _ _ | refine (hset_ne _ _ (by omega)).trans ?_)) rfl ?_
    refine AW.aload_n dX3_addNots_30 rfl ?_
    refine AW.getf dX3_addNots_31 gX3_22 (by repeat (first | assumption | exact hset_eq _ _ _ | refine (hset_ne _ _ (by omega)).trans ?_)) rfl ?_
    refine AW.iload_n dX3_addNots_34 rfl ?_
    refine AW.iaload dX3_addNots_35 (by repeat (first | assumption | exact hset_eq _ _ _ | refine (hset_ne _ _ (by omega)).trans ?_)) (by omega) (by omega) ?_
    refine AW.vX3_90 rfl dX3_addNots_36 (by assumption) (by omega) (Nat.le_of_ble_eq_true rfl) ?_
    rw [e1, eN]
    refine AW.cI2 (d' := d - 1) (cX3_86 rfl) okX3_add dX3_addNots_39 (by repeat (first | assumption | exact hset_eq _ _ _ | refine (hset_ne _ _ (by omega)).trans ?_)) (by omega) (W_fadd (by omega) H M (by have := h8.2; omega) (by rw [← eN]; exact hr) (fun h2' W2 FD2 c2 H2 M2 E2 n2 F2 => ?_))
    refine AW.inc1 dX3_addNots_42 (by decide) (by unfold RI; omega) ?_
    refine AW.goto (tgt := 12) dX3_addNots_45 (by decide) ?_
    refine ih (i + 1) h2' W2 FD2 c2 (by omega) (by omega) H2 M2 (E.trans E2) (F.trans F2) (fun j hj1 hj2 => ?_)
    rw [E2.2.1 j (by omega)]
    by_cases z : j = i
    · rw [z, ex]; exact n2
    · obtain ⟨-, y, hy, ey, hsy⟩ := M.at (i := j) (j := L - 1) (by omega) (by omega) hj1 (by rw [show L - 1 + 1 = L by omega]; omega)
      have hr2 := RS_in8 hg0 hg9 hi hsy.1.not
      rw [ey]
      refine E2.ne (by have := hr2.2; have := hr2.1; omega) ?_
      rw [← ey]
      exact hp j hj1 (by omega)
theorem W_addNots (hg0 : 0 ≤ g) (hg9 : g ≤ 9) (hi : ∀ x, lv x → in8 x) (hb : 79 ≤ b ∧ b + 5 ≤ 116) (h9 : 120 ≤ h.1) (hS : StA h a k g) (hd : 3 ≤ d) (h2 : 2 ≤ L) (hle : ST (L - 1) ≤ ST L) (H : FwX h b a kn W FD ST cnt L lg) (M : Mid k g lv L W FD ST cnt)
    (hq : ∀ h' W' FD' cnt', FwX h' b a kn W' FD' ST cnt' L lg → Mid k g lv L W' FD' ST cnt' → EV W FD W' FD' cnt cnt' → (∀ x : Nat, x < 256 → SH k g lv (L - 1) (x : Int) → W' (notF k g (x : Int)).toNat ≠ -9) → Fr h h' (PF b) → Q none h') : MW d 0 0 mX3_addNots [.inr b] h Q := by
  obtain ⟨g0, g1, g2, g3, g4⟩ := id H
  have hL := M.1
  have h1 := M.2.2.2.2.2.2.1 (L - 1) (by omega) (by omega)
  have e1 : ST ((L : Int) - 1).toNat = (((ST (L - 1)).toNat : Nat) : Int) := by rw [show ((L : Int) - 1).toNat = L - 1 by omega]; omega
  show AW d 0 0 mX3_addNots Q 0 [some (.inr b), none] [] h
  refine AW.aload_n dX3_addNots_0 rfl ?_
  refine AW.getf dX3_addNots_1 gX3_29 (by repeat (first | assumption | exact hset_eq _ _ _ | refine (hset_ne _ _ (by omega)).trans ?_)) rfl ?_
  refine AW.aload_n dX3_addNots_4 rfl ?_
  refine AW.getf dX3_addNots_5 gX3_32 (by repeat (first | assumption | exact hset_eq _ _ _ | refine (hset_ne _ _ (by omega)).trans ?_)) rfl ?_
  refine AW.iconst dX3_addNots_8 ?_
  refine AW.isubR dX3_addNots_9 (by unfold RI; omega) ?_
  refine AW.iaload dX3_addNots_10 (by repeat (first | assumption | exact hset_eq _ _ _ | refine (hset_ne _ _ (by omega)).trans ?_)) (by omega) (by omega) ?_
  rw [e1]
  refine AW.ist1 dX3_addNots_11 (by decide) ?_
  exact L_nots hg0 hg9 hi hb h9 hS hd h2 hq (ST L - ST (L - 1)).toNat (ST (L - 1)).toNat h W FD cnt (by omega) (by omega) H M EV.rfl' Fr.rfl' (fun j q1 q2 => by omega)
end Few2

