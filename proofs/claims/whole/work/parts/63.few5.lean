def FIm (k g : Int) (lv : Int → Prop) (L lg : Nat) (W FD ST : Nat → Int) (cnt : Nat) : Prop := FI k g lv L lg W FD ST cnt ∧ ∀ j, 1 ≤ j → j < L → ST j ≤ ST (j + 1)
def FWv (h : AH) (b a : Nat) (kn : Nat → Int) (k g : Int) (lv : Int → Prop) : Prop := ∃ (W FD ST : Nat → Int) (cnt L lg : Nat), FwX h b a kn W FD ST cnt L lg ∧ FIm k g lv L lg W FD ST cnt
section Few5
variable {d : Nat} {Q : Option AV → AH → Prop} {h : AH} {b a : Nat} {k g : Int} {lv : Int → Prop} {L lg : Nat} {kn W FD ST : Nat → Int} {cnt : Nat}
theorem W_isComplete (H : FwX h b a kn W FD ST cnt L lg) (hlg : lg ≤ L) (hL : L ≤ 299) (hq1 : (256 ≤ cnt ∨ 2 * lg < L ∨ 299 ≤ L) → Q (some (.inl 1)) h) (hq0 : ¬ (256 ≤ cnt ∨ 2 * lg < L ∨ 299 ≤ L) → Q (some (.inl 0)) h) : MW d 0 0 mX3_isComplete [.inr b] h Q := by
  obtain ⟨g0, -⟩ := id H
  show AW d 0 0 mX3_isComplete Q 0 [some (.inr b)] [] h
  refine AW.aload_n dX3_isComplete_0 rfl ?_
  refine AW.getf dX3_isComplete_1 gX3_25 (by repeat (first | assumption | exact hset_eq _ _ _ | refine (hset_ne _ _ (by omega)).trans ?_)) rfl ?_
  refine AW.sipush dX3_isComplete_4 ?_
  refine AW.if_icmpge (tgt := 33) dX3_isComplete_7 (by decide) (fun c7 => ?_) (fun c7 => ?_)
  · refine AW.iconst dX3_isComplete_33 ?_
    refine AW.goto (tgt := 38) dX3_isComplete_34 (by decide) ?_
    refine AW.zreturn dX3_isComplete_38 rfl (Or.inr rfl) ?_
    first | exact hq1 (by omega) | exact hq0 (by omega)
  · refine AW.aload_n dX3_isComplete_10 rfl ?_
    refine AW.getf dX3_isComplete_11 gX3_32 (by repeat (first | assumption | exact hset_eq _ _ _ | refine (hset_ne _ _ (by omega)).trans ?_)) rfl ?_
    refine AW.iconst dX3_isComplete_14 ?_
    refine AW.aload_n dX3_isComplete_15 rfl ?_
    refine AW.getf dX3_isComplete_16 gX3_35 (by repeat (first | assumption | exact hset_eq _ _ _ | refine (hset_ne _ _ (by omega)).trans ?_)) rfl ?_
    refine AW.imulR dX3_isComplete_19 (by unfold RI; omega) ?_
    refine AW.if_icmpgt (tgt := 33) dX3_isComplete_20 (by decide) (fun c20 => ?_) (fun c20 => ?_)
    · refine AW.iconst dX3_isComplete_33 ?_
      refine AW.goto (tgt := 38) dX3_isComplete_34 (by decide) ?_
      refine AW.zreturn dX3_isComplete_38 rfl (Or.inr rfl) ?_
      first | exact hq1 (by omega) | exact hq0 (by omega)
    · refine AW.aload_n dX3_isComplete_23 rfl ?_
      refine AW.getf dX3_isComplete_24 gX3_32 (by repeat (first | assumption | exact hset_eq _ _ _ | refine (hset_ne _ _ (by omega)).trans ?_)) rfl ?_
      refine AW.sipush dX3_isComplete_27 ?_
      refine AW.if_icmplt (tgt := 37) dX3_isComplete_30 (by decide) (fun c30 => ?_) (fun c30 => ?_)
      · refine AW.iconst dX3_isComplete_37 ?_
        refine AW.zreturn dX3_isComplete_38 rfl (Or.inl rfl) ?_
        first | exact hq1 (by omega) | exact hq0 (by omega)
      · refine AW.iconst dX3_isComplete_33 ?_
        refine AW.goto (tgt := 38) dX3_isComplete_34 (by decide) ?_
        refine AW.zreturn dX3_isComplete_38 rfl (Or.inr rfl) ?_
        first | exact hq1 (by omega) | exact hq0 (by omega)
theorem W_look (hg0 : 0 ≤ g) (hg9 : g ≤ 9) (hi : ∀ x, lv x → in8 x) (hb : 79 ≤ b ∧ b + 5 ≤ 116) (h9 : 120 ≤ h.1) (hS : StA h a k g) (hd : 4 ≤ d) (H : FwX h b a kn W FD ST cnt L lg) (M : FIm k g lv L lg W FD ST cnt) (hL : L < 299)
    (hq : ∀ h' W' FD' ST' cnt' lg', FwX h' b a kn W' FD' ST' cnt' (L + 1) lg' → FIm k g lv (L + 1) lg' W' FD' ST' cnt' → Fr h h' (PF b) → Q none h') : MW d 0 0 mX3_lookAtNextLength [.inr b] h Q := by
  obtain ⟨g0, g1, g2, g3, g4⟩ := id H
  have hL1 := M.1.1.1
  have hlg := M.1.2.2
  have M1 := M.1.next hL
  have hc := M.1.1.1.2.2
  have H1 : FwX (hset (hset h b (.inl (3 + 1, [.inr a, .inr (b + 1), .inr (b + 2), .inr (b + 3), .inl (cnt : Int), .inr (b + 4), .inl ((L : Int) + 1), .inl (lg : Int)]))) (b + 4) (.inr (300, updI ST (L + 1) (cnt : Int)))) b a kn W FD (updI ST (L + 1) (cnt : Int)) cnt (L + 1) lg := by
    refine ⟨?_, ?_, ?_, ?_, hset_eq _ _ _⟩
    · rw [hset_ne _ _ (by omega), hset_eq]; rfl
    · rw [hset_ne _ _ (by omega), hset_ne _ _ (by omega)]; exact g1
    · rw [hset_ne _ _ (by omega), hset_ne _ _ (by omega)]; exact g2
    · rw [hset_ne _ _ (by omega), hset_ne _ _ (by omega)]; exact g3
  have F1 : Fr h (hset (hset h b (.inl (3 + 1, [.inr a, .inr (b + 1), .inr (b + 2), .inr (b + 3), .inl (cnt : Int), .inr (b + 4), .inl ((L : Int) + 1), .inl (lg : Int)]))) (b + 4) (.inr (300, updI ST (L + 1) (cnt : Int)))) (PF b) := Fr.trans (Fr.set (by unfold PF; omega)) (Fr.set (by unfold PF; omega))
  have hS1 := hS.fr F1 (by unfold PF; omega)
  have e1 : ((L : Int) + 1).toNat = L + 1 := by omega
  have hle : ∀ j, 1 ≤ j → j < L + 1 → updI ST (L + 1) (cnt : Int) j ≤ updI ST (L + 1) (cnt : Int) (j + 1) := by
    intro j j1 j2
    rw [updI_ne _ _ (by omega)]
    by_cases z : j = L
    · subst z
      rw [updI_eq]
      exact (M.1.1.2.2.2.2.2.2.1 j (by omega) (Nat.le_refl _)).2
    · rw [updI_ne _ _ (by omega)]
      exact M.2 j j1 (by omega)
  show AW d 0 0 mX3_lookAtNextLength Q 0 [some (.inr b)] [] h
  refine AW.aload_n dX3_lookAtNextLength_0 rfl ?_
  refine AW.getf dX3_lookAtNextLength_1 gX3_32 (by repeat (first | assumption | exact hset_eq _ _ _ | refine (hset_ne _ _ (by omega)).trans ?_)) rfl ?_
  refine AW.iconst dX3_lookAtNextLength_4 ?_
  refine AW.if_icmplt (tgt := 18) dX3_lookAtNextLength_5 (by decide) (fun c5 => absurd c5 (by omega)) (fun c5 => ?_)
  refine AW.aload_n dX3_lookAtNextLength_8 rfl ?_
  refine AW.getf dX3_lookAtNextLength_9 gX3_32 (by repeat (first | assumption | exact hset_eq _ _ _ | refine (hset_ne _ _ (by omega)).trans ?_)) rfl ?_
  refine AW.sipush dX3_lookAtNextLength_12 ?_
  refine AW.if_icmplt (tgt := 19) dX3_lookAtNextLength_15 (by decide) (fun c15 => ?_) (fun c15 => absurd c15 (by omega))
  refine AW.aload_n dX3_lookAtNextLength_19 rfl ?_
  refine AW.dup dX3_lookAtNextLength_20 ?_
  refine AW.getf dX3_lookAtNextLength_21 gX3_32 (by repeat (first | assumption | exact hset_eq _ _ _ | refine (hset_ne _ _ (by omega)).trans ?_)) rfl ?_
  refine AW.iconst dX3_lookAtNextLength_24 ?_
  refine AW.iaddR dX3_lookAtNextLength_25 (by unfold RI; omega) ?_
  refine AW.putf dX3_lookAtNextLength_26 pX3_32 (by repeat (first | assumption | exact hset_eq _ _ _ | refine (hset_ne _ _ (by omega)).trans ?_)) trivial ?_
  refine AW.aload_n dX3_lookAtNextLength_29 rfl ?_
  refine AW.getf dX3_lookAtNextLength_30 gX3_29 (by repeat (first | assumption | exact hset_eq _ _ _ | refine (hset_ne _ _ (by omega)).trans ?_)) rfl ?_
  refine AW.aload_n dX3_lookAtNextLength_33 rfl ?_
  refine AW.getf dX3_lookAtNextLength_34 gX3_32 (by repeat (first | assumption | exact hset_eq _ _ _ | refine (hset_ne _ _ (by omega)).trans ?_)) rfl ?_
  refine AW.aload_n dX3_lookAtNextLength_37 rfl ?_
  refine AW.getf dX3_lookAtNextLength_38 gX3_25 (by repeat (first | assumption | exact hset_eq _ _ _ | refine (hset_ne _ _ (by omega)).trans ?_)) rfl ?_
  refine AW.iastore dX3_lookAtNextLength_41 (by omega) (by repeat (first | assumption | exact hset_eq _ _ _ | refine (hset_ne _ _ (by omega)).trans ?_)) (by omega) (by omega) ?_
  rw [e1]
  obtain ⟨k0, -⟩ := id H1
  refine AW.aload_n dX3_lookAtNextLength_42 rfl ?_
  refine AW.cI1 (d' := d - 1) (cX3_77 rfl) okX3_addNots dX3_lookAtNextLength_43 (by repeat (first | assumption | exact hset_eq _ _ _ | refine (hset_ne _ _ (by omega)).trans ?_)) (by omega) (W_addNots hg0 hg9 hi hb h9 hS1 (by omega) (by omega) (hle L (by omega) (by omega)) H1 M1 (fun h2 W2 FD2 c2 H2 M2 E2 n2 F2 => ?_))
  have hS2 := hS1.fr F2 (by unfold PF; omega)
  obtain ⟨l0, -⟩ := id H2
  refine AW.aload_n dX3_lookAtNextLength_46 rfl ?_
  refine AW.cI1 (d' := d - 1) (cX3_80 rfl) okX3_addJoined dX3_lookAtNextLength_47 (by repeat (first | assumption | exact hset_eq _ _ _ | refine (hset_ne _ _ (by omega)).trans ?_)) (by omega) (W_addJoined hg0 hg9 hi hb (Nat.le_trans h9 F2.1) hS2 (by omega) (by omega) hle H2 M2 (fun h3 W3 FD3 c3 H3 M3 E3 n3 F3 => ?_))
  obtain ⟨j0, j1, j2, j3, j4⟩ := id H3
  have E := E2.trans E3
  have hcl := M3.close hg0 hg9 hi (by omega) (fun x hx hs => by
    have hs' : SH k g lv L (x : Int) := hs
    have h8 := RS_in8 hg0 hg9 hi hs'.1.not
    exact E3.ne (by have := h8.1; have := h8.2; omega) (n2 x hx hs)) n3
  have eS : updI ST (L + 1) (cnt : Int) (((L + 1 : Nat) : Int)).toNat = (cnt : Int) := by rw [show (((L + 1 : Nat) : Int)).toNat = L + 1 by omega, updI_eq]
  have hcc := E.2.2
  have hold : c3 = cnt → ∀ m : Nat, m < 256 → W3 m ≤ (lg : Int) := by
    intro e m hm
    by_cases q : W3 m = -9
    · omega
    · obtain ⟨i, q1, q2⟩ := M3.2.2.2.2.1 m hm q
      rw [E.2.1 i (by omega)] at q2
      obtain ⟨m2, r1, r2, r3⟩ := M.1.1.2.2.2.1 i (by omega)
      have : m2 = m := by omega
      subst this
      rw [E.1 m2 hm r3]
      exact M.1.2.2.2.2 m2 hm
  have hc3 := M3.1.2.2
  refine AW.aload_n dX3_lookAtNextLength_50 rfl ?_
  refine AW.getf dX3_lookAtNextLength_51 gX3_25 (by repeat (first | assumption | exact hset_eq _ _ _ | refine (hset_ne _ _ (by omega)).trans ?_)) rfl ?_
  refine AW.aload_n dX3_lookAtNextLength_54 rfl ?_
  refine AW.getf dX3_lookAtNextLength_55 gX3_29 (by repeat (first | assumption | exact hset_eq _ _ _ | refine (hset_ne _ _ (by omega)).trans ?_)) rfl ?_
  refine AW.aload_n dX3_lookAtNextLength_58 rfl ?_
  refine AW.getf dX3_lookAtNextLength_59 gX3_32 (by repeat (first | assumption | exact hset_eq _ _ _ | refine (hset_ne _ _ (by omega)).trans ?_)) rfl ?_
  refine AW.iaload dX3_lookAtNextLength_62 (by repeat (first | assumption | exact hset_eq _ _ _ | refine (hset_ne _ _ (by omega)).trans ?_)) (by omega) (by omega) ?_
  refine AW.if_icmple (tgt := 74) dX3_lookAtNextLength_63 (by decide) (fun c63 => ?_) (fun c63 => ?_)
  · refine AW.vreturn dX3_lookAtNextLength_74 rfl ?_
    first
      | exact hq h3 W3 FD3 _ c3 lg H3 ⟨⟨M3, hcl, by omega, by omega, hold (by omega)⟩, hle⟩ ((F1.trans F2).trans F3)
      | (refine hq _ W3 FD3 _ c3 (L + 1) ⟨?_, ?_, ?_, ?_, ?_⟩ ⟨⟨M3, hcl, by omega, by omega, fun m hm => ?_⟩, hle⟩ (((F1.trans F2).trans F3).trans (Fr.set (by unfold PF; omega)))
         · rw [hset_eq]; rfl
         · rw [hset_ne _ _ (by omega)]; exact j1
         · rw [hset_ne _ _ (by omega)]; exact j2
         · rw [hset_ne _ _ (by omega)]; exact j3
         · rw [hset_ne _ _ (by omega)]; exact j4
         · rcases M3.2.1 m hm with q | ⟨j, q1, q2, q3, -⟩
           · omega
           · omega)
  · refine AW.aload_n dX3_lookAtNextLength_66 rfl ?_
    refine AW.aload_n dX3_lookAtNextLength_67 rfl ?_
    refine AW.getf dX3_lookAtNextLength_68 gX3_32 (by repeat (first | assumption | exact hset_eq _ _ _ | refine (hset_ne _ _ (by omega)).trans ?_)) rfl ?_
    refine AW.putf dX3_lookAtNextLength_71 pX3_35 (by repeat (first | assumption | exact hset_eq _ _ _ | refine (hset_ne _ _ (by omega)).trans ?_)) trivial ?_
    refine AW.vreturn dX3_lookAtNextLength_74 rfl ?_
    first
      | exact hq h3 W3 FD3 _ c3 lg H3 ⟨⟨M3, hcl, by omega, by omega, hold (by omega)⟩, hle⟩ ((F1.trans F2).trans F3)
      | (refine hq _ W3 FD3 _ c3 (L + 1) ⟨?_, ?_, ?_, ?_, ?_⟩ ⟨⟨M3, hcl, by omega, by omega, fun m hm => ?_⟩, hle⟩ (((F1.trans F2).trans F3).trans (Fr.set (by unfold PF; omega)))
         · rw [hset_eq]; rfl
         · rw [hset_ne _ _ (by omega)]; exact j1
         · rw [hset_ne _ _ (by omega)]; exact j2
         · rw [hset_ne _ _ (by omega)]; exact j3
         · rw [hset_ne _ _ (by omega)]; exact j4
         · rcases M3.2.1 m hm with q | ⟨j, q1, q2, q3, -⟩
           · omega
           · omega)
end Few5

