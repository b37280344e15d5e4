section Lis
variable {d : Nat} {Q : Option AV → AH → Prop} {h : AH} {b a : Nat} {x k g more : Int} {ws : List Nat} {w : Nat} {nm : Nat → Int} {f f2 : Nat → Int} {l : List Int}
theorem W_noName (h1 : ¬ (0 ≤ x ∧ x < 4) → Q (some (.inl 1)) h) (h0 : 0 ≤ x → x < 4 → Q (some (.inl 0)) h) : MW d 0 0 mX11_noName [.inl x] h Q := by
  show AW d 0 0 mX11_noName Q 0 [some (.inl x)] [] h
  refine AW.iload_n dX11_noName_0 rfl ?_
  refine AW.iflt (tgt := 9) dX11_noName_1 (by decide) (fun c1 => ?_) (fun c1 => ?_)
  · refine AW.iconst dX11_noName_9 ?_
    refine AW.goto (tgt := 14) dX11_noName_10 (by decide) ?_
    refine AW.zreturn dX11_noName_14 rfl (Or.inr rfl) ?_
    first | exact h0 (by omega) (by omega) | exact h1 (by omega)
  · refine AW.iload_n dX11_noName_4 rfl ?_
    refine AW.iconst dX11_noName_5 ?_
    refine AW.if_icmplt (tgt := 13) dX11_noName_6 (by decide) (fun c6 => ?_) (fun c6 => ?_)
    · refine AW.iconst dX11_noName_13 ?_
      refine AW.zreturn dX11_noName_14 rfl (Or.inl rfl) ?_
      first | exact h0 (by omega) (by omega) | exact h1 (by omega)
    · refine AW.iconst dX11_noName_9 ?_
      refine AW.goto (tgt := 14) dX11_noName_10 (by decide) ?_
      refine AW.zreturn dX11_noName_14 rfl (Or.inr rfl) ?_
      first | exact h0 (by omega) (by omega) | exact h1 (by omega)
theorem LETT_f : ∀ w : Nat, w < 3 → LETT w = 112 + (w : Int) ∧ rowOf [170, 204, 240] w = (if w = 0 then 170 else if w = 1 then 204 else if w = 2 then 240 else 0) := by decide
theorem LETT_n : ∀ w : Nat, w < 7 → 3 ≤ w → LETT w = 62 + (w : Int) := by decide
def nmOK (nm : Nat → Int) : Prop := ∀ i, i < 4 → nm i = -9 ∨ 0 ≤ nm i
theorem W_leaf (h4 : h.2 4 = .inr (3, rowOf [170, 204, 240])) (h73 : h.2 73 = .inl (7, [.inr a, .inr 75, .inr 76])) (h75 : h.2 75 = .inr (5, f)) (hf : ∀ i, i < 4 → f i = nm i) (hn : nmOK nm) (hw : w < 7) (hd : 1 ≤ d) (hq : Q (some (.inl (lfK nm w))) h) : MW d 0 0 mX6_meaningOfLeaf [.inr 73, .inl (LETT w)] h Q := by
  have e : ∀ v, lfK nm w = v → Q (some (.inl v)) h := fun v hv => hv ▸ hq
  unfold lfK at e
  by_cases h3 : w < 3
  · obtain ⟨e1, e2⟩ := LETT_f w h3
    rw [e1]
    show AW d 0 0 mX6_meaningOfLeaf Q 0 [some (.inr 73), some (.inl (112 + (w : Int))), none, none] [] h
    refine AW.iload_n dX6_meaningOfLeaf_0 rfl ?_
    refine AW.bipush dX6_meaningOfLeaf_1 ?_
    refine AW.isubR dX6_meaningOfLeaf_3 (by unfold RI; omega) ?_
    refine AW.ist2 dX6_meaningOfLeaf_4 (by decide) ?_
    refine AW.iload_n dX6_meaningOfLeaf_5 rfl ?_
    refine AW.iflt (tgt := 23) dX6_meaningOfLeaf_6 (by decide) (fun c6 => absurd c6 (by omega)) (fun c6 => ?_)
    refine AW.iload_n dX6_meaningOfLeaf_9 rfl ?_
    refine AW.gets dX6_meaningOfLeaf_10 sX6_56 ?_
    refine AW.alen dX6_meaningOfLeaf_13 (by repeat (first | assumption | exact hset_eq _ _ _ | refine (hset_ne _ _ (by omega)).trans ?_)) (by omega) ?_
    refine AW.if_icmpge (tgt := 23) dX6_meaningOfLeaf_14 (by decide) (fun c14 => absurd c14 (by omega)) (fun c14 => ?_)
    refine AW.gets dX6_meaningOfLeaf_17 sX6_56 ?_
    refine AW.iload_n dX6_meaningOfLeaf_20 rfl ?_
    refine AW.iaload dX6_meaningOfLeaf_21 (by repeat (first | assumption | exact hset_eq _ _ _ | refine (hset_ne _ _ (by omega)).trans ?_)) (by omega) (by omega) ?_
    refine AW.ireturn dX6_meaningOfLeaf_22 rfl ?_
    rw [show (112 + (w : Int) - 112).toNat = w by omega, e2]
    refine e _ ?_
    have : w = 0 ∨ w = 1 ∨ w = 2 := by omega
    rcases this with rfl | rfl | rfl
    · rfl
    · rfl
    · rfl
  · have e1 := LETT_n w hw (by omega)
    rw [e1]
    rw [if_neg (by omega), if_neg (by omega), if_neg (by omega)] at e
    have ei : (62 + (w : Int) - 65).toNat = w - 3 := by omega
    have hv := hn (w - 3) (by omega)
    have hf3 := hf (w - 3) (by omega)
    show AW d 0 0 mX6_meaningOfLeaf Q 0 [some (.inr 73), some (.inl (62 + (w : Int))), none, none] [] h
    refine AW.iload_n dX6_meaningOfLeaf_0 rfl ?_
    refine AW.bipush dX6_meaningOfLeaf_1 ?_
    refine AW.isubR dX6_meaningOfLeaf_3 (by unfold RI; omega) ?_
    refine AW.ist2 dX6_meaningOfLeaf_4 (by decide) ?_
    refine AW.iload_n dX6_meaningOfLeaf_5 rfl ?_
    refine AW.iflt (tgt := 23) dX6_meaningOfLeaf_6 (by decide) (fun c6 => ?_) (fun c6 => absurd c6 (by omega))
    refine AW.iload_n dX6_meaningOfLeaf_23 rfl ?_
    refine AW.bipush dX6_meaningOfLeaf_24 ?_
    refine AW.isubR dX6_meaningOfLeaf_26 (by unfold RI; omega) ?_
    refine AW.ist3 dX6_meaningOfLeaf_27 (by decide) ?_
    refine AW.iload_n dX6_meaningOfLeaf_28 rfl ?_
    refine AW.cS1 (d' := d - 1) (cX6_59 rfl) okX11_noName dX6_meaningOfLeaf_29 (by omega) (W_noName (fun c => absurd c (by omega)) (fun c1 c2 => ?_))
    refine AW.ifne_f (tgt := 46) dX6_meaningOfLeaf_32 (by decide) rfl ?_
    refine AW.aload_n dX6_meaningOfLeaf_35 rfl ?_
    refine AW.getf dX6_meaningOfLeaf_36 gX6_20 (by repeat (first | assumption | exact hset_eq _ _ _ | refine (hset_ne _ _ (by omega)).trans ?_)) rfl ?_
    refine AW.iload_n dX6_meaningOfLeaf_39 rfl ?_
    refine AW.iaload dX6_meaningOfLeaf_40 (by repeat (first | assumption | exact hset_eq _ _ _ | refine (hset_ne _ _ (by omega)).trans ?_)) (by omega) (by omega) ?_
    rw [ei, hf3]
    refine AW.bipush dX6_meaningOfLeaf_41 ?_
    refine AW.if_icmpne (tgt := 50) dX6_meaningOfLeaf_43 (by decide) (fun c43 => ?_) (fun c43 => ?_)
    · refine AW.aload_n dX6_meaningOfLeaf_50 rfl ?_
      refine AW.getf dX6_meaningOfLeaf_51 gX6_20 (by repeat (first | assumption | exact hset_eq _ _ _ | refine (hset_ne _ _ (by omega)).trans ?_)) rfl ?_
      refine AW.iload_n dX6_meaningOfLeaf_54 rfl ?_
      refine AW.iaload dX6_meaningOfLeaf_55 (by repeat (first | assumption | exact hset_eq _ _ _ | refine (hset_ne _ _ (by omega)).trans ?_)) (by omega) (by omega) ?_
      refine AW.ireturn dX6_meaningOfLeaf_56 rfl ?_
      first
        | exact e _ (if_pos (by omega))
        | (rw [ei, hf3]
           exact e _ (if_neg (by omega)))
    · refine AW.iconst dX6_meaningOfLeaf_46 ?_
      refine AW.goto (tgt := 56) dX6_meaningOfLeaf_47 (by decide) ?_
      refine AW.ireturn dX6_meaningOfLeaf_56 rfl ?_
      first
        | exact e _ (if_pos (by omega))
        | (rw [ei, hf3]
           exact e _ (if_neg (by omega)))
theorem LETT_97 : ∀ w : Nat, w ≤ 9 → 7 < w → (LETT w = 97 ↔ w = 8) := by decide
def P76 (a : Nat) : Prop := a = 76
theorem W_hear {t : List Nat} {n n2 : Nat} (h4 : h.2 4 = .inr (3, rowOf [170, 204, 240])) (h73 : h.2 73 = .inl (7, [.inr a, .inr 75, .inr 76])) (hS : StA h a k g) (h75 : h.2 75 = .inr (5, f)) (hf : ∀ i, i < 4 → f i = nm i) (hn : nmOK nm) (h76 : h.2 76 = .inr (20, f2)) (hP : PR f2 l) (hl : l.length = n) (ht : hgt t = some n) (hwt : hgt (w :: t) = some n2) (h20 : t.length < 20) (hd : 3 ≤ d)
    (hq : ∀ h' f3, h' = hset h 76 (.inr (20, f3)) → PR f3 (stepF k g (lfK nm) w l) → (stepF k g (lfK nm) w l).length = n2 → Q (some (.inl (n2 : Int))) h') : MW d 0 0 mX6_hear [.inr 73, .inl (LETT w), .inl (n : Int)] h Q := by
  obtain ⟨h9, r, hr, hp, hk⟩ := hgt_un hwt
  rw [ht] at hr
  cases hr
  have hle := hgt_le ht
  have hpt := ptL_LETT h9
  have h97 := LETT_97 w h9
  by_cases h7 : w < 7
  · have ep : ptW w = 0 := by unfold ptW; rw [if_pos h7]
    rw [ep] at hpt hk
    have es : stepF k g (lfK nm) w l = lfK nm w :: l := by unfold stepF; rw [if_pos h7]
    have hpt : ptL (LETT w) = 0 := hpt
    show AW d 0 0 mX6_hear Q 0 [some (.inr 73), some (.inl (LETT w)), some (.inl (n : Int)), none, none, none] [] h
    refine AW.iload_n dX6_hear_0 rfl ?_
    refine AW.cS1 (d' := d - 1) (cX6_40 rfl) okX7_partsOf dX6_hear_1 (by omega) (W_partsOf ?_)
    refine AW.ist3 dX6_hear_4 (by decide) ?_
    refine AW.iload_n dX6_hear_5 rfl ?_
    refine AW.iconst dX6_hear_6 ?_
    refine AW.if_icmpne (tgt := 40) dX6_hear_7 (by decide) (fun c7 => ?_) (fun c7 => absurd c7 (by omega))
    refine AW.iload_n dX6_hear_40 rfl ?_
    refine AW.iconst dX6_hear_41 ?_
    refine AW.if_icmpne (tgt := 113) dX6_hear_42 (by decide) (fun c42 => ?_) (fun c42 => absurd c42 (by omega))
    refine AW.iload_n dX6_hear_113 rfl ?_
    refine AW.ifne (tgt := 138) dX6_hear_114 (by decide) (fun c114 => absurd c114 (by omega)) (fun c114 => ?_)
    refine AW.iload_n dX6_hear_117 rfl ?_
    refine AW.bipush dX6_hear_118 ?_
    refine AW.if_icmpge (tgt := 138) dX6_hear_120 (by decide) (fun c120 => absurd c120 (by omega)) (fun c120 => ?_)
    refine AW.aload_n dX6_hear_123 rfl ?_
    refine AW.getf dX6_hear_124 gX6_24 (by repeat (first | assumption | exact hset_eq _ _ _ | refine (hset_ne _ _ (by omega)).trans ?_)) rfl ?_
    refine AW.iload_n dX6_hear_127 rfl ?_
    refine AW.aload_n dX6_hear_128 rfl ?_
    refine AW.iload_n dX6_hear_129 rfl ?_
    refine AW.cI2 (d' := d - 1) (cX6_53 rfl) okX6_meaningOfLeaf dX6_hear_130 (by repeat (first | assumption | exact hset_eq _ _ _ | refine (hset_ne _ _ (by omega)).trans ?_)) (by omega) (W_leaf h4 h73 h75 hf hn h7 (by omega) ?_)
    refine AW.iastore dX6_hear_133 (by omega) (by repeat (first | assumption | exact hset_eq _ _ _ | refine (hset_ne _ _ (by omega)).trans ?_)) (by omega) (by omega) ?_
    refine AW.iload_n dX6_hear_134 rfl ?_
    refine AW.iconst dX6_hear_135 ?_
    refine AW.iaddR dX6_hear_136 (by unfold RI; omega) ?_
    refine AW.ireturn dX6_hear_137 rfl ?_
    rw [show (n : Int) + 1 = (n2 : Int) by omega]
    refine hq _ _ rfl ?_ (by rw [es, List.length_cons]; omega)
    rw [es]
    exact hP.cons_at _ (by omega)
  · by_cases e7 : w = 7
    · have ep : ptW w = 1 := by unfold ptW; rw [if_neg h7, if_pos e7]
      rw [ep] at hpt hk hp
      have hpt : ptL (LETT w) = 1 := hpt
      obtain ⟨x, l', rfl⟩ : ∃ x l', l = x :: l' := by
        cases l with
        | nil => simp at hl; omega
        | cons x l' => exact ⟨x, l', rfl⟩
      have hl' : l'.length + 1 = n := hl
      have htop := hP.top
      have es : stepF k g (lfK nm) w (x :: l') = notF k g x :: l' := by unfold stepF; rw [if_neg h7, if_pos e7]
      have ei : ((n : Int) - 1).toNat = l'.length := by omega
      show AW d 0 0 mX6_hear Q 0 [some (.inr 73), some (.inl (LETT w)), some (.inl (n : Int)), none, none, none] [] h
      refine AW.iload_n dX6_hear_0 rfl ?_
      refine AW.cS1 (d' := d - 1) (cX6_40 rfl) okX7_partsOf dX6_hear_1 (by omega) (W_partsOf ?_)
      refine AW.ist3 dX6_hear_4 (by decide) ?_
      refine AW.iload_n dX6_hear_5 rfl ?_
      refine AW.iconst dX6_hear_6 ?_
      refine AW.if_icmpne (tgt := 40) dX6_hear_7 (by decide) (fun c7 => absurd c7 (by omega)) (fun c7 => ?_)
      refine AW.iload_n dX6_hear_10 rfl ?_
      refine AW.iconst dX6_hear_11 ?_
      refine AW.if_icmplt (tgt := 40) dX6_hear_12 (by decide) (fun c12 => absurd c12 (by omega)) (fun c12 => ?_)
      refine AW.aload_n dX6_hear_15 rfl ?_
      refine AW.getf dX6_hear_16 gX6_24 (by repeat (first | assumption | exact hset_eq _ _ _ | refine (hset_ne _ _ (by omega)).trans ?_)) rfl ?_
      refine AW.iload_n dX6_hear_19 rfl ?_
      refine AW.iconst dX6_hear_20 ?_
      refine AW.isubR dX6_hear_21 (by unfold RI; omega) ?_
      refine AW.aload_n dX6_hear_22 rfl ?_
      refine AW.getf dX6_hear_23 gX6_14 (by repeat (first | assumption | exact hset_eq _ _ _ | refine (hset_ne _ _ (by omega)).trans ?_)) rfl ?_
      refine AW.aload_n dX6_hear_26 rfl ?_
      refine AW.getf dX6_hear_27 gX6_24 (by repeat (first | assumption | exact hset_eq _ _ _ | refine (hset_ne _ _ (by omega)).trans ?_)) rfl ?_
      refine AW.iload_n dX6_hear_30 rfl ?_
      refine AW.iconst dX6_hear_31 ?_
      refine AW.isubR dX6_hear_32 (by unfold RI; omega) ?_
      refine AW.iaload dX6_hear_33 (by repeat (first | assumption | exact hset_eq _ _ _ | refine (hset_ne _ _ (by omega)).trans ?_)) (by omega) (by omega) ?_
      refine AW.vX6_44 rfl dX6_hear_34 (by assumption) (by omega) (Nat.le_of_ble_eq_true rfl) ?_
      refine AW.iastore dX6_hear_37 (by omega) (by repeat (first | assumption | exact hset_eq _ _ _ | refine (hset_ne _ _ (by omega)).trans ?_)) (by omega) (by omega) ?_
      refine AW.iload_n dX6_hear_38 rfl ?_
      refine AW.ireturn dX6_hear_39 rfl ?_
      rw [ei, htop, show (n : Int) = (n2 : Int) by omega]
      refine hq _ _ rfl ?_ (by rw [es, List.length_cons]; omega)
      rw [es]
      exact hP.tail.cons_at _ rfl
    · have ep : ptW w = 2 := by unfold ptW; rw [if_neg h7, if_neg e7]
      rw [ep] at hpt hk hp
      have hpt : ptL (LETT w) = 2 := hpt
      obtain ⟨x, y, l', rfl⟩ : ∃ x y l', l = x :: y :: l' := by
        match l, hl with
        | [], hl => simp at hl; omega
        | [x], hl => simp at hl; omega
        | x :: y :: l', _ => exact ⟨x, y, l', rfl⟩
      have hl' : l'.length + 2 = n := hl
      have htop := hP.top
      have htop2 := hP.tail.top
      have es : stepF k g (lfK nm) w (x :: y :: l') = (if w = 8 then andF k x y else orF k g x y) :: l' := by unfold stepF; rw [if_neg h7, if_neg e7]
      have ei : ((n : Int) - 1).toNat = (y :: l').length := by rw [List.length_cons]; omega
      have ei2 : ((n : Int) - 2).toNat = l'.length := by omega
      have fin : ∀ v, v = (if w = 8 then andF k x y else orF k g x y) → Q (some (.inl (n2 : Int))) (hset h 76 (.inr (20, updI f2 l'.length v))) := by
        intro v hv
        refine hq _ _ rfl ?_ (by rw [es, List.length_cons]; omega)
        rw [es, ← hv]
        exact hP.tail.tail.cons_at _ rfl
      show AW d 0 0 mX6_hear Q 0 [some (.inr 73), some (.inl (LETT w)), some (.inl (n : Int)), none, none, none] [] h
      refine AW.iload_n dX6_hear_0 rfl ?_
      refine AW.cS1 (d' := d - 1) (cX6_40 rfl) okX7_partsOf dX6_hear_1 (by omega) (W_partsOf ?_)
      refine AW.ist3 dX6_hear_4 (by decide) ?_
      refine AW.iload_n dX6_hear_5 rfl ?_
      refine AW.iconst dX6_hear_6 ?_
      refine AW.if_icmpne (tgt := 40) dX6_hear_7 (by decide) (fun c7 => ?_) (fun c7 => absurd c7 (by omega))
      refine AW.iload_n dX6_hear_40 rfl ?_
      refine AW.iconst dX6_hear_41 ?_
      refine AW.if_icmpne (tgt := 113) dX6_hear_42 (by decide) (fun c42 => absurd c42 (by omega)) (fun c42 => ?_)
      refine AW.iload_n dX6_hear_45 rfl ?_
      refine AW.iconst dX6_hear_46 ?_
      refine AW.if_icmplt (tgt := 113) dX6_hear_47 (by decide) (fun c47 => absurd c47 (by omega)) (fun c47 => ?_)
      refine AW.aload_n dX6_hear_50 rfl ?_
      refine AW.getf dX6_hear_51 gX6_24 (by repeat (first | assumption | exact hset_eq _ _ _ | refine (hset_ne _ _ (by omega)).trans ?_)) rfl ?_
      refine AW.iload_n dX6_hear_54 rfl ?_
      refine AW.iconst dX6_hear_55 ?_
      refine AW.isubR dX6_hear_56 (by unfold RI; omega) ?_
      refine AW.iaload dX6_hear_57 (by repeat (first | assumption | exact hset_eq _ _ _ | refine (hset_ne _ _ (by omega)).trans ?_)) (by omega) (by omega) ?_
      refine AW.ist4 dX6_hear_58 (by decide) ?_
      refine AW.aload_n dX6_hear_60 rfl ?_
      refine AW.getf dX6_hear_61 gX6_24 (by repeat (first | assumption | exact hset_eq _ _ _ | refine (hset_ne _ _ (by omega)).trans ?_)) rfl ?_
      refine AW.iload_n dX6_hear_64 rfl ?_
      refine AW.iconst dX6_hear_65 ?_
      refine AW.isubR dX6_hear_66 (by unfold RI; omega) ?_
      refine AW.iaload dX6_hear_67 (by repeat (first | assumption | exact hset_eq _ _ _ | refine (hset_ne _ _ (by omega)).trans ?_)) (by omega) (by omega) ?_
      refine AW.ist5 dX6_hear_68 (by decide) ?_
      refine AW.aload_n dX6_hear_70 rfl ?_
      refine AW.getf dX6_hear_71 gX6_24 (by repeat (first | assumption | exact hset_eq _ _ _ | refine (hset_ne _ _ (by omega)).trans ?_)) rfl ?_
      refine AW.iload_n dX6_hear_74 rfl ?_
      refine AW.iconst dX6_hear_75 ?_
      refine AW.isubR dX6_hear_76 (by unfold RI; omega) ?_
      refine AW.iload_n dX6_hear_77 rfl ?_
      refine AW.bipush dX6_hear_78 ?_
      refine AW.if_icmpne (tgt := 97) dX6_hear_80 (by decide) (fun c80 => ?_) (fun c80 => ?_)
      · refine AW.aload_n dX6_hear_97 rfl ?_
        refine AW.getf dX6_hear_98 gX6_14 (by repeat (first | assumption | exact hset_eq _ _ _ | refine (hset_ne _ _ (by omega)).trans ?_)) rfl ?_
        refine AW.iload dX6_hear_101 rfl ?_
        refine AW.iload dX6_hear_103 rfl ?_
        refine AW.vX6_50 rfl dX6_hear_105 (by assumption) (by omega) (Nat.le_of_ble_eq_true rfl) ?_
        refine AW.iastore dX6_hear_108 (by omega) (by repeat (first | assumption | exact hset_eq _ _ _ | refine (hset_ne _ _ (by omega)).trans ?_)) (by omega) (by omega) ?_
        refine AW.iload_n dX6_hear_109 rfl ?_
        refine AW.iconst dX6_hear_110 ?_
        refine AW.isubR dX6_hear_111 (by unfold RI; omega) ?_
        refine AW.ireturn dX6_hear_112 rfl ?_
        rw [ei, ei2, htop, htop2, show (n : Int) - 1 = (n2 : Int) by omega]
        first
          | exact fin _ (by rw [if_neg (by omega)])
          | exact fin _ (by rw [if_pos (by omega)])
      · refine AW.aload_n dX6_hear_83 rfl ?_
        refine AW.getf dX6_hear_84 gX6_14 (by repeat (first | assumption | exact hset_eq _ _ _ | refine (hset_ne _ _ (by omega)).trans ?_)) rfl ?_
        refine AW.iload dX6_hear_87 rfl ?_
        refine AW.iload dX6_hear_89 rfl ?_
        refine AW.vX6_47 rfl dX6_hear_91 (by assumption) (by omega) (Nat.le_of_ble_eq_true rfl) ?_
        refine AW.goto (tgt := 108) dX6_hear_94 (by decide) ?_
        refine AW.iastore dX6_hear_108 (by omega) (by repeat (first | assumption | exact hset_eq _ _ _ | refine (hset_ne _ _ (by omega)).trans ?_)) (by omega) (by omega) ?_
        refine AW.iload_n dX6_hear_109 rfl ?_
        refine AW.iconst dX6_hear_110 ?_
        refine AW.isubR dX6_hear_111 (by unfold RI; omega) ?_
        refine AW.ireturn dX6_hear_112 rfl ?_
        rw [ei, ei2, htop, htop2, show (n : Int) - 1 = (n2 : Int) by omega]
        first
          | exact fin _ (by rw [if_neg (by omega)])
          | exact fin _ (by rw [if_pos (by omega)])
end Lis

