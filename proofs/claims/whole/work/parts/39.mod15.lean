section Mod15
variable {d : Nat} {Q : Option AV → AH → Prop} {h h0 : AH} {m : Nat → Int} {A : Nat → Nat → Int} {who more x y z v : Int} {S : ST} {s : SC}
theorem W_cut (hM : MS h0 h S) (hd : 5 ≤ d) (hq : ∀ r S' h', (r, S') = o_cut S x y → MS h0 h' S' → Q (some (.inl r)) h') : MW d 0 0 mX12_cut [.inr 116, .inl x, .inl y] h Q := by
  obtain ⟨m, A, hM, hP, ok⟩ := hM
  obtain ⟨g116, -⟩ := id hM
  obtain ⟨⟨q1, q2, q3, q4, q5, q6⟩, p2⟩ := id hP
  have h6 := ok.1.2.1
  show AW d 0 0 mX12_cut Q 0 [some (.inr 116), some (.inl x), some (.inl y), none] [] h
  refine AW.aload_n dX12_cut_0 rfl ?_
  refine AW.iload_n dX12_cut_1 rfl ?_
  refine AW.cI2 (d' := d - 1) (cX12_195 rfl) okX12_isWho dX12_cut_2 (by repeat (first | assumption | exact hset_eq _ _ _ | refine (hset_ne _ _ (by omega)).trans ?_)) (by omega) (W_isWho (by assumption) (fun c2 c2b => ?_) (fun c2 => ?_))
  · refine AW.ifeq_f (tgt := 16) dX12_cut_5 (by decide) (by decide) ?_
    refine AW.aload_n dX12_cut_8 rfl ?_
    refine AW.iload_n dX12_cut_9 rfl ?_
    refine AW.cI2 (d' := d - 1) (cX12_189 rfl) okX12_isScholar dX12_cut_10 (by repeat (first | assumption | exact hset_eq _ _ _ | refine (hset_ne _ _ (by omega)).trans ?_)) (by omega) (W_isScholar (by assumption) (fun c10 c10b => ?_) (fun c10 => ?_))
    · refine AW.ifne_t (tgt := 22) dX12_cut_13 (by decide) (by decide) ?_
      refine AW.aload_n dX12_cut_22 rfl ?_
      refine AW.iload_n dX12_cut_23 rfl ?_
      refine AW.bipush dX12_cut_24 ?_
      refine AW.cI3 (d' := d - 1) (cX12_214 rfl) okX12_findShortest dX12_cut_26 (by repeat (first | assumption | exact hset_eq _ _ _ | refine (hset_ne _ _ (by omega)).trans ?_)) (by omega) (W_findShortest hM hP.1 ok.1 (by omega) (by omega) (by omega) (by decide) (fun h1 m1 A1 hM1 t1 hC1 => ?_))
      have hin : in8 (cnS S.1 x (s_w S.1 y.toNat)) := cnS_in8 ok.1 (by omega) _
      refine AW.aload_n dX12_cut_29 rfl ?_
      refine AW.aload_n dX12_cut_30 rfl ?_
      refine AW.iload_n dX12_cut_31 rfl ?_
      refine AW.iload_n dX12_cut_32 rfl ?_
      refine AW.cI3 (d' := d - 1) (cX12_198 rfl) okX12_concludedFrom dX12_cut_33 hM1.1 (by omega) (W_cF hM1 (hP.1.sq t1.sq) ok.1 (by omega) (by omega) (by omega) (by omega) (by omega) (fun h2 m2 A2 hM2 t2 => ?_))
      refine AW.cI2 (d' := d - 1) (cX12_217 rfl) okX12_shortestOf dX12_cut_36 hM2.1 (by omega) (W_shortestOf (s := S.1) (who := x) (more := -9) hM2 (by rw [t2.2 133 (by decide) (by decide)]; exact hC1) hin ?_)
      obtain ⟨k116, k117, k118, k119, k120, k121, k122, -⟩ := id hM2
      have el : A2 122 y.toNat = ((s_w S.1 y.toNat).length : Int) := by rw [t2.2 122 (by decide) (by decide), t1.2 122 (by decide)]; exact q5 y.toNat (by omega)
      have h20 := (ok.1.2.2.2.2 y.toNat (by omega)).2
      have hj : 0 ≤ cnS S.1 x (s_w S.1 y.toNat) ∧ cnS S.1 x (s_w S.1 y.toNat) ≤ 255 := hin
      have hsb := hC1.sh (j := (cnS S.1 x (s_w S.1 y.toNat)).toNat) (by omega)
      rw [show (((cnS S.1 x (s_w S.1 y.toNat)).toNat : Nat) : Int) = cnS S.1 x (s_w S.1 y.toNat) by omega] at hsb
      have fin := hq (ctF ((s_w S.1 y.toNat).length : Int) (shS S.1 x (-9) (cnS S.1 x (s_w S.1 y.toNat)))) S h2 (by unfold o_cut; rw [if_neg (by omega)]) (ms_sq hM2 (t1.sq.trans t2.sq) hP ok)
      unfold ctF at fin
      refine AW.ist3 dX12_cut_39 (by decide) ?_
      refine AW.iload_n dX12_cut_40 rfl ?_
      refine AW.ifge (tgt := 49) dX12_cut_41 (by decide) (fun c41 => ?_) (fun c41 => ?_)
      · refine AW.aload_n dX12_cut_49 rfl ?_
        refine AW.getf dX12_cut_50 gX12_25 (by repeat (first | assumption | exact hset_eq _ _ _ | refine (hset_ne _ _ (by omega)).trans ?_)) rfl ?_
        refine AW.iload_n dX12_cut_53 rfl ?_
        refine AW.iaload dX12_cut_54 (by repeat (first | assumption | exact hset_eq _ _ _ | refine (hset_ne _ _ (by omega)).trans ?_)) (by omega) (by omega) ?_
        refine AW.iload_n dX12_cut_55 rfl ?_
        refine AW.isubR dX12_cut_56 (by rw [el]; unfold RI; omega) ?_
        refine AW.ireturn dX12_cut_57 rfl ?_
        first | (rw [if_neg (by omega)] at fin; rw [el]; exact fin) | (rw [if_pos (by omega)] at fin; exact fin)
      · refine AW.bipush dX12_cut_44 ?_
        refine AW.goto (tgt := 57) dX12_cut_46 (by decide) ?_
        refine AW.ireturn dX12_cut_57 rfl ?_
        first | (rw [if_neg (by omega)] at fin; rw [el]; exact fin) | (rw [if_pos (by omega)] at fin; exact fin)
    · refine AW.ifne_f (tgt := 22) dX12_cut_13 (by decide) rfl ?_
      refine AW.aload_n dX12_cut_16 rfl ?_
      refine AW.iconst dX12_cut_17 ?_
      refine AW.cI2 (d' := d - 1) (cX12_220 rfl) okX12_lower dX12_cut_18 (by repeat (first | assumption | exact hset_eq _ _ _ | refine (hset_ne _ _ (by omega)).trans ?_)) (by omega) (W_lower (by assumption) (by decide) (by decide) (fun h18 hM => ?_))
      refine AW.ireturn dX12_cut_21 rfl ?_
      exact hq 1000000001 (rf S 1) _ (by unfold o_cut; rw [if_pos (by omega)]) (ms_rf hM hP ok)
  · refine AW.ifeq_t (tgt := 16) dX12_cut_5 (by decide) rfl ?_
    refine AW.aload_n dX12_cut_16 rfl ?_
    refine AW.iconst dX12_cut_17 ?_
    refine AW.cI2 (d' := d - 1) (cX12_220 rfl) okX12_lower dX12_cut_18 (by repeat (first | assumption | exact hset_eq _ _ _ | refine (hset_ne _ _ (by omega)).trans ?_)) (by omega) (W_lower (by assumption) (by decide) (by decide) (fun h18 hM => ?_))
    refine AW.ireturn dX12_cut_21 rfl ?_
    exact hq 1000000001 (rf S 1) _ (by unfold o_cut; rw [if_pos (by omega)]) (ms_rf hM hP ok)
theorem L_many {n : Int} {a1 a3 : Option AV} (hM : MR h0 h m A) (hC : CST s who (-9) (A 133)) (hn : 1 ≤ n) (hn2 : n ≤ 20) (hq : Q (some (.inl (sumN 256 (mnF s who n)))) h) :
    ∀ (r j : Nat), j + r = 256 → 0 ≤ sumN j (mnF s who n) → sumN j (mnF s who n) ≤ j → AW d 0 0 mX12_many Q 43 [some (.inr 116), a1, some (.inl n), a3, some (.inl (sumN j (mnF s who n))), some (.inl (j : Int))] [] h := by
  obtain ⟨g116, -, -, -, -, -, -, -, -, -, -, -, -, -, -, -, -, g133, -⟩ := id hM
  intro r
  induction r with
  | zero =>
    intro j hj h1 h2
    have hj2 : j = 256 := by omega
    subst hj2
    refine AW.iload dX12_many_43 rfl ?_
    refine AW.sipush dX12_many_45 ?_
    refine AW.if_icmpge (tgt := 78) dX12_many_48 (by decide) (fun c48 => ?_) (fun c48 => absurd c48 (by decide))
    refine AW.iload dX12_many_78 rfl ?_
    refine AW.ireturn dX12_many_80 rfl ?_
    exact hq
  | succ r ih =>
    intro j hj h1 h2
    have e1 := ih (j + 1) (by omega)
    rw [sumN_succ] at e1
    have hc := hC.sh (j := j) (by omega)
    have nj : ((j : Int)).toNat = j := by omega
    refine AW.iload dX12_many_43 rfl ?_
    refine AW.sipush dX12_many_45 ?_
    refine AW.if_icmpge (tgt := 78) dX12_many_48 (by decide) (fun c48 => absurd c48 (by omega)) (fun c48 => ?_)
    refine AW.iload dX12_many_51 rfl ?_
    refine AW.aload_n dX12_many_53 rfl ?_
    refine AW.getf dX12_many_54 gX12_58 (by repeat (first | assumption | exact hset_eq _ _ _ | refine (hset_ne _ _ (by omega)).trans ?_)) rfl ?_
    refine AW.iload dX12_many_57 rfl ?_
    refine AW.iaload dX12_many_59 (by repeat (first | assumption | exact hset_eq _ _ _ | refine (hset_ne _ _ (by omega)).trans ?_)) (by omega) (by omega) ?_
    refine AW.iload_n dX12_many_60 rfl ?_
    refine AW.if_icmpne (tgt := 68) dX12_many_61 (by decide) (fun c61 => ?_) (fun c61 => ?_)
    · refine AW.iconst dX12_many_68 ?_
      refine AW.iaddR dX12_many_69 (by unfold RI; omega) ?_
      refine AW.ist4 dX12_many_70 (by decide) ?_
      refine AW.inc5 dX12_many_72 (by decide) (by unfold RI; omega) ?_
      refine AW.goto (tgt := 43) dX12_many_75 (by decide) ?_
      rw [nj] at c61
      first
        | (rw [show mnF s who n j = 1 from iv_pos (by omega)] at e1; exact e1 (by omega) (by omega))
        | (rw [show mnF s who n j = 0 from iv_neg (by omega)] at e1; exact e1 (by omega) (by omega))
    · refine AW.iconst dX12_many_64 ?_
      refine AW.goto (tgt := 69) dX12_many_65 (by decide) ?_
      refine AW.iaddR dX12_many_69 (by unfold RI; omega) ?_
      refine AW.ist4 dX12_many_70 (by decide) ?_
      refine AW.inc5 dX12_many_72 (by decide) (by unfold RI; omega) ?_
      refine AW.goto (tgt := 43) dX12_many_75 (by decide) ?_
      rw [nj] at c61
      first
        | (rw [show mnF s who n j = 1 from iv_pos (by omega)] at e1; exact e1 (by omega) (by omega))
        | (rw [show mnF s who n j = 0 from iv_neg (by omega)] at e1; exact e1 (by omega) (by omega))
theorem W_many (hM : MS h0 h S) (hd : 5 ≤ d) (hq : ∀ r S' h', (r, S') = o_many S x y → MS h0 h' S' → Q (some (.inl r)) h') : MW d 0 0 mX12_many [.inr 116, .inl x, .inl y] h Q := by
  obtain ⟨m, A, hM, hP, ok⟩ := hM
  obtain ⟨g116, -⟩ := id hM
  obtain ⟨⟨q1, q2, q3⟩, p2⟩ := id hP
  show AW d 0 0 mX12_many Q 0 [some (.inr 116), some (.inl x), some (.inl y), none, none, none] [] h
  refine AW.aload_n dX12_many_0 rfl ?_
  refine AW.iload_n dX12_many_1 rfl ?_
  refine AW.cI2 (d' := d - 1) (cX12_195 rfl) okX12_isWho dX12_many_2 (by repeat (first | assumption | exact hset_eq _ _ _ | refine (hset_ne _ _ (by omega)).trans ?_)) (by omega) (W_isWho (by assumption) (fun c2 c2b => ?_) (fun c2 => ?_))
  · refine AW.ifne_t (tgt := 12) dX12_many_5 (by decide) (by decide) ?_
    refine AW.iload_n dX12_many_12 rfl ?_
    refine AW.iconst dX12_many_13 ?_
    refine AW.bipush dX12_many_14 ?_
    refine AW.cS3 (d' := d - 1) (cX12_75 rfl) okX12_bound dX12_many_16 (by omega) (W_bound (fun c16 => ?_) (fun c16 c16b => ?_) (fun c16 c16b => ?_))
    · refine AW.ist3 dX12_many_19 (by decide) ?_
      refine AW.iload_n dX12_many_20 rfl ?_
      refine AW.ifeq_f (tgt := 30) dX12_many_21 (by decide) (by decide) ?_
      refine AW.aload_n dX12_many_24 rfl ?_
      refine AW.iload_n dX12_many_25 rfl ?_
      refine AW.cI2 (d' := d - 1) (cX12_82 rfl) okX12_no dX12_many_26 (by repeat (first | assumption | exact hset_eq _ _ _ | refine (hset_ne _ _ (by omega)).trans ?_)) (by omega) (W_no (by assumption) (by decide) (by decide) (fun h26 hM => ?_))
      refine AW.ireturn dX12_many_29 rfl ?_
      first | exact hq (-1) (rf S 1) _ (by unfold o_many; rw [if_pos (by omega)]) (ms_rf hM hP ok) | exact hq (-4) (rf S 4) _ (by unfold o_many; rw [if_neg (by omega), if_pos (by omega)]) (ms_rf hM hP ok) | exact hq (-6) (rf S 6) _ (by unfold o_many; rw [if_neg (by omega), if_neg (by omega), if_pos (by omega)]) (ms_rf hM hP ok)
    · refine AW.ist3 dX12_many_19 (by decide) ?_
      refine AW.iload_n dX12_many_20 rfl ?_
      refine AW.ifeq_f (tgt := 30) dX12_many_21 (by decide) (by decide) ?_
      refine AW.aload_n dX12_many_24 rfl ?_
      refine AW.iload_n dX12_many_25 rfl ?_
      refine AW.cI2 (d' := d - 1) (cX12_82 rfl) okX12_no dX12_many_26 (by repeat (first | assumption | exact hset_eq _ _ _ | refine (hset_ne _ _ (by omega)).trans ?_)) (by omega) (W_no (by assumption) (by decide) (by decide) (fun h26 hM => ?_))
      refine AW.ireturn dX12_many_29 rfl ?_
      first | exact hq (-1) (rf S 1) _ (by unfold o_many; rw [if_pos (by omega)]) (ms_rf hM hP ok) | exact hq (-4) (rf S 4) _ (by unfold o_many; rw [if_neg (by omega), if_pos (by omega)]) (ms_rf hM hP ok) | exact hq (-6) (rf S 6) _ (by unfold o_many; rw [if_neg (by omega), if_neg (by omega), if_pos (by omega)]) (ms_rf hM hP ok)
    · refine AW.ist3 dX12_many_19 (by decide) ?_
      refine AW.iload_n dX12_many_20 rfl ?_
      refine AW.ifeq_t (tgt := 30) dX12_many_21 (by decide) rfl ?_
      refine AW.aload_n dX12_many_30 rfl ?_
      refine AW.iload_n dX12_many_31 rfl ?_
      refine AW.bipush dX12_many_32 ?_
      refine AW.cI3 (d' := d - 1) (cX12_214 rfl) okX12_findShortest dX12_many_34 (by repeat (first | assumption | exact hset_eq _ _ _ | refine (hset_ne _ _ (by omega)).trans ?_)) (by omega) (W_findShortest hM hP.1 ok.1 (by omega) (by omega) (by omega) (by decide) (fun h1 m1 A1 hM1 t1 hC1 => ?_))
      refine AW.iconst dX12_many_37 ?_
      refine AW.ist4 dX12_many_38 (by decide) ?_
      refine AW.iconst dX12_many_40 ?_
      refine AW.ist5 dX12_many_41 (by decide) ?_
      exact L_many hM1 hC1 (by omega) (by omega) (hq _ S _ (by unfold o_many; rw [if_neg (by omega), if_neg (by omega), if_neg (by omega)]) (ms_sq hM1 t1.sq hP ok)) 256 0 rfl (Int.le_refl _) (Int.le_refl _)
  · refine AW.ifne_f (tgt := 12) dX12_many_5 (by decide) rfl ?_
    refine AW.iconst dX12_many_8 ?_
    refine AW.goto (tgt := 19) dX12_many_9 (by decide) ?_
    refine AW.ist3 dX12_many_19 (by decide) ?_
    refine AW.iload_n dX12_many_20 rfl ?_
    refine AW.ifeq_f (tgt := 30) dX12_many_21 (by decide) (by decide) ?_
    refine AW.aload_n dX12_many_24 rfl ?_
    refine AW.iload_n dX12_many_25 rfl ?_
    refine AW.cI2 (d' := d - 1) (cX12_82 rfl) okX12_no dX12_many_26 (by repeat (first | assumption | exact hset_eq _ _ _ | refine (hset_ne _ _ (by omega)).trans ?_)) (by omega) (W_no (by assumption) (by decide) (by decide) (fun h26 hM => ?_))
    refine AW.ireturn dX12_many_29 rfl ?_
    first | exact hq (-1) (rf S 1) _ (by unfold o_many; rw [if_pos (by omega)]) (ms_rf hM hP ok) | exact hq (-4) (rf S 4) _ (by unfold o_many; rw [if_neg (by omega), if_pos (by omega)]) (ms_rf hM hP ok) | exact hq (-6) (rf S 6) _ (by unfold o_many; rw [if_neg (by omega), if_neg (by omega), if_pos (by omega)]) (ms_rf hM hP ok)
theorem CST.p {c : Nat → Int} (h : CST s who more c) : c 170 = 1 ∧ shS s who more 170 = 1 := by
  have hs : SH (kkS s who) (ggS s who) (lvS s who more) 1 170 := ⟨RS.leaf (Or.inl rfl), fun j hj hr => by have := hr.pos; omega⟩
  have e1 : shS s who more 170 = 1 := shF_eq hs
  rcases h.sh (j := 170) (by decide) with ⟨q1, q2⟩ | ⟨q1, q2⟩
  · have : shS s who more ((170 : Nat) : Int) = 1 := e1
    omega
  · have : shS s who more ((170 : Nat) : Int) = 1 := e1
    exact ⟨by omega, e1⟩
theorem L_far {a1 : Option AV} (hM : MR h0 h m A) (hC : CST s who (-9) (A 133)) (hx0 : 0 ≤ x) (hx1 : x ≤ 1)
    (hq : Q (some (.inl (if x = 0 then shS s who (-9) (fbF s who : Int) else (fbF s who : Int)))) h) :
    ∀ (j b : Nat), j ≤ 256 → b < 256 → A 133 b ≤ 299 → fbF s who = frF (fun j => shS s who (-9) (j : Int)) j b → AW d 0 0 mX12_farthest Q 46 [some (.inr 116), a1, some (.inl x), some (.inl (b : Int)), some (.inl ((j : Int) - 1))] [] h := by
  obtain ⟨g116, -, -, -, -, -, -, -, -, -, -, -, -, -, -, -, -, g133, -⟩ := id hM
  intro j
  induction j with
  | zero =>
    intro b hj hb hb1 e
    have e : fbF s who = b := e
    rw [e] at hq
    have nb : ((b : Int)).toNat = b := by omega
    have hc := hC.sh (j := b) hb
    refine AW.iload dX12_farthest_46 rfl ?_
    refine AW.iflt (tgt := 93) dX12_farthest_48 (by decide) (fun c48 => ?_) (fun c48 => absurd c48 (by omega))
    refine AW.iload_n dX12_farthest_93 rfl ?_
    refine AW.ifne (tgt := 106) dX12_farthest_94 (by decide) (fun c94 => ?_) (fun c94 => ?_)
    · refine AW.iload_n dX12_farthest_106 rfl ?_
      refine AW.ireturn dX12_farthest_107 rfl ?_
      first
        | (rw [if_pos (by omega)] at hq; rw [nb, show A 133 b = shS s who (-9) (b : Int) by omega]; exact hq)
        | (rw [if_neg (by omega)] at hq; exact hq)
    · refine AW.aload_n dX12_farthest_97 rfl ?_
      refine AW.getf dX12_farthest_98 gX12_58 (by repeat (first | assumption | exact hset_eq _ _ _ | refine (hset_ne _ _ (by omega)).trans ?_)) rfl ?_
      refine AW.iload_n dX12_farthest_101 rfl ?_
      refine AW.iaload dX12_farthest_102 (by repeat (first | assumption | exact hset_eq _ _ _ | refine (hset_ne _ _ (by omega)).trans ?_)) (by omega) (by omega) ?_
      refine AW.goto (tgt := 107) dX12_farthest_103 (by decide) ?_
      refine AW.ireturn dX12_farthest_107 rfl ?_
      first
        | (rw [if_pos (by omega)] at hq; rw [nb, show A 133 b = shS s who (-9) (b : Int) by omega]; exact hq)
        | (rw [if_neg (by omega)] at hq; exact hq)
  | succ j ih =>
    intro b hj hb hb1 e
    have nb : ((b : Int)).toNat = b := by omega
    have nj : (((j + 1 : Nat) : Int) - 1).toNat = j := by omega
    have ej : ((j + 1 : Nat) : Int) - 1 = (j : Int) := by omega
    have hc := hC.sh (j := j) (by omega)
    have hcb := hC.sh (j := b) hb
    have e2 : frF (fun j => shS s who (-9) (j : Int)) (j + 1) b = frF (fun j => shS s who (-9) (j : Int)) j (if 0 ≤ shS s who (-9) (j : Int) ∧ shS s who (-9) (b : Int) ≤ shS s who (-9) (j : Int) then j else b) := rfl
    rw [e2] at e
    refine AW.iload dX12_farthest_46 rfl ?_
    refine AW.iflt (tgt := 93) dX12_farthest_48 (by decide) (fun c48 => absurd c48 (by omega)) (fun c48 => ?_)
    refine AW.aload_n dX12_farthest_51 rfl ?_
    refine AW.getf dX12_farthest_52 gX12_58 (by repeat (first | assumption | exact hset_eq _ _ _ | refine (hset_ne _ _ (by omega)).trans ?_)) rfl ?_
    refine AW.iload dX12_farthest_55 rfl ?_
    refine AW.iaload dX12_farthest_57 (by repeat (first | assumption | exact hset_eq _ _ _ | refine (hset_ne _ _ (by omega)).trans ?_)) (by omega) (by omega) ?_
    refine AW.sipush dX12_farthest_58 ?_
    refine AW.if_icmpge (tgt := 85) dX12_farthest_61 (by decide) (fun c61 => ?_) (fun c61 => ?_)
    · refine AW.iload_n dX12_farthest_85 rfl ?_
      refine AW.ist3 dX12_farthest_86 (by decide) ?_
      refine AW.inc4 dX12_farthest_87 (by decide) (by unfold RI; omega) ?_
      refine AW.goto (tgt := 46) dX12_farthest_90 (by decide) ?_
      first
        | (rw [nj] at c61
           rw [nj, nb] at c77
           rw [if_pos (by omega)] at e
           rw [ej]
           exact ih j (by omega) (by omega) (by omega) e)
        | (rw [nj] at c61
           rw [nj, nb] at c77
           rw [if_neg (by omega)] at e
           rw [ej]
           exact ih b (by omega) hb hb1 e)
        | (rw [nj] at c61
           rw [if_neg (by omega)] at e
           rw [ej]
           exact ih b (by omega) hb hb1 e)
    · refine AW.aload_n dX12_farthest_64 rfl ?_
      refine AW.getf dX12_farthest_65 gX12_58 (by repeat (first | assumption | exact hset_eq _ _ _ | refine (hset_ne _ _ (by omega)).trans ?_)) rfl ?_
      refine AW.iload dX12_farthest_68 rfl ?_
      refine AW.iaload dX12_farthest_70 (by repeat (first | assumption | exact hset_eq _ _ _ | refine (hset_ne _ _ (by omega)).trans ?_)) (by omega) (by omega) ?_
      refine AW.aload_n dX12_farthest_71 rfl ?_
      refine AW.getf dX12_farthest_72 gX12_58 (by repeat (first | assumption | exact hset_eq _ _ _ | refine (hset_ne _ _ (by omega)).trans ?_)) rfl ?_
      refine AW.iload_n dX12_farthest_75 rfl ?_
      refine AW.iaload dX12_farthest_76 (by repeat (first | assumption | exact hset_eq _ _ _ | refine (hset_ne _ _ (by omega)).trans ?_)) (by omega) (by omega) ?_
      refine AW.if_icmplt (tgt := 85) dX12_farthest_77 (by decide) (fun c77 => ?_) (fun c77 => ?_)
      · refine AW.iload_n dX12_farthest_85 rfl ?_
        refine AW.ist3 dX12_farthest_86 (by decide) ?_
        refine AW.inc4 dX12_farthest_87 (by decide) (by unfold RI; omega) ?_
        refine AW.goto (tgt := 46) dX12_farthest_90 (by decide) ?_
        first
          | (rw [nj] at c61
             rw [nj, nb] at c77
             rw [if_pos (by omega)] at e
             rw [ej]
             exact ih j (by omega) (by omega) (by omega) e)
          | (rw [nj] at c61
             rw [nj, nb] at c77
             rw [if_neg (by omega)] at e
             rw [ej]
             exact ih b (by omega) hb hb1 e)
          | (rw [nj] at c61
             rw [if_neg (by omega)] at e
             rw [ej]
             exact ih b (by omega) hb hb1 e)
      · refine AW.iload dX12_farthest_80 rfl ?_
        refine AW.goto (tgt := 86) dX12_farthest_82 (by decide) ?_
        refine AW.ist3 dX12_farthest_86 (by decide) ?_
        refine AW.inc4 dX12_farthest_87 (by decide) (by unfold RI; omega) ?_
        refine AW.goto (tgt := 46) dX12_farthest_90 (by decide) ?_
        first
          | (rw [nj] at c61
             rw [nj, nb] at c77
             rw [if_pos (by omega)] at e
             rw [ej]
             exact ih j (by omega) (by omega) (by omega) e)
          | (rw [nj] at c61
             rw [nj, nb] at c77
             rw [if_neg (by omega)] at e
             rw [ej]
             exact ih b (by omega) hb hb1 e)
          | (rw [nj] at c61
             rw [if_neg (by omega)] at e
             rw [ej]
             exact ih b (by omega) hb hb1 e)
theorem W_farthest (hM : MS h0 h S) (hd : 5 ≤ d) (hq : ∀ r S' h', (r, S') = o_farthest S x y → MS h0 h' S' → Q (some (.inl r)) h') : MW d 0 0 mX12_farthest [.inr 116, .inl x, .inl y] h Q := by
  obtain ⟨m, A, hM, hP, ok⟩ := hM
  obtain ⟨g116, -⟩ := id hM
  obtain ⟨⟨q1, q2, q3⟩, p2⟩ := id hP
  show AW d 0 0 mX12_farthest Q 0 [some (.inr 116), some (.inl x), some (.inl y), none, none] [] h
  refine AW.aload_n dX12_farthest_0 rfl ?_
  refine AW.iload_n dX12_farthest_1 rfl ?_
  refine AW.cI2 (d' := d - 1) (cX12_195 rfl) okX12_isWho dX12_farthest_2 (by repeat (first | assumption | exact hset_eq _ _ _ | refine (hset_ne _ _ (by omega)).trans ?_)) (by omega) (W_isWho (by assumption) (fun c2 c2b => ?_) (fun c2 => ?_))
  · refine AW.ifne_t (tgt := 14) dX12_farthest_5 (by decide) (by decide) ?_
    refine AW.iload_n dX12_farthest_14 rfl ?_
    refine AW.iconst dX12_farthest_15 ?_
    refine AW.iconst dX12_farthest_16 ?_
    refine AW.cS3 (d' := d - 1) (cX12_89 rfl) okX12_isIn dX12_farthest_17 (by omega) (W_isIn (fun c17 c17b => ?_) (fun c17 => ?_))
    · refine AW.ifne_t (tgt := 30) dX12_farthest_20 (by decide) (by decide) ?_
      refine AW.aload_n dX12_farthest_30 rfl ?_
      refine AW.iload_n dX12_farthest_31 rfl ?_
      refine AW.bipush dX12_farthest_32 ?_
      refine AW.cI3 (d' := d - 1) (cX12_214 rfl) okX12_findShortest dX12_farthest_34 (by repeat (first | assumption | exact hset_eq _ _ _ | refine (hset_ne _ _ (by omega)).trans ?_)) (by omega) (W_findShortest hM hP.1 ok.1 (by omega) (by omega) (by omega) (by decide) (fun h1 m1 A1 hM1 t1 hC1 => ?_))
      refine AW.sipush dX12_farthest_37 ?_
      refine AW.ist3 dX12_farthest_40 (by decide) ?_
      refine AW.sipush dX12_farthest_41 ?_
      refine AW.ist4 dX12_farthest_44 (by decide) ?_
      have f1 := L_far (a1 := some (.inl x)) (Q := Q) (d := d) (x := y) (s := S.1) hM1 hC1 (by omega) (by omega) ?_ 256 170 (by decide) (by decide) (by rw [hC1.p.1]; decide) rfl
      · exact f1
      · by_cases e : y = 0
        · rw [if_pos e]
          exact hq _ S _ (by unfold o_farthest; rw [if_neg (by omega), if_neg (by omega), if_pos e]) (ms_sq hM1 t1.sq hP ok)
        · rw [if_neg e]
          exact hq _ S _ (by unfold o_farthest; rw [if_neg (by omega), if_neg (by omega), if_neg e]) (ms_sq hM1 t1.sq hP ok)
    · refine AW.ifne_f (tgt := 30) dX12_farthest_20 (by decide) rfl ?_
      refine AW.aload_n dX12_farthest_23 rfl ?_
      refine AW.bipush dX12_farthest_24 ?_
      refine AW.cI2 (d' := d - 1) (cX12_82 rfl) okX12_no dX12_farthest_26 (by repeat (first | assumption | exact hset_eq _ _ _ | refine (hset_ne _ _ (by omega)).trans ?_)) (by omega) (W_no (by assumption) (by decide) (by decide) (fun h26 hM => ?_))
      refine AW.ireturn dX12_farthest_29 rfl ?_
      first | exact hq (-1) (rf S 1) _ (by unfold o_farthest; rw [if_pos (by omega)]) (ms_rf hM hP ok) | exact hq (-2) (rf S 2) _ (by unfold o_farthest; rw [if_neg (by omega), if_pos (by omega)]) (ms_rf hM hP ok)
  · refine AW.ifne_f (tgt := 14) dX12_farthest_5 (by decide) rfl ?_
    refine AW.aload_n dX12_farthest_8 rfl ?_
    refine AW.iconst dX12_farthest_9 ?_
    refine AW.cI2 (d' := d - 1) (cX12_82 rfl) okX12_no dX12_farthest_10 (by repeat (first | assumption | exact hset_eq _ _ _ | refine (hset_ne _ _ (by omega)).trans ?_)) (by omega) (W_no (by assumption) (by decide) (by decide) (fun h10 hM => ?_))
    refine AW.ireturn dX12_farthest_13 rfl ?_
    first | exact hq (-1) (rf S 1) _ (by unfold o_farthest; rw [if_pos (by omega)]) (ms_rf hM hP ok) | exact hq (-2) (rf S 2) _ (by unfold o_farthest; rw [if_neg (by omega), if_pos (by omega)]) (ms_rf hM hP ok)
theorem W_joined (hM : MS h0 h S) (hd : 5 ≤ d) (hq : ∀ r S' h', (r, S') = o_joined S x y z → MS h0 h' S' → Q (some (.inl r)) h') : MW d 0 0 mX12_joined [.inr 116, .inl x, .inl y, .inl z] h Q := by
  obtain ⟨m, A, hM, hP, ok⟩ := hM
  obtain ⟨g116, -⟩ := id hM
  obtain ⟨⟨q1, q2, q3⟩, p2⟩ := id hP
  show AW d 0 0 mX12_joined Q 0 [some (.inr 116), some (.inl x), some (.inl y), some (.inl z), none, none] [] h
  refine AW.aload_n dX12_joined_0 rfl ?_
  refine AW.iload_n dX12_joined_1 rfl ?_
  refine AW.cI2 (d' := d - 1) (cX12_195 rfl) okX12_isWho dX12_joined_2 (by repeat (first | assumption | exact hset_eq _ _ _ | refine (hset_ne _ _ (by omega)).trans ?_)) (by omega) (W_isWho (by assumption) (fun c2 c2b => ?_) (fun c2 => ?_))
  · refine AW.ifne_t (tgt := 14) dX12_joined_5 (by decide) (by decide) ?_
    refine AW.iload_n dX12_joined_14 rfl ?_
    refine AW.iflt (tgt := 22) dX12_joined_15 (by decide) (fun c15 => ?_) (fun c15 => ?_)
    · refine AW.bipush dX12_joined_22 ?_
      refine AW.goto (tgt := 47) dX12_joined_24 (by decide) ?_
      refine AW.ist4 dX12_joined_47 (by decide) ?_
      refine AW.iload dX12_joined_49 rfl ?_
      refine AW.ifeq_f (tgt := 61) dX12_joined_51 (by decide) (by decide) ?_
      refine AW.aload_n dX12_joined_54 rfl ?_
      refine AW.iload dX12_joined_55 rfl ?_
      refine AW.cI2 (d' := d - 1) (cX12_220 rfl) okX12_lower dX12_joined_57 (by repeat (first | assumption | exact hset_eq _ _ _ | refine (hset_ne _ _ (by omega)).trans ?_)) (by omega) (W_lower (by assumption) (by decide) (by decide) (fun h57 hM => ?_))
      refine AW.ireturn dX12_joined_60 rfl ?_
      first | exact hq 1000000001 (rf S 1) _ (by unfold o_joined; rw [if_pos (by omega)]) (ms_rf hM hP ok) | exact hq 1000000004 (rf S 4) _ (by unfold o_joined; rw [if_neg (by omega), if_pos (by omega)]) (ms_rf hM hP ok) | exact hq 1000000006 (rf S 6) _ (by unfold o_joined; rw [if_neg (by omega), if_neg (by omega), if_pos (by omega)]) (ms_rf hM hP ok)
    · refine AW.iload_n dX12_joined_18 rfl ?_
      refine AW.ifge (tgt := 27) dX12_joined_19 (by decide) (fun c19 => ?_) (fun c19 => ?_)
      · refine AW.iload_n dX12_joined_27 rfl ?_
        refine AW.sipush dX12_joined_28 ?_
        refine AW.if_icmpgt (tgt := 41) dX12_joined_31 (by decide) (fun c31 => ?_) (fun c31 => ?_)
        · refine AW.bipush dX12_joined_41 ?_
          refine AW.goto (tgt := 47) dX12_joined_43 (by decide) ?_
          refine AW.ist4 dX12_joined_47 (by decide) ?_
          refine AW.iload dX12_joined_49 rfl ?_
          refine AW.ifeq_f (tgt := 61) dX12_joined_51 (by decide) (by decide) ?_
          refine AW.aload_n dX12_joined_54 rfl ?_
          refine AW.iload dX12_joined_55 rfl ?_
          refine AW.cI2 (d' := d - 1) (cX12_220 rfl) okX12_lower dX12_joined_57 (by repeat (first | assumption | exact hset_eq _ _ _ | refine (hset_ne _ _ (by omega)).trans ?_)) (by omega) (W_lower (by assumption) (by decide) (by decide) (fun h57 hM => ?_))
          refine AW.ireturn dX12_joined_60 rfl ?_
          first | exact hq 1000000001 (rf S 1) _ (by unfold o_joined; rw [if_pos (by omega)]) (ms_rf hM hP ok) | exact hq 1000000004 (rf S 4) _ (by unfold o_joined; rw [if_neg (by omega), if_pos (by omega)]) (ms_rf hM hP ok) | exact hq 1000000006 (rf S 6) _ (by unfold o_joined; rw [if_neg (by omega), if_neg (by omega), if_pos (by omega)]) (ms_rf hM hP ok)
        · refine AW.iload_n dX12_joined_34 rfl ?_
          refine AW.sipush dX12_joined_35 ?_
          refine AW.if_icmple (tgt := 46) dX12_joined_38 (by decide) (fun c38 => ?_) (fun c38 => ?_)
          · refine AW.iconst dX12_joined_46 ?_
            refine AW.ist4 dX12_joined_47 (by decide) ?_
            refine AW.iload dX12_joined_49 rfl ?_
            refine AW.ifeq_t (tgt := 61) dX12_joined_51 (by decide) rfl ?_
            refine AW.aload_n dX12_joined_61 rfl ?_
            refine AW.iload_n dX12_joined_62 rfl ?_
            refine AW.bipush dX12_joined_63 ?_
            refine AW.cI3 (d' := d - 1) (cX12_214 rfl) okX12_findShortest dX12_joined_65 (by repeat (first | assumption | exact hset_eq _ _ _ | refine (hset_ne _ _ (by omega)).trans ?_)) (by omega) (W_findShortest hM hP.1 ok.1 (by omega) (by omega) (by omega) (by decide) (fun h1 m1 A1 hM1 t1 hC1 => ?_))
            obtain ⟨k116, -, -, -, -, -, -, -, -, -, -, -, -, -, -, -, -, k133, -⟩ := id hM1
            have hb : 0 ≤ a_and y z ∧ a_and y z ≤ 255 := in8_and (⟨by omega, by omega⟩ : in8 y)
            have c1 := hC1.sh (j := y.toNat) (by omega)
            have c2 := hC1.sh (j := z.toNat) (by omega)
            have c3 := hC1.sh (j := (a_and y z).toNat) (by omega)
            rw [show ((y.toNat : Nat) : Int) = y by omega] at c1
            rw [show ((z.toNat : Nat) : Int) = z by omega] at c2
            rw [show (((a_and y z).toNat : Nat) : Int) = a_and y z by omega] at c3
            have hms := ms_sq hM1 t1.sq hP ok
            refine AW.iload_n dX12_joined_68 rfl ?_
            refine AW.iload_n dX12_joined_69 rfl ?_
            refine AW.iand dX12_joined_70 ?_
            refine AW.ist5 dX12_joined_71 (by decide) ?_
            refine AW.aload_n dX12_joined_73 rfl ?_
            refine AW.getf dX12_joined_74 gX12_58 (by repeat (first | assumption | exact hset_eq _ _ _ | refine (hset_ne _ _ (by omega)).trans ?_)) rfl ?_
            refine AW.iload_n dX12_joined_77 rfl ?_
            refine AW.iaload dX12_joined_78 (by repeat (first | assumption | exact hset_eq _ _ _ | refine (hset_ne _ _ (by omega)).trans ?_)) (by omega) (by omega) ?_
            refine AW.sipush dX12_joined_79 ?_
            refine AW.if_icmpeq (tgt := 110) dX12_joined_82 (by decide) (fun c82 => ?_) (fun c82 => ?_)
            · refine AW.bipush dX12_joined_110 ?_
              refine AW.goto (tgt := 136) dX12_joined_112 (by decide) ?_
              refine AW.ireturn dX12_joined_136 rfl ?_
              first
                | exact hq 99 S _ (by unfold o_joined; rw [if_neg (by omega), if_neg (by omega), if_neg (by omega), if_pos (by omega)]) hms
                | (rw [show A1 133 (a_and y z).toNat = shS S.1 x (-9) (a_and y z) by omega, show A1 133 y.toNat = shS S.1 x (-9) y by omega, show A1 133 z.toNat = shS S.1 x (-9) z by omega]
                   exact hq _ S _ (by unfold o_joined; rw [if_neg (by omega), if_neg (by omega), if_neg (by omega), if_neg (by omega)]) hms)
            · refine AW.aload_n dX12_joined_85 rfl ?_
              refine AW.getf dX12_joined_86 gX12_58 (by repeat (first | assumption | exact hset_eq _ _ _ | refine (hset_ne _ _ (by omega)).trans ?_)) rfl ?_
              refine AW.iload_n dX12_joined_89 rfl ?_
              refine AW.iaload dX12_joined_90 (by repeat (first | assumption | exact hset_eq _ _ _ | refine (hset_ne _ _ (by omega)).trans ?_)) (by omega) (by omega) ?_
              refine AW.sipush dX12_joined_91 ?_
              refine AW.if_icmpeq (tgt := 110) dX12_joined_94 (by decide) (fun c94 => ?_) (fun c94 => ?_)
              · refine AW.bipush dX12_joined_110 ?_
                refine AW.goto (tgt := 136) dX12_joined_112 (by decide) ?_
                refine AW.ireturn dX12_joined_136 rfl ?_
                first
                  | exact hq 99 S _ (by unfold o_joined; rw [if_neg (by omega), if_neg (by omega), if_neg (by omega), if_pos (by omega)]) hms
                  | (rw [show A1 133 (a_and y z).toNat = shS S.1 x (-9) (a_and y z) by omega, show A1 133 y.toNat = shS S.1 x (-9) y by omega, show A1 133 z.toNat = shS S.1 x (-9) z by omega]
                     exact hq _ S _ (by unfold o_joined; rw [if_neg (by omega), if_neg (by omega), if_neg (by omega), if_neg (by omega)]) hms)
              · refine AW.aload_n dX12_joined_97 rfl ?_
                refine AW.getf dX12_joined_98 gX12_58 (by repeat (first | assumption | exact hset_eq _ _ _ | refine (hset_ne _ _ (by omega)).trans ?_)) rfl ?_
                refine AW.iload dX12_joined_101 rfl ?_
                refine AW.iaload dX12_joined_103 (by repeat (first | assumption | exact hset_eq _ _ _ | refine (hset_ne _ _ (by omega)).trans ?_)) (by omega) (by omega) ?_
                refine AW.sipush dX12_joined_104 ?_
                refine AW.if_icmpne (tgt := 115) dX12_joined_107 (by decide) (fun c107 => ?_) (fun c107 => ?_)
                · refine AW.aload_n dX12_joined_115 rfl ?_
                  refine AW.getf dX12_joined_116 gX12_58 (by repeat (first | assumption | exact hset_eq _ _ _ | refine (hset_ne _ _ (by omega)).trans ?_)) rfl ?_
                  refine AW.iload dX12_joined_119 rfl ?_
                  refine AW.iaload dX12_joined_121 (by repeat (first | assumption | exact hset_eq _ _ _ | refine (hset_ne _ _ (by omega)).trans ?_)) (by omega) (by omega) ?_
                  refine AW.aload_n dX12_joined_122 rfl ?_
                  refine AW.getf dX12_joined_123 gX12_58 (by repeat (first | assumption | exact hset_eq _ _ _ | refine (hset_ne _ _ (by omega)).trans ?_)) rfl ?_
                  refine AW.iload_n dX12_joined_126 rfl ?_
                  refine AW.iaload dX12_joined_127 (by repeat (first | assumption | exact hset_eq _ _ _ | refine (hset_ne _ _ (by omega)).trans ?_)) (by omega) (by omega) ?_
                  refine AW.isubR dX12_joined_128 (by unfold RI; omega) ?_
                  refine AW.aload_n dX12_joined_129 rfl ?_
                  refine AW.getf dX12_joined_130 gX12_58 (by repeat (first | assumption | exact hset_eq _ _ _ | refine (hset_ne _ _ (by omega)).trans ?_)) rfl ?_
                  refine AW.iload_n dX12_joined_133 rfl ?_
                  refine AW.iaload dX12_joined_134 (by repeat (first | assumption | exact hset_eq _ _ _ | refine (hset_ne _ _ (by omega)).trans ?_)) (by omega) (by omega) ?_
                  refine AW.isubR dX12_joined_135 (by unfold RI; omega) ?_
                  refine AW.ireturn dX12_joined_136 rfl ?_
                  first
                    | exact hq 99 S _ (by unfold o_joined; rw [if_neg (by omega), if_neg (by omega), if_neg (by omega), if_pos (by omega)]) hms
                    | (rw [show A1 133 (a_and y z).toNat = shS S.1 x (-9) (a_and y z) by omega, show A1 133 y.toNat = shS S.1 x (-9) y by omega, show A1 133 z.toNat = shS S.1 x (-9) z by omega]
                       exact hq _ S _ (by unfold o_joined; rw [if_neg (by omega), if_neg (by omega), if_neg (by omega), if_neg (by omega)]) hms)
                · refine AW.bipush dX12_joined_110 ?_
                  refine AW.goto (tgt := 136) dX12_joined_112 (by decide) ?_
                  refine AW.ireturn dX12_joined_136 rfl ?_
                  first
                    | exact hq 99 S _ (by unfold o_joined; rw [if_neg (by omega), if_neg (by omega), if_neg (by omega), if_pos (by omega)]) hms
                    | (rw [show A1 133 (a_and y z).toNat = shS S.1 x (-9) (a_and y z) by omega, show A1 133 y.toNat = shS S.1 x (-9) y by omega, show A1 133 z.toNat = shS S.1 x (-9) z by omega]
                       exact hq _ S _ (by unfold o_joined; rw [if_neg (by omega), if_neg (by omega), if_neg (by omega), if_neg (by omega)]) hms)
          · refine AW.bipush dX12_joined_41 ?_
            refine AW.goto (tgt := 47) dX12_joined_43 (by decide) ?_
            refine AW.ist4 dX12_joined_47 (by decide) ?_
            refine AW.iload dX12_joined_49 rfl ?_
            refine AW.ifeq_f (tgt := 61) dX12_joined_51 (by decide) (by decide) ?_
            refine AW.aload_n dX12_joined_54 rfl ?_
            refine AW.iload dX12_joined_55 rfl ?_
            refine AW.cI2 (d' := d - 1) (cX12_220 rfl) okX12_lower dX12_joined_57 (by repeat (first | assumption | exact hset_eq _ _ _ | refine (hset_ne _ _ (by omega)).trans ?_)) (by omega) (W_lower (by assumption) (by decide) (by decide) (fun h57 hM => ?_))
            refine AW.ireturn dX12_joined_60 rfl ?_
            first | exact hq 1000000001 (rf S 1) _ (by unfold o_joined; rw [if_pos (by omega)]) (ms_rf hM hP ok) | exact hq 1000000004 (rf S 4) _ (by unfold o_joined; rw [if_neg (by omega), if_pos (by omega)]) (ms_rf hM hP ok) | exact hq 1000000006 (rf S 6) _ (by unfold o_joined; rw [if_neg (by omega), if_neg (by omega), if_pos (by omega)]) (ms_rf hM hP ok)
      · refine AW.bipush dX12_joined_22 ?_
        refine AW.goto (tgt := 47) dX12_joined_24 (by decide) ?_
        refine AW.ist4 dX12_joined_47 (by decide) ?_
        refine AW.iload dX12_joined_49 rfl ?_
        refine AW.ifeq_f (tgt := 61) dX12_joined_51 (by decide) (by decide) ?_
        refine AW.aload_n dX12_joined_54 rfl ?_
        refine AW.iload dX12_joined_55 rfl ?_
        refine AW.cI2 (d' := d - 1) (cX12_220 rfl) okX12_lower dX12_joined_57 (by repeat (first | assumption | exact hset_eq _ _ _ | refine (hset_ne _ _ (by omega)).trans ?_)) (by omega) (W_lower (by assumption) (by decide) (by decide) (fun h57 hM => ?_))
        refine AW.ireturn dX12_joined_60 rfl ?_
        first | exact hq 1000000001 (rf S 1) _ (by unfold o_joined; rw [if_pos (by omega)]) (ms_rf hM hP ok) | exact hq 1000000004 (rf S 4) _ (by unfold o_joined; rw [if_neg (by omega), if_pos (by omega)]) (ms_rf hM hP ok) | exact hq 1000000006 (rf S 6) _ (by unfold o_joined; rw [if_neg (by omega), if_neg (by omega), if_pos (by omega)]) (ms_rf hM hP ok)
  · refine AW.ifne_f (tgt := 14) dX12_joined_5 (by decide) rfl ?_
    refine AW.aload_n dX12_joined_8 rfl ?_
    refine AW.iconst dX12_joined_9 ?_
    refine AW.cI2 (d' := d - 1) (cX12_220 rfl) okX12_lower dX12_joined_10 (by repeat (first | assumption | exact hset_eq _ _ _ | refine (hset_ne _ _ (by omega)).trans ?_)) (by omega) (W_lower (by assumption) (by decide) (by decide) (fun h10 hM => ?_))
    refine AW.ireturn dX12_joined_13 rfl ?_
    first | exact hq 1000000001 (rf S 1) _ (by unfold o_joined; rw [if_pos (by omega)]) (ms_rf hM hP ok) | exact hq 1000000004 (rf S 4) _ (by unfold o_joined; rw [if_neg (by omega), if_pos (by omega)]) (ms_rf hM hP ok) | exact hq 1000000006 (rf S 6) _ (by unfold o_joined; rw [if_neg (by omega), if_neg (by omega), if_pos (by omega)]) (ms_rf hM hP ok)
/-! saves -/
theorem L_sv1 {v own : Int} {a3 a6 : Option AV} (ok : scOK s) (hd : 5 ≤ d) (h1 : -1 ≤ who) (h2 : who < s_n s)
    (hq : ∀ h' m' A' z, MR h0 h' m' A' → SQ m m' A A' → (∀ i, i < s_h s → A' 134 i = shS s who (-9) (cnS s who (s_w s i))) → AW d 0 0 mX12_saves Q 89 [some (.inr 116), some (.inl who), some (.inl v), a3, some (.inl own), z, a6] [] h') :
    ∀ (r i : Nat) (h : AH) (m' : Nat → Int) (A' : Nat → Nat → Int), i + r = s_h s → MR h0 h m' A' → MSC m' A' s → SQ m m' A A' → CST s who (-9) (A' 133) → (∀ j, j < i → A' 134 j = shS s who (-9) (cnS s who (s_w s j))) →
      AW d 0 0 mX12_saves Q 56 [some (.inr 116), some (.inl who), some (.inl v), a3, some (.inl own), some (.inl (i : Int)), a6] [] h := by
  have h6 := ok.2.1
  intro r
  induction r with
  | zero =>
    intro i h m' A' hi hM hS hT hC hN
    obtain ⟨g116, -⟩ := id hM
    have e8 := hS.2.1
    refine AW.iload dX12_saves_56 rfl ?_
    refine AW.aload_n dX12_saves_58 rfl ?_
    refine AW.getf dX12_saves_59 gX12_72 (by repeat (first | assumption | exact hset_eq _ _ _ | refine (hset_ne _ _ (by omega)).trans ?_)) rfl ?_
    refine AW.if_icmpge (tgt := 89) dX12_saves_62 (by decide) (fun c62 => ?_) (fun c62 => absurd c62 (by omega))
    exact hq h m' A' _ hM hT (fun j hj => hN j (by omega))
  | succ r ih =>
    intro i h m' A' hi hM hS hT hC hN
    obtain ⟨g116, -⟩ := id hM
    have e8 := hS.2.1
    have hin : in8 (cnS s who (s_w s i)) := cnS_in8 ok h2 _
    refine AW.iload dX12_saves_56 rfl ?_
    refine AW.aload_n dX12_saves_58 rfl ?_
    refine AW.getf dX12_saves_59 gX12_72 (by repeat (first | assumption | exact hset_eq _ _ _ | refine (hset_ne _ _ (by omega)).trans ?_)) rfl ?_
    refine AW.if_icmpge (tgt := 89) dX12_saves_62 (by decide) (fun c62 => absurd c62 (by omega)) (fun c62 => ?_)
    refine AW.aload_n dX12_saves_65 rfl ?_
    refine AW.getf dX12_saves_66 gX12_61 (by repeat (first | assumption | exact hset_eq _ _ _ | refine (hset_ne _ _ (by omega)).trans ?_)) rfl ?_
    refine AW.iload dX12_saves_69 rfl ?_
    refine AW.aload_n dX12_saves_71 rfl ?_
    refine AW.aload_n dX12_saves_72 rfl ?_
    refine AW.iload_n dX12_saves_73 rfl ?_
    refine AW.iload dX12_saves_74 rfl ?_
    refine AW.cI3 (d' := d - 1) (cX12_198 rfl) okX12_concludedFrom dX12_saves_76 (by repeat (first | assumption | exact hset_eq _ _ _ | refine (hset_ne _ _ (by omega)).trans ?_)) (by omega) (W_concludedFrom hM hS ok (by omega) (by omega) (by omega) (show i < s_h s by omega) (fun h1 m1 A1 hM1 t1 => ?_))
    refine AW.cI2 (d' := d - 1) (cX12_217 rfl) okX12_shortestOf dX12_saves_79 hM1.1 (by omega) (W_shortestOf (s := s) (who := who) (more := -9) hM1 (by rw [t1.2 133 (by decide) (by decide)]; exact hC) hin ?_)
    refine AW.iastore dX12_saves_82 (by omega) hM1.2.2.2.2.2.2.2.2.2.2.2.2.2.2.2.2.2.2.1 (by omega) (by omega) ?_
    refine AW.inc5 dX12_saves_83 (by decide) (by unfold RI; omega) ?_
    refine AW.goto (tgt := 56) dX12_saves_86 (by decide) ?_
    refine ih (i + 1) _ m1 (updA A1 134 (updI (A1 134) ((i : Int)).toNat (shS s who (-9) (cnS s who (s_w s i))))) (by omega) (MR.s134 hM1) (hS.sq t1.sq) (hT.trans t1.sq) (by rw [updA_ne _ _ (by decide), t1.2 133 (by decide) (by decide)]; exact hC) (fun j hj => ?_)
    rw [updA_eq, show ((i : Int)).toNat = i by omega]
    by_cases e : j = i
    · subst e; rw [updI_eq]
    · rw [updI_ne _ _ e, t1.2 134 (by decide) (by decide)]
      exact hN j (by omega)
theorem sv_b (ok : scOK s) (h1 : -1 ≤ who) (h2 : who < s_n s) {v : Int} (hv : v ≤ 255) {c c2 : Nat → Int} (hC : CST s who (-9) c) (hC2 : CST s who v c2) (n : Nat) : -299 * (n : Int) ≤ sumN n (svF s who v) ∧ sumN n (svF s who v) ≤ 308 * (n : Int) := by
  induction n with
  | zero => exact ⟨Int.le_refl _, Int.le_refl _⟩
  | succ n ih =>
    rw [sumN_succ]
    have h3 := cnS_in8 ok h2 (s_w s n)
    have h4 : 0 ≤ cnS s who (s_w s n) ∧ cnS s who (s_w s n) ≤ 255 := h3
    have q1 := hC.sh (j := (cnS s who (s_w s n)).toNat) (by omega)
    have q2 := hC2.sh (j := (cnS s who (s_w s n)).toNat) (by omega)
    rw [show (((cnS s who (s_w s n)).toNat : Nat) : Int) = cnS s who (s_w s n) by omega] at q1 q2
    have : -299 ≤ svF s who v n ∧ svF s who v n ≤ 308 := by
      unfold svF
      split <;> omega
    omega
theorem L_sv2 {v own : Int} {a2 a3 a4 : Option AV} (ok : scOK s) (hd : 5 ≤ d) (h1 : -1 ≤ who) (h2 : who < s_n s) (hv : v ≤ 255) (ho1 : 0 ≤ own) (ho2 : own ≤ 299) {c : Nat → Int} (hC0 : CST s who (-9) c)
    (hq : ∀ h' m' A', MR h0 h' m' A' → SQ m m' A A' → Q (some (.inl (sumN (s_h s) (svF s who v) - own - 1))) h') :
    ∀ (r i : Nat) (h : AH) (m' : Nat → Int) (A' : Nat → Nat → Int), i + r = s_h s → MR h0 h m' A' → MSC m' A' s → SQ m m' A A' → CST s who v (A' 133) → (∀ i, i < s_h s → A' 134 i = shS s who (-9) (cnS s who (s_w s i))) →
      AW d 0 0 mX12_saves Q 105 [some (.inr 116), some (.inl who), a2, a3, a4, some (.inl (sumN i (svF s who v) - own - 1)), some (.inl (i : Int))] [] h := by
  have h6 := ok.2.1
  intro r
  induction r with
  | zero =>
    intro i h m' A' hi hM hS hT hC hN
    obtain ⟨g116, -⟩ := id hM
    have e8 := hS.2.1
    have hi2 : i = s_h s := by omega
    subst hi2
    refine AW.iload dX12_saves_105 rfl ?_
    refine AW.aload_n dX12_saves_107 rfl ?_
    refine AW.getf dX12_saves_108 gX12_72 (by repeat (first | assumption | exact hset_eq _ _ _ | refine (hset_ne _ _ (by omega)).trans ?_)) rfl ?_
    refine AW.if_icmpge (tgt := 158) dX12_saves_111 (by decide) (fun c111 => ?_) (fun c111 => absurd c111 (by omega))
    refine AW.iload dX12_saves_158 rfl ?_
    refine AW.ireturn dX12_saves_160 rfl ?_
    exact hq h m' A' hM hT
  | succ r ih =>
    intro i h m' A' hi hM hS hT hC hN
    obtain ⟨g116, -, -, -, -, -, -, -, -, -, -, -, -, -, -, -, -, -, g134, -⟩ := id hM
    have e8 := hS.2.1
    have hin : in8 (cnS s who (s_w s i)) := cnS_in8 ok h2 _
    have hin2 : 0 ≤ cnS s who (s_w s i) ∧ cnS s who (s_w s i) ≤ 255 := hin
    have ni : ((i : Int)).toNat = i := by omega
    have e34 : A' 134 ((i : Int)).toNat = shS s who (-9) (cnS s who (s_w s i)) := by rw [ni]; exact hN i (by omega)
    have hb := sv_b ok h1 h2 hv hC0 hC i
    have q1 := hC0.sh (j := (cnS s who (s_w s i)).toNat) (by omega)
    have q2 := hC.sh (j := (cnS s who (s_w s i)).toNat) (by omega)
    rw [show (((cnS s who (s_w s i)).toNat : Nat) : Int) = cnS s who (s_w s i) by omega] at q1 q2
    have e2 : sumN (i + 1) (svF s who v) = sumN i (svF s who v) + svF s who v i := rfl
    refine AW.iload dX12_saves_105 rfl ?_
    refine AW.aload_n dX12_saves_107 rfl ?_
    refine AW.getf dX12_saves_108 gX12_72 (by repeat (first | assumption | exact hset_eq _ _ _ | refine (hset_ne _ _ (by omega)).trans ?_)) rfl ?_
    refine AW.if_icmpge (tgt := 158) dX12_saves_111 (by decide) (fun c111 => absurd c111 (by omega)) (fun c111 => ?_)
    refine AW.iload dX12_saves_114 rfl ?_
    refine AW.aload_n dX12_saves_116 rfl ?_
    refine AW.getf dX12_saves_117 gX12_61 (by repeat (first | assumption | exact hset_eq _ _ _ | refine (hset_ne _ _ (by omega)).trans ?_)) rfl ?_
    refine AW.iload dX12_saves_120 rfl ?_
    refine AW.iaload dX12_saves_122 (by repeat (first | assumption | exact hset_eq _ _ _ | refine (hset_ne _ _ (by omega)).trans ?_)) (by omega) (by omega) ?_
    refine AW.ifge (tgt := 130) dX12_saves_123 (by decide) (fun c123 => ?_) (fun c123 => ?_)
    · refine AW.aload_n dX12_saves_130 rfl ?_
      refine AW.getf dX12_saves_131 gX12_61 (by repeat (first | assumption | exact hset_eq _ _ _ | refine (hset_ne _ _ (by omega)).trans ?_)) rfl ?_
      refine AW.iload dX12_saves_134 rfl ?_
      refine AW.iaload dX12_saves_136 (by repeat (first | assumption | exact hset_eq _ _ _ | refine (hset_ne _ _ (by omega)).trans ?_)) (by omega) (by omega) ?_
      refine AW.aload_n dX12_saves_137 rfl ?_
      refine AW.aload_n dX12_saves_138 rfl ?_
      refine AW.iload_n dX12_saves_139 rfl ?_
      refine AW.iload dX12_saves_140 rfl ?_
      refine AW.cI3 (d' := d - 1) (cX12_198 rfl) okX12_concludedFrom dX12_saves_142 (by repeat (first | assumption | exact hset_eq _ _ _ | refine (hset_ne _ _ (by omega)).trans ?_)) (by omega) (W_concludedFrom hM hS ok (by omega) (by omega) (by omega) (show i < s_h s by omega) (fun h1 m1 A1 hM1 t1 => ?_))
      refine AW.cI2 (d' := d - 1) (cX12_217 rfl) okX12_shortestOf dX12_saves_145 hM1.1 (by omega) (W_shortestOf (s := s) (who := who) (more := v) hM1 (by rw [t1.2 133 (by decide) (by decide)]; exact hC) hin ?_)
      refine AW.isubR dX12_saves_148 (by rw [e34] at c123 ⊢; unfold RI; omega) ?_
      refine AW.iaddR dX12_saves_149 (by first | (rw [e34] at c123 ⊢; unfold RI; omega) | (unfold RI; omega)) ?_
      refine AW.ist5 dX12_saves_150 (by decide) ?_
      refine AW.inc6 dX12_saves_152 (by decide) (by unfold RI; omega) ?_
      refine AW.goto (tgt := 105) dX12_saves_155 (by decide) ?_
      rw [e34] at c123
      first
        | (have e1 := ih (i + 1) h m' A' (by omega) hM hS hT hC hN
           rw [e2, show svF s who v i = 0 by unfold svF; rw [if_pos (by omega)]] at e1
           rw [show sumN i (svF s who v) - own - 1 + 0 = sumN i (svF s who v) + 0 - own - 1 by omega]
           exact e1)
        | (have e1 := ih (i + 1) h1 m1 A1 (by omega) hM1 (hS.sq t1.sq) (hT.trans t1.sq) (by rw [t1.2 133 (by decide) (by decide)]; exact hC) (by rw [t1.2 134 (by decide) (by decide)]; exact hN)
           rw [e2, show svF s who v i = shS s who (-9) (cnS s who (s_w s i)) - shS s who v (cnS s who (s_w s i)) by unfold svF; rw [if_neg (by omega)]] at e1
           rw [e34, show sumN i (svF s who v) - own - 1 + (shS s who (-9) (cnS s who (s_w s i)) - shS s who v (cnS s who (s_w s i))) = sumN i (svF s who v) + (shS s who (-9) (cnS s who (s_w s i)) - shS s who v (cnS s who (s_w s i))) - own - 1 by omega]
           exact e1)
    · refine AW.iconst dX12_saves_126 ?_
      refine AW.goto (tgt := 149) dX12_saves_127 (by decide) ?_
      refine AW.iaddR dX12_saves_149 (by first | (rw [e34] at c123 ⊢; unfold RI; omega) | (unfold RI; omega)) ?_
      refine AW.ist5 dX12_saves_150 (by decide) ?_
      refine AW.inc6 dX12_saves_152 (by decide) (by unfold RI; omega) ?_
      refine AW.goto (tgt := 105) dX12_saves_155 (by decide) ?_
      rw [e34] at c123
      first
        | (have e1 := ih (i + 1) h m' A' (by omega) hM hS hT hC hN
           rw [e2, show svF s who v i = 0 by unfold svF; rw [if_pos (by omega)]] at e1
           rw [show sumN i (svF s who v) - own - 1 + 0 = sumN i (svF s who v) + 0 - own - 1 by omega]
           exact e1)
        | (have e1 := ih (i + 1) h1 m1 A1 (by omega) hM1 (hS.sq t1.sq) (hT.trans t1.sq) (by rw [t1.2 133 (by decide) (by decide)]; exact hC) (by rw [t1.2 134 (by decide) (by decide)]; exact hN)
           rw [e2, show svF s who v i = shS s who (-9) (cnS s who (s_w s i)) - shS s who v (cnS s who (s_w s i)) by unfold svF; rw [if_neg (by omega)]] at e1
           rw [e34, show sumN i (svF s who v) - own - 1 + (shS s who (-9) (cnS s who (s_w s i)) - shS s who v (cnS s who (s_w s i))) = sumN i (svF s who v) + (shS s who (-9) (cnS s who (s_w s i)) - shS s who v (cnS s who (s_w s i))) - own - 1 by omega]
           exact e1)
theorem W_saves (hM : MS h0 h S) (hd : 5 ≤ d) (hq : ∀ r S' h', (r, S') = o_saves S x y → MS h0 h' S' → Q (some (.inl r)) h') : MW d 0 0 mX12_saves [.inr 116, .inl x, .inl y] h Q := by
  obtain ⟨m, A, hM, hP, ok⟩ := hM
  obtain ⟨g116, -⟩ := id hM
  obtain ⟨⟨q1, q2, q3⟩, p2⟩ := id hP
  show AW d 0 0 mX12_saves Q 0 [some (.inr 116), some (.inl x), some (.inl y), none, none, none, none] [] h
  refine AW.aload_n dX12_saves_0 rfl ?_
  refine AW.iload_n dX12_saves_1 rfl ?_
  refine AW.cI2 (d' := d - 1) (cX12_195 rfl) okX12_isWho dX12_saves_2 (by repeat (first | assumption | exact hset_eq _ _ _ | refine (hset_ne _ _ (by omega)).trans ?_)) (by omega) (W_isWho (by assumption) (fun c2 c2b => ?_) (fun c2 => ?_))
  · refine AW.ifne_t (tgt := 12) dX12_saves_5 (by decide) (by decide) ?_
    refine AW.iload_n dX12_saves_12 rfl ?_
    refine AW.iconst dX12_saves_13 ?_
    refine AW.sipush dX12_saves_14 ?_
    refine AW.cS3 (d' := d - 1) (cX12_75 rfl) okX12_bound dX12_saves_17 (by omega) (W_bound (fun c17 => ?_) (fun c17 c17b => ?_) (fun c17 c17b => ?_))
    · refine AW.ist3 dX12_saves_20 (by decide) ?_
      refine AW.iload_n dX12_saves_21 rfl ?_
      refine AW.ifeq_f (tgt := 31) dX12_saves_22 (by decide) (by decide) ?_
      refine AW.aload_n dX12_saves_25 rfl ?_
      refine AW.iload_n dX12_saves_26 rfl ?_
      refine AW.cI2 (d' := d - 1) (cX12_220 rfl) okX12_lower dX12_saves_27 (by repeat (first | assumption | exact hset_eq _ _ _ | refine (hset_ne _ _ (by omega)).trans ?_)) (by omega) (W_lower (by assumption) (by decide) (by decide) (fun h27 hM => ?_))
      refine AW.ireturn dX12_saves_30 rfl ?_
      first | exact hq 1000000001 (rf S 1) _ (by unfold o_saves; rw [if_pos (by omega)]) (ms_rf hM hP ok) | exact hq 1000000004 (rf S 4) _ (by unfold o_saves; rw [if_neg (by omega), if_pos (by omega)]) (ms_rf hM hP ok) | exact hq 1000000006 (rf S 6) _ (by unfold o_saves; rw [if_neg (by omega), if_neg (by omega), if_pos (by omega)]) (ms_rf hM hP ok)
    · refine AW.ist3 dX12_saves_20 (by decide) ?_
      refine AW.iload_n dX12_saves_21 rfl ?_
      refine AW.ifeq_f (tgt := 31) dX12_saves_22 (by decide) (by decide) ?_
      refine AW.aload_n dX12_saves_25 rfl ?_
      refine AW.iload_n dX12_saves_26 rfl ?_
      refine AW.cI2 (d' := d - 1) (cX12_220 rfl) okX12_lower dX12_saves_27 (by repeat (first | assumption | exact hset_eq _ _ _ | refine (hset_ne _ _ (by omega)).trans ?_)) (by omega) (W_lower (by assumption) (by decide) (by decide) (fun h27 hM => ?_))
      refine AW.ireturn dX12_saves_30 rfl ?_
      first | exact hq 1000000001 (rf S 1) _ (by unfold o_saves; rw [if_pos (by omega)]) (ms_rf hM hP ok) | exact hq 1000000004 (rf S 4) _ (by unfold o_saves; rw [if_neg (by omega), if_pos (by omega)]) (ms_rf hM hP ok) | exact hq 1000000006 (rf S 6) _ (by unfold o_saves; rw [if_neg (by omega), if_neg (by omega), if_pos (by omega)]) (ms_rf hM hP ok)
    · refine AW.ist3 dX12_saves_20 (by decide) ?_
      refine AW.iload_n dX12_saves_21 rfl ?_
      refine AW.ifeq_t (tgt := 31) dX12_saves_22 (by decide) rfl ?_
      refine AW.aload_n dX12_saves_31 rfl ?_
      refine AW.iload_n dX12_saves_32 rfl ?_
      refine AW.bipush dX12_saves_33 ?_
      refine AW.cI3 (d' := d - 1) (cX12_214 rfl) okX12_findShortest dX12_saves_35 (by repeat (first | assumption | exact hset_eq _ _ _ | refine (hset_ne _ _ (by omega)).trans ?_)) (by omega) (W_findShortest hM hP.1 ok.1 (by omega) (by omega) (by omega) (by decide) (fun h1 m1 A1 hM1 t1 hC1 => ?_))
      refine AW.aload_n dX12_saves_38 rfl ?_
      refine AW.iload_n dX12_saves_39 rfl ?_
      refine AW.cI2 (d' := d - 1) (cX12_217 rfl) okX12_shortestOf dX12_saves_40 hM1.1 (by omega) (W_shortestOf hM1 hC1 ⟨by omega, by omega⟩ ?_)
      refine AW.ist4 dX12_saves_43 (by decide) ?_
      refine AW.iload dX12_saves_45 rfl ?_
      refine AW.ifge (tgt := 53) dX12_saves_47 (by decide) (fun c47 => ?_) (fun c47 => ?_)
      · refine AW.iconst dX12_saves_53 ?_
        refine AW.ist5 dX12_saves_54 (by decide) ?_
        have cy := hC1.sh (j := y.toNat) (by omega)
        rw [show ((y.toNat : Nat) : Int) = y by omega] at cy
        refine L_sv1 (m := m) (A := A) (s := S.1) ok.1 hd (by omega) (by omega) (fun h2 m2 A2 z hM2 t2 hN => ?_) (s_h S.1) 0 h1 m1 A1 (by omega) hM1 (hP.1.sq t1.sq) t1.sq hC1 (fun j hj => absurd hj (Nat.not_lt_zero _))
        obtain ⟨k116, -⟩ := id hM2
        refine AW.aload_n dX12_saves_89 rfl ?_
        refine AW.iload_n dX12_saves_90 rfl ?_
        refine AW.iload_n dX12_saves_91 rfl ?_
        refine AW.cI3 (d' := d - 1) (cX12_214 rfl) okX12_findShortest dX12_saves_92 (by repeat (first | assumption | exact hset_eq _ _ _ | refine (hset_ne _ _ (by omega)).trans ?_)) (by omega) (W_findShortest hM2 (hP.1.sq t2) ok.1 (by omega) (by omega) (by omega) (by omega) (fun h3 m3 A3 hM3 t3 hC3 => ?_))
        refine AW.iload dX12_saves_95 rfl ?_
        refine AW.inegR dX12_saves_97 (by unfold RI; omega) ?_
        refine AW.iconst dX12_saves_98 ?_
        refine AW.isubR dX12_saves_99 (by unfold RI; omega) ?_
        refine AW.ist5 dX12_saves_100 (by decide) ?_
        refine AW.iconst dX12_saves_102 ?_
        refine AW.ist6 dX12_saves_103 (by decide) ?_
        have f1 := L_sv2 (Q := Q) (h0 := h0) (d := d) (m := m) (A := A) (s := S.1) (who := x) (v := y) (own := shS S.1 x (-9) y) (a2 := some (.inl y)) (a3 := some (.inl 0)) (a4 := some (.inl (shS S.1 x (-9) y))) ok.1 hd (by omega) (by omega) (by omega) (by omega) (by omega) hC1 (fun h' m' A' hM' hT' => hq _ S _ (by unfold o_saves; rw [if_neg (by omega), if_neg (by omega), if_neg (by omega), if_neg (by omega)]) (ms_sq hM' hT' hP ok)) (s_h S.1) 0 h3 m3 A3 (by omega) hM3 (hP.1.sq (t2.trans t3.sq)) (t2.trans t3.sq) hC3 (by rw [t3.2 134 (by decide)]; exact hN)
        rw [show sumN 0 (svF S.1 x y) - shS S.1 x (-9) y - 1 = -shS S.1 x (-9) y - 1 from by show (0 : Int) - _ - 1 = _; omega] at f1
        exact f1
      · refine AW.bipush dX12_saves_50 ?_
        refine AW.ireturn dX12_saves_52 rfl ?_
        exact hq (-9) S _ (by unfold o_saves; rw [if_neg (by omega), if_neg (by omega), if_neg (by omega), if_pos (by omega)]) (ms_sq hM1 t1.sq hP ok)
  · refine AW.ifne_f (tgt := 12) dX12_saves_5 (by decide) rfl ?_
    refine AW.iconst dX12_saves_8 ?_
    refine AW.goto (tgt := 20) dX12_saves_9 (by decide) ?_
    refine AW.ist3 dX12_saves_20 (by decide) ?_
    refine AW.iload_n dX12_saves_21 rfl ?_
    refine AW.ifeq_f (tgt := 31) dX12_saves_22 (by decide) (by decide) ?_
    refine AW.aload_n dX12_saves_25 rfl ?_
    refine AW.iload_n dX12_saves_26 rfl ?_
    refine AW.cI2 (d' := d - 1) (cX12_220 rfl) okX12_lower dX12_saves_27 (by repeat (first | assumption | exact hset_eq _ _ _ | refine (hset_ne _ _ (by omega)).trans ?_)) (by omega) (W_lower (by assumption) (by decide) (by decide) (fun h27 hM => ?_))
    refine AW.ireturn dX12_saves_30 rfl ?_
    first | exact hq 1000000001 (rf S 1) _ (by unfold o_saves; rw [if_pos (by omega)]) (ms_rf hM hP ok) | exact hq 1000000004 (rf S 4) _ (by unfold o_saves; rw [if_neg (by omega), if_pos (by omega)]) (ms_rf hM hP ok) | exact hq 1000000006 (rf S 6) _ (by unfold o_saves; rw [if_neg (by omega), if_neg (by omega), if_pos (by omega)]) (ms_rf hM hP ok)
end Mod15

