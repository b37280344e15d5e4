def lvN (nm : Nat → Int) (more x : Int) : Prop := x = 170 ∨ x = 204 ∨ x = 240 ∨ (∃ n : Nat, n < 4 ∧ 0 ≤ nm n ∧ x = nm n) ∨ (0 ≤ more ∧ x = more)
def knOK (kn : Nat → Int) : Prop := ∀ i, i < 5 → kn i = -9 ∨ in8 (kn i)
def PFr (h : AH) (b : Nat) : Prop := ∃ (kn W FD ST : Nat → Int), FwX h b 0 kn W FD ST 0 0 0
/-- fewest words, of whomever they are -/
def FewV (h : AH) (b : Nat) : Prop := PFr h b ∨ ∃ (a : Nat) (kn : Nat → Int) (k g : Int), FWv h b a kn k g (lvN kn (kn 4)) ∧ StA h a k g ∧ knOK kn
theorem lvN_congr {nm nm' : Nat → Int} {more : Int} (h : ∀ i, i < 4 → nm i = nm' i) : lvN nm more = lvN nm' more := by
  funext x
  refine propext ?_
  unfold lvN
  constructor
  · rintro (q | q | q | ⟨n, q1, q2, q3⟩ | q)
    · exact Or.inl q
    · exact Or.inr (Or.inl q)
    · exact Or.inr (Or.inr (Or.inl q))
    · exact Or.inr (Or.inr (Or.inr (Or.inl ⟨n, q1, by rw [← h n q1]; exact q2, by rw [← h n q1]; exact q3⟩)))
    · exact Or.inr (Or.inr (Or.inr (Or.inr q)))
  · rintro (q | q | q | ⟨n, q1, q2, q3⟩ | q)
    · exact Or.inl q
    · exact Or.inr (Or.inl q)
    · exact Or.inr (Or.inr (Or.inl q))
    · exact Or.inr (Or.inr (Or.inr (Or.inl ⟨n, q1, by rw [h n q1]; exact q2, by rw [h n q1]; exact q3⟩)))
    · exact Or.inr (Or.inr (Or.inr (Or.inr q)))
section Few8
variable {d : Nat} {Q : Option AV → AH → Prop} {h h' : AH} {b a : Nat} {k g : Int} {lv : Int → Prop} {L lg : Nat} {kn W FD ST : Nat → Int} {cnt : Nat} {P : Nat → Prop} {nm : Nat → Int} {more : Int}
theorem FwX.fr (F : Fr h h' P) (hb : b + 5 ≤ 16 + h.1) (hp : ∀ x, PF b x → ¬ P x) (H : FwX h b a kn W FD ST cnt L lg) : FwX h' b a kn W FD ST cnt L lg := by
  obtain ⟨g0, g1, g2, g3, g4⟩ := H
  exact ⟨(F.2 _ (by omega) (hp _ (by unfold PF; omega))).trans g0, (F.2 _ (by omega) (hp _ (by unfold PF; omega))).trans g1, (F.2 _ (by omega) (hp _ (by unfold PF; omega))).trans g2, (F.2 _ (by omega) (hp _ (by unfold PF; omega))).trans g3, (F.2 _ (by omega) (hp _ (by unfold PF; omega))).trans g4⟩
theorem FWv.fr (F : Fr h h' P) (hb : b + 5 ≤ 16 + h.1) (hp : ∀ x, PF b x → ¬ P x) (H : FWv h b a kn k g lv) : FWv h' b a kn k g lv := by
  obtain ⟨W, FD, ST, cnt, L, lg, H, M⟩ := H
  exact ⟨W, FD, ST, cnt, L, lg, H.fr F hb hp, M⟩
theorem FewV.fr (F : Fr h h' P) (hb : b + 5 ≤ 16 + h.1) (hp : ∀ x, PF b x ∨ x = 72 ∨ 136 ≤ x → ¬ P x) (H : FewV h b) : FewV h' b := by
  rcases H with ⟨kn, W, FD, ST, H⟩ | ⟨a, kn, k, g, H, hS, ok⟩
  · exact Or.inl ⟨kn, W, FD, ST, H.fr F hb (fun x hx => hp x (Or.inl hx))⟩
  · exact Or.inr ⟨a, kn, k, g, H.fr F hb (fun x hx => hp x (Or.inl hx)), hS.fr F (fun x hx => hp x (Or.inr hx)), ok⟩
theorem L_isFor {f : Nat → Int} {al : Nat} (H : FwX h b a kn W FD ST cnt L lg) (h73 : h.2 73 = .inl (7, [.inr al, .inr 75, .inr 76])) (h75 : h.2 75 = .inr (5, f)) (hq1 : (∀ i, i < 5 → kn i = f i) → Q (some (.inl 1)) h) (hq0 : Q (some (.inl 0)) h) :
    ∀ (r i : Nat), i + r = 5 → (∀ j, j < i → kn j = f j) → AW d 0 0 mX3_isFor Q 45 [some (.inr b), some (.inr 73), some (.inl (i : Int))] [] h := by
  obtain ⟨g0, g1, g2, g3, g4⟩ := id H
  intro r
  induction r with
  | zero =>
    intro i hi hj
    refine AW.iload_n dX3_isFor_45 rfl ?_
    refine AW.aload_n dX3_isFor_46 rfl ?_
    refine AW.getf dX3_isFor_47 gX3_15 (by repeat (first | assumption | exact hset_eq _ _ _ | refine (hset_ne _ _ (by omega)).trans ?_)) rfl ?_
    refine AW.alen dX3_isFor_50 (by repeat (first | assumption | exact hset_eq _ _ _ | refine (hset_ne _ _ (by omega)).trans ?_)) (by omega) ?_
    refine AW.if_icmpge (tgt := 77) dX3_isFor_51 (by decide) (fun c51 => ?_) (fun c51 => absurd c51 (by omega))
    refine AW.iconst dX3_isFor_77 ?_
    refine AW.zreturn dX3_isFor_78 rfl (Or.inr rfl) ?_
    exact hq1 (fun j q => hj j (by omega))
  | succ r ih =>
    intro i hi hj
    have ei : ((i : Int)).toNat = i := by omega
    refine AW.iload_n dX3_isFor_45 rfl ?_
    refine AW.aload_n dX3_isFor_46 rfl ?_
    refine AW.getf dX3_isFor_47 gX3_15 (by repeat (first | assumption | exact hset_eq _ _ _ | refine (hset_ne _ _ (by omega)).trans ?_)) rfl ?_
    refine AW.alen dX3_isFor_50 (by repeat (first | assumption | exact hset_eq _ _ _ | refine (hset_ne _ _ (by omega)).trans ?_)) (by omega) ?_
    refine AW.if_icmpge (tgt := 77) dX3_isFor_51 (by decide) (fun c51 => absurd c51 (by omega)) (fun c51 => ?_)
    refine AW.aload_n dX3_isFor_54 rfl ?_
    refine AW.getf dX3_isFor_55 gX3_15 (by repeat (first | assumption | exact hset_eq _ _ _ | refine (hset_ne _ _ (by omega)).trans ?_)) rfl ?_
    refine AW.iload_n dX3_isFor_58 rfl ?_
    refine AW.iaload dX3_isFor_59 (by repeat (first | assumption | exact hset_eq _ _ _ | refine (hset_ne _ _ (by omega)).trans ?_)) (by omega) (by omega) ?_
    refine AW.aload_n dX3_isFor_60 rfl ?_
    refine AW.getf dX3_isFor_61 gX3_45 (by repeat (first | assumption | exact hset_eq _ _ _ | refine (hset_ne _ _ (by omega)).trans ?_)) rfl ?_
    refine AW.iload_n dX3_isFor_64 rfl ?_
    refine AW.iaload dX3_isFor_65 (by repeat (first | assumption | exact hset_eq _ _ _ | refine (hset_ne _ _ (by omega)).trans ?_)) (by omega) (by omega) ?_
    refine AW.if_icmpeq (tgt := 71) dX3_isFor_66 (by decide) (fun c66 => ?_) (fun c66 => ?_)
    · refine AW.inc2 dX3_isFor_71 (by decide) (by unfold RI; omega) ?_
      refine AW.goto (tgt := 45) dX3_isFor_74 (by decide) ?_
      rw [ei] at *
      refine ih (i + 1) (by omega) (fun j q => ?_)
      by_cases z : j = i
      · rw [z]; assumption
      · exact hj j (by omega)
    · refine AW.iconst dX3_isFor_69 ?_
      refine AW.zreturn dX3_isFor_70 rfl (Or.inl rfl) ?_
      exact hq0
theorem W_isFor {f : Nat → Int} {al : Nat} {k2 gl : Int} (hH : FewV h b) (h73 : h.2 73 = .inl (7, [.inr al, .inr 75, .inr 76])) (hS2 : StA h al k2 gl) (h75 : h.2 75 = .inr (5, f)) (hd : 3 ≤ d)
    (hq1 : ∀ a kn, FWv h b a kn k2 gl (lvN kn (kn 4)) → StA h a k2 gl → knOK kn → (∀ i, i < 5 → kn i = f i) → Q (some (.inl 1)) h) (hq0 : Q (some (.inl 0)) h) : MW d 0 0 mX3_isFor [.inr b, .inr 73] h Q := by
  rcases hH with ⟨kn, W, FD, ST, H⟩ | ⟨a, kn, k, g, H', hS, ok⟩
  · obtain ⟨g0, g1, g2, g3, g4⟩ := id H
    show AW d 0 0 mX3_isFor Q 0 [some (.inr b), some (.inr 73), none] [] h
    refine AW.aload_n dX3_isFor_0 rfl ?_
    refine AW.getf dX3_isFor_1 gX3_9 (by repeat (first | assumption | exact hset_eq _ _ _ | refine (hset_ne _ _ (by omega)).trans ?_)) rfl ?_
    refine AW.ifnull (tgt := 41) dX3_isFor_4 (by decide) (fun c4 => ?_) (fun c4 => absurd rfl c4)
    refine AW.iconst dX3_isFor_41 ?_
    refine AW.zreturn dX3_isFor_42 rfl (Or.inl rfl) ?_
    exact hq0
  · obtain ⟨W, FD, ST, cnt, L, lg, H, M⟩ := id H'
    obtain ⟨g0, g1, g2, g3, g4⟩ := id H
    have ha : a ≠ 0 := by have := hS.2.1; omega
    show AW d 0 0 mX3_isFor Q 0 [some (.inr b), some (.inr 73), none] [] h
    refine AW.aload_n dX3_isFor_0 rfl ?_
    refine AW.getf dX3_isFor_1 gX3_9 (by repeat (first | assumption | exact hset_eq _ _ _ | refine (hset_ne _ _ (by omega)).trans ?_)) rfl ?_
    refine AW.ifnull (tgt := 41) dX3_isFor_4 (by decide) (fun c4 => absurd c4 (by assumption)) (fun c4 => ?_)
    refine AW.aload_n dX3_isFor_7 rfl ?_
    refine AW.getf dX3_isFor_8 gX3_9 (by repeat (first | assumption | exact hset_eq _ _ _ | refine (hset_ne _ _ (by omega)).trans ?_)) rfl ?_
    refine AW.vX3_68 rfl dX3_isFor_11 hS (by omega) (Nat.le_of_ble_eq_true rfl) ?_
    refine AW.aload_n dX3_isFor_14 rfl ?_
    refine AW.getf dX3_isFor_15 gX3_42 (by repeat (first | assumption | exact hset_eq _ _ _ | refine (hset_ne _ _ (by omega)).trans ?_)) rfl ?_
    refine AW.vX3_68 rfl dX3_isFor_18 hS2 (by omega) (Nat.le_of_ble_eq_true rfl) ?_
    refine AW.if_icmpne (tgt := 41) dX3_isFor_21 (by decide) (fun c21 => ?_) (fun c21 => ?_)
    · refine AW.iconst dX3_isFor_41 ?_
      refine AW.zreturn dX3_isFor_42 rfl (Or.inl rfl) ?_
      exact hq0
    · refine AW.aload_n dX3_isFor_24 rfl ?_
      refine AW.getf dX3_isFor_25 gX3_9 (by repeat (first | assumption | exact hset_eq _ _ _ | refine (hset_ne _ _ (by omega)).trans ?_)) rfl ?_
      refine AW.fX3_74 rfl dX3_isFor_28 hS ?_
      refine AW.aload_n dX3_isFor_31 rfl ?_
      refine AW.getf dX3_isFor_32 gX3_42 (by repeat (first | assumption | exact hset_eq _ _ _ | refine (hset_ne _ _ (by omega)).trans ?_)) rfl ?_
      refine AW.fX3_74 rfl dX3_isFor_35 hS2 ?_
      refine AW.if_icmpeq (tgt := 43) dX3_isFor_38 (by decide) (fun c38 => ?_) (fun c38 => ?_)
      · refine AW.iconst dX3_isFor_43 ?_
        refine AW.ist2 dX3_isFor_44 (by decide) ?_
        refine L_isFor H h73 h75 (fun q => ?_) hq0 5 0 (by omega) (fun j hj => by omega)
        have e1 : k = k2 := by omega
        have e2 : g = gl := by omega
        subst e1; subst e2
        exact hq1 a kn H' hS ok q
      · refine AW.iconst dX3_isFor_41 ?_
        refine AW.zreturn dX3_isFor_42 rfl (Or.inl rfl) ?_
        exact hq0
theorem L_leaves2 (hb : 79 ≤ b ∧ b + 5 ≤ 116) (hd : 2 ≤ d) (ok : knOK kn)
    (hq : ∀ h' W' FD' cnt', FwX h' b a kn W' FD' ST cnt' 1 lg → Mid k g (lvN kn (kn 4)) 1 W' FD' ST cnt' → EV W FD W' FD' cnt cnt' → (∀ i, i < 5 → kn i ≠ -9 → W' (kn i).toNat ≠ -9) → Fr h h' (PF b) → Q none h') :
    ∀ (r i : Nat) (h' : AH) (W' FD' : Nat → Int) (cnt' : Nat), i + r = 5 → FwX h' b a kn W' FD' ST cnt' 1 lg → Mid k g (lvN kn (kn 4)) 1 W' FD' ST cnt' → EV W FD W' FD' cnt cnt' → Fr h h' (PF b) → (∀ j, j < i → kn j ≠ -9 → W' (kn j).toNat ≠ -9) →
      AW d 0 0 mX3_addLeaves Q 27 [some (.inr b), some (.inl (i : Int))] [] h' := by
  intro r
  induction r with
  | zero =>
    intro i h' W' FD' cnt' hi H M E F hj
    obtain ⟨g0, g1, -⟩ := id H
    refine AW.iload_n dX3_addLeaves_27 rfl ?_
    refine AW.aload_n dX3_addLeaves_28 rfl ?_
    refine AW.getf dX3_addLeaves_29 gX3_15 (by repeat (first | assumption | exact hset_eq _ _ _ | refine (hset_ne _ _ (by omega)).trans ?_)) rfl ?_
    refine AW.alen dX3_addLeaves_32 (by repeat (first | assumption | exact hset_eq _ _ _ | refine (hset_ne _ _ (by omega)).trans ?_)) (by omega) ?_
    refine AW.if_icmpge (tgt := 63) dX3_addLeaves_33 (by decide) (fun c33 => ?_) (fun c33 => absurd c33 (by omega))
    refine AW.vreturn dX3_addLeaves_63 rfl ?_
    exact hq h' W' FD' cnt' H M E (fun j q => hj j (by omega)) F
  | succ r ih =>
    intro i h' W' FD' cnt' hi H M E F hj
    obtain ⟨g0, g1, -⟩ := id H
    have ei : ((i : Int)).toNat = i := by omega
    by_cases hk : kn i = -9
    · have hk' : kn ((i : Int)).toNat = -9 := by rw [ei]; exact hk
      refine AW.iload_n dX3_addLeaves_27 rfl ?_
      refine AW.aload_n dX3_addLeaves_28 rfl ?_
      refine AW.getf dX3_addLeaves_29 gX3_15 (by repeat (first | assumption | exact hset_eq _ _ _ | refine (hset_ne _ _ (by omega)).trans ?_)) rfl ?_
      refine AW.alen dX3_addLeaves_32 (by repeat (first | assumption | exact hset_eq _ _ _ | refine (hset_ne _ _ (by omega)).trans ?_)) (by omega) ?_
      refine AW.if_icmpge (tgt := 63) dX3_addLeaves_33 (by decide) (fun c33 => absurd c33 (by omega)) (fun c33 => ?_)
      refine AW.aload_n dX3_addLeaves_36 rfl ?_
      refine AW.getf dX3_addLeaves_37 gX3_15 (by repeat (first | assumption | exact hset_eq _ _ _ | refine (hset_ne _ _ (by omega)).trans ?_)) rfl ?_
      refine AW.iload_n dX3_addLeaves_40 rfl ?_
      refine AW.iaload dX3_addLeaves_41 (by repeat (first | assumption | exact hset_eq _ _ _ | refine (hset_ne _ _ (by omega)).trans ?_)) (by omega) (by omega) ?_
      refine AW.bipush dX3_addLeaves_42 ?_
      refine AW.if_icmpeq (tgt := 57) dX3_addLeaves_44 (by decide) (fun c44 => ?_) (fun c44 => absurd hk' c44)
      refine AW.inc1 dX3_addLeaves_57 (by decide) (by unfold RI; omega) ?_
      refine AW.goto (tgt := 27) dX3_addLeaves_60 (by decide) ?_
      refine ih (i + 1) h' W' FD' cnt' (by omega) H M E F (fun j q y => ?_)
      by_cases z : j = i
      · rw [z] at y; exact absurd hk y
      · exact hj j (by omega) y
    · have hk' : ¬ kn ((i : Int)).toNat = -9 := by rw [ei]; exact hk
      have h8 : in8 (kn i) := (ok i (by omega)).resolve_left hk
      have h80 := h8.1
      have h81 := h8.2
      have eN : kn ((i : Int)).toNat = (((kn i).toNat : Nat) : Int) := by rw [ei]; omega
      have hl : lvN kn (kn 4) (kn i) := by
        by_cases z : i = 4
        · exact Or.inr (Or.inr (Or.inr (Or.inr ⟨by rw [← z]; exact h80, by rw [z]⟩)))
        · exact Or.inr (Or.inr (Or.inr (Or.inl ⟨i, by omega, h80, rfl⟩)))
      refine AW.iload_n dX3_addLeaves_27 rfl ?_
      refine AW.aload_n dX3_addLeaves_28 rfl ?_
      refine AW.getf dX3_addLeaves_29 gX3_15 (by repeat (first | assumption | exact hset_eq _ _ _ | refine (hset_ne _ _ (by omega)).trans ?_)) rfl ?_
      refine AW.alen dX3_addLeaves_32 (by repeat (first | assumption | exact hset_eq _ _ _ | refine (hset_ne _ _ (by omega)).trans ?_)) (by omega) ?_
      refine AW.if_icmpge (tgt := 63) dX3_addLeaves_33 (by decide) (fun c33 => absurd c33 (by omega)) (fun c33 => ?_)
      refine AW.aload_n dX3_addLeaves_36 rfl ?_
      refine AW.getf dX3_addLeaves_37 gX3_15 (by repeat (first | assumption | exact hset_eq _ _ _ | refine (hset_ne _ _ (by omega)).trans ?_)) rfl ?_
      refine AW.iload_n dX3_addLeaves_40 rfl ?_
      refine AW.iaload dX3_addLeaves_41 (by repeat (first | assumption | exact hset_eq _ _ _ | refine (hset_ne _ _ (by omega)).trans ?_)) (by omega) (by omega) ?_
      refine AW.bipush dX3_addLeaves_42 ?_
      refine AW.if_icmpeq (tgt := 57) dX3_addLeaves_44 (by decide) (fun c44 => absurd c44 hk') (fun c44 => ?_)
      refine AW.aload_n dX3_addLeaves_47 rfl ?_
      refine AW.aload_n dX3_addLeaves_48 rfl ?_
      refine AW.getf dX3_addLeaves_49 gX3_15 (by repeat (first | assumption | exact hset_eq _ _ _ | refine (hset_ne _ _ (by omega)).trans ?_)) rfl ?_
      refine AW.iload_n dX3_addLeaves_52 rfl ?_
      refine AW.iaload dX3_addLeaves_53 (by repeat (first | assumption | exact hset_eq _ _ _ | refine (hset_ne _ _ (by omega)).trans ?_)) (by omega) (by omega) ?_
      rw [eN]
      refine AW.cI2 (d' := d - 1) (cX3_86 rfl) okX3_add dX3_addLeaves_54 (by repeat (first | assumption | exact hset_eq _ _ _ | refine (hset_ne _ _ (by omega)).trans ?_)) (by omega) (W_fadd (by omega) H M (by omega) (by rw [show (((kn i).toNat : Nat) : Int) = kn i by omega]; exact RS.leaf hl) (fun h2 W2 FD2 c2 H2 M2 E2 n2 F2 => ?_))
      refine AW.inc1 dX3_addLeaves_57 (by decide) (by unfold RI; omega) ?_
      refine AW.goto (tgt := 27) dX3_addLeaves_60 (by decide) ?_
      refine ih (i + 1) h2 W2 FD2 c2 (by omega) H2 M2 (E.trans E2) (F.trans F2) (fun j q y => ?_)
      by_cases z : j = i
      · rw [z]; exact n2
      · have h9 : in8 (kn j) := (ok j (by omega)).resolve_left y
        exact E2.ne (by have := h9.1; have := h9.2; omega) (hj j (by omega) y)
theorem FACT_v : ∀ i : Nat, i < 3 → rowOf [170, 204, 240] i = ((rowOf [170, 204, 240] i).toNat : Int) ∧ (rowOf [170, 204, 240] i).toNat < 256 ∧ (rowOf [170, 204, 240] i = 170 ∨ rowOf [170, 204, 240] i = 204 ∨ rowOf [170, 204, 240] i = 240) := by decide
theorem L_leaves1 (hb : 79 ≤ b ∧ b + 5 ≤ 116) (h9 : 120 ≤ h.1) (h4 : h.2 4 = .inr (3, rowOf [170, 204, 240])) (hd : 2 ≤ d)
    (hq : ∀ h' W' FD' cnt', FwX h' b a kn W' FD' ST cnt' 1 lg → Mid k g (lvN kn (kn 4)) 1 W' FD' ST cnt' → (W' 170 ≠ -9 ∧ W' 204 ≠ -9 ∧ W' 240 ≠ -9) → Fr h h' (PF b) → ∀ z, AW d 0 0 mX3_addLeaves Q 25 [some (.inr b), z] [] h') :
    ∀ (r i : Nat) (h' : AH) (W' FD' : Nat → Int) (cnt' : Nat), i + r = 3 → FwX h' b a kn W' FD' ST cnt' 1 lg → Mid k g (lvN kn (kn 4)) 1 W' FD' ST cnt' → Fr h h' (PF b) → (∀ j, j < i → W' (rowOf [170, 204, 240] j).toNat ≠ -9) →
      AW d 0 0 mX3_addLeaves Q 2 [some (.inr b), some (.inl (i : Int))] [] h' := by
  intro r
  induction r with
  | zero =>
    intro i h' W' FD' cnt' hi H M F hj
    have k4 : h'.2 4 = .inr (3, rowOf [170, 204, 240]) := (F.2 4 (by omega) (by unfold PF; omega)).trans h4
    refine AW.iload_n dX3_addLeaves_2 rfl ?_
    refine AW.gets dX3_addLeaves_3 sX3_83 ?_
    refine AW.alen dX3_addLeaves_6 (by repeat (first | assumption | exact hset_eq _ _ _ | refine (hset_ne _ _ (by omega)).trans ?_)) (by omega) ?_
    refine AW.if_icmpge (tgt := 25) dX3_addLeaves_7 (by decide) (fun c7 => ?_) (fun c7 => absurd c7 (by omega))
    exact hq h' W' FD' cnt' H M ⟨hj 0 (by omega), hj 1 (by omega), hj 2 (by omega)⟩ F _
  | succ r ih =>
    intro i h' W' FD' cnt' hi H M F hj
    obtain ⟨g0, -⟩ := id H
    have k4 : h'.2 4 = .inr (3, rowOf [170, 204, 240]) := (F.2 4 (by omega) (by unfold PF; omega)).trans h4
    have ei : ((i : Int)).toNat = i := by omega
    obtain ⟨f1, f2, f3⟩ := FACT_v i (by omega)
    refine AW.iload_n dX3_addLeaves_2 rfl ?_
    refine AW.gets dX3_addLeaves_3 sX3_83 ?_
    refine AW.alen dX3_addLeaves_6 (by repeat (first | assumption | exact hset_eq _ _ _ | refine (hset_ne _ _ (by omega)).trans ?_)) (by omega) ?_
    refine AW.if_icmpge (tgt := 25) dX3_addLeaves_7 (by decide) (fun c7 => absurd c7 (by omega)) (fun c7 => ?_)
    refine AW.aload_n dX3_addLeaves_10 rfl ?_
    refine AW.gets dX3_addLeaves_11 sX3_83 ?_
    refine AW.iload_n dX3_addLeaves_14 rfl ?_
    refine AW.iaload dX3_addLeaves_15 (by repeat (first | assumption | exact hset_eq _ _ _ | refine (hset_ne _ _ (by omega)).trans ?_)) (by omega) (by omega) ?_
    rw [ei, f1]
    refine AW.cI2 (d' := d - 1) (cX3_86 rfl) okX3_add dX3_addLeaves_16 (by repeat (first | assumption | exact hset_eq _ _ _ | refine (hset_ne _ _ (by omega)).trans ?_)) (by omega) (W_fadd (by omega) H M f2 (by rw [← f1]; exact RS.leaf (by unfold lvN; omega)) (fun h2 W2 FD2 c2 H2 M2 E2 n2 F2 => ?_))
    refine AW.inc1 dX3_addLeaves_19 (by decide) (by unfold RI; omega) ?_
    refine AW.goto (tgt := 2) dX3_addLeaves_22 (by decide) ?_
    refine ih (i + 1) h2 W2 FD2 c2 (by omega) H2 M2 (F.trans F2) (fun j q => ?_)
    by_cases z : j = i
    · rw [z]; exact n2
    · exact E2.ne (FACT_v j (by omega)).2.1 (hj j (by omega))
theorem W_addLeaves (hb : 79 ≤ b ∧ b + 5 ≤ 116) (h9 : 120 ≤ h.1) (h4 : h.2 4 = .inr (3, rowOf [170, 204, 240])) (hd : 2 ≤ d) (ok : knOK kn) (H : FwX h b a kn W FD ST 0 1 1) (hW : ∀ m, m < 256 → W m = -9) (hST : ST 1 = 0)
    (hq : ∀ h', FWv h' b a kn k g (lvN kn (kn 4)) → Fr h h' (PF b) → Q none h') : MW d 0 0 mX3_addLeaves [.inr b] h Q := by
  have M : Mid k g (lvN kn (kn 4)) 1 W FD ST 0 := ⟨⟨by decide, by decide, by decide⟩, fun m hm => Or.inl (hW m hm), fun m hm j hj q => by have := q.pos; omega, fun i hi => by omega, fun m hm q => absurd (hW m hm) q, fun i j hi => by omega, fun j j1 j2 => by rw [show j = 1 by omega, hST]; exact ⟨Int.le_refl _, Int.le_refl _⟩, fun i hi => by omega⟩
  show AW d 0 0 mX3_addLeaves Q 0 [some (.inr b), none] [] h
  refine AW.iconst dX3_addLeaves_0 ?_
  refine AW.ist1 dX3_addLeaves_1 (by decide) ?_
  refine L_leaves1 (lg := 1) hb h9 h4 hd (fun h2 W2 FD2 c2 H2 M2 n2 F2 z => ?_) 3 0 h W FD 0 (by omega) H M Fr.rfl' (fun j hj => by omega)
  refine AW.iconst dX3_addLeaves_25 ?_
  refine AW.ist1 dX3_addLeaves_26 (by decide) ?_
  refine L_leaves2 (h := h2) (W := W2) (FD := FD2) (cnt := c2) hb hd ok (fun h3 W3 FD3 c3 H3 M3 E3 n3 F3 => ?_) 5 0 h2 W2 FD2 c2 (by omega) H2 M2 EV.rfl' Fr.rfl' (fun j hj => by omega)
  refine hq h3 ⟨W3, FD3, ST, c3, 1, 1, H3, ⟨M3, fun m hm hr => ?_, by decide, by decide, fun m hm => ?_⟩, fun j j1 j2 => by omega⟩ (F2.trans F3)
  · rcases hr.inv with ⟨-, q⟩ | ⟨i, x, e, hx, -⟩ | ⟨i, j, x, y, e, hx, hy, -⟩
    · rcases q with q | q | q | ⟨n, q1, q2, q3⟩ | ⟨q1, q2⟩
      · rw [show m = 170 by omega]; exact E3.ne (by decide) n2.1
      · rw [show m = 204 by omega]; exact E3.ne (by decide) n2.2.1
      · rw [show m = 240 by omega]; exact E3.ne (by decide) n2.2.2
      · have := n3 n (by omega) (by omega)
        rw [← q3] at this
        simpa using this
      · have := n3 4 (by omega) (by omega)
        rw [← q2] at this
        simpa using this
    · have := hx.pos; omega
    · have := hx.pos; omega
  · rcases M3.2.1 m hm with q | ⟨j, q1, q2, q3, -⟩
    · rw [q]; decide
    · rw [q3]; omega
end Few8

