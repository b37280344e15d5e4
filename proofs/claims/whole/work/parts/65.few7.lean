section Few7
variable {d : Nat} {Q : Option AV → AH → Prop} {h : AH} {b a : Nat} {k g : Int} {lv : Int → Prop} {L lg : Nat} {kn W FD ST : Nat → Int} {cnt : Nat} {n : Int}
theorem L_manyA (hv : LVok k g lv) (hb : 79 ≤ b ∧ b + 5 ≤ 116) (h9 : 120 ≤ h.1) (hS : StA h a k g) (hd : 5 ≤ d)
    (hq : ∀ h' W FD ST cnt L lg z, FwX h' b a kn W FD ST cnt L lg → FIm k g lv L lg W FD ST cnt → (n ≤ (L : Int) ∨ (256 ≤ cnt ∨ 2 * lg < L ∨ 299 ≤ L)) → Fr h h' (PF b) → AW d 0 0 mX3_meaningsOfLength Q 34 [some (.inr b), some (.inl n), z, none] [] h') :
    ∀ (r i : Nat) (h' : AH) (W FD ST : Nat → Int) (cnt L lg : Nat), L + r = 299 → i < L → FwX h' b a kn W FD ST cnt L lg → FIm k g lv L lg W FD ST cnt → Fr h h' (PF b) →
      AW d 0 0 mX3_meaningsOfLength Q 2 [some (.inr b), some (.inl n), some (.inl (i : Int)), none] [] h' := by
  intro r
  induction r with
  | zero =>
    intro i h' W FD ST cnt L lg hr hiL H M F
    obtain ⟨g0, g1, g2, g3, g4⟩ := id H
    have hL := M.1.1.1
    have hlg := M.1.2.2
    refine AW.iload_n dX3_meaningsOfLength_2 rfl ?_
    refine AW.sipush dX3_meaningsOfLength_3 ?_
    refine AW.if_icmpge (tgt := 34) dX3_meaningsOfLength_6 (by decide) (fun c6 => absurd c6 (by omega)) (fun c6 => ?_)
    refine AW.aload_n dX3_meaningsOfLength_9 rfl ?_
    refine AW.getf dX3_meaningsOfLength_10 gX3_32 (by repeat (first | assumption | exact hset_eq _ _ _ | refine (hset_ne _ _ (by omega)).trans ?_)) rfl ?_
    refine AW.iload_n dX3_meaningsOfLength_13 rfl ?_
    refine AW.if_icmpge (tgt := 34) dX3_meaningsOfLength_14 (by decide) (fun c14 => ?_) (fun c14 => ?_)
    · exact hq h' W FD ST cnt L lg _ H M (by first | exact Or.inl (by assumption) | exact Or.inr (by assumption)) F
    · refine AW.aload_n dX3_meaningsOfLength_17 rfl ?_
      refine AW.cI1 (d' := d - 1) (cX3_61 rfl) okX3_isComplete dX3_meaningsOfLength_18 (by repeat (first | assumption | exact hset_eq _ _ _ | refine (hset_ne _ _ (by omega)).trans ?_)) (by omega) (W_isComplete H (by omega) (by omega) (fun cc => ?_) (fun cc => absurd (show _ from Or.inr (Or.inr (by omega))) cc))
      refine AW.ifne_t (tgt := 34) dX3_meaningsOfLength_21 (by decide) (by decide) ?_
      exact hq h' W FD ST cnt L lg _ H M (by first | exact Or.inl (by assumption) | exact Or.inr (by assumption)) F
  | succ r ih =>
    intro i h' W FD ST cnt L lg hr hiL H M F
    obtain ⟨g0, g1, g2, g3, g4⟩ := id H
    have hL := M.1.1.1
    have hlg := M.1.2.2
    have hS' := hS.fr F (by unfold PF; omega)
    refine AW.iload_n dX3_meaningsOfLength_2 rfl ?_
    refine AW.sipush dX3_meaningsOfLength_3 ?_
    refine AW.if_icmpge (tgt := 34) dX3_meaningsOfLength_6 (by decide) (fun c6 => absurd c6 (by omega)) (fun c6 => ?_)
    refine AW.aload_n dX3_meaningsOfLength_9 rfl ?_
    refine AW.getf dX3_meaningsOfLength_10 gX3_32 (by repeat (first | assumption | exact hset_eq _ _ _ | refine (hset_ne _ _ (by omega)).trans ?_)) rfl ?_
    refine AW.iload_n dX3_meaningsOfLength_13 rfl ?_
    refine AW.if_icmpge (tgt := 34) dX3_meaningsOfLength_14 (by decide) (fun c14 => ?_) (fun c14 => ?_)
    · exact hq h' W FD ST cnt L lg _ H M (by first | exact Or.inl (by assumption) | exact Or.inr (by assumption)) F
    · refine AW.aload_n dX3_meaningsOfLength_17 rfl ?_
      refine AW.cI1 (d' := d - 1) (cX3_61 rfl) okX3_isComplete dX3_meaningsOfLength_18 (by repeat (first | assumption | exact hset_eq _ _ _ | refine (hset_ne _ _ (by omega)).trans ?_)) (by omega) (W_isComplete H (by omega) (by omega) (fun cc => ?_) (fun cc => ?_))
      · refine AW.ifne_t (tgt := 34) dX3_meaningsOfLength_21 (by decide) (by decide) ?_
        exact hq h' W FD ST cnt L lg _ H M (by first | exact Or.inl (by assumption) | exact Or.inr (by assumption)) F
      · refine AW.ifne_f (tgt := 34) dX3_meaningsOfLength_21 (by decide) rfl ?_
        refine AW.aload_n dX3_meaningsOfLength_24 rfl ?_
        refine AW.cI1 (d' := d - 1) (cX3_65 rfl) okX3_lookAtNextLength dX3_meaningsOfLength_25 (by repeat (first | assumption | exact hset_eq _ _ _ | refine (hset_ne _ _ (by omega)).trans ?_)) (by omega) (W_look hv.1.1 hv.1.2 hv.2.1 hb (Nat.le_trans h9 F.1) hS' (by omega) H M (by omega) (fun h2 W2 FD2 ST2 c2 lg2 H2 M2 F2 => ?_))
        refine AW.inc2 dX3_meaningsOfLength_28 (by decide) (by unfold RI; omega) ?_
        refine AW.goto (tgt := 2) dX3_meaningsOfLength_31 (by decide) ?_
        exact ih (i + 1) h2 W2 FD2 ST2 c2 (L + 1) lg2 (by omega) (by omega) H2 M2 (F.trans F2)
theorem L_manyB (H : FwX h b a kn W FD ST cnt L lg) (M : Mid k g lv L W FD ST cnt) (hq : Q (some (.inl (sumN cnt (fun i => iv (W (FD i).toNat = n) 1)))) h) :
    ∀ (r i : Nat), i + r = cnt → AW d 0 0 mX3_meaningsOfLength Q 38 [some (.inr b), some (.inl n), some (.inl (sumN i (fun i => iv (W (FD i).toNat = n) 1))), some (.inl (i : Int))] [] h := by
  obtain ⟨g0, g1, g2, g3, g4⟩ := id H
  have hc := M.1.2.2
  intro r
  induction r with
  | zero =>
    intro i hi
    rw [show i = cnt by omega]
    refine AW.iload_n dX3_meaningsOfLength_38 rfl ?_
    refine AW.aload_n dX3_meaningsOfLength_39 rfl ?_
    refine AW.getf dX3_meaningsOfLength_40 gX3_25 (by repeat (first | assumption | exact hset_eq _ _ _ | refine (hset_ne _ _ (by omega)).trans ?_)) rfl ?_
    refine AW.if_icmpge (tgt := 75) dX3_meaningsOfLength_43 (by decide) (fun c43 => ?_) (fun c43 => absurd c43 (by omega))
    refine AW.iload_n dX3_meaningsOfLength_75 rfl ?_
    refine AW.ireturn dX3_meaningsOfLength_76 rfl ?_
    exact hq
  | succ r ih =>
    intro i hi
    have nx := ih (i + 1) (by omega)
    rw [sumN_succ] at nx
    have ei : ((i : Int)).toNat = i := by omega
    obtain ⟨m, q1, q2, q3⟩ := M.2.2.2.1 i (by omega)
    have hb := sumN_iv i (fun i => W (FD i).toNat = n)
    have hFD : 0 ≤ FD ((i : Int)).toNat ∧ FD ((i : Int)).toNat < 256 := by rw [ei]; omega
    refine AW.iload_n dX3_meaningsOfLength_38 rfl ?_
    refine AW.aload_n dX3_meaningsOfLength_39 rfl ?_
    refine AW.getf dX3_meaningsOfLength_40 gX3_25 (by repeat (first | assumption | exact hset_eq _ _ _ | refine (hset_ne _ _ (by omega)).trans ?_)) rfl ?_
    refine AW.if_icmpge (tgt := 75) dX3_meaningsOfLength_43 (by decide) (fun c43 => absurd c43 (by omega)) (fun c43 => ?_)
    refine AW.iload_n dX3_meaningsOfLength_46 rfl ?_
    refine AW.aload_n dX3_meaningsOfLength_47 rfl ?_
    refine AW.getf dX3_meaningsOfLength_48 gX3_19 (by repeat (first | assumption | exact hset_eq _ _ _ | refine (hset_ne _ _ (by omega)).trans ?_)) rfl ?_
    refine AW.aload_n dX3_meaningsOfLength_51 rfl ?_
    refine AW.getf dX3_meaningsOfLength_52 gX3_22 (by repeat (first | assumption | exact hset_eq _ _ _ | refine (hset_ne _ _ (by omega)).trans ?_)) rfl ?_
    refine AW.iload_n dX3_meaningsOfLength_55 rfl ?_
    refine AW.iaload dX3_meaningsOfLength_56 (by repeat (first | assumption | exact hset_eq _ _ _ | refine (hset_ne _ _ (by omega)).trans ?_)) (by omega) (by omega) ?_
    refine AW.iaload dX3_meaningsOfLength_57 (by repeat (first | assumption | exact hset_eq _ _ _ | refine (hset_ne _ _ (by omega)).trans ?_)) (by omega) (by omega) ?_
    refine AW.iload_n dX3_meaningsOfLength_58 rfl ?_
    refine AW.if_icmpne (tgt := 66) dX3_meaningsOfLength_59 (by decide) (fun c59 => ?_) (fun c59 => ?_)
    · refine AW.iconst dX3_meaningsOfLength_66 ?_
      refine AW.iaddR dX3_meaningsOfLength_67 (by unfold RI; omega) ?_
      refine AW.ist2 dX3_meaningsOfLength_68 (by decide) ?_
      refine AW.inc3 dX3_meaningsOfLength_69 (by decide) (by unfold RI; omega) ?_
      refine AW.goto (tgt := 38) dX3_meaningsOfLength_72 (by decide) ?_
      rw [ei] at *
      first
        | (rw [iv_pos (by assumption)] at nx; exact nx)
        | (rw [iv_neg (by assumption)] at nx; exact nx)
    · refine AW.iconst dX3_meaningsOfLength_62 ?_
      refine AW.goto (tgt := 67) dX3_meaningsOfLength_63 (by decide) ?_
      refine AW.iaddR dX3_meaningsOfLength_67 (by unfold RI; omega) ?_
      refine AW.ist2 dX3_meaningsOfLength_68 (by decide) ?_
      refine AW.inc3 dX3_meaningsOfLength_69 (by decide) (by unfold RI; omega) ?_
      refine AW.goto (tgt := 38) dX3_meaningsOfLength_72 (by decide) ?_
      rw [ei] at *
      first
        | (rw [iv_pos (by assumption)] at nx; exact nx)
        | (rw [iv_neg (by assumption)] at nx; exact nx)
theorem W_meanings (hv : LVok k g lv) (hb : 79 ≤ b ∧ b + 5 ≤ 116) (h9 : 120 ≤ h.1) (hS : StA h a k g) (hd : 5 ≤ d) (hn : 1 ≤ n) (H : FWv h b a kn k g lv)
    (hq : ∀ h', FWv h' b a kn k g lv → Fr h h' (PF b) → Q (some (.inl (sumN 256 (fun j => iv (shF k g lv (j : Int) = n) 1)))) h') : MW d 0 0 mX3_meaningsOfLength [.inr b, .inl n] h Q := by
  obtain ⟨W, FD, ST, cnt, L, lg, H, M⟩ := H
  have hL := M.1.1.1
  show AW d 0 0 mX3_meaningsOfLength Q 0 [some (.inr b), some (.inl n), none, none] [] h
  refine AW.iconst dX3_meaningsOfLength_0 ?_
  refine AW.ist2 dX3_meaningsOfLength_1 (by decide) ?_
  refine L_manyA hv hb h9 hS hd (fun h2 W2 FD2 ST2 c2 L2 lg2 z H2 M2 hc F2 => ?_) (299 - L) 0 h W FD ST cnt L lg (by omega) (by omega) H M Fr.rfl'
  have M2' := M2.1.1
  have eW : ∀ m : Nat, m < 256 → (W2 m = n ↔ shF k g lv (m : Int) = n) := by
    intro m hm
    by_cases hw : W2 m = -9
    · rcases hc with q | q
      · constructor
        · intro y; omega
        · intro y
          rcases shF_cases k g lv (m : Int) with ⟨j, j1, j2⟩ | ⟨j1, j2⟩
          · exfalso
            have : j ≤ L2 := by omega
            by_cases z : j = L2
            · rw [z] at j1; exact M2.1.2.1 m hm j1.1 hw
            · exact M2'.2.2.1 m hm j (by omega) j1.1 hw
          · omega
      · rw [FI.val hv M2.1 hm (Or.inr q)]
    · rw [FI.val hv M2.1 hm (Or.inl hw)]
  have es : sumN c2 (fun i => iv (W2 (FD2 i).toNat = n) 1) = sumN 256 (fun j => iv (shF k g lv (j : Int) = n) 1) := by
    rw [sum_found (F := fun m => iv (W2 m = n) 1) (D := fun i => (FD2 i).toNat) c2 (fun i hi => by obtain ⟨m, q1, q2, q3⟩ := M2'.2.2.2.1 i hi; omega) (fun i j hi hj hij => by
      obtain ⟨m, q1, q2, q3⟩ := M2'.2.2.2.1 i hi
      obtain ⟨m2, r1, r2, r3⟩ := M2'.2.2.2.1 j hj
      have hij' : (FD2 i).toNat = (FD2 j).toNat := hij
      exact M2'.2.2.2.2.2.1 i j hi hj (by omega))]
    have hh : ∀ K, K ≤ 256 → sumN K (fun m => iv (∃ i, i < c2 ∧ (FD2 i).toNat = m) (iv (W2 m = n) 1)) = sumN K (fun j => iv (shF k g lv (j : Int) = n) 1) := by
      intro K
      induction K with
      | zero => intro _; rfl
      | succ K ihK =>
        intro hK
        rw [sumN_succ, sumN_succ, ihK (by omega)]
        congr 1
        by_cases z : W2 K = n
        · obtain ⟨i, q1, q2⟩ := M2'.2.2.2.2.1 K (by omega) (by rw [z]; omega)
          rw [iv_pos ⟨i, q1, by rw [q2]; omega⟩, iv_pos z, iv_pos ((eW K (by omega)).mp z)]
        · rw [iv_neg z, iv_neg (fun y => z ((eW K (by omega)).mpr y))]
          by_cases y : ∃ i, i < c2 ∧ (FD2 i).toNat = K
          · rw [iv_pos y]
          · rw [iv_neg y]
    exact hh 256 (Nat.le_refl _)
  refine AW.iconst dX3_meaningsOfLength_34 ?_
  refine AW.ist2 dX3_meaningsOfLength_35 (by decide) ?_
  refine AW.iconst dX3_meaningsOfLength_36 ?_
  refine AW.ist3 dX3_meaningsOfLength_37 (by decide) ?_
  refine L_manyB H2 M2' ?_ c2 0 (by omega)
  rw [es]
  exact hq h2 ⟨W2, FD2, ST2, c2, L2, lg2, H2, M2⟩ F2
end Few7

