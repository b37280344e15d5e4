section Mod24
variable {d : Nat} {Q : Option AV → AH → Prop} {h h0 : AH} {m : Nat → Int} {A : Nat → Nat → Int} {x lt : Int} {L : List Int} {p c : Nat} {s : SC}
def RW (L : List Int) (A : Nat → Nat → Int) (c : Nat) (sm : SM) : Prop := A 125 c = sm.1 ∧ A 126 c = (sm.2.1 : Int) ∧ DT L A c sm
def TW (m m' : Nat → Int) (A A' : Nat → Nat → Int) (c : Nat) : Prop := (∀ k, k ≠ 16 → m' k = m k) ∧ (∀ k, k < 125 ∨ 129 < k → A' k = A k) ∧ (∀ i, i ≠ c → A' 125 i = A 125 i ∧ A' 126 i = A 126 i ∧ A' 128 i = A 128 i ∧ A' 129 i = A 129 i) ∧ ∀ i, i ≠ 2 * c → i ≠ 2 * c + 1 → A' 127 i = A 127 i
theorem W_statement (hM : MR h0 h m A) (hT : TP L m A p) (hc : c < 40) (h17 : m 17 = (c : Int)) (hp : p ≤ L.length) (hd : 5 ≤ d)
    (hq : ∀ R, stP L p = R → ∀ h' m' A', MR h0 h' m' A' → TW m m' A A' c → m' 16 = (R.2.1 : Int) → (R.1 = true → RW L A' c R.2.2) → Q (some (.inl (if R.1 = true then 1 else 0))) h') : MW d 0 0 mX12_statement [.inr 116] h Q := by
  obtain ⟨g116, -, -, -, -, -, -, -, -, g125, g126, -⟩ := id hM
  have e16 : m 16 = (p : Int) := hT.2.2.2.2
  have h80 := hT.2.1
  have hb := ltr_b hT.2.2.2.1 p
  have e17 : (m 17).toNat = c := by omega
  have bad0 : ¬ isLt (ltr L p) → Q (some (.inl 0)) h := fun e => hq _ (stP_n e) h m A hM ⟨fun _ _ => rfl, fun _ _ => rfl, fun _ _ => ⟨rfl, rfl, rfl, rfl⟩, fun _ _ _ => rfl⟩ e16 (fun q => nomatch q)
  have go : isLt (ltr L p) → ∀ h1, MR h0 h1 (updI m 16 ((p : Int) + 1)) (updA (updA A 125 (updI (A 125) c (ltr L p))) 126 (updI (A 126) c (p : Int))) → AW d 0 0 mX12_statement Q 64 [some (.inr 116), some (.inl (ltr L p))] [] h1 := by
    intro hl h1 hM1
    have hp1 : p < L.length := ltr_lt (by unfold isLt at hl; omega)
    have hT1 : TP L (updI m 16 ((p : Int) + 1)) (updA (updA A 125 (updI (A 125) c (ltr L p))) 126 (updI (A 126) c (p : Int))) (p + 1) := hT.sq (updI_ne _ _ (by decide)) (by rw [updA_ne _ _ (by decide), updA_ne _ _ (by decide)]) (by rw [updI_eq]; omega)
    have h17' : updI m 16 ((p : Int) + 1) 17 = (c : Int) := by rw [updI_ne _ _ (by decide)]; exact h17
    obtain ⟨k116, -⟩ := id hM1
    have e2 : 2 * updI m 16 ((p : Int) + 1) 17 = ((2 * c : Nat) : Int) := by omega
    refine AW.aload_n dX12_statement_64 rfl ?_
    refine AW.iload_n dX12_statement_65 rfl ?_
    refine AW.iconst dX12_statement_66 ?_
    refine AW.aload_n dX12_statement_67 rfl ?_
    refine AW.getf dX12_statement_68 gX12_97 (by repeat (first | assumption | exact hset_eq _ _ _ | refine (hset_ne _ _ (by omega)).trans ?_)) rfl ?_
    refine AW.imulR dX12_statement_71 (by unfold RI; omega) ?_
    rw [e2]
    refine AW.cI3 (d' := d - 1) (cX12_114 rfl) okX12_readsAll dX12_statement_72 k116 (by omega) (W_readsAll hM1 hT1 hl hc h17' (by omega) (by omega) (fun R eR h2 m2 A2 hM2 hR t16 hD => ?_))
    have tw : TW m m2 A A2 c := by
      obtain ⟨r1, r2, r3, r4⟩ := hR
      refine ⟨fun k hk => by rw [r1 k hk, updI_ne _ _ hk], fun k hk => by rw [r2 k (by omega), updA_ne _ _ (by omega), updA_ne _ _ (by omega)], fun i hi => ⟨?_, ?_, ?_, ?_⟩, fun i i1 i2 => ?_⟩
      · rw [r2 125 (by decide), updA_ne _ _ (by decide), updA_eq, updI_ne _ _ hi]
      · rw [r2 126 (by decide), updA_eq, updI_ne _ _ hi]
      · rw [(r3 i hi).1, updA_ne _ _ (by decide), updA_ne _ _ (by decide)]
      · rw [(r3 i hi).2, updA_ne _ _ (by decide), updA_ne _ _ (by decide)]
      · rw [r4 i i1 i2, updA_ne _ _ (by decide), updA_ne _ _ (by decide)]
    have e125 : A2 125 c = ltr L p ∧ A2 126 c = (p : Int) := by
      obtain ⟨r1, r2, r3, r4⟩ := hR
      rw [r2 125 (by decide), r2 126 (by decide), updA_ne _ _ (by decide), updA_eq, updI_eq, updA_eq, updI_eq]
      exact ⟨rfl, rfl⟩
    obtain ⟨j116, -⟩ := id hM2
    by_cases hb : R.1 = true
    · rw [if_pos hb]
      have hrt : (raP L (ltr L p) (p + 1)).1 = true := by rw [eR]; exact hb
      have et := stP_t hl hrt
      have hok := raP_ok hl hrt
      rw [eR] at et hok
      have hT2 : TP L m2 A2 R.2.1 := hT.sq (tw.1 15 (by decide)) (tw.2.1 124 (by decide)) t16
      have hpl := raP_pl (L := L) (lt := ltr L p) (p := p + 1) (by omega)
      rw [eR] at hpl
      refine AW.ifeq_f (tgt := 87) dX12_statement_75 (by decide) (by decide) ?_
      refine AW.aload_n dX12_statement_78 rfl ?_
      refine AW.cI1 (d' := d - 1) (cX12_93 rfl) okX12_next dX12_statement_79 (by repeat (first | assumption | exact hset_eq _ _ _ | refine (hset_ne _ _ (by omega)).trans ?_)) (by omega) (W_nextL hM2 hT2 ?_)
      refine AW.bipush dX12_statement_82 ?_
      refine AW.if_icmpeq (tgt := 89) dX12_statement_84 (by decide) (fun c84 => ?_) (fun c84 => ?_)
      · refine AW.aload_n dX12_statement_89 rfl ?_
        refine AW.dup dX12_statement_90 ?_
        refine AW.getf dX12_statement_91 gX12_86 (by repeat (first | assumption | exact hset_eq _ _ _ | refine (hset_ne _ _ (by omega)).trans ?_)) rfl ?_
        refine AW.iconst dX12_statement_94 ?_
        refine AW.iaddR dX12_statement_95 (by unfold RI; omega) ?_
        refine AW.putf dX12_statement_96 pX12_86 (by repeat (first | assumption | exact hset_eq _ _ _ | refine (hset_ne _ _ (by omega)).trans ?_)) trivial ?_
        refine AW.iconst dX12_statement_99 ?_
        refine AW.zreturn dX12_statement_100 rfl (Or.inr rfl) ?_
        first
          | exact hq (badP R.2.1) (by rw [et]; unfold endP; rw [if_neg (by assumption)]) _ _ _ hM2 tw t16 (fun q => nomatch q)
          | exact hq (true, R.2.1 + 1, R.2.2) (by rw [et]; unfold endP; rw [if_pos (by assumption)]) _ (updI m2 16 (m2 16 + 1)) _ (MR.p rfl hM2) ⟨fun k hk => by rw [updI_ne _ _ hk]; exact tw.1 k hk, tw.2⟩ (by rw [updI_eq, t16]; show _ = ((R.2.1 + 1 : Nat) : Int); omega) (fun _ => ⟨by rw [e125.1]; exact hok.2.1.symm, by rw [e125.2]; show (p : Int) = ((R.2.2.2.1 : Nat) : Int); rw [hok.2.2.1]; rfl, hD hb⟩)
      · refine AW.iconst dX12_statement_87 ?_
        refine AW.zreturn dX12_statement_88 rfl (Or.inl rfl) ?_
        first
          | exact hq (badP R.2.1) (by rw [et]; unfold endP; rw [if_neg (by assumption)]) _ _ _ hM2 tw t16 (fun q => nomatch q)
          | exact hq (true, R.2.1 + 1, R.2.2) (by rw [et]; unfold endP; rw [if_pos (by assumption)]) _ (updI m2 16 (m2 16 + 1)) _ (MR.p rfl hM2) ⟨fun k hk => by rw [updI_ne _ _ hk]; exact tw.1 k hk, tw.2⟩ (by rw [updI_eq, t16]; show _ = ((R.2.1 + 1 : Nat) : Int); omega) (fun _ => ⟨by rw [e125.1]; exact hok.2.1.symm, by rw [e125.2]; show (p : Int) = ((R.2.2.2.1 : Nat) : Int); rw [hok.2.2.1]; rfl, hD hb⟩)
    · rw [if_neg hb]
      have hrf : (raP L (ltr L p) (p + 1)).1 = false := by rw [eR]; simpa using hb
      have et := stP_f hl hrf
      rw [eR] at et
      refine AW.ifeq_t (tgt := 87) dX12_statement_75 (by decide) rfl ?_
      refine AW.iconst dX12_statement_87 ?_
      refine AW.zreturn dX12_statement_88 rfl (Or.inl rfl) ?_
      exact hq _ et _ _ _ hM2 tw t16 (fun q => nomatch q)
  show AW d 0 0 mX12_statement Q 0 [some (.inr 116), none] [] h
  refine AW.aload_n dX12_statement_0 rfl ?_
  refine AW.cI1 (d' := d - 1) (cX12_93 rfl) okX12_next dX12_statement_1 (by repeat (first | assumption | exact hset_eq _ _ _ | refine (hset_ne _ _ (by omega)).trans ?_)) (by omega) (W_nextL hM hT ?_)
  refine AW.ist1 dX12_statement_4 (by decide) ?_
  refine AW.iload_n dX12_statement_5 rfl ?_
  refine AW.bipush dX12_statement_6 ?_
  refine AW.if_icmpeq (tgt := 31) dX12_statement_8 (by decide) (fun c8 => ?_) (fun c8 => ?_)
  · refine AW.aload_n dX12_statement_31 rfl ?_
    refine AW.getf dX12_statement_32 gX12_34 (by repeat (first | assumption | exact hset_eq _ _ _ | refine (hset_ne _ _ (by omega)).trans ?_)) rfl ?_
    refine AW.aload_n dX12_statement_35 rfl ?_
    refine AW.getf dX12_statement_36 gX12_97 (by repeat (first | assumption | exact hset_eq _ _ _ | refine (hset_ne _ _ (by omega)).trans ?_)) rfl ?_
    refine AW.iload_n dX12_statement_39 rfl ?_
    refine AW.iastore dX12_statement_40 (by omega) (by repeat (first | assumption | exact hset_eq _ _ _ | refine (hset_ne _ _ (by omega)).trans ?_)) (by omega) (by omega) ?_
    refine AW.aload_n dX12_statement_41 rfl ?_
    refine AW.getf dX12_statement_42 gX12_37 (by repeat (first | assumption | exact hset_eq _ _ _ | refine (hset_ne _ _ (by omega)).trans ?_)) rfl ?_
    refine AW.aload_n dX12_statement_45 rfl ?_
    refine AW.getf dX12_statement_46 gX12_97 (by repeat (first | assumption | exact hset_eq _ _ _ | refine (hset_ne _ _ (by omega)).trans ?_)) rfl ?_
    refine AW.aload_n dX12_statement_49 rfl ?_
    refine AW.getf dX12_statement_50 gX12_86 (by repeat (first | assumption | exact hset_eq _ _ _ | refine (hset_ne _ _ (by omega)).trans ?_)) rfl ?_
    refine AW.iastore dX12_statement_53 (by omega) (by repeat (first | assumption | exact hset_eq _ _ _ | refine (hset_ne _ _ (by omega)).trans ?_)) (by omega) (by omega) ?_
    refine AW.aload_n dX12_statement_54 rfl ?_
    refine AW.dup dX12_statement_55 ?_
    refine AW.getf dX12_statement_56 gX12_86 (by repeat (first | assumption | exact hset_eq _ _ _ | refine (hset_ne _ _ (by omega)).trans ?_)) rfl ?_
    refine AW.iconst dX12_statement_59 ?_
    refine AW.iaddR dX12_statement_60 (by unfold RI; omega) ?_
    refine AW.putf dX12_statement_61 pX12_86 (by repeat (first | assumption | exact hset_eq _ _ _ | refine (hset_ne _ _ (by omega)).trans ?_)) trivial ?_
    rw [e17, e16]
    exact go (by unfold isLt; omega) _ (MR.p rfl (MR.s126 (MR.s125 hM)))
  · refine AW.iload_n dX12_statement_11 rfl ?_
    refine AW.bipush dX12_statement_12 ?_
    refine AW.if_icmpeq (tgt := 31) dX12_statement_14 (by decide) (fun c14 => ?_) (fun c14 => ?_)
    · refine AW.aload_n dX12_statement_31 rfl ?_
      refine AW.getf dX12_statement_32 gX12_34 (by repeat (first | assumption | exact hset_eq _ _ _ | refine (hset_ne _ _ (by omega)).trans ?_)) rfl ?_
      refine AW.aload_n dX12_statement_35 rfl ?_
      refine AW.getf dX12_statement_36 gX12_97 (by repeat (first | assumption | exact hset_eq _ _ _ | refine (hset_ne _ _ (by omega)).trans ?_)) rfl ?_
      refine AW.iload_n dX12_statement_39 rfl ?_
      refine AW.iastore dX12_statement_40 (by omega) (by repeat (first | assumption | exact hset_eq _ _ _ | refine (hset_ne _ _ (by omega)).trans ?_)) (by omega) (by omega) ?_
      refine AW.aload_n dX12_statement_41 rfl ?_
      refine AW.getf dX12_statement_42 gX12_37 (by repeat (first | assumption | exact hset_eq _ _ _ | refine (hset_ne _ _ (by omega)).trans ?_)) rfl ?_
      refine AW.aload_n dX12_statement_45 rfl ?_
      refine AW.getf dX12_statement_46 gX12_97 (by repeat (first | assumption | exact hset_eq _ _ _ | refine (hset_ne _ _ (by omega)).trans ?_)) rfl ?_
      refine AW.aload_n dX12_statement_49 rfl ?_
      refine AW.getf dX12_statement_50 gX12_86 (by repeat (first | assumption | exact hset_eq _ _ _ | refine (hset_ne _ _ (by omega)).trans ?_)) rfl ?_
      refine AW.iastore dX12_statement_53 (by omega) (by repeat (first | assumption | exact hset_eq _ _ _ | refine (hset_ne _ _ (by omega)).trans ?_)) (by omega) (by omega) ?_
      refine AW.aload_n dX12_statement_54 rfl ?_
      refine AW.dup dX12_statement_55 ?_
      refine AW.getf dX12_statement_56 gX12_86 (by repeat (first | assumption | exact hset_eq _ _ _ | refine (hset_ne _ _ (by omega)).trans ?_)) rfl ?_
      refine AW.iconst dX12_statement_59 ?_
      refine AW.iaddR dX12_statement_60 (by unfold RI; omega) ?_
      refine AW.putf dX12_statement_61 pX12_86 (by repeat (first | assumption | exact hset_eq _ _ _ | refine (hset_ne _ _ (by omega)).trans ?_)) trivial ?_
      rw [e17, e16]
      exact go (by unfold isLt; omega) _ (MR.p rfl (MR.s126 (MR.s125 hM)))
    · refine AW.iload_n dX12_statement_17 rfl ?_
      refine AW.bipush dX12_statement_18 ?_
      refine AW.if_icmpeq (tgt := 31) dX12_statement_20 (by decide) (fun c20 => ?_) (fun c20 => ?_)
      · refine AW.aload_n dX12_statement_31 rfl ?_
        refine AW.getf dX12_statement_32 gX12_34 (by repeat (first | assumption | exact hset_eq _ _ _ | refine (hset_ne _ _ (by omega)).trans ?_)) rfl ?_
        refine AW.aload_n dX12_statement_35 rfl ?_
        refine AW.getf dX12_statement_36 gX12_97 (by repeat (first | assumption | exact hset_eq _ _ _ | refine (hset_ne _ _ (by omega)).trans ?_)) rfl ?_
        refine AW.iload_n dX12_statement_39 rfl ?_
        refine AW.iastore dX12_statement_40 (by omega) (by repeat (first | assumption | exact hset_eq _ _ _ | refine (hset_ne _ _ (by omega)).trans ?_)) (by omega) (by omega) ?_
        refine AW.aload_n dX12_statement_41 rfl ?_
        refine AW.getf dX12_statement_42 gX12_37 (by repeat (first | assumption | exact hset_eq _ _ _ | refine (hset_ne _ _ (by omega)).trans ?_)) rfl ?_
        refine AW.aload_n dX12_statement_45 rfl ?_
        refine AW.getf dX12_statement_46 gX12_97 (by repeat (first | assumption | exact hset_eq _ _ _ | refine (hset_ne _ _ (by omega)).trans ?_)) rfl ?_
        refine AW.aload_n dX12_statement_49 rfl ?_
        refine AW.getf dX12_statement_50 gX12_86 (by repeat (first | assumption | exact hset_eq _ _ _ | refine (hset_ne _ _ (by omega)).trans ?_)) rfl ?_
        refine AW.iastore dX12_statement_53 (by omega) (by repeat (first | assumption | exact hset_eq _ _ _ | refine (hset_ne _ _ (by omega)).trans ?_)) (by omega) (by omega) ?_
        refine AW.aload_n dX12_statement_54 rfl ?_
        refine AW.dup dX12_statement_55 ?_
        refine AW.getf dX12_statement_56 gX12_86 (by repeat (first | assumption | exact hset_eq _ _ _ | refine (hset_ne _ _ (by omega)).trans ?_)) rfl ?_
        refine AW.iconst dX12_statement_59 ?_
        refine AW.iaddR dX12_statement_60 (by unfold RI; omega) ?_
        refine AW.putf dX12_statement_61 pX12_86 (by repeat (first | assumption | exact hset_eq _ _ _ | refine (hset_ne _ _ (by omega)).trans ?_)) trivial ?_
        rw [e17, e16]
        exact go (by unfold isLt; omega) _ (MR.p rfl (MR.s126 (MR.s125 hM)))
      · refine AW.iload_n dX12_statement_23 rfl ?_
        refine AW.bipush dX12_statement_24 ?_
        refine AW.if_icmpeq (tgt := 31) dX12_statement_26 (by decide) (fun c26 => ?_) (fun c26 => ?_)
        · refine AW.aload_n dX12_statement_31 rfl ?_
          refine AW.getf dX12_statement_32 gX12_34 (by repeat (first | assumption | exact hset_eq _ _ _ | refine (hset_ne _ _ (by omega)).trans ?_)) rfl ?_
          refine AW.aload_n dX12_statement_35 rfl ?_
          refine AW.getf dX12_statement_36 gX12_97 (by repeat (first | assumption | exact hset_eq _ _ _ | refine (hset_ne _ _ (by omega)).trans ?_)) rfl ?_
          refine AW.iload_n dX12_statement_39 rfl ?_
          refine AW.iastore dX12_statement_40 (by omega) (by repeat (first | assumption | exact hset_eq _ _ _ | refine (hset_ne _ _ (by omega)).trans ?_)) (by omega) (by omega) ?_
          refine AW.aload_n dX12_statement_41 rfl ?_
          refine AW.getf dX12_statement_42 gX12_37 (by repeat (first | assumption | exact hset_eq _ _ _ | refine (hset_ne _ _ (by omega)).trans ?_)) rfl ?_
          refine AW.aload_n dX12_statement_45 rfl ?_
          refine AW.getf dX12_statement_46 gX12_97 (by repeat (first | assumption | exact hset_eq _ _ _ | refine (hset_ne _ _ (by omega)).trans ?_)) rfl ?_
          refine AW.aload_n dX12_statement_49 rfl ?_
          refine AW.getf dX12_statement_50 gX12_86 (by repeat (first | assumption | exact hset_eq _ _ _ | refine (hset_ne _ _ (by omega)).trans ?_)) rfl ?_
          refine AW.iastore dX12_statement_53 (by omega) (by repeat (first | assumption | exact hset_eq _ _ _ | refine (hset_ne _ _ (by omega)).trans ?_)) (by omega) (by omega) ?_
          refine AW.aload_n dX12_statement_54 rfl ?_
          refine AW.dup dX12_statement_55 ?_
          refine AW.getf dX12_statement_56 gX12_86 (by repeat (first | assumption | exact hset_eq _ _ _ | refine (hset_ne _ _ (by omega)).trans ?_)) rfl ?_
          refine AW.iconst dX12_statement_59 ?_
          refine AW.iaddR dX12_statement_60 (by unfold RI; omega) ?_
          refine AW.putf dX12_statement_61 pX12_86 (by repeat (first | assumption | exact hset_eq _ _ _ | refine (hset_ne _ _ (by omega)).trans ?_)) trivial ?_
          rw [e17, e16]
          exact go (by unfold isLt; omega) _ (MR.p rfl (MR.s126 (MR.s125 hM)))
        · refine AW.iconst dX12_statement_29 ?_
          refine AW.zreturn dX12_statement_30 rfl (Or.inl rfl) ?_
          exact bad0 (by unfold isLt; omega)
end Mod24

