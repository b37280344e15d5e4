section Mod11
variable {d : Nat} {Q : Option AV → AH → Prop} {h h0 : AH} {m : Nat → Int} {A : Nat → Nat → Int} {who x y z v : Int} {S : ST} {s : SC}
/-- the rows of a school, kept from b on -/
def Kept (f : Nat → Int) (b : Nat) (n7 n8 : Int) (A : Nat → Nat → Int) : Prop := f (b + 148) = n7 ∧ f (b + 149) = n8 ∧ (∀ i, i < 6 → f (b + i) = A 118 i) ∧ (∀ i, i < 6 → f (b + 6 + i) = A 119 i) ∧ (∀ i, i < 6 → f (b + 12 + i) = A 120 i) ∧ (∀ i, i < 4 → f (b + 18 + i) = A 121 i) ∧ (∀ i, i < 6 → f (b + 22 + i) = A 122 i) ∧ ∀ i, i < 120 → f (b + 28 + i) = A 123 i
theorem Kept.of {f : Nat → Int} {b : Nat} (hK : Kept f b (m 7) (m 8) A) (ok : scOK s) (hS : MSC m A s) : KSC f b s := by
  obtain ⟨k1, k2, k3, k4, k5, k6, k7, k8⟩ := hK
  obtain ⟨q1, q2, q3, q4, q5, q6⟩ := hS
  have h5 := ok.1
  have h6 := ok.2.1
  refine ⟨k1.trans q1, k2.trans q2, fun i hi => ⟨(k3 i (by omega)).trans (q3 i hi).1, (k4 i (by omega)).trans (q3 i hi).2.1, (k5 i (by omega)).trans (q3 i hi).2.2⟩, fun i hi => (k6 i hi).trans (q4 i hi), fun i hi => (k7 i (by omega)).trans (q5 i hi), fun i hi j w hw => ?_⟩
  have hl := (ok.2.2.2.2 i hi).2
  have hj := (List.getElem?_eq_some_iff.mp hw).1
  exact (k8 (20 * i + j) (by omega)).trans (q6 i hi j w hw)
theorem Kept.to {f : Nat → Int} {b : Nat} (hK : Kept f b (m 7) (m 8) A) (ok : scOK s) (hS : KSC f b s) : MSC m A s := by
  obtain ⟨k1, k2, k3, k4, k5, k6, k7, k8⟩ := hK
  obtain ⟨q1, q2, q3, q4, q5, q6⟩ := hS
  have h5 := ok.1
  have h6 := ok.2.1
  refine ⟨k1.symm.trans q1, k2.symm.trans q2, fun i hi => ⟨(k3 i (by omega)).symm.trans (q3 i hi).1, (k4 i (by omega)).symm.trans (q3 i hi).2.1, (k5 i (by omega)).symm.trans (q3 i hi).2.2⟩, fun i hi => (k6 i hi).symm.trans (q4 i hi), fun i hi => (k7 i (by omega)).symm.trans (q5 i hi), fun i hi j w hw => ?_⟩
  have hl := (ok.2.2.2.2 i hi).2
  have hj := (List.getElem?_eq_some_iff.mp hw).1
  exact (k8 (20 * i + j) (by omega)).symm.trans (q6 i hi j w hw)
set_option maxHeartbeats 2000000 in
theorem W_keep {w : Nat} (hw : w ≤ 1) (hM : MR h0 h m A) (hd : 1 ≤ d) (hq : ∀ h' m' A', MR h0 h' m' A' → (∀ k, k ≠ 20 → k ≠ 21 → m' k = m k) → (∀ k, k ≠ 130 → A' k = A k) → (∀ j, j < 160 * w ∨ 160 * w + 150 ≤ j → A' 130 j = A 130 j) → Kept (A' 130) (160 * w) (m 7) (m 8) A → Q none h') : MW d 0 0 mX12_passesAll [.inr 116, .inl (w : Int), .inl 1] h Q := by
  obtain ⟨g116, -⟩ := id hM
  obtain ⟨b, hb⟩ : ∃ b, b = 160 * w := ⟨_, rfl⟩
  have hb2 : b ≤ 160 := by omega
  rw [← hb] at hq
  have hM0 : MR h0 (hset (hset h 116 (.inl (13, (mol m).set 21 (.inl (160 * (w : Int)))))) 116 (.inl (13, (mol (updI m 21 (160 * (w : Int)))).set 20 (.inl 1)))) (updI (updI m 21 (160 * (w : Int))) 20 1) A := MR.p rfl (MR.p rfl hM)
  have f20_0 : updI (updI m 21 (160 * (w : Int))) 20 1 20 = 1 := rfl
  have f21_0 : updI (updI m 21 (160 * (w : Int))) 20 1 21 = ((b + 0 : Nat) : Int) := by show 160 * (w : Int) = _; omega
  have fm_0 : ∀ k, k ≠ 20 → k ≠ 21 → updI (updI m 21 (160 * (w : Int))) 20 1 k = m k := fun k k1 k2 => by rw [updI_ne _ _ k1, updI_ne _ _ k2]
  generalize updI (updI m 21 (160 * (w : Int))) 20 1 = m0 at hM0 f20_0 f21_0 fm_0
  show AW d 0 0 mX12_passesAll Q 0 [some (.inr 116), some (.inl (w : Int)), some (.inl 1)] [] h
  refine AW.aload_n dX12_passesAll_0 rfl ?_
  refine AW.sipush dX12_passesAll_1 ?_
  refine AW.iload_n dX12_passesAll_4 rfl ?_
  refine AW.imulR dX12_passesAll_5 (by unfold RI; omega) ?_
  refine AW.putf dX12_passesAll_6 pX12_145 (by repeat (first | assumption | exact hset_eq _ _ _ | refine (hset_ne _ _ (by omega)).trans ?_)) trivial ?_
  refine AW.aload_n dX12_passesAll_9 rfl ?_
  refine AW.iload_n dX12_passesAll_10 rfl ?_
  refine AW.putf dX12_passesAll_11 pX12_141 (by repeat (first | assumption | exact hset_eq _ _ _ | refine (hset_ne _ _ (by omega)).trans ?_)) (Or.inr rfl) ?_

  obtain ⟨u0, -⟩ := id hM0
  have v0 := hM0.2.2.1
  refine AW.aload_n dX12_passesAll_14 rfl ?_
  refine AW.aload_n dX12_passesAll_15 rfl ?_
  refine AW.getf dX12_passesAll_16 gX12_13 (by repeat (first | assumption | exact hset_eq _ _ _ | refine (hset_ne _ _ (by omega)).trans ?_)) rfl ?_
  refine AW.cI2 (d' := d - 1) (cX12_148 rfl) okX12_passes dX12_passesAll_19 (by repeat (first | assumption | exact hset_eq _ _ _ | refine (hset_ne _ _ (by omega)).trans ?_)) (by omega) (W_passK (a := 118) (n := 6) (c := b + 0) hM0 (fun _ _ _ h => h.2.2.1) (by decide) (by decide) (by omega) f20_0 f21_0 (fun hh1 m1 A1 hM1 f21_1 e1 k1 l1 => ?_))
  have f20_1 : m1 20 = 1 := (e1 20 (by decide)).trans f20_0
  have fm_1 : ∀ k, k ≠ 20 → k ≠ 21 → m1 k = m k := fun k k1 k2 => (e1 k k2).trans (fm_0 k k1 k2)
  obtain ⟨u1, -⟩ := id hM1
  have v1 := hM1.2.2.2.1
  refine AW.aload_n dX12_passesAll_22 rfl ?_
  refine AW.aload_n dX12_passesAll_23 rfl ?_
  refine AW.getf dX12_passesAll_24 gX12_16 (by repeat (first | assumption | exact hset_eq _ _ _ | refine (hset_ne _ _ (by omega)).trans ?_)) rfl ?_
  refine AW.cI2 (d' := d - 1) (cX12_148 rfl) okX12_passes dX12_passesAll_27 (by repeat (first | assumption | exact hset_eq _ _ _ | refine (hset_ne _ _ (by omega)).trans ?_)) (by omega) (W_passK (a := 119) (n := 6) (c := b + 6) hM1 (fun _ _ _ h => h.2.2.2.1) (by decide) (by decide) (by omega) f20_1 f21_1 (fun hh2 m2 A2 hM2 f21_2 e2 k2 l2 => ?_))
  have f20_2 : m2 20 = 1 := (e2 20 (by decide)).trans f20_1
  have fm_2 : ∀ k, k ≠ 20 → k ≠ 21 → m2 k = m k := fun k k1 k2 => (e2 k k2).trans (fm_1 k k1 k2)
  obtain ⟨u2, -⟩ := id hM2
  have v2 := hM2.2.2.2.2.1
  refine AW.aload_n dX12_passesAll_30 rfl ?_
  refine AW.aload_n dX12_passesAll_31 rfl ?_
  refine AW.getf dX12_passesAll_32 gX12_19 (by repeat (first | assumption | exact hset_eq _ _ _ | refine (hset_ne _ _ (by omega)).trans ?_)) rfl ?_
  refine AW.cI2 (d' := d - 1) (cX12_148 rfl) okX12_passes dX12_passesAll_35 (by repeat (first | assumption | exact hset_eq _ _ _ | refine (hset_ne _ _ (by omega)).trans ?_)) (by omega) (W_passK (a := 120) (n := 6) (c := b + 12) hM2 (fun _ _ _ h => h.2.2.2.2.1) (by decide) (by decide) (by omega) f20_2 f21_2 (fun hh3 m3 A3 hM3 f21_3 e3 k3 l3 => ?_))
  have f20_3 : m3 20 = 1 := (e3 20 (by decide)).trans f20_2
  have fm_3 : ∀ k, k ≠ 20 → k ≠ 21 → m3 k = m k := fun k k1 k2 => (e3 k k2).trans (fm_2 k k1 k2)
  obtain ⟨u3, -⟩ := id hM3
  have v3 := hM3.2.2.2.2.2.1
  refine AW.aload_n dX12_passesAll_38 rfl ?_
  refine AW.aload_n dX12_passesAll_39 rfl ?_
  refine AW.getf dX12_passesAll_40 gX12_22 (by repeat (first | assumption | exact hset_eq _ _ _ | refine (hset_ne _ _ (by omega)).trans ?_)) rfl ?_
  refine AW.cI2 (d' := d - 1) (cX12_148 rfl) okX12_passes dX12_passesAll_43 (by repeat (first | assumption | exact hset_eq _ _ _ | refine (hset_ne _ _ (by omega)).trans ?_)) (by omega) (W_passK (a := 121) (n := 4) (c := b + 18) hM3 (fun _ _ _ h => h.2.2.2.2.2.1) (by decide) (by decide) (by omega) f20_3 f21_3 (fun hh4 m4 A4 hM4 f21_4 e4 k4 l4 => ?_))
  have f20_4 : m4 20 = 1 := (e4 20 (by decide)).trans f20_3
  have fm_4 : ∀ k, k ≠ 20 → k ≠ 21 → m4 k = m k := fun k k1 k2 => (e4 k k2).trans (fm_3 k k1 k2)
  obtain ⟨u4, -⟩ := id hM4
  have v4 := hM4.2.2.2.2.2.2.1
  refine AW.aload_n dX12_passesAll_46 rfl ?_
  refine AW.aload_n dX12_passesAll_47 rfl ?_
  refine AW.getf dX12_passesAll_48 gX12_25 (by repeat (first | assumption | exact hset_eq _ _ _ | refine (hset_ne _ _ (by omega)).trans ?_)) rfl ?_
  refine AW.cI2 (d' := d - 1) (cX12_148 rfl) okX12_passes dX12_passesAll_51 (by repeat (first | assumption | exact hset_eq _ _ _ | refine (hset_ne _ _ (by omega)).trans ?_)) (by omega) (W_passK (a := 122) (n := 6) (c := b + 22) hM4 (fun _ _ _ h => h.2.2.2.2.2.2.1) (by decide) (by decide) (by omega) f20_4 f21_4 (fun hh5 m5 A5 hM5 f21_5 e5 k5 l5 => ?_))
  have f20_5 : m5 20 = 1 := (e5 20 (by decide)).trans f20_4
  have fm_5 : ∀ k, k ≠ 20 → k ≠ 21 → m5 k = m k := fun k k1 k2 => (e5 k k2).trans (fm_4 k k1 k2)
  obtain ⟨u5, -⟩ := id hM5
  have v5 := hM5.2.2.2.2.2.2.2.1
  refine AW.aload_n dX12_passesAll_54 rfl ?_
  refine AW.aload_n dX12_passesAll_55 rfl ?_
  refine AW.getf dX12_passesAll_56 gX12_28 (by repeat (first | assumption | exact hset_eq _ _ _ | refine (hset_ne _ _ (by omega)).trans ?_)) rfl ?_
  refine AW.cI2 (d' := d - 1) (cX12_148 rfl) okX12_passes dX12_passesAll_59 (by repeat (first | assumption | exact hset_eq _ _ _ | refine (hset_ne _ _ (by omega)).trans ?_)) (by omega) (W_passK (a := 123) (n := 120) (c := b + 28) hM5 (fun _ _ _ h => h.2.2.2.2.2.2.2.1) (by decide) (by decide) (by omega) f20_5 f21_5 (fun hh6 m6 A6 hM6 f21_6 e6 k6 l6 => ?_))
  have f20_6 : m6 20 = 1 := (e6 20 (by decide)).trans f20_5
  have fm_6 : ∀ k, k ≠ 20 → k ≠ 21 → m6 k = m k := fun k k1 k2 => (e6 k k2).trans (fm_5 k k1 k2)
  obtain ⟨u6, -⟩ := id hM6
  refine AW.aload_n dX12_passesAll_62 rfl ?_
  refine AW.aload_n dX12_passesAll_63 rfl ?_
  refine AW.aload_n dX12_passesAll_64 rfl ?_
  refine AW.getf dX12_passesAll_65 gX12_68 (by repeat (first | assumption | exact hset_eq _ _ _ | refine (hset_ne _ _ (by omega)).trans ?_)) rfl ?_
  refine AW.cI2 (d' := d - 1) (cX12_152 rfl) okX12_passOne dX12_passesAll_68 (by repeat (first | assumption | exact hset_eq _ _ _ | refine (hset_ne _ _ (by omega)).trans ?_)) (by omega) (W_passOneK (c := b + 148) hM6 (by omega) f20_6 f21_6 (fun hh7 m7 A7 hM7 f21_7 e7 k7 l7 => ?_))
  refine AW.putf dX12_passesAll_71 pX12_68 hM7.1 trivial ?_
  have f20_7 : m7 20 = 1 := (e7 20 (by decide)).trans f20_6
  have x7 : m6 7 = m 7 := fm_6 7 (by decide) (by decide)
  have x8 : m6 8 = m 8 := fm_6 8 (by decide) (by decide)
  have hM7b : MR h0 (hset hh7 116 (.inl (13, (mol m7).set 7 (.inl (m6 7))))) (updI m7 7 (m6 7)) A7 := MR.p rfl hM7
  obtain ⟨u7, -⟩ := id hM7b
  refine AW.aload_n dX12_passesAll_74 rfl ?_
  refine AW.aload_n dX12_passesAll_75 rfl ?_
  refine AW.aload_n dX12_passesAll_76 rfl ?_
  refine AW.getf dX12_passesAll_77 gX12_72 (by repeat (first | assumption | exact hset_eq _ _ _ | refine (hset_ne _ _ (by omega)).trans ?_)) rfl ?_
  refine AW.cI2 (d' := d - 1) (cX12_152 rfl) okX12_passOne dX12_passesAll_80 (by repeat (first | assumption | exact hset_eq _ _ _ | refine (hset_ne _ _ (by omega)).trans ?_)) (by omega) (W_passOneK (c := b + 149) hM7b (by omega) f20_7 f21_7 (fun hh8 m8 A8 hM8 f21_8 e8 k8 l8 => ?_))
  refine AW.putf dX12_passesAll_83 pX12_72 hM8.1 trivial ?_
  refine AW.vreturn dX12_passesAll_86 rfl ?_
  refine hq _ _ A8 (MR.p (m2 := updI m8 8 (m7 8)) rfl hM8) ?_ ?_ ?_ ?_
  · intro k k1 k2
    by_cases c8 : k = 8
    · subst c8
      rw [updI_eq, e7 8 (by decide)]
      exact x8
    · rw [updI_ne _ _ c8, e8 k k2]
      by_cases c7 : k = 7
      · subst c7
        rw [updI_eq]
        exact x7
      · rw [updI_ne _ _ c7, e7 k k2]
        exact fm_6 k k1 k2
  · intro k hk
    rw [k8 k hk, k7 k hk, k6 k hk, k5 k hk, k4 k hk, k3 k hk, k2 k hk, k1 k hk]
  · intro j hj
    rw [l8 j, if_neg (by omega), l7 j, if_neg (by omega), l6 j, if_neg (by omega), l5 j, if_neg (by omega), l4 j, if_neg (by omega), l3 j, if_neg (by omega), l2 j, if_neg (by omega), l1 j, if_neg (by omega)]
  · have x78 : m7 8 = m 8 := (e7 8 (by decide)).trans x8
    refine ⟨?_, ?_, ?_, ?_, ?_, ?_, ?_, ?_⟩
    · rw [l8, if_neg (by omega), l7, if_pos rfl]; exact x7
    · rw [l8, if_pos rfl]; exact x78
    · intro i hi
      rw [l8, if_neg (by omega), l7, if_neg (by omega), l6, if_neg (by omega), l5, if_neg (by omega), l4, if_neg (by omega), l3, if_neg (by omega), l2, if_neg (by omega), l1, if_pos (by omega)]
      congr 1; omega
    · intro i hi
      rw [l8, if_neg (by omega), l7, if_neg (by omega), l6, if_neg (by omega), l5, if_neg (by omega), l4, if_neg (by omega), l3, if_neg (by omega), l2, if_pos (by omega), k1 119 (by decide)]
      congr 1; omega
    · intro i hi
      rw [l8, if_neg (by omega), l7, if_neg (by omega), l6, if_neg (by omega), l5, if_neg (by omega), l4, if_neg (by omega), l3, if_pos (by omega), k2 120 (by decide), k1 120 (by decide)]
      congr 1; omega
    · intro i hi
      rw [l8, if_neg (by omega), l7, if_neg (by omega), l6, if_neg (by omega), l5, if_neg (by omega), l4, if_pos (by omega), k3 121 (by decide), k2 121 (by decide), k1 121 (by decide)]
      congr 1; omega
    · intro i hi
      rw [l8, if_neg (by omega), l7, if_neg (by omega), l6, if_neg (by omega), l5, if_pos (by omega), k4 122 (by decide), k3 122 (by decide), k2 122 (by decide), k1 122 (by decide)]
      congr 1; omega
    · intro i hi
      rw [l8, if_neg (by omega), l7, if_neg (by omega), l6, if_pos (by omega), k5 123 (by decide), k4 123 (by decide), k3 123 (by decide), k2 123 (by decide), k1 123 (by decide)]
      congr 1; omega
set_option maxHeartbeats 2000000 in
theorem W_back {w : Nat} (hw : w ≤ 1) (hM : MR h0 h m A) (hd : 1 ≤ d) (hq : ∀ h' m' A', MR h0 h' m' A' → (∀ k, k ≠ 7 → k ≠ 8 → k ≠ 20 → k ≠ 21 → m' k = m k) → (∀ k, k < 118 ∨ 123 < k → A' k = A k) → Kept (A 130) (160 * w) (m' 7) (m' 8) A' → Q none h') : MW d 0 0 mX12_passesAll [.inr 116, .inl (w : Int), .inl 0] h Q := by
  obtain ⟨g116, -⟩ := id hM
  obtain ⟨b, hb⟩ : ∃ b, b = 160 * w := ⟨_, rfl⟩
  have hb2 : b ≤ 160 := by omega
  rw [← hb] at hq
  have hM0 : MR h0 (hset (hset h 116 (.inl (13, (mol m).set 21 (.inl (160 * (w : Int)))))) 116 (.inl (13, (mol (updI m 21 (160 * (w : Int)))).set 20 (.inl 0)))) (updI (updI m 21 (160 * (w : Int))) 20 0) A := MR.p rfl (MR.p rfl hM)
  have f20_0 : updI (updI m 21 (160 * (w : Int))) 20 0 20 = 0 := rfl
  have f21_0 : updI (updI m 21 (160 * (w : Int))) 20 0 21 = ((b + 0 : Nat) : Int) := by show 160 * (w : Int) = _; omega
  have fm_0 : ∀ k, k ≠ 20 → k ≠ 21 → updI (updI m 21 (160 * (w : Int))) 20 0 k = m k := fun k k1 k2 => by rw [updI_ne _ _ k1, updI_ne _ _ k2]
  generalize updI (updI m 21 (160 * (w : Int))) 20 0 = m0 at hM0 f20_0 f21_0 fm_0
  show AW d 0 0 mX12_passesAll Q 0 [some (.inr 116), some (.inl (w : Int)), some (.inl 0)] [] h
  refine AW.aload_n dX12_passesAll_0 rfl ?_
  refine AW.sipush dX12_passesAll_1 ?_
  refine AW.iload_n dX12_passesAll_4 rfl ?_
  refine AW.imulR dX12_passesAll_5 (by unfold RI; omega) ?_
  refine AW.putf dX12_passesAll_6 pX12_145 (by repeat (first | assumption | exact hset_eq _ _ _ | refine (hset_ne _ _ (by omega)).trans ?_)) trivial ?_
  refine AW.aload_n dX12_passesAll_9 rfl ?_
  refine AW.iload_n dX12_passesAll_10 rfl ?_
  refine AW.putf dX12_passesAll_11 pX12_141 (by repeat (first | assumption | exact hset_eq _ _ _ | refine (hset_ne _ _ (by omega)).trans ?_)) (Or.inl rfl) ?_

  obtain ⟨u0, -⟩ := id hM0
  have v0 := hM0.2.2.1
  refine AW.aload_n dX12_passesAll_14 rfl ?_
  refine AW.aload_n dX12_passesAll_15 rfl ?_
  refine AW.getf dX12_passesAll_16 gX12_13 (by repeat (first | assumption | exact hset_eq _ _ _ | refine (hset_ne _ _ (by omega)).trans ?_)) rfl ?_
  refine AW.cI2 (d' := d - 1) (cX12_148 rfl) okX12_passes dX12_passesAll_19 (by repeat (first | assumption | exact hset_eq _ _ _ | refine (hset_ne _ _ (by omega)).trans ?_)) (by omega) (W_passR (a := 118) (n := 6) (c := b + 0) hM0 (fun _ _ _ h => h.2.2.1) (fun _ _ _ _ h => MR.s118 h) (by decide) (by decide) (by decide) (by omega) f20_0 f21_0 (fun hh1 m1 A1 hM1 f21_1 e1 k1 l1 => ?_))
  have f20_1 : m1 20 = 0 := (e1 20 (by decide)).trans f20_0
  have fm_1 : ∀ k, k ≠ 20 → k ≠ 21 → m1 k = m k := fun k k1 k2 => (e1 k k2).trans (fm_0 k k1 k2)
  obtain ⟨u1, -⟩ := id hM1
  have v1 := hM1.2.2.2.1
  refine AW.aload_n dX12_passesAll_22 rfl ?_
  refine AW.aload_n dX12_passesAll_23 rfl ?_
  refine AW.getf dX12_passesAll_24 gX12_16 (by repeat (first | assumption | exact hset_eq _ _ _ | refine (hset_ne _ _ (by omega)).trans ?_)) rfl ?_
  refine AW.cI2 (d' := d - 1) (cX12_148 rfl) okX12_passes dX12_passesAll_27 (by repeat (first | assumption | exact hset_eq _ _ _ | refine (hset_ne _ _ (by omega)).trans ?_)) (by omega) (W_passR (a := 119) (n := 6) (c := b + 6) hM1 (fun _ _ _ h => h.2.2.2.1) (fun _ _ _ _ h => MR.s119 h) (by decide) (by decide) (by decide) (by omega) f20_1 f21_1 (fun hh2 m2 A2 hM2 f21_2 e2 k2 l2 => ?_))
  have f20_2 : m2 20 = 0 := (e2 20 (by decide)).trans f20_1
  have fm_2 : ∀ k, k ≠ 20 → k ≠ 21 → m2 k = m k := fun k k1 k2 => (e2 k k2).trans (fm_1 k k1 k2)
  obtain ⟨u2, -⟩ := id hM2
  have v2 := hM2.2.2.2.2.1
  refine AW.aload_n dX12_passesAll_30 rfl ?_
  refine AW.aload_n dX12_passesAll_31 rfl ?_
  refine AW.getf dX12_passesAll_32 gX12_19 (by repeat (first | assumption | exact hset_eq _ _ _ | refine (hset_ne _ _ (by omega)).trans ?_)) rfl ?_
  refine AW.cI2 (d' := d - 1) (cX12_148 rfl) okX12_passes dX12_passesAll_35 (by repeat (first | assumption | exact hset_eq _ _ _ | refine (hset_ne _ _ (by omega)).trans ?_)) (by omega) (W_passR (a := 120) (n := 6) (c := b + 12) hM2 (fun _ _ _ h => h.2.2.2.2.1) (fun _ _ _ _ h => MR.s120 h) (by decide) (by decide) (by decide) (by omega) f20_2 f21_2 (fun hh3 m3 A3 hM3 f21_3 e3 k3 l3 => ?_))
  have f20_3 : m3 20 = 0 := (e3 20 (by decide)).trans f20_2
  have fm_3 : ∀ k, k ≠ 20 → k ≠ 21 → m3 k = m k := fun k k1 k2 => (e3 k k2).trans (fm_2 k k1 k2)
  obtain ⟨u3, -⟩ := id hM3
  have v3 := hM3.2.2.2.2.2.1
  refine AW.aload_n dX12_passesAll_38 rfl ?_
  refine AW.aload_n dX12_passesAll_39 rfl ?_
  refine AW.getf dX12_passesAll_40 gX12_22 (by repeat (first | assumption | exact hset_eq _ _ _ | refine (hset_ne _ _ (by omega)).trans ?_)) rfl ?_
  refine AW.cI2 (d' := d - 1) (cX12_148 rfl) okX12_passes dX12_passesAll_43 (by repeat (first | assumption | exact hset_eq _ _ _ | refine (hset_ne _ _ (by omega)).trans ?_)) (by omega) (W_passR (a := 121) (n := 4) (c := b + 18) hM3 (fun _ _ _ h => h.2.2.2.2.2.1) (fun _ _ _ _ h => MR.s121 h) (by decide) (by decide) (by decide) (by omega) f20_3 f21_3 (fun hh4 m4 A4 hM4 f21_4 e4 k4 l4 => ?_))
  have f20_4 : m4 20 = 0 := (e4 20 (by decide)).trans f20_3
  have fm_4 : ∀ k, k ≠ 20 → k ≠ 21 → m4 k = m k := fun k k1 k2 => (e4 k k2).trans (fm_3 k k1 k2)
  obtain ⟨u4, -⟩ := id hM4
  have v4 := hM4.2.2.2.2.2.2.1
  refine AW.aload_n dX12_passesAll_46 rfl ?_
  refine AW.aload_n dX12_passesAll_47 rfl ?_
  refine AW.getf dX12_passesAll_48 gX12_25 (by repeat (first | assumption | exact hset_eq _ _ _ | refine (hset_ne _ _ (by omega)).trans ?_)) rfl ?_
  refine AW.cI2 (d' := d - 1) (cX12_148 rfl) okX12_passes dX12_passesAll_51 (by repeat (first | assumption | exact hset_eq _ _ _ | refine (hset_ne _ _ (by omega)).trans ?_)) (by omega) (W_passR (a := 122) (n := 6) (c := b + 22) hM4 (fun _ _ _ h => h.2.2.2.2.2.2.1) (fun _ _ _ _ h => MR.s122 h) (by decide) (by decide) (by decide) (by omega) f20_4 f21_4 (fun hh5 m5 A5 hM5 f21_5 e5 k5 l5 => ?_))
  have f20_5 : m5 20 = 0 := (e5 20 (by decide)).trans f20_4
  have fm_5 : ∀ k, k ≠ 20 → k ≠ 21 → m5 k = m k := fun k k1 k2 => (e5 k k2).trans (fm_4 k k1 k2)
  obtain ⟨u5, -⟩ := id hM5
  have v5 := hM5.2.2.2.2.2.2.2.1
  refine AW.aload_n dX12_passesAll_54 rfl ?_
  refine AW.aload_n dX12_passesAll_55 rfl ?_
  refine AW.getf dX12_passesAll_56 gX12_28 (by repeat (first | assumption | exact hset_eq _ _ _ | refine (hset_ne _ _ (by omega)).trans ?_)) rfl ?_
  refine AW.cI2 (d' := d - 1) (cX12_148 rfl) okX12_passes dX12_passesAll_59 (by repeat (first | assumption | exact hset_eq _ _ _ | refine (hset_ne _ _ (by omega)).trans ?_)) (by omega) (W_passR (a := 123) (n := 120) (c := b + 28) hM5 (fun _ _ _ h => h.2.2.2.2.2.2.2.1) (fun _ _ _ _ h => MR.s123 h) (by decide) (by decide) (by decide) (by omega) f20_5 f21_5 (fun hh6 m6 A6 hM6 f21_6 e6 k6 l6 => ?_))
  have f20_6 : m6 20 = 0 := (e6 20 (by decide)).trans f20_5
  have fm_6 : ∀ k, k ≠ 20 → k ≠ 21 → m6 k = m k := fun k k1 k2 => (e6 k k2).trans (fm_5 k k1 k2)
  obtain ⟨u6, -⟩ := id hM6
  have a130 : A6 130 = A 130 := by rw [k6 130 (by decide), k5 130 (by decide), k4 130 (by decide), k3 130 (by decide), k2 130 (by decide), k1 130 (by decide)]
  refine AW.aload_n dX12_passesAll_62 rfl ?_
  refine AW.aload_n dX12_passesAll_63 rfl ?_
  refine AW.aload_n dX12_passesAll_64 rfl ?_
  refine AW.getf dX12_passesAll_65 gX12_68 (by repeat (first | assumption | exact hset_eq _ _ _ | refine (hset_ne _ _ (by omega)).trans ?_)) rfl ?_
  refine AW.cI2 (d' := d - 1) (cX12_152 rfl) okX12_passOne dX12_passesAll_68 (by repeat (first | assumption | exact hset_eq _ _ _ | refine (hset_ne _ _ (by omega)).trans ?_)) (by omega) (W_passOneR (c := b + 148) hM6 (by omega) f20_6 f21_6 (fun hh7 m7 hM7 f21_7 e7 => ?_))
  refine AW.putf dX12_passesAll_71 pX12_68 hM7.1 trivial ?_
  have f20_7 : m7 20 = 0 := (e7 20 (by decide)).trans f20_6
  have hM7b : MR h0 (hset hh7 116 (.inl (13, (mol m7).set 7 (.inl (A6 130 (b + 148)))))) (updI m7 7 (A6 130 (b + 148))) A6 := MR.p rfl hM7
  obtain ⟨u7, -⟩ := id hM7b
  refine AW.aload_n dX12_passesAll_74 rfl ?_
  refine AW.aload_n dX12_passesAll_75 rfl ?_
  refine AW.aload_n dX12_passesAll_76 rfl ?_
  refine AW.getf dX12_passesAll_77 gX12_72 (by repeat (first | assumption | exact hset_eq _ _ _ | refine (hset_ne _ _ (by omega)).trans ?_)) rfl ?_
  refine AW.cI2 (d' := d - 1) (cX12_152 rfl) okX12_passOne dX12_passesAll_80 (by repeat (first | assumption | exact hset_eq _ _ _ | refine (hset_ne _ _ (by omega)).trans ?_)) (by omega) (W_passOneR (c := b + 149) hM7b (by omega) f20_7 f21_7 (fun hh8 m8 hM8 f21_8 e8 => ?_))
  refine AW.putf dX12_passesAll_83 pX12_72 hM8.1 trivial ?_
  refine AW.vreturn dX12_passesAll_86 rfl ?_
  refine hq _ _ A6 (MR.p (m2 := updI m8 8 (A6 130 (b + 149))) rfl hM8) ?_ ?_ ?_
  · intro k k1 k2 k3 k4
    rw [updI_ne _ _ k2, e8 k k4, updI_ne _ _ k1, e7 k k4]
    exact fm_6 k k3 k4
  · intro k hk
    rw [k6 k (by omega), k5 k (by omega), k4 k (by omega), k3 k (by omega), k2 k (by omega), k1 k (by omega)]
  · refine ⟨?_, ?_, ?_, ?_, ?_, ?_, ?_, ?_⟩
    · rw [updI_ne _ _ (by decide), e8 7 (by decide), updI_eq, a130]
    · rw [updI_eq, a130]
    · intro i hi
      rw [k6 118 (by decide), k5 118 (by decide), k4 118 (by decide), k3 118 (by decide), k2 118 (by decide), l1 i hi, Nat.add_zero]
    · intro i hi
      rw [k6 119 (by decide), k5 119 (by decide), k4 119 (by decide), k3 119 (by decide), l2 i hi, k1 130 (by decide)]
    · intro i hi
      rw [k6 120 (by decide), k5 120 (by decide), k4 120 (by decide), l3 i hi, k2 130 (by decide), k1 130 (by decide)]
    · intro i hi
      rw [k6 121 (by decide), k5 121 (by decide), l4 i hi, k3 130 (by decide), k2 130 (by decide), k1 130 (by decide)]
    · intro i hi
      rw [k6 122 (by decide), l5 i hi, k4 130 (by decide), k3 130 (by decide), k2 130 (by decide), k1 130 (by decide)]
    · intro i hi
      rw [l6 i hi, k5 130 (by decide), k4 130 (by decide), k3 130 (by decide), k2 130 (by decide), k1 130 (by decide)]
theorem W_image (hM : MS h0 h S) (hd : 2 ≤ d) (hq : ∀ r S' h', (r, S') = o_image S → MS h0 h' S' → Q (some (.inl r)) h') : MW d 0 0 mX12_image [.inr 116] h Q := by
  obtain ⟨m, A, hM, hP, ok⟩ := hM
  obtain ⟨g116, -⟩ := id hM
  obtain ⟨p1, p2, p3, p4, p5, p6, p7⟩ := id hP
  show AW d 0 0 mX12_image Q 0 [some (.inr 116)] [] h
  refine AW.aload_n dX12_image_0 rfl ?_
  refine AW.iconst dX12_image_1 ?_
  refine AW.putf dX12_image_2 pX12_155 (by repeat (first | assumption | exact hset_eq _ _ _ | refine (hset_ne _ _ (by omega)).trans ?_)) (Or.inr rfl) ?_
  refine AW.aload_n dX12_image_5 rfl ?_
  refine AW.iconst dX12_image_6 ?_
  refine AW.iconst dX12_image_7 ?_
  refine AW.cI3 (d' := d - 1) (cX12_134 rfl) okX12_passesAll dX12_image_8 (by repeat (first | assumption | exact hset_eq _ _ _ | refine (hset_ne _ _ (by omega)).trans ?_)) (by omega) (W_keep (w := 0) (by decide) (MR.p (m2 := updI m 19 1) rfl hM) (by omega) (fun h1 m1 A1 hM1 e1 k1 o1 K1 => ?_))
  refine AW.aload_n dX12_image_11 rfl ?_
  refine AW.getf dX12_image_12 gX12_72 hM1.1 rfl ?_
  refine AW.ireturn dX12_image_15 rfl ?_
  have em : ∀ k, k ≠ 19 → k ≠ 20 → k ≠ 21 → m1 k = m k := fun k a b c => (e1 k b c).trans (updI_ne _ _ a)
  have hS1 : MSC m1 A1 S.1 := by
    have q := p1
    unfold MSC at q ⊢
    rw [em 7 (by decide) (by decide) (by decide), em 8 (by decide) (by decide) (by decide), k1 118 (by decide), k1 119 (by decide), k1 120 (by decide), k1 121 (by decide), k1 122 (by decide), k1 123 (by decide)]
    exact q
  rw [hS1.2.1]
  refine hq _ (S.1, some S.1, S.2.2) _ rfl ⟨m1, A1, hM1, ⟨hS1, ⟨e1 19 (by decide) (by decide), Kept.of (m := updI m 19 1) K1 ok.1 p1⟩, (em 15 (by decide) (by decide) (by decide)).trans p3, by rw [k1 124 (by decide)]; exact p4, (em 31 (by decide) (by decide) (by decide)).trans p5, by rw [k1 135 (by decide)]; exact p6, by rw [k1 117 (by decide)]; exact p7⟩, ⟨ok.1, fun s hs => by cases hs; exact ok.1, ok.2.2⟩⟩
theorem W_restore (hM : MS h0 h S) (hd : 2 ≤ d) (hq : ∀ r S' h', (r, S') = o_restore S → MS h0 h' S' → Q (some (.inl r)) h') : MW d 0 0 mX12_restore [.inr 116] h Q := by
  obtain ⟨m, A, hM, hP, ok⟩ := hM
  obtain ⟨g116, -⟩ := id hM
  obtain ⟨p1, p2, p3, p4, p5, p6, p7⟩ := id hP
  cases him : S.2.1 with
  | none =>
    rw [him] at p2
    have p2 : m 19 = 0 := p2
    show AW d 0 0 mX12_restore Q 0 [some (.inr 116)] [] h
    refine AW.aload_n dX12_restore_0 rfl ?_
    refine AW.getf dX12_restore_1 gX12_155 (by repeat (first | assumption | exact hset_eq _ _ _ | refine (hset_ne _ _ (by omega)).trans ?_)) rfl ?_
    refine AW.ifne (tgt := 14) dX12_restore_4 (by decide) (fun c4 => absurd p2 c4) (fun c4 => ?_)
    refine AW.aload_n dX12_restore_7 rfl ?_
    refine AW.bipush dX12_restore_8 ?_
    refine AW.cI2 (d' := d - 1) (cX12_82 rfl) okX12_no dX12_restore_10 (by repeat (first | assumption | exact hset_eq _ _ _ | refine (hset_ne _ _ (by omega)).trans ?_)) (by omega) (W_no (by assumption) (by decide) (by decide) (fun h10 hM => ?_))
    refine AW.ireturn dX12_restore_13 rfl ?_
    exact hq (-3) (rf S 3) _ (by unfold o_restore; rw [him]) (ms_rf hM hP ok)
  | some s =>
    rw [him] at p2
    have p2 : m 19 = 1 ∧ KSC (A 130) 0 s := p2
    obtain ⟨p2a, p2b⟩ := p2
    show AW d 0 0 mX12_restore Q 0 [some (.inr 116)] [] h
    refine AW.aload_n dX12_restore_0 rfl ?_
    refine AW.getf dX12_restore_1 gX12_155 (by repeat (first | assumption | exact hset_eq _ _ _ | refine (hset_ne _ _ (by omega)).trans ?_)) rfl ?_
    refine AW.ifne (tgt := 14) dX12_restore_4 (by decide) (fun c4 => ?_) (fun c4 => absurd c4 (by omega))
    refine AW.aload_n dX12_restore_14 rfl ?_
    refine AW.iconst dX12_restore_15 ?_
    refine AW.iconst dX12_restore_16 ?_
    refine AW.cI3 (d' := d - 1) (cX12_134 rfl) okX12_passesAll dX12_restore_17 (by repeat (first | assumption | exact hset_eq _ _ _ | refine (hset_ne _ _ (by omega)).trans ?_)) (by omega) (W_back (w := 0) (by decide) hM (by omega) (fun h1 m1 A1 hM1 e1 k1 K1 => ?_))
    refine AW.aload_n dX12_restore_20 rfl ?_
    refine AW.getf dX12_restore_21 gX12_72 hM1.1 rfl ?_
    refine AW.ireturn dX12_restore_24 rfl ?_
    have hok := ok.2.1 s him
    have hS1 : MSC m1 A1 s := Kept.to K1 hok p2b
    rw [hS1.2.1]
    refine hq _ (s, S.2.1, S.2.2) _ (by unfold o_restore; rw [him]) ⟨m1, A1, hM1, ⟨hS1, ?_, (e1 15 (by decide) (by decide) (by decide) (by decide)).trans p3, by rw [k1 124 (by decide)]; exact p4, (e1 31 (by decide) (by decide) (by decide) (by decide)).trans p5, by rw [k1 135 (by decide)]; exact p6, by rw [k1 117 (by decide)]; exact p7⟩, ⟨hok, ok.2⟩⟩
    rw [him]
    exact ⟨(e1 19 (by decide) (by decide) (by decide) (by decide)).trans p2a, by rw [k1 130 (by decide)]; exact p2b⟩
end Mod11

