section Mod23
variable {d : Nat} {Q : Option AV → AH → Prop} {h h0 : AH} {m : Nat → Int} {A : Nat → Nat → Int} {x lt : Int} {L : List Int} {p c : Nat}
/-- what a statement's rows hold -/
def DT (L : List Int) (A : Nat → Nat → Int) (c : Nat) (sm : SM) : Prop := (sm.1 = 115 ∨ sm.1 = 108 → A 127 (2 * c) = sm.2.2.1 ∧ A 127 (2 * c + 1) = sm.2.2.2.1) ∧ (sm.1 = 99 → A 127 (2 * c) = sm.2.2.1) ∧ (sm.1 = 104 ∨ sm.1 = 99 → ∃ f : Nat, A 128 c = (f : Int) ∧ A 129 c = ((f + sm.2.2.2.2.length : Nat) : Int) ∧ ∀ j w : Nat, sm.2.2.2.2[j]? = some w → wdO (ltr L (f + j)) = (w : Int))
def TR (m m' : Nat → Int) (A A' : Nat → Nat → Int) (c : Nat) : Prop := (∀ k, k ≠ 16 → m' k = m k) ∧ (∀ k, k < 127 ∨ 129 < k → A' k = A k) ∧ (∀ i, i ≠ c → A' 128 i = A 128 i ∧ A' 129 i = A 129 i) ∧ ∀ i, i ≠ 2 * c → i ≠ 2 * c + 1 → A' 127 i = A 127 i
theorem W_readsAll (hM : MR h0 h m A) (hT : TP L m A p) (hl : isLt lt) (hc : c < 40) (h17 : m 17 = (c : Int)) (hp : p ≤ 80) (hd : 4 ≤ d)
    (hq : ∀ R, raP L lt p = R → ∀ h' m' A', MR h0 h' m' A' → TR m m' A A' c → m' 16 = (R.2.1 : Int) → (R.1 = true → DT L A' c R.2.2) → Q (some (.inl (if R.1 = true then 1 else 0))) h') : MW d 0 0 mX12_readsAll [.inr 116, .inl lt, .inl ((2 * c : Nat) : Int)] h Q := by
  obtain ⟨g116, -⟩ := id hM
  have e16 : m 16 = (p : Int) := hT.2.2.2.2
  have hb := ltr_b hT.2.2.2.1 p
  have hb2 := ltr_b hT.2.2.2.1 (p + 1)
  unfold isLt at hl
  have bad0 : raP L lt p = badP p → Q (some (.inl 0)) h := fun e => hq _ e h m A hM ⟨fun _ _ => rfl, fun _ _ => rfl, fun _ _ => ⟨rfl, rfl⟩, fun _ _ _ => rfl⟩ e16 (fun q => nomatch q)
  have say : ∀ (b : Bool) (s0 : Nat) (a : Int) (m1 : Nat → Int) (A1 : Nat → Nat → Int), (sayP L 20 1 s0).1 = b → (∀ k, k ≠ 16 → m1 k = m k) → (∀ k, k < 127 ∨ 127 < k → A1 k = A k) → (∀ i, i ≠ 2 * c → i ≠ 2 * c + 1 → A1 127 i = A 127 i) → (lt = 99 → A1 127 (2 * c) = a) → (lt = 104 ∨ lt = 99) → raP L lt p = (b, (sayP L 20 1 s0).2.1, lt, p - 1, a, 0, (sayP L 20 1 s0).2.2) →
      ∀ h2 m2 A2, MR h0 h2 m2 A2 → (∀ k, k ≠ 16 → m2 k = m1 k) → m2 16 = ((sayP L 20 1 s0).2.1 : Int) → A2 = (if b = true then updA (updA A1 128 (updI (A1 128) c (s0 : Int))) 129 (updI (A1 129) c ((sayP L 20 1 s0).2.1 : Int)) else updA A1 128 (updI (A1 128) c (s0 : Int))) → Q (some (.inl (if b = true then 1 else 0))) h2 := by
    intro b s0 a m1 A1 eb t1 t2 t3 t4 t5 eR h2 m2 A2 hM2 t6 t7 e2
    refine hq _ eR h2 m2 A2 hM2 ⟨fun k hk => (t6 k hk).trans (t1 k hk), fun k hk => ?_, fun i hi => ?_, fun i i1 i2 => ?_⟩ t7 (fun hb => ?_)
    · rw [e2]
      split
      · rw [updA_ne _ _ (by omega), updA_ne _ _ (by omega)]; exact t2 k (by omega)
      · rw [updA_ne _ _ (by omega)]; exact t2 k (by omega)
    · rw [e2]
      split
      · rw [updA_ne _ _ (by decide), updA_eq, updA_eq, updI_ne _ _ hi, updI_ne _ _ hi, t2 128 (by decide), t2 129 (by decide)]; exact ⟨rfl, rfl⟩
      · rw [updA_eq, updA_ne _ _ (show (129 : Nat) ≠ 128 by decide), updI_ne _ _ hi, t2 128 (by decide), t2 129 (by decide)]; exact ⟨rfl, rfl⟩
    · rw [e2]
      split
      · rw [updA_ne _ _ (by decide), updA_ne _ _ (by decide)]; exact t3 i i1 i2
      · rw [updA_ne _ _ (by decide)]; exact t3 i i1 i2
    · have hb' : b = true := hb
      rw [hb'] at eb e2
      rw [if_pos rfl] at e2
      obtain ⟨q1, q2, q3, q4⟩ := sayP_ok 20 1 s0 eb
      refine ⟨fun z => ?_, fun z => ?_, fun z => ⟨s0, ?_, ?_, q4⟩⟩
      · have z' : lt = 115 ∨ lt = 108 := z
        omega
      · rw [e2, updA_ne _ _ (by decide), updA_ne _ _ (by decide)]; exact t4 z
      · rw [e2, updA_ne _ _ (by decide), updA_eq, updI_eq]
      · rw [e2, updA_eq, updI_eq, q3]
  have i2 : ((2 * c : Nat) : Int) + 1 = ((2 * c + 1 : Nat) : Int) := by omega
  have two : ∀ (v w : Int) (h1 h2 : AH), MR h0 h2 (updI (updI m 16 ((p : Int) + 1)) 16 (((p + 1 : Nat) : Int) + 1)) (updA (updA A 127 (updI (A 127) (2 * c) v)) 127 (updI (updA A 127 (updI (A 127) (2 * c) v) 127) (2 * c + 1) w)) → (lt = 115 ∨ lt = 108) → raP L lt p = (true, p + 2, lt, p - 1, v, w, []) → Q (some (.inl 1)) h2 := by
    intro v w h1 h2 hM2 hl2 eR
    refine hq _ eR h2 _ _ hM2 ⟨fun k hk => by rw [updI_ne _ _ hk, updI_ne _ _ hk], fun k hk => by rw [updA_ne _ _ (by omega), updA_ne _ _ (by omega)], fun i hi => ⟨by rw [updA_ne _ _ (by decide), updA_ne _ _ (by decide)], by rw [updA_ne _ _ (by decide), updA_ne _ _ (by decide)]⟩, fun i j1 j2 => by rw [updA_eq, updI_ne _ _ j2, updA_eq, updI_ne _ _ j1]⟩ (by rw [updI_eq]; show _ = ((p + 2 : Nat) : Int); omega) (fun _ => ⟨fun _ => ⟨?_, ?_⟩, fun z => ?_, fun z => ?_⟩)
    · rw [updA_eq, updI_ne _ _ (by omega), updA_eq, updI_eq]
    · rw [updA_eq, updI_eq]
    · have z' : lt = 99 := z
      omega
    · have z' : lt = 104 ∨ lt = 99 := z
      omega
  have one : ∀ (v : Int) (h1 : AH), MR h0 h1 (updI m 16 ((p : Int) + 1)) (updA A 127 (updI (A 127) (2 * c) v)) → raP L lt p = badP (p + 1) → Q (some (.inl 0)) h1 := by
    intro v h1 hM1 eR
    exact hq _ eR h1 _ _ hM1 ⟨fun k hk => updI_ne _ _ hk, fun k hk => updA_ne _ _ (by omega), fun i hi => ⟨by rw [updA_ne _ _ (by decide)], by rw [updA_ne _ _ (by decide)]⟩, fun i j1 j2 => by rw [updA_eq, updI_ne _ _ j1]⟩ (by rw [updI_eq]; show _ = ((p + 1 : Nat) : Int); omega) (fun q => nomatch q)
  have tp1 : ∀ v : Int, TP L (updI m 16 ((p : Int) + 1)) (updA A 127 (updI (A 127) (2 * c) v)) (p + 1) := fun v => hT.sq (updI_ne _ _ (by decide)) (updA_ne _ _ (by decide)) (by rw [updI_eq]; omega)
  show AW d 0 0 mX12_readsAll Q 0 [some (.inr 116), some (.inl lt), some (.inl ((2 * c : Nat) : Int))] [] h
  refine AW.iload_n dX12_readsAll_0 rfl ?_
  refine AW.lk dX12_readsAll_1 (by decide) 86 (by decide) (List.forall_mem_cons.mpr ⟨fun c1 => ?_, (List.forall_mem_cons.mpr ⟨fun c1 => ?_, (List.forall_mem_cons.mpr ⟨fun c1 => ?_, (fun q hq => nomatch hq)⟩)⟩)⟩) (fun c1 => ?_)
  · dsimp only at c1
    show AW _ _ _ _ _ 65 _ _ _
    refine AW.aload_n dX12_readsAll_65 rfl ?_
    refine AW.iload_n dX12_readsAll_66 rfl ?_
    refine AW.cI2 (d' := d - 1) (cX12_111 rfl) okX12_readsName dX12_readsAll_67 (by repeat (first | assumption | exact hset_eq _ _ _ | refine (hset_ne _ _ (by omega)).trans ?_)) (by omega) (W_readsName hM hT (by omega) (by omega) (by omega) (fun q1 q2 h1 hM1 => ?_) (fun q1 => ?_))
    · obtain ⟨k116, -⟩ := id hM1
      refine AW.ifeq_f (tgt := 84) dX12_readsAll_70 (by decide) (by decide) ?_
      refine AW.aload_n dX12_readsAll_73 rfl ?_
      refine AW.cI1 (d' := d - 1) (cX12_107 rfl) okX12_readsSaying dX12_readsAll_74 (by repeat (first | assumption | exact hset_eq _ _ _ | refine (hset_ne _ _ (by omega)).trans ?_)) (by omega) (W_readsSaying (c := c) hM1 (tp1 _) hc (by rw [updI_ne _ _ (by decide)]; exact h17) (by omega) (by omega) (fun eb h2 m2 hM2 t6 t7 => ?_) (fun eb h2 m2 hM2 t6 t7 => ?_))
      · refine AW.ifeq_f (tgt := 84) dX12_readsAll_77 (by decide) (by decide) ?_
        refine AW.iconst dX12_readsAll_80 ?_
        refine AW.goto (tgt := 85) dX12_readsAll_81 (by decide) ?_
        refine AW.zreturn dX12_readsAll_85 rfl (Or.inr rfl) ?_
        first
          | exact say true (p + 1) (ltr L p - 65) (updI m 16 ((p : Int) + 1)) (updA A 127 (updI (A 127) (2 * c) (ltr L p - 65))) eb (fun k hk => updI_ne _ _ hk) (fun k hk => updA_ne _ _ (by omega)) (fun i j1 j2 => by rw [updA_eq, updI_ne _ _ j1]) (fun z => by rw [updA_eq, updI_eq]) (by omega) (by unfold raP; rw [if_neg (by omega), if_neg (by omega), if_pos c1, if_neg (by omega), eb, c1]) h2 m2 _ hM2 t6 t7 (by rw [if_pos rfl])
          | exact say false (p + 1) (ltr L p - 65) (updI m 16 ((p : Int) + 1)) (updA A 127 (updI (A 127) (2 * c) (ltr L p - 65))) eb (fun k hk => updI_ne _ _ hk) (fun k hk => updA_ne _ _ (by omega)) (fun i j1 j2 => by rw [updA_eq, updI_ne _ _ j1]) (fun z => by rw [updA_eq, updI_eq]) (by omega) (by unfold raP; rw [if_neg (by omega), if_neg (by omega), if_pos c1, if_neg (by omega), eb, c1]) h2 m2 _ hM2 t6 t7 (by rw [if_neg (by decide)])
      · refine AW.ifeq_t (tgt := 84) dX12_readsAll_77 (by decide) rfl ?_
        refine AW.iconst dX12_readsAll_84 ?_
        refine AW.zreturn dX12_readsAll_85 rfl (Or.inl rfl) ?_
        first
          | exact say true (p + 1) (ltr L p - 65) (updI m 16 ((p : Int) + 1)) (updA A 127 (updI (A 127) (2 * c) (ltr L p - 65))) eb (fun k hk => updI_ne _ _ hk) (fun k hk => updA_ne _ _ (by omega)) (fun i j1 j2 => by rw [updA_eq, updI_ne _ _ j1]) (fun z => by rw [updA_eq, updI_eq]) (by omega) (by unfold raP; rw [if_neg (by omega), if_neg (by omega), if_pos c1, if_neg (by omega), eb, c1]) h2 m2 _ hM2 t6 t7 (by rw [if_pos rfl])
          | exact say false (p + 1) (ltr L p - 65) (updI m 16 ((p : Int) + 1)) (updA A 127 (updI (A 127) (2 * c) (ltr L p - 65))) eb (fun k hk => updI_ne _ _ hk) (fun k hk => updA_ne _ _ (by omega)) (fun i j1 j2 => by rw [updA_eq, updI_ne _ _ j1]) (fun z => by rw [updA_eq, updI_eq]) (by omega) (by unfold raP; rw [if_neg (by omega), if_neg (by omega), if_pos c1, if_neg (by omega), eb, c1]) h2 m2 _ hM2 t6 t7 (by rw [if_neg (by decide)])
    · skip
      refine AW.ifeq_t (tgt := 84) dX12_readsAll_70 (by decide) rfl ?_
      refine AW.iconst dX12_readsAll_84 ?_
      refine AW.zreturn dX12_readsAll_85 rfl (Or.inl rfl) ?_
      exact bad0 (by unfold raP; rw [if_neg (by omega), if_neg (by omega), if_pos c1, if_pos (by omega)])
  · dsimp only at c1
    show AW _ _ _ _ _ 60 _ _ _
    refine AW.aload_n dX12_readsAll_60 rfl ?_
    refine AW.cI1 (d' := d - 1) (cX12_107 rfl) okX12_readsSaying dX12_readsAll_61 (by repeat (first | assumption | exact hset_eq _ _ _ | refine (hset_ne _ _ (by omega)).trans ?_)) (by omega) (W_readsSaying hM hT hc h17 (by omega) (by omega) (fun eb h2 m2 hM2 t6 t7 => ?_) (fun eb h2 m2 hM2 t6 t7 => ?_))
    · refine AW.zreturn dX12_readsAll_64 rfl (Or.inr rfl) ?_
      first
        | exact say true p 0 m A eb (fun _ _ => rfl) (fun _ _ => rfl) (fun _ _ _ => rfl) (fun z => by omega) (by omega) (by unfold raP; rw [if_neg (by omega), if_pos c1, eb, c1]) h2 m2 _ hM2 t6 t7 (by rw [if_pos rfl])
        | exact say false p 0 m A eb (fun _ _ => rfl) (fun _ _ => rfl) (fun _ _ _ => rfl) (fun z => by omega) (by omega) (by unfold raP; rw [if_neg (by omega), if_pos c1, eb, c1]) h2 m2 _ hM2 t6 t7 (by rw [if_neg (by decide)])
    · refine AW.zreturn dX12_readsAll_64 rfl (Or.inl rfl) ?_
      first
        | exact say true p 0 m A eb (fun _ _ => rfl) (fun _ _ => rfl) (fun _ _ _ => rfl) (fun z => by omega) (by omega) (by unfold raP; rw [if_neg (by omega), if_pos c1, eb, c1]) h2 m2 _ hM2 t6 t7 (by rw [if_pos rfl])
        | exact say false p 0 m A eb (fun _ _ => rfl) (fun _ _ => rfl) (fun _ _ _ => rfl) (fun z => by omega) (by omega) (by unfold raP; rw [if_neg (by omega), if_pos c1, eb, c1]) h2 m2 _ hM2 t6 t7 (by rw [if_neg (by decide)])
  · dsimp only at c1
    show AW _ _ _ _ _ 36 _ _ _
    refine AW.aload_n dX12_readsAll_36 rfl ?_
    refine AW.iload_n dX12_readsAll_37 rfl ?_
    refine AW.cI2 (d' := d - 1) (cX12_103 rfl) okX12_readsDigit dX12_readsAll_38 (by repeat (first | assumption | exact hset_eq _ _ _ | refine (hset_ne _ _ (by omega)).trans ?_)) (by omega) (W_readsDigit hM hT (by omega) (by omega) (by omega) (fun q1 q2 h1 hM1 => ?_) (fun q1 => ?_))
    · obtain ⟨k116, -⟩ := id hM1
      refine AW.ifeq_f (tgt := 58) dX12_readsAll_41 (by decide) (by decide) ?_
      refine AW.aload_n dX12_readsAll_44 rfl ?_
      refine AW.iload_n dX12_readsAll_45 rfl ?_
      refine AW.iconst dX12_readsAll_46 ?_
      refine AW.iaddR dX12_readsAll_47 (by unfold RI; omega) ?_
      rw [i2]
      refine AW.cI2 (d' := d - 1) (cX12_103 rfl) okX12_readsDigit dX12_readsAll_48 (by repeat (first | assumption | exact hset_eq _ _ _ | refine (hset_ne _ _ (by omega)).trans ?_)) (by omega) (W_readsDigit hM1 (tp1 _) (by omega) (by omega) (by omega) (fun q3 q4 h2 hM2 => ?_) (fun q3 => ?_))
      · refine AW.ifeq_f (tgt := 58) dX12_readsAll_51 (by decide) (by decide) ?_
        refine AW.iconst dX12_readsAll_54 ?_
        refine AW.goto (tgt := 59) dX12_readsAll_55 (by decide) ?_
        refine AW.zreturn dX12_readsAll_59 rfl (Or.inr rfl) ?_
        first
          | exact two _ _ h1 _ hM2 (by omega) (by unfold raP; rw [if_pos c1, if_neg (by omega), if_neg (by omega), c1])
          | exact one _ _ hM1 (by unfold raP; rw [if_pos c1, if_neg (by omega), if_pos (by omega)])
      · refine AW.ifeq_t (tgt := 58) dX12_readsAll_51 (by decide) rfl ?_
        refine AW.iconst dX12_readsAll_58 ?_
        refine AW.zreturn dX12_readsAll_59 rfl (Or.inl rfl) ?_
        first
          | exact two _ _ h1 _ hM2 (by omega) (by unfold raP; rw [if_pos c1, if_neg (by omega), if_neg (by omega), c1])
          | exact one _ _ hM1 (by unfold raP; rw [if_pos c1, if_neg (by omega), if_pos (by omega)])
    · skip
      refine AW.ifeq_t (tgt := 58) dX12_readsAll_41 (by decide) rfl ?_
      refine AW.iconst dX12_readsAll_58 ?_
      refine AW.zreturn dX12_readsAll_59 rfl (Or.inl rfl) ?_
      exact bad0 (by unfold raP; rw [if_pos c1, if_pos (by omega)])
  · dsimp only [lkall] at c1
    have el : lt = 108 := by omega
    refine AW.aload_n dX12_readsAll_86 rfl ?_
    refine AW.iload_n dX12_readsAll_87 rfl ?_
    refine AW.cI2 (d' := d - 1) (cX12_103 rfl) okX12_readsDigit dX12_readsAll_88 (by repeat (first | assumption | exact hset_eq _ _ _ | refine (hset_ne _ _ (by omega)).trans ?_)) (by omega) (W_readsDigit hM hT (by omega) (by omega) (by omega) (fun q1 q2 h1 hM1 => ?_) (fun q1 => ?_))
    · obtain ⟨k116, -⟩ := id hM1
      refine AW.ifeq_f (tgt := 108) dX12_readsAll_91 (by decide) (by decide) ?_
      refine AW.aload_n dX12_readsAll_94 rfl ?_
      refine AW.iload_n dX12_readsAll_95 rfl ?_
      refine AW.iconst dX12_readsAll_96 ?_
      refine AW.iaddR dX12_readsAll_97 (by unfold RI; omega) ?_
      rw [i2]
      refine AW.cI2 (d' := d - 1) (cX12_111 rfl) okX12_readsName dX12_readsAll_98 (by repeat (first | assumption | exact hset_eq _ _ _ | refine (hset_ne _ _ (by omega)).trans ?_)) (by omega) (W_readsName hM1 (tp1 _) (by omega) (by omega) (by omega) (fun q3 q4 h2 hM2 => ?_) (fun q3 => ?_))
      · refine AW.ifeq_f (tgt := 108) dX12_readsAll_101 (by decide) (by decide) ?_
        refine AW.iconst dX12_readsAll_104 ?_
        refine AW.goto (tgt := 109) dX12_readsAll_105 (by decide) ?_
        refine AW.zreturn dX12_readsAll_109 rfl (Or.inr rfl) ?_
        first
          | exact two _ _ h1 _ hM2 (by omega) (by unfold raP; rw [if_neg (by omega), if_neg (by omega), if_neg (by omega), if_neg (by omega), if_neg (by omega), el])
          | exact one _ _ hM1 (by unfold raP; rw [if_neg (by omega), if_neg (by omega), if_neg (by omega), if_neg (by omega), if_pos (by omega)])
      · refine AW.ifeq_t (tgt := 108) dX12_readsAll_101 (by decide) rfl ?_
        refine AW.iconst dX12_readsAll_108 ?_
        refine AW.zreturn dX12_readsAll_109 rfl (Or.inl rfl) ?_
        first
          | exact two _ _ h1 _ hM2 (by omega) (by unfold raP; rw [if_neg (by omega), if_neg (by omega), if_neg (by omega), if_neg (by omega), if_neg (by omega), el])
          | exact one _ _ hM1 (by unfold raP; rw [if_neg (by omega), if_neg (by omega), if_neg (by omega), if_neg (by omega), if_pos (by omega)])
    · skip
      refine AW.ifeq_t (tgt := 108) dX12_readsAll_91 (by decide) rfl ?_
      refine AW.iconst dX12_readsAll_108 ?_
      refine AW.zreturn dX12_readsAll_109 rfl (Or.inl rfl) ?_
      exact bad0 (by unfold raP; rw [if_neg (by omega), if_neg (by omega), if_neg (by omega), if_pos (by omega)])
end Mod23

