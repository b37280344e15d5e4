/-- what is a word to somebody; more: a name in mind, if it is one -/
def lvS (s : SC) (who more x : Int) : Prop := x = 170 ∨ x = 204 ∨ x = 240 ∨ (∃ n : Nat, n < 4 ∧ 0 ≤ nmS s who n ∧ x = nmS s who n) ∨ (0 ≤ more ∧ x = more)
noncomputable def shS (s : SC) (who more x : Int) : Int := shF (kkS s who) (ggS s who) (lvS s who more) x
section Th
variable {s : SC} {who more : Int}
theorem kkS_b (ok : scOK s) (h2 : who < s_n s) : (0 ≤ kkS s who ∧ kkS s who ≤ 5) ∧ 0 ≤ ggS s who ∧ ggS s who ≤ 9 := by
  unfold kkS ggS
  by_cases q : who < 0
  · rw [if_pos q, if_pos q]; omega
  · rw [if_neg q, if_neg q]
    have := ok.2.2.1 who.toNat (by omega)
    exact ⟨this.1, this.2.1⟩
theorem nmS_b (ok : scOK s) {n : Nat} (hn : n < 4) : nmS s who n = -9 ∨ in8 (nmS s who n) := by
  unfold nmS
  split
  · exact ok.2.2.2.1 n hn
  · exact Or.inl rfl
theorem lvS_in8 (ok : scOK s) (hm : more ≤ 255) {x : Int} (h : lvS s who more x) : in8 x := by
  rcases h with rfl | rfl | rfl | ⟨n, hn, h0, rfl⟩ | ⟨h0, rfl⟩
  · exact ⟨by decide, by decide⟩
  · exact ⟨by decide, by decide⟩
  · exact ⟨by decide, by decide⟩
  · rcases nmS_b (who := who) ok hn with q | q
    · omega
    · exact q
  · exact ⟨h0, hm⟩
noncomputable def lvL (s : SC) (who more : Int) : List Int := [170, 204, 240] ++ ((List.range 4).filter (fun n => decide (0 ≤ nmS s who n))).map (nmS s who) ++ (if 0 ≤ more then [more] else [])
theorem lvS_iff (x : Int) : lvS s who more x ↔ x ∈ lvL s who more := by
  unfold lvS lvL
  simp only [List.mem_append, List.mem_cons, List.not_mem_nil, or_false, List.mem_map, List.mem_filter, List.mem_range, decide_eq_true_eq]
  constructor
  · rintro (h | h | h | ⟨n, hn, h0, h⟩ | ⟨h0, h⟩)
    · exact Or.inl (Or.inl (Or.inl h))
    · exact Or.inl (Or.inl (Or.inr (Or.inl h)))
    · exact Or.inl (Or.inl (Or.inr (Or.inr h)))
    · exact Or.inl (Or.inr ⟨n, ⟨hn, h0⟩, h.symm⟩)
    · exact Or.inr (by rw [if_pos h0]; simp [h])
  · rintro ((h | ⟨n, ⟨hn, h0⟩, h⟩) | h)
    · rcases h with h | h | h
      · exact Or.inl h
      · exact Or.inr (Or.inl h)
      · exact Or.inr (Or.inr (Or.inl h))
    · exact Or.inr (Or.inr (Or.inr (Or.inl ⟨n, hn, h0, h.symm⟩)))
    · split at h
      · rename_i h0
        exact Or.inr (Or.inr (Or.inr (Or.inr ⟨h0, by simpa using h⟩)))
      · cases h
theorem lvL_len : (lvL s who more).length ≤ 8 := by
  unfold lvL
  rw [List.length_append, List.length_append, List.length_map]
  have h1 := List.length_filter_le (fun n => decide (0 ≤ nmS s who n)) (List.range 4)
  rw [List.length_range] at h1
  have h2 : (if 0 ≤ more then [more] else []).length ≤ 1 := by split <;> simp
  simp only [List.length_cons, List.length_nil]
  omega
/-- the bound, for somebody -/
theorem BTS (ok : scOK s) (h2 : who < s_n s) (hm : more ≤ 255) {n : Nat} {x : Int} (h : RS (kkS s who) (ggS s who) (lvS s who more) n x) : ∃ j, j ≤ 299 ∧ RS (kkS s who) (ggS s who) (lvS s who more) j x := by
  obtain ⟨⟨k0, k5⟩, g0, g9⟩ := kkS_b ok h2
  exact BT k0 k5 g0 g9 (fun x hx => lvS_in8 ok hm hx) (Or.inl rfl) (Or.inr (Or.inl rfl)) (Or.inr (Or.inr (Or.inl rfl))) lvS_iff lvL_len h
/-- the costs are the fewest words; 1000 where there are none -/
def CST (s : SC) (who more : Int) (c : Nat → Int) : Prop := ∀ j : Nat, j < 256 → (∃ n : Nat, SH (kkS s who) (ggS s who) (lvS s who more) n (j : Int) ∧ c j = (n : Int) ∧ n ≤ 299 ∧ 1 ≤ n) ∨ ((∀ n, ¬ RS (kkS s who) (ggS s who) (lvS s who more) n (j : Int)) ∧ c j = 1000)
theorem CST.sh {c : Nat → Int} (h : CST s who more c) {j : Nat} (hj : j < 256) : (c j = 1000 ∧ shS s who more (j : Int) = -9) ∨ (c j = shS s who more (j : Int) ∧ 1 ≤ c j ∧ c j ≤ 299) := by
  rcases h j hj with ⟨n, h1, h2, h3, h4⟩ | ⟨h1, h2⟩
  · exact Or.inr ⟨by rw [h2]; exact (shF_eq h1).symm, by omega, by omega⟩
  · exact Or.inl ⟨h2, shF_none h1⟩
theorem CST_of (ok : scOK s) (h2 : who < s_n s) (hm : more ≤ 255) {c : Nat → Int} (hb : ∀ j, j < 256 → 1 ≤ c j ∧ c j ≤ 1000) (hr : ∀ j, j < 256 → c j < 1000 → RS (kkS s who) (ggS s who) (lvS s who more) (c j).toNat (j : Int)) (hl : ∀ j : Nat, j < 256 → lvS s who more (j : Int) → c j = 1)
    (hc : ∀ x, x < 256 → CN (kkS s who) (ggS s who) c x ∧ ∀ y, y < 256 → CA (kkS s who) (ggS s who) c x y) : CST s who more c := by
  obtain ⟨⟨k0, k5⟩, g0, g9⟩ := kkS_b ok h2
  have key : ∀ n x, RS (kkS s who) (ggS s who) (lvS s who more) n x → in8 x ∧ (c x.toNat ≤ (n : Int) ∨ 1000 ≤ n) := by
    intro n x h
    refine h (fun n x => in8 x ∧ (c x.toNat ≤ (n : Int) ∨ 1000 ≤ n)) ⟨fun x hx => ?_, fun n x ih => ?_, fun i j x y ih1 ih2 => ?_⟩
    · have h8 := lvS_in8 ok hm hx
      have h8b : 0 ≤ x ∧ x ≤ 255 := h8
      refine ⟨h8, Or.inl ?_⟩
      rw [hl x.toNat (by omega) (by rw [show ((x.toNat : Nat) : Int) = x by omega]; exact hx)]
      decide
    · obtain ⟨h8, hn⟩ := ih
      have h8b : 0 ≤ x ∧ x ≤ 255 := h8
      refine ⟨in8_notF h8, ?_⟩
      have hx := (hc x.toNat (by omega)).1
      unfold CN at hx
      rw [show ((x.toNat : Nat) : Int) = x by omega] at hx
      have hb1 := hb x.toNat (by omega)
      rcases hn with q | q
      · by_cases e : c x.toNat < 1000
        · have := hx e
          omega
        · omega
      · omega
    · obtain ⟨h8, hn⟩ := ih1
      obtain ⟨h8y, hny⟩ := ih2
      have h8b : 0 ≤ x ∧ x ≤ 255 := h8
      have h8c : 0 ≤ y ∧ y ≤ 255 := h8y
      have hx := (hc x.toNat (by omega)).2 y.toNat (by omega)
      unfold CA at hx
      rw [show ((x.toNat : Nat) : Int) = x by omega, show ((y.toNat : Nat) : Int) = y by omega] at hx
      have hb1 := hb x.toNat (by omega)
      have hb2 := hb y.toNat (by omega)
      refine ⟨⟨in8_andF h8, ?_⟩, ⟨in8_orF g0 g9 h8 h8y, ?_⟩⟩
      · by_cases e1 : c x.toNat < 1000
        · by_cases e2 : c y.toNat < 1000
          · have := (hx e1 e2).1
            omega
          · omega
        · omega
      · by_cases e1 : c x.toNat < 1000
        · by_cases e2 : c y.toNat < 1000
          · have := (hx e1 e2).2
            omega
          · omega
        · omega
  intro j hj
  by_cases q : ∃ n, RS (kkS s who) (ggS s who) (lvS s who more) n (j : Int)
  · obtain ⟨n, hn⟩ := q
    obtain ⟨n9, h9, hn9⟩ := BTS ok h2 hm hn
    obtain ⟨i, hi, hsh⟩ := SH.ex hn9
    have h1 := (key i _ hsh.1).2
    rw [show (((j : Nat) : Int)).toNat = j by omega] at h1
    have hb1 := hb j hj
    have h3 := hr j hj (by omega)
    have h4 : ¬ (c j).toNat < i := fun q => hsh.2 _ q h3
    exact Or.inl ⟨i, hsh, by omega, by omega, hsh.1.pos⟩
  · have hb1 := hb j hj
    refine Or.inr ⟨fun n hn => q ⟨n, hn⟩, ?_⟩
    by_cases e : c j < 1000
    · exact absurd ⟨_, hr j hj e⟩ q
    · omega
end Th
theorem sumN_le {n : Nat} {f g : Nat → Int} (h : ∀ j, j < n → f j ≤ g j) : sumN n f ≤ sumN n g := by
  induction n with
  | zero => exact Int.le_refl _
  | succ n ih =>
    rw [sumN_succ, sumN_succ]
    have := ih (fun j hj => h j (by omega))
    have := h n (by omega)
    omega
theorem sumN_lt {n : Nat} {f g : Nat → Int} (h : ∀ j, j < n → f j ≤ g j) (hs : ∃ j, j < n ∧ f j < g j) : sumN n f < sumN n g := by
  induction n with
  | zero => obtain ⟨j, hj, -⟩ := hs; omega
  | succ n ih =>
    rw [sumN_succ, sumN_succ]
    obtain ⟨j, hj, hl⟩ := hs
    by_cases e : j = n
    · subst e
      have := sumN_le (fun i hi => h i (by omega) : ∀ i, i < j → f i ≤ g i)
      omega
    · have := ih (fun i hi => h i (by omega)) ⟨j, by omega, hl⟩
      have := h n (by omega)
      omega
theorem sumN_nn {n : Nat} {f : Nat → Int} (h : ∀ j, j < n → 0 ≤ f j) : 0 ≤ sumN n f := by
  induction n with
  | zero => exact Int.le_refl _
  | succ n ih =>
    rw [sumN_succ]
    have := ih (fun j hj => h j (by omega))
    have := h n (by omega)
    omega
section Mod13
variable {d : Nat} {Q : Option AV → AH → Prop} {h h0 : AH} {m : Nat → Int} {A : Nat → Nat → Int} {who more x y z v : Int} {S : ST} {s : SC}
/-- the costs at the start: 1 for a word, 1000 else -/
def LC (c : Nat → Int) (P : Nat → Prop) : Prop := ∀ j, j < 256 → (P j → c j = 1) ∧ (¬ P j → c j = 1000)
theorem LC.add {c : Nat → Int} {P : Nat → Prop} (h : LC c P) {a : Nat} {P' : Nat → Prop} (hp : ∀ j, j < 256 → (P' j ↔ P j ∨ j = a)) : LC (updI c a 1) P' := by
  intro j hj
  have h1 := h j hj
  have h2 := hp j hj
  unfold updI
  by_cases e : j = a
  · rw [if_pos e]
    exact ⟨fun _ => rfl, fun q => absurd (h2.mpr (Or.inr e)) q⟩
  · rw [if_neg e]
    exact ⟨fun q => h1.1 ((h2.mp q).elim id (fun z => absurd z e)), fun q => h1.2 (fun z => q (h2.mpr (Or.inl z)))⟩
theorem LC.eq {c : Nat → Int} {P P' : Nat → Prop} (h : LC c P) (hp : ∀ j, j < 256 → (P' j ↔ P j)) : LC c P' := fun j hj => ⟨fun q => (h j hj).1 ((hp j hj).mp q), fun q => (h j hj).2 (fun z => q ((hp j hj).mpr z))⟩
theorem L_fs5 {k g : Int} {lv : Int → Prop} {a2 a3 : Option AV} (hd : 4 ≤ d) (hw : who < 6) (hg0 : 0 ≤ g) (hg9 : g ≤ 9) (hk : kkM A who = k) (hg : ggM A who = g)
    (hq : ∀ h' m' A', MR h0 h' m' A' → T2 m m' A A' → (∀ j, j < 256 → 1 ≤ A' 133 j ∧ A' 133 j ≤ 1000) → (∀ j, j < 256 → A' 133 j < 1000 → RS k g lv (A' 133 j).toNat (j : Int)) → (∀ j : Nat, j < 256 → lv (j : Int) → A' 133 j = 1) → (∀ x, x < 256 → CN k g (A' 133) x ∧ ∀ y, y < 256 → CA k g (A' 133) x y) → Q none h') :
    ∀ (N : Nat) (h : AH) (m' : Nat → Int) (A' : Nat → Nat → Int), sumN 256 (A' 133) < N → MR h0 h m' A' → T2 m m' A A' → (∀ j, j < 256 → 1 ≤ A' 133 j ∧ A' 133 j ≤ 1000) → (∀ j, j < 256 → A' 133 j < 1000 → RS k g lv (A' 133 j).toNat (j : Int)) → (∀ j : Nat, j < 256 → lv (j : Int) → A' 133 j = 1) → (m' 26 = 0 → ∀ x, x < 256 → CN k g (A' 133) x ∧ ∀ y, y < 256 → CA k g (A' 133) x y) →
      AW d 0 0 mX12_findShortest Q 112 [some (.inr 116), some (.inl who), a2, a3] [] h := by
  intro N
  induction N with
  | zero =>
    intro h m' A' hN hM hT hb
    have := sumN_nn (n := 256) (f := A' 133) (fun j hj => by have := (hb j hj).1; omega)
    omega
  | succ N ih =>
    intro h m' A' hN hM hT hb hr hl hc
    obtain ⟨g116, -⟩ := id hM
    have hT0 : T2 m (updI m' 26 0) A A' := ⟨fun k hk => by rw [updI_ne _ _ hk]; exact hT.1 k hk, hT.2⟩
    obtain ⟨ek, eg, -⟩ := hT.kk who
    have hP : PI k g lv (A' 133) (A' 133) (updI m' 26 0 26) := ⟨fun j hj => ⟨(hb j hj).1, Int.le_refl _, (hb j hj).2⟩, hr, Or.inl ⟨rfl, fun _ _ => rfl⟩⟩
    refine AW.aload_n dX12_findShortest_112 rfl ?_
    refine AW.getf dX12_findShortest_113 gX12_204 (by repeat (first | assumption | exact hset_eq _ _ _ | refine (hset_ne _ _ (by omega)).trans ?_)) rfl ?_
    refine AW.ifeq (tgt := 132) dX12_findShortest_116 (by decide) (fun c116 => ?_) (fun c116 => ?_)
    · refine AW.vreturn dX12_findShortest_132 rfl ?_
      exact hq h m' A' hM hT hb hr hl (hc (by assumption))
    · refine AW.aload_n dX12_findShortest_119 rfl ?_
      refine AW.iconst dX12_findShortest_120 ?_
      refine AW.putf dX12_findShortest_121 pX12_204 (by repeat (first | assumption | exact hset_eq _ _ _ | refine (hset_ne _ _ (by omega)).trans ?_)) (Or.inl rfl) ?_
      refine AW.aload_n dX12_findShortest_124 rfl ?_
      refine AW.iload_n dX12_findShortest_125 rfl ?_
      refine AW.cI2 (d' := d - 1) (cX12_211 rfl) okX12_goesOn dX12_findShortest_126 (by repeat (first | assumption | exact hset_eq _ _ _ | refine (hset_ne _ _ (by omega)).trans ?_)) (by omega) (W_goesOn (k := k) (g := g) (lv := lv) (MR.p (m2 := updI m' 26 0) rfl hM) (by omega) hw hg0 hg9 (ek.trans hk) (eg.trans hg) hP rfl (fun h1 m1 A1 hM1 hT1 hP1 hC1 => ?_))
      refine AW.goto (tgt := 112) dX12_findShortest_129 (by decide) ?_
      obtain ⟨p1, p2, p3⟩ := hP1
      have hT2 : T2 m m1 A A1 := ⟨fun k hk => (hT1.1 k hk).trans (hT0.1 k hk), fun k hk => (hT1.2 k hk).trans (hT0.2 k hk)⟩
      have hb1 : ∀ j, j < 256 → 1 ≤ A1 133 j ∧ A1 133 j ≤ 1000 := fun j hj => ⟨(p1 j hj).1, Int.le_trans (p1 j hj).2.1 (p1 j hj).2.2⟩
      have hl1 : ∀ j : Nat, j < 256 → lv (j : Int) → A1 133 j = 1 := fun j hj hj2 => by have := hl j hj hj2; have := p1 j hj; omega
      rcases p3 with ⟨f0, e0⟩ | ⟨f1, e1⟩
      · have hC : ∀ x, x < 256 → CN k g (A1 133) x ∧ ∀ y, y < 256 → CA k g (A1 133) x y := by
          intro x hx
          have q := hC1 f0 x hx
          have ee : ∀ v : Int, in8 v → A1 133 v.toNat = A' 133 v.toNat := fun v hv => e0 v.toNat (by have := hv.1; have := hv.2; omega)
          refine ⟨fun z => ?_, fun y hy z1 z2 => ?_⟩
          · rw [ee _ (in8_notF (in8_nat hx)), e0 x hx]
            rw [e0 x hx] at z
            exact q.1 z
          · rw [ee _ (in8_andF (in8_nat hx)), ee _ (in8_orF hg0 hg9 (in8_nat hx) (in8_nat hy)), e0 x hx, e0 y hy]
            rw [e0 x hx] at z1
            rw [e0 y hy] at z2
            exact q.2 y hy z1 z2
        obtain ⟨k116, -⟩ := id hM1
        refine AW.aload_n dX12_findShortest_112 rfl ?_
        refine AW.getf dX12_findShortest_113 gX12_204 (by repeat (first | assumption | exact hset_eq _ _ _ | refine (hset_ne _ _ (by omega)).trans ?_)) rfl ?_
        refine AW.ifeq (tgt := 132) dX12_findShortest_116 (by decide) (fun c116 => ?_) (fun c116 => absurd f0 c116)
        refine AW.vreturn dX12_findShortest_132 rfl ?_
        exact hq h1 m1 A1 hM1 hT2 hb1 p2 hl1 hC
      · refine ih h1 m1 A1 ?_ hM1 hT2 hb1 p2 hl1 (fun f0 => absurd f0 (by rw [f1]; decide))
        have := sumN_lt (n := 256) (f := A1 133) (g := A' 133) (fun j hj => (p1 j hj).2.1) e1
        omega
theorem L_fs1 {a2 : Option AV} (hq : ∀ h' A' z, MR h0 h' m A' → (∀ k, k ≠ 133 → A' k = A k) → LC (A' 133) (fun _ => False) → AW d 0 0 mX12_findShortest Q 24 [some (.inr 116), some (.inl who), a2, z] [] h') :
    ∀ (r j : Nat) (h : AH) (A' : Nat → Nat → Int), j + r = 256 → MR h0 h m A' → (∀ k, k ≠ 133 → A' k = A k) → (∀ i, i < j → A' 133 i = 1000) →
      AW d 0 0 mX12_findShortest Q 2 [some (.inr 116), some (.inl who), a2, some (.inl (j : Int))] [] h := by
  intro r
  induction r with
  | zero =>
    intro j h A' hj hM hA hc
    have hj2 : j = 256 := by omega
    subst hj2
    refine AW.iload_n dX12_findShortest_2 rfl ?_
    refine AW.sipush dX12_findShortest_3 ?_
    refine AW.if_icmpge (tgt := 24) dX12_findShortest_6 (by decide) (fun c6 => ?_) (fun c6 => absurd c6 (by decide))
    exact hq h A' _ hM hA (fun i hi => ⟨fun q => q.elim, fun _ => hc i hi⟩)
  | succ r ih =>
    intro j h A' hj hM hA hc
    obtain ⟨g116, -, -, -, -, -, -, -, -, -, -, -, -, -, -, -, -, g133, -⟩ := id hM
    refine AW.iload_n dX12_findShortest_2 rfl ?_
    refine AW.sipush dX12_findShortest_3 ?_
    refine AW.if_icmpge (tgt := 24) dX12_findShortest_6 (by decide) (fun c6 => absurd c6 (by omega)) (fun c6 => ?_)
    refine AW.aload_n dX12_findShortest_9 rfl ?_
    refine AW.getf dX12_findShortest_10 gX12_58 (by repeat (first | assumption | exact hset_eq _ _ _ | refine (hset_ne _ _ (by omega)).trans ?_)) rfl ?_
    refine AW.iload_n dX12_findShortest_13 rfl ?_
    refine AW.sipush dX12_findShortest_14 ?_
    refine AW.iastore dX12_findShortest_17 (by omega) (by repeat (first | assumption | exact hset_eq _ _ _ | refine (hset_ne _ _ (by omega)).trans ?_)) (by omega) (by omega) ?_
    refine AW.inc3 dX12_findShortest_18 (by decide) (by unfold RI; omega) ?_
    refine AW.goto (tgt := 2) dX12_findShortest_21 (by decide) ?_
    refine ih (j + 1) _ _ (by omega) (MR.s133 hM) (fun k hk => by rw [updA_ne _ _ hk]; exact hA k hk) (fun i hi => ?_)
    rw [updA_eq]
    unfold updI
    split
    · rfl
    · exact hc i (by omega)
theorem L_fs2 {a2 : Option AV} (hd : 4 ≤ d) (hw : who < 6) (hq : ∀ h' A' z, MR h0 h' m A' → (∀ k, k ≠ 133 → A' k = A k) → LC (A' 133) (fun j => j = 170 ∨ j = 204 ∨ j = 240) → AW d 0 0 mX12_findShortest Q 49 [some (.inr 116), some (.inl who), a2, z] [] h') :
    ∀ (r w : Nat) (h : AH) (A' : Nat → Nat → Int), w + r = 3 → MR h0 h m A' → (∀ k, k ≠ 133 → A' k = A k) → LC (A' 133) (fun j => (0 < w ∧ j = 170) ∨ (1 < w ∧ j = 204) ∨ (2 < w ∧ j = 240)) →
      AW d 0 0 mX12_findShortest Q 26 [some (.inr 116), some (.inl who), a2, some (.inl (w : Int))] [] h := by
  intro r
  induction r with
  | zero =>
    intro w h A' hj hM hA hc
    have hj2 : w = 3 := by omega
    subst hj2
    refine AW.iload_n dX12_findShortest_26 rfl ?_
    refine AW.iconst dX12_findShortest_27 ?_
    refine AW.if_icmpge (tgt := 49) dX12_findShortest_28 (by decide) (fun c28 => ?_) (fun c28 => absurd c28 (by decide))
    exact hq h A' _ hM hA (hc.eq (fun j _ => by omega))
  | succ r ih =>
    intro w h A' hj hM hA hc
    obtain ⟨g116, -, -, -, -, -, -, -, -, -, -, -, -, -, -, -, -, g133, -⟩ := id hM
    have hv : lfM A' who ((w : Int)).toNat = if w = 0 then 170 else if w = 1 then 204 else 240 := by
      rw [show ((w : Int)).toNat = w by omega]
      unfold lfM
      rcases (show w = 0 ∨ w = 1 ∨ w = 2 by omega) with rfl | rfl | rfl <;> rfl
    refine AW.iload_n dX12_findShortest_26 rfl ?_
    refine AW.iconst dX12_findShortest_27 ?_
    refine AW.if_icmpge (tgt := 49) dX12_findShortest_28 (by decide) (fun c28 => absurd c28 (by omega)) (fun c28 => ?_)
    refine AW.aload_n dX12_findShortest_31 rfl ?_
    refine AW.getf dX12_findShortest_32 gX12_58 (by repeat (first | assumption | exact hset_eq _ _ _ | refine (hset_ne _ _ (by omega)).trans ?_)) rfl ?_
    refine AW.aload_n dX12_findShortest_35 rfl ?_
    refine AW.iload_n dX12_findShortest_36 rfl ?_
    refine AW.iload_n dX12_findShortest_37 rfl ?_
    refine AW.cI3 (d' := d - 1) (cX12_171 rfl) okX12_factOrName dX12_findShortest_38 (by repeat (first | assumption | exact hset_eq _ _ _ | refine (hset_ne _ _ (by omega)).trans ?_)) (by omega) (W_factOrName (by assumption) (by omega) (by omega) (by omega) (by omega) ?_)
    rw [hv]
    rcases (show w = 0 ∨ w = 1 ∨ w = 2 by omega) with rfl | rfl | rfl
    · rw [if_pos rfl]
      refine AW.iconst dX12_findShortest_41 ?_
      refine AW.iastore dX12_findShortest_42 (by omega) (by repeat (first | assumption | exact hset_eq _ _ _ | refine (hset_ne _ _ (by omega)).trans ?_)) (by decide) (by decide) ?_
      refine AW.inc3 dX12_findShortest_43 (by decide) (by unfold RI; omega) ?_
      refine AW.goto (tgt := 26) dX12_findShortest_46 (by decide) ?_
      exact ih 1 _ _ (by omega) (MR.s133 hM) (fun k hk => by rw [updA_ne _ _ hk]; exact hA k hk) (by rw [updA_eq]; exact hc.add (fun j _ => by omega))
    · rw [if_neg (by decide), if_pos rfl]
      refine AW.iconst dX12_findShortest_41 ?_
      refine AW.iastore dX12_findShortest_42 (by omega) (by repeat (first | assumption | exact hset_eq _ _ _ | refine (hset_ne _ _ (by omega)).trans ?_)) (by decide) (by decide) ?_
      refine AW.inc3 dX12_findShortest_43 (by decide) (by unfold RI; omega) ?_
      refine AW.goto (tgt := 26) dX12_findShortest_46 (by decide) ?_
      exact ih 2 _ _ (by omega) (MR.s133 hM) (fun k hk => by rw [updA_ne _ _ hk]; exact hA k hk) (by rw [updA_eq]; exact hc.add (fun j _ => by omega))
    · rw [if_neg (by decide), if_neg (by decide)]
      refine AW.iconst dX12_findShortest_41 ?_
      refine AW.iastore dX12_findShortest_42 (by omega) (by repeat (first | assumption | exact hset_eq _ _ _ | refine (hset_ne _ _ (by omega)).trans ?_)) (by decide) (by decide) ?_
      refine AW.inc3 dX12_findShortest_43 (by decide) (by unfold RI; omega) ?_
      refine AW.goto (tgt := 26) dX12_findShortest_46 (by decide) ?_
      exact ih 3 _ _ (by omega) (MR.s133 hM) (fun k hk => by rw [updA_ne _ _ hk]; exact hA k hk) (by rw [updA_eq]; exact hc.add (fun j _ => by omega))
end Mod13

