section Mod25
variable {d : Nat} {Q : Option AV → AH → Prop} {h h0 : AH} {m : Nat → Int} {A : Nat → Nat → Int} {x lt : Int} {L : List Int} {p c : Nat} {s : SC} {S : ST}
/-- the letters as they lie in their row -/
def TL (L : List Int) (A : Nat → Nat → Int) : Prop := L.length ≤ 80 ∧ (∀ (i : Nat) (x : Int), L[i]? = some x → A 124 i = x) ∧ ∀ x ∈ L, 0 ≤ x ∧ x ≤ 255
theorem TL.at (hL : TL L A) (hp : p < L.length) : A 124 p = ltr L p := by
  unfold ltr
  rw [List.getD_eq_getElem?_getD, List.getElem?_eq_getElem hp]
  exact hL.2.1 p _ (List.getElem?_eq_getElem hp)
theorem L_lays2 {ws : List Nat} {f : Nat} (hc : c < 40) (hL : TL L A) (h20 : ws.length ≤ 20) (hf : A 128 c = (f : Int)) (hw : ∀ j w : Nat, ws[j]? = some w → wdO (ltr L (f + j)) = (w : Int)) (hd : 2 ≤ d)
    (hq : ∀ h' m' A', MR h0 h' m' A' → Tab m m' A A' ws → Q none h') :
    ∀ (r j : Nat) (h : AH) (m' : Nat → Int) (A' : Nat → Nat → Int), j + r = ws.length → MR h0 h m' A' → (∀ k, k ≠ 24 → m' k = m k) → (∀ k, k ≠ 131 → A' k = A k) → m' 24 = (ws.length : Int) → (∀ i w : Nat, i < j → ws[i]? = some w → A' 131 i = (w : Int)) →
      AW d 0 0 mX12_lays Q 19 [some (.inr 116), some (.inl (c : Int)), some (.inl (j : Int))] [] h := by
  intro r
  induction r with
  | zero =>
    intro j h m' A' hj hM t1 t2 t3 t4
    obtain ⟨g116, -⟩ := id hM
    refine AW.iload_n dX12_lays_19 rfl ?_
    refine AW.aload_n dX12_lays_20 rfl ?_
    refine AW.getf dX12_lays_21 gX12_118 (by repeat (first | assumption | exact hset_eq _ _ _ | refine (hset_ne _ _ (by omega)).trans ?_)) rfl ?_
    refine AW.if_icmpge (tgt := 55) dX12_lays_24 (by decide) (fun c24 => ?_) (fun c24 => absurd c24 (by omega))
    refine AW.vreturn dX12_lays_55 rfl ?_
    exact hq h m' A' hM ⟨t1, t2, t3, fun i w hi => t4 i w (by have := (List.getElem?_eq_some_iff.mp hi).1; omega) hi⟩
  | succ r ih =>
    intro j h m' A' hj hM t1 t2 t3 t4
    obtain ⟨g116, -, -, -, -, -, -, -, g124, -, -, -, g128, -, -, g131, -⟩ := id hM
    obtain ⟨w, hwj⟩ : ∃ w, ws[j]? = some w := ⟨_, List.getElem?_eq_getElem (by omega)⟩
    have ew := hw j w hwj
    have hlt := ltr_lt (wdO_pos (show 0 ≤ wdO (ltr L (f + j)) by omega))
    have hL80 := hL.1
    have eL := hL.at hlt
    have hb := ltr_b hL.2.2 (f + j)
    have e128 : A' 128 ((c : Int)).toNat = (f : Int) := by rw [t2 128 (by decide), show ((c : Int)).toNat = c by omega]; exact hf
    have e124 : A' 124 ((f : Int) + (j : Int)).toNat = ltr L (f + j) := by rw [t2 124 (by decide), show ((f : Int) + (j : Int)).toNat = f + j by omega]; exact eL
    have ej : ((j : Int)).toNat = j := by omega
    refine AW.iload_n dX12_lays_19 rfl ?_
    refine AW.aload_n dX12_lays_20 rfl ?_
    refine AW.getf dX12_lays_21 gX12_118 (by repeat (first | assumption | exact hset_eq _ _ _ | refine (hset_ne _ _ (by omega)).trans ?_)) rfl ?_
    refine AW.if_icmpge (tgt := 55) dX12_lays_24 (by decide) (fun c24 => absurd c24 (by omega)) (fun c24 => ?_)
    refine AW.aload_n dX12_lays_27 rfl ?_
    refine AW.getf dX12_lays_28 gX12_52 (by repeat (first | assumption | exact hset_eq _ _ _ | refine (hset_ne _ _ (by omega)).trans ?_)) rfl ?_
    refine AW.iload_n dX12_lays_31 rfl ?_
    refine AW.aload_n dX12_lays_32 rfl ?_
    refine AW.getf dX12_lays_33 gX12_31 (by repeat (first | assumption | exact hset_eq _ _ _ | refine (hset_ne _ _ (by omega)).trans ?_)) rfl ?_
    refine AW.aload_n dX12_lays_36 rfl ?_
    refine AW.getf dX12_lays_37 gX12_43 (by repeat (first | assumption | exact hset_eq _ _ _ | refine (hset_ne _ _ (by omega)).trans ?_)) rfl ?_
    refine AW.iload_n dX12_lays_40 rfl ?_
    refine AW.iaload dX12_lays_41 (by repeat (first | assumption | exact hset_eq _ _ _ | refine (hset_ne _ _ (by omega)).trans ?_)) (by omega) (by omega) ?_
    rw [e128]
    refine AW.iload_n dX12_lays_42 rfl ?_
    refine AW.iaddR dX12_lays_43 (by unfold RI; omega) ?_
    refine AW.iaload dX12_lays_44 (by repeat (first | assumption | exact hset_eq _ _ _ | refine (hset_ne _ _ (by omega)).trans ?_)) (by omega) (by omega) ?_
    rw [e124]
    refine AW.cS1 (d' := d - 1) (cX12_100 rfl) okX12_wordOf dX12_lays_45 (by omega) (W_wordOf (by omega) (by omega) (by omega) ?_)
    refine AW.iastore dX12_lays_48 (by omega) (by repeat (first | assumption | exact hset_eq _ _ _ | refine (hset_ne _ _ (by omega)).trans ?_)) (by omega) (by omega) ?_
    refine AW.inc2 dX12_lays_49 (by decide) (by unfold RI; omega) ?_
    refine AW.goto (tgt := 19) dX12_lays_52 (by decide) ?_
    rw [ew, ej]
    refine ih (j + 1) _ m' _ (by omega) (MR.s131 hM) t1 (fun k hk => by rw [updA_ne _ _ hk]; exact t2 k hk) t3 (fun i u hi hu => ?_)
    rw [updA_eq]
    by_cases e : i = j
    · rw [e, updI_eq]
      rw [e, hwj] at hu
      cases hu
      rfl
    · rw [updI_ne _ _ e]
      exact t4 i u (by omega) hu
theorem W_lays {ws : List Nat} {f : Nat} (hM : MR h0 h m A) (hc : c < 40) (hL : TL L A) (h20 : ws.length ≤ 20) (hf80 : f ≤ 80) (hf : A 128 c = (f : Int)) (ht : A 129 c = ((f + ws.length : Nat) : Int)) (hw : ∀ j w : Nat, ws[j]? = some w → wdO (ltr L (f + j)) = (w : Int)) (hd : 2 ≤ d)
    (hq : ∀ h' m' A', MR h0 h' m' A' → Tab m m' A A' ws → Q none h') : MW d 0 0 mX12_lays [.inr 116, .inl (c : Int)] h Q := by
  obtain ⟨g116, -, -, -, -, -, -, -, -, -, -, -, g128, g129, -⟩ := id hM
  have ec : ((c : Int)).toNat = c := by omega
  show AW d 0 0 mX12_lays Q 0 [some (.inr 116), some (.inl (c : Int)), none] [] h
  refine AW.aload_n dX12_lays_0 rfl ?_
  refine AW.aload_n dX12_lays_1 rfl ?_
  refine AW.getf dX12_lays_2 gX12_46 (by repeat (first | assumption | exact hset_eq _ _ _ | refine (hset_ne _ _ (by omega)).trans ?_)) rfl ?_
  refine AW.iload_n dX12_lays_5 rfl ?_
  refine AW.iaload dX12_lays_6 (by repeat (first | assumption | exact hset_eq _ _ _ | refine (hset_ne _ _ (by omega)).trans ?_)) (by omega) (by omega) ?_
  refine AW.aload_n dX12_lays_7 rfl ?_
  refine AW.getf dX12_lays_8 gX12_43 (by repeat (first | assumption | exact hset_eq _ _ _ | refine (hset_ne _ _ (by omega)).trans ?_)) rfl ?_
  refine AW.iload_n dX12_lays_11 rfl ?_
  refine AW.iaload dX12_lays_12 (by repeat (first | assumption | exact hset_eq _ _ _ | refine (hset_ne _ _ (by omega)).trans ?_)) (by omega) (by omega) ?_
  rw [ec, hf, ht]
  refine AW.isubR dX12_lays_13 (by unfold RI; omega) ?_
  refine AW.putf dX12_lays_14 pX12_118 (by repeat (first | assumption | exact hset_eq _ _ _ | refine (hset_ne _ _ (by omega)).trans ?_)) trivial ?_
  refine AW.iconst dX12_lays_17 ?_
  refine AW.ist2 dX12_lays_18 (by decide) ?_
  exact L_lays2 hc hL h20 hf hw hd hq ws.length 0 _ (updI m 24 (((f + ws.length : Nat) : Int) - (f : Int))) A (by omega) (MR.p rfl hM) (fun k hk => updI_ne _ _ hk) (fun _ _ => rfl) (by rw [updI_eq]; omega) (fun i w hi => by omega)
/-- only the school and what no call shows has changed -/
def TC (m m' : Nat → Int) (A A' : Nat → Nat → Int) : Prop := (∀ k, k ≠ 7 → k ≠ 8 → k ≠ 24 → m' k = m k) ∧ ∀ k, k < 118 ∨ 123 < k → k ≠ 131 → k ≠ 132 → A' k = A k
theorem TC.trans {m' m2 : Nat → Int} {A' A2 : Nat → Nat → Int} (h1 : TC m m' A A') (h2 : TC m' m2 A' A2) : TC m m2 A A2 := ⟨fun k a b c => (h2.1 k a b c).trans (h1.1 k a b c), fun k a b c => (h2.2 k a b c).trans (h1.2 k a b c)⟩
theorem L_comesW {ws : List Nat} {hh : Nat} {a1 a2 a3 : Option AV} (hh6 : hh < 6) (h20 : ws.length ≤ 20)
    (hq : ∀ h' A', MR h0 h' (updI m 8 ((hh : Int) + 1)) A' → (∀ k, k ≠ 123 → A' k = A k) → (∀ j w : Nat, ws[j]? = some w → A' 123 (20 * hh + j) = (w : Int)) → (∀ j, j < 20 * hh → A' 123 j = A 123 j) → Q (some (.inl 1)) h')
    (h8 : m 8 = (hh : Int)) (h24 : m 24 = (ws.length : Int)) (hw : ∀ j w : Nat, ws[j]? = some w → A 131 j = (w : Int)) :
    ∀ (r j : Nat) (h : AH) (A' : Nat → Nat → Int), j + r = ws.length → MR h0 h m A' → (∀ k, k ≠ 123 → A' k = A k) → (∀ i w : Nat, i < j → ws[i]? = some w → A' 123 (20 * hh + i) = (w : Int)) → (∀ i, i < 20 * hh → A' 123 i = A 123 i) →
      AW d 0 0 mX12_comes Q 149 [some (.inr 116), a1, a2, a3, some (.inl (j : Int))] [] h := by
  intro r
  induction r with
  | zero =>
    intro j h A' hj hM t1 t2 t3
    obtain ⟨g116, -⟩ := id hM
    refine AW.iload dX12_comes_149 rfl ?_
    refine AW.aload_n dX12_comes_151 rfl ?_
    refine AW.getf dX12_comes_152 gX12_118 (by repeat (first | assumption | exact hset_eq _ _ _ | refine (hset_ne _ _ (by omega)).trans ?_)) rfl ?_
    refine AW.if_icmpge (tgt := 186) dX12_comes_155 (by decide) (fun c155 => ?_) (fun c155 => absurd c155 (by omega))
    refine AW.aload_n dX12_comes_186 rfl ?_
    refine AW.dup dX12_comes_187 ?_
    refine AW.getf dX12_comes_188 gX12_72 (by repeat (first | assumption | exact hset_eq _ _ _ | refine (hset_ne _ _ (by omega)).trans ?_)) rfl ?_
    refine AW.iconst dX12_comes_191 ?_
    refine AW.iaddR dX12_comes_192 (by unfold RI; omega) ?_
    refine AW.putf dX12_comes_193 pX12_72 (by repeat (first | assumption | exact hset_eq _ _ _ | refine (hset_ne _ _ (by omega)).trans ?_)) trivial ?_
    refine AW.iconst dX12_comes_196 ?_
    refine AW.zreturn dX12_comes_197 rfl (Or.inr rfl) ?_
    rw [h8]
    exact hq _ A' (MR.p rfl hM) t1 (fun i w hi => t2 i w (by have := (List.getElem?_eq_some_iff.mp hi).1; omega) hi) t3
  | succ r ih =>
    intro j h A' hj hM t1 t2 t3
    obtain ⟨g116, -, -, -, -, -, -, g123, -, -, -, -, -, -, -, g131, -⟩ := id hM
    obtain ⟨w, hwj⟩ : ∃ w, ws[j]? = some w := ⟨_, List.getElem?_eq_getElem (by omega)⟩
    have ew : A' 131 ((j : Int)).toNat = (w : Int) := by rw [t1 131 (by decide), show ((j : Int)).toNat = j by omega]; exact hw j w hwj
    have ei : (20 * (hh : Int) + (j : Int)).toNat = 20 * hh + j := by omega
    refine AW.iload dX12_comes_149 rfl ?_
    refine AW.aload_n dX12_comes_151 rfl ?_
    refine AW.getf dX12_comes_152 gX12_118 (by repeat (first | assumption | exact hset_eq _ _ _ | refine (hset_ne _ _ (by omega)).trans ?_)) rfl ?_
    refine AW.if_icmpge (tgt := 186) dX12_comes_155 (by decide) (fun c155 => absurd c155 (by omega)) (fun c155 => ?_)
    refine AW.aload_n dX12_comes_158 rfl ?_
    refine AW.getf dX12_comes_159 gX12_28 (by repeat (first | assumption | exact hset_eq _ _ _ | refine (hset_ne _ _ (by omega)).trans ?_)) rfl ?_
    refine AW.bipush dX12_comes_162 ?_
    refine AW.aload_n dX12_comes_164 rfl ?_
    refine AW.getf dX12_comes_165 gX12_72 (by repeat (first | assumption | exact hset_eq _ _ _ | refine (hset_ne _ _ (by omega)).trans ?_)) rfl ?_
    refine AW.imulR dX12_comes_168 (by unfold RI; omega) ?_
    refine AW.iload dX12_comes_169 rfl ?_
    refine AW.iaddR dX12_comes_171 (by unfold RI; omega) ?_
    refine AW.aload_n dX12_comes_172 rfl ?_
    refine AW.getf dX12_comes_173 gX12_52 (by repeat (first | assumption | exact hset_eq _ _ _ | refine (hset_ne _ _ (by omega)).trans ?_)) rfl ?_
    refine AW.iload dX12_comes_176 rfl ?_
    refine AW.iaload dX12_comes_178 (by repeat (first | assumption | exact hset_eq _ _ _ | refine (hset_ne _ _ (by omega)).trans ?_)) (by omega) (by omega) ?_
    refine AW.iastore dX12_comes_179 (by omega) (by repeat (first | assumption | exact hset_eq _ _ _ | refine (hset_ne _ _ (by omega)).trans ?_)) (by omega) (by omega) ?_
    refine AW.inc4 dX12_comes_180 (by decide) (by unfold RI; omega) ?_
    refine AW.goto (tgt := 149) dX12_comes_183 (by decide) ?_
    rw [ew, h8, ei]
    refine ih (j + 1) _ _ (by omega) (MR.s123 hM) (fun k hk => by rw [updA_ne _ _ hk]; exact t1 k hk) (fun i u hi hu => ?_) (fun i hi => by rw [updA_eq, updI_ne _ _ (by omega)]; exact t3 i hi)
    rw [updA_eq]
    by_cases e : i = j
    · rw [e, updI_eq]
      rw [e, hwj] at hu
      cases hu
      rfl
    · rw [updI_ne _ _ (by omega)]
      exact t2 i u (by omega) hu
theorem W_comes {sm : SM} (hM : MR h0 h m A) (hS : MSC m A s) (ok : scOK s) (hL : TL L A) (hR : RW L A c sm) (hm : smOK sm) (hc : c < 40) (hd : 4 ≤ d)
    (hq0 : cmS s sm = none → Q (some (.inl 0)) h) (hq1 : ∀ s' h' m' A', cmS s sm = some s' → MR h0 h' m' A' → MSC m' A' s' → TC m m' A A' → Q (some (.inl 1)) h') : MW d 0 0 mX12_comes [.inr 116, .inl (c : Int)] h Q := by
  obtain ⟨g116, -, g118, g119, g120, g121, g122, -, -, g125, -, g127, -⟩ := id hM
  obtain ⟨r1, r2, d1, d2, d3⟩ := hR
  obtain ⟨p1, p2, p3, p4, p5, p6⟩ := id hS
  have ec : ((c : Int)).toNat = c := by omega
  have e2 : (2 * (c : Int)).toNat = 2 * c := by omega
  have e3 : (2 * (c : Int) + 1).toNat = 2 * c + 1 := by omega
  have o1 := ok.1
  have o2 := ok.2.1
  unfold smOK at hm
  unfold cmS at hq0 hq1
  show AW d 0 0 mX12_comes Q 0 [some (.inr 116), some (.inl (c : Int)), none, none, none] [] h
  refine AW.aload_n dX12_comes_0 rfl ?_
  refine AW.getf dX12_comes_1 gX12_40 (by repeat (first | assumption | exact hset_eq _ _ _ | refine (hset_ne _ _ (by omega)).trans ?_)) rfl ?_
  refine AW.iconst dX12_comes_4 ?_
  refine AW.iload_n dX12_comes_5 rfl ?_
  refine AW.imulR dX12_comes_6 (by unfold RI; omega) ?_
  refine AW.iaload dX12_comes_7 (by repeat (first | assumption | exact hset_eq _ _ _ | refine (hset_ne _ _ (by omega)).trans ?_)) (by omega) (by omega) ?_
  rw [e2]
  refine AW.ist2 dX12_comes_8 (by decide) ?_
  refine AW.aload_n dX12_comes_9 rfl ?_
  refine AW.getf dX12_comes_10 gX12_40 (by repeat (first | assumption | exact hset_eq _ _ _ | refine (hset_ne _ _ (by omega)).trans ?_)) rfl ?_
  refine AW.iconst dX12_comes_13 ?_
  refine AW.iload_n dX12_comes_14 rfl ?_
  refine AW.imulR dX12_comes_15 (by unfold RI; omega) ?_
  refine AW.iconst dX12_comes_16 ?_
  refine AW.iaddR dX12_comes_17 (by unfold RI; omega) ?_
  refine AW.iaload dX12_comes_18 (by repeat (first | assumption | exact hset_eq _ _ _ | refine (hset_ne _ _ (by omega)).trans ?_)) (by omega) (by omega) ?_
  rw [e3]
  refine AW.ist3 dX12_comes_19 (by decide) ?_
  refine AW.aload_n dX12_comes_20 rfl ?_
  refine AW.getf dX12_comes_21 gX12_34 (by repeat (first | assumption | exact hset_eq _ _ _ | refine (hset_ne _ _ (by omega)).trans ?_)) rfl ?_
  refine AW.iload_n dX12_comes_24 rfl ?_
  refine AW.iaload dX12_comes_25 (by repeat (first | assumption | exact hset_eq _ _ _ | refine (hset_ne _ _ (by omega)).trans ?_)) (by omega) (by omega) ?_
  rw [ec, r1]
  refine AW.lk dX12_comes_26 (by decide) 216 (by decide) (List.forall_mem_cons.mpr ⟨fun c26 => ?_, (List.forall_mem_cons.mpr ⟨fun c26 => ?_, (List.forall_mem_cons.mpr ⟨fun c26 => ?_, (fun q hq => nomatch hq)⟩)⟩)⟩) (fun c26 => ?_)
  · dsimp only at c26
    show AW _ _ _ _ _ 198 _ _ _
    obtain ⟨f, f1, f2, f3⟩ := d3 (Or.inr c26)
    have z1 := d2 c26
    obtain ⟨⟨v1, v2⟩, w1, w2⟩ : (0 ≤ sm.2.2.1 ∧ sm.2.2.1 ≤ 3) ∧ hgt sm.2.2.2.2 = some 1 ∧ sm.2.2.2.2.length ≤ 20 := by
      rcases hm with ⟨z, -⟩ | ⟨z, -⟩ | ⟨z, w⟩ | ⟨z, -⟩
      · omega
      · omega
      · exact w
      · omega
    have hf80 : f ≤ 80 := by
      have w0 := hgt_pos w1
      have := f3 0 _ (List.getElem?_eq_getElem (by omega))
      have := ltr_lt (wdO_pos (show 0 ≤ wdO (ltr L (f + 0)) by omega))
      have := hL.1
      omega
    rw [z1]
    rw [if_neg (by omega), if_neg (by omega), if_pos c26] at hq1
    refine AW.aload_n dX12_comes_198 rfl ?_
    refine AW.iload_n dX12_comes_199 rfl ?_
    refine AW.cI2 (d' := d - 1) (cX12_121 rfl) okX12_lays dX12_comes_200 (by repeat (first | assumption | exact hset_eq _ _ _ | refine (hset_ne _ _ (by omega)).trans ?_)) (by omega) (W_lays hM hc hL w2 hf80 f1 f2 f3 (by omega) (fun h1 m1 A1 hM1 hT1 => ?_))
    obtain ⟨t1, t2, t3, t4⟩ := hT1
    obtain ⟨k116, -, -, -, -, k121, -⟩ := id hM1
    have hS1 : MSC m1 A1 s := by
      unfold MSC
      rw [t1 7 (by decide), t1 8 (by decide), t2 118 (by decide), t2 119 (by decide), t2 120 (by decide), t2 121 (by decide), t2 122 (by decide), t2 123 (by decide)]
      exact hS
    obtain ⟨c1, c2, c3⟩ := nm_lf (who := -1) hS1 ok (by omega) (by omega)
    refine AW.aload_n dX12_comes_203 rfl ?_
    refine AW.getf dX12_comes_204 gX12_22 (by repeat (first | assumption | exact hset_eq _ _ _ | refine (hset_ne _ _ (by omega)).trans ?_)) rfl ?_
    refine AW.iload_n dX12_comes_207 rfl ?_
    refine AW.aload_n dX12_comes_208 rfl ?_
    refine AW.iconst dX12_comes_209 ?_
    refine AW.cI2 (d' := d - 1) (cX12_125 rfl) okX12_concluded dX12_comes_210 (by repeat (first | assumption | exact hset_eq _ _ _ | refine (hset_ne _ _ (by omega)).trans ?_)) (by omega) (W_concluded (ws := sm.2.2.2.2) hM1 (by omega) (by omega) t4 t3 w1 w2 (fun h3 B hM3 hB => ?_))
    rw [c1, c2, concF_congr c3]
    have ecn : cnS s (-1) sm.2.2.2.2 = concF (kkS s (-1)) (ggS s (-1)) (lfK (nmS s (-1))) sm.2.2.2.2 := rfl
    rw [← ecn]
    obtain ⟨j116, -, -, -, -, j121, -⟩ := id hM3
    have b1 : ∀ k, k ≠ 131 → k ≠ 132 → B k = A k := fun k q1 q2 => by rw [hB k q2, t2 k q1]
    refine AW.iastore dX12_comes_213 (by omega) (by repeat (first | assumption | exact hset_eq _ _ _ | refine (hset_ne _ _ (by omega)).trans ?_)) (by omega) (by omega) ?_
    refine AW.iconst dX12_comes_214 ?_
    refine AW.zreturn dX12_comes_215 rfl (Or.inr rfl) ?_
    refine hq1 _ _ m1 _ rfl (MR.s121 hM3) ⟨hS1.1, hS1.2.1, ?_, fun i hi => ?_, ?_, ?_⟩ ⟨fun k q1 q2 q3 => t1 k q3, fun k q1 q2 q3 => by rw [updA_ne _ _ (by omega)]; exact b1 k q2 q3⟩
    · intro i hi
      rw [updA_ne _ _ (by decide), updA_ne _ _ (by decide), updA_ne _ _ (by decide), b1 118 (by decide) (by decide), b1 119 (by decide) (by decide), b1 120 (by decide) (by decide)]
      exact p3 i hi
    · rw [updA_eq]
      show updI (B 121) sm.2.2.1.toNat (cnS s (-1) sm.2.2.2.2) i = updI (s_c s) sm.2.2.1.toNat (cnS s (-1) sm.2.2.2.2) i
      by_cases z : i = sm.2.2.1.toNat
      · rw [z, updI_eq, updI_eq]
      · rw [updI_ne _ _ z, updI_ne _ _ z, b1 121 (by decide) (by decide)]
        exact p4 i hi
    · rw [updA_ne _ _ (by decide), b1 122 (by decide) (by decide)]; exact p5
    · rw [updA_ne _ _ (by decide), b1 123 (by decide) (by decide)]; exact p6
  · dsimp only at c26
    show AW _ _ _ _ _ 117 _ _ _
    obtain ⟨f, f1, f2, f3⟩ := d3 (Or.inl c26)
    obtain ⟨w1, w2⟩ : hgt sm.2.2.2.2 = some 1 ∧ sm.2.2.2.2.length ≤ 20 := by
      rcases hm with ⟨z, -⟩ | ⟨z, w⟩ | ⟨z, -⟩ | ⟨z, -⟩
      · omega
      · exact w
      · omega
      · omega
    have hf80 : f ≤ 80 := by
      have w0 := hgt_pos w1
      have := f3 0 _ (List.getElem?_eq_getElem (by omega))
      have := ltr_lt (wdO_pos (show 0 ≤ wdO (ltr L (f + 0)) by omega))
      have := hL.1
      omega
    rw [if_neg (by omega), if_pos c26] at hq0 hq1
    refine AW.aload_n dX12_comes_117 rfl ?_
    refine AW.getf dX12_comes_118 gX12_72 (by repeat (first | assumption | exact hset_eq _ _ _ | refine (hset_ne _ _ (by omega)).trans ?_)) rfl ?_
    refine AW.bipush dX12_comes_121 ?_
    refine AW.if_icmpne (tgt := 128) dX12_comes_123 (by decide) (fun c123 => ?_) (fun c123 => ?_)
    · refine AW.aload_n dX12_comes_128 rfl ?_
      refine AW.iload_n dX12_comes_129 rfl ?_
      refine AW.cI2 (d' := d - 1) (cX12_121 rfl) okX12_lays dX12_comes_130 (by repeat (first | assumption | exact hset_eq _ _ _ | refine (hset_ne _ _ (by omega)).trans ?_)) (by omega) (W_lays hM hc hL w2 hf80 f1 f2 f3 (by omega) (fun h1 m1 A1 hM1 hT1 => ?_))
      obtain ⟨t1, t2, t3, t4⟩ := hT1
      obtain ⟨k116, -, -, -, -, -, k122, -⟩ := id hM1
      have e8 : m1 8 = (s_h s : Int) := (t1 8 (by decide)).trans p2
      refine AW.aload_n dX12_comes_133 rfl ?_
      refine AW.getf dX12_comes_134 gX12_25 (by repeat (first | assumption | exact hset_eq _ _ _ | refine (hset_ne _ _ (by omega)).trans ?_)) rfl ?_
      refine AW.aload_n dX12_comes_137 rfl ?_
      refine AW.getf dX12_comes_138 gX12_72 (by repeat (first | assumption | exact hset_eq _ _ _ | refine (hset_ne _ _ (by omega)).trans ?_)) rfl ?_
      refine AW.aload_n dX12_comes_141 rfl ?_
      refine AW.getf dX12_comes_142 gX12_118 (by repeat (first | assumption | exact hset_eq _ _ _ | refine (hset_ne _ _ (by omega)).trans ?_)) rfl ?_
      refine AW.iastore dX12_comes_145 (by omega) (by repeat (first | assumption | exact hset_eq _ _ _ | refine (hset_ne _ _ (by omega)).trans ?_)) (by omega) (by omega) ?_
      refine AW.iconst dX12_comes_146 ?_
      refine AW.ist4 dX12_comes_147 (by decide) ?_
      rw [if_neg (by omega)] at hq1
      have e8' : (m1 8).toNat = s_h s := by omega
      rw [e8']
      refine L_comesW (m := m1) (A := updA A1 122 (updI (A1 122) (s_h s) (m1 24))) (hh := s_h s) (by omega) w2 (fun h2 A2 hM2 u1 u2 u3 => ?_) e8 t3 (by rw [updA_ne _ _ (by decide)]; exact t4) sm.2.2.2.2.length 0 _ _ (by omega) (MR.s122 hM1) (fun _ _ => rfl) (fun i w hi => by omega) (fun _ _ => rfl)
      have b1 : ∀ k, k ≠ 122 → k ≠ 123 → k ≠ 131 → A2 k = A k := fun k q1 q2 q3 => by rw [u1 k q2, updA_ne _ _ q1, t2 k q3]
      refine hq1 _ h2 _ A2 rfl hM2 ⟨?_, ?_, ?_, ?_, ?_, ?_⟩ ⟨fun k q1 q2 q3 => by rw [updI_ne _ _ q2, t1 k q3], fun k q1 q2 q3 => b1 k (by omega) (by omega) q2⟩
      · rw [updI_ne _ _ (by decide), t1 7 (by decide)]; exact p1
      · rw [updI_eq]; show (s_h s : Int) + 1 = ((s_h s + 1 : Nat) : Int); omega
      · intro i hi
        rw [b1 118 (by decide) (by decide) (by decide), b1 119 (by decide) (by decide) (by decide), b1 120 (by decide) (by decide) (by decide)]
        exact p3 i hi
      · rw [b1 121 (by decide) (by decide) (by decide)]; exact p4
      · intro i hi
        have hi' : i < s_h s + 1 := hi
        show A2 122 i = ((if i = s_h s then sm.2.2.2.2 else s_w s i).length : Int)
        rw [u1 122 (by decide), updA_eq]
        by_cases z : i = s_h s
        · rw [z, updI_eq, if_pos rfl]; exact t3
        · rw [updI_ne _ _ z, if_neg z, t2 122 (by decide)]
          exact p5 i (by omega)
      · intro i hi j w hjw
        have hi' : i < s_h s + 1 := hi
        have hjw' : (if i = s_h s then sm.2.2.2.2 else s_w s i)[j]? = some w := hjw
        by_cases z : i = s_h s
        · rw [if_pos z] at hjw'
          rw [z]
          exact u2 j w hjw'
        · rw [if_neg z] at hjw'
          have hj20 := (List.getElem?_eq_some_iff.mp hjw').1
          have := (ok.2.2.2.2 i (by omega)).2
          rw [u3 (20 * i + j) (by omega), updA_ne _ _ (by decide), t2 123 (by decide)]
          exact p6 i (by omega) j w hjw'
    · refine AW.iconst dX12_comes_126 ?_
      refine AW.zreturn dX12_comes_127 rfl (Or.inl rfl) ?_
      exact hq0 (if_pos (by omega))
  · dsimp only at c26
    show AW _ _ _ _ _ 60 _ _ _
    obtain ⟨z1, z2⟩ := d1 (Or.inl c26)
    rw [z1, z2]
    rw [if_pos c26] at hq0 hq1
    refine AW.iload_n dX12_comes_60 rfl ?_
    refine AW.iconst dX12_comes_61 ?_
    refine AW.if_icmpgt (tgt := 73) dX12_comes_62 (by decide) (fun c62 => ?_) (fun c62 => ?_)
    · refine AW.iconst dX12_comes_73 ?_
      refine AW.zreturn dX12_comes_74 rfl (Or.inl rfl) ?_
      first
        | exact hq0 (if_pos (by omega))
        | (rw [if_neg (by omega)] at hq1
           rw [show (m 7).toNat = s_n s by omega]
           refine hq1 _ _ (updI m 7 (m 7 + 1)) (updA (updA (updA A 118 (updI (A 118) (s_n s) sm.2.2.1)) 119 (updI (A 119) (s_n s) sm.2.2.2.1)) 120 (updI (A 120) (s_n s) 0)) rfl (MR.p rfl (MR.s120 (MR.s119 (MR.s118 hM)))) ⟨?_, p2, fun i hi => ?_, p4, p5, p6⟩ ⟨fun k a b c => updI_ne _ _ a, fun k a b c => by rw [updA_ne _ _ (by omega), updA_ne _ _ (by omega), updA_ne _ _ (by omega)]⟩
           · rw [updI_eq]
             show m 7 + 1 = ((s_n s + 1 : Nat) : Int)
             omega
           · have hi' : i < s_n s + 1 := hi
             rw [updA_ne _ _ (show (118 : Nat) ≠ 120 by decide), updA_ne _ _ (show (118 : Nat) ≠ 119 by decide), updA_eq, updA_ne _ _ (show (119 : Nat) ≠ 120 by decide), updA_eq, updA_eq]
             show updI (A 118) (s_n s) sm.2.2.1 i = updI (s_k s) (s_n s) sm.2.2.1 i ∧ updI (A 119) (s_n s) sm.2.2.2.1 i = updI (s_g s) (s_n s) sm.2.2.2.1 i ∧ updI (A 120) (s_n s) 0 i = updI (s_l s) (s_n s) 0 i
             by_cases z : i = s_n s
             · rw [z, updI_eq, updI_eq, updI_eq, updI_eq, updI_eq, updI_eq]
               exact ⟨rfl, rfl, rfl⟩
             · rw [updI_ne _ _ z, updI_ne _ _ z, updI_ne _ _ z, updI_ne _ _ z, updI_ne _ _ z, updI_ne _ _ z]
               exact p3 i (by omega))
    · refine AW.aload_n dX12_comes_65 rfl ?_
      refine AW.getf dX12_comes_66 gX12_68 (by repeat (first | assumption | exact hset_eq _ _ _ | refine (hset_ne _ _ (by omega)).trans ?_)) rfl ?_
      refine AW.iconst dX12_comes_69 ?_
      refine AW.if_icmpne (tgt := 75) dX12_comes_70 (by decide) (fun c70 => ?_) (fun c70 => ?_)
      · refine AW.aload_n dX12_comes_75 rfl ?_
        refine AW.getf dX12_comes_76 gX12_13 (by repeat (first | assumption | exact hset_eq _ _ _ | refine (hset_ne _ _ (by omega)).trans ?_)) rfl ?_
        refine AW.aload_n dX12_comes_79 rfl ?_
        refine AW.getf dX12_comes_80 gX12_68 (by repeat (first | assumption | exact hset_eq _ _ _ | refine (hset_ne _ _ (by omega)).trans ?_)) rfl ?_
        refine AW.iload_n dX12_comes_83 rfl ?_
        refine AW.iastore dX12_comes_84 (by omega) (by repeat (first | assumption | exact hset_eq _ _ _ | refine (hset_ne _ _ (by omega)).trans ?_)) (by omega) (by omega) ?_
        refine AW.aload_n dX12_comes_85 rfl ?_
        refine AW.getf dX12_comes_86 gX12_16 (by repeat (first | assumption | exact hset_eq _ _ _ | refine (hset_ne _ _ (by omega)).trans ?_)) rfl ?_
        refine AW.aload_n dX12_comes_89 rfl ?_
        refine AW.getf dX12_comes_90 gX12_68 (by repeat (first | assumption | exact hset_eq _ _ _ | refine (hset_ne _ _ (by omega)).trans ?_)) rfl ?_
        refine AW.iload_n dX12_comes_93 rfl ?_
        refine AW.iastore dX12_comes_94 (by omega) (by repeat (first | assumption | exact hset_eq _ _ _ | refine (hset_ne _ _ (by omega)).trans ?_)) (by omega) (by omega) ?_
        refine AW.aload_n dX12_comes_95 rfl ?_
        refine AW.getf dX12_comes_96 gX12_19 (by repeat (first | assumption | exact hset_eq _ _ _ | refine (hset_ne _ _ (by omega)).trans ?_)) rfl ?_
        refine AW.aload_n dX12_comes_99 rfl ?_
        refine AW.getf dX12_comes_100 gX12_68 (by repeat (first | assumption | exact hset_eq _ _ _ | refine (hset_ne _ _ (by omega)).trans ?_)) rfl ?_
        refine AW.iconst dX12_comes_103 ?_
        refine AW.iastore dX12_comes_104 (by omega) (by repeat (first | assumption | exact hset_eq _ _ _ | refine (hset_ne _ _ (by omega)).trans ?_)) (by omega) (by omega) ?_
        refine AW.aload_n dX12_comes_105 rfl ?_
        refine AW.dup dX12_comes_106 ?_
        refine AW.getf dX12_comes_107 gX12_68 (by repeat (first | assumption | exact hset_eq _ _ _ | refine (hset_ne _ _ (by omega)).trans ?_)) rfl ?_
        refine AW.iconst dX12_comes_110 ?_
        refine AW.iaddR dX12_comes_111 (by unfold RI; omega) ?_
        refine AW.putf dX12_comes_112 pX12_68 (by repeat (first | assumption | exact hset_eq _ _ _ | refine (hset_ne _ _ (by omega)).trans ?_)) trivial ?_
        refine AW.iconst dX12_comes_115 ?_
        refine AW.zreturn dX12_comes_116 rfl (Or.inr rfl) ?_
        first
          | exact hq0 (if_pos (by omega))
          | (rw [if_neg (by omega)] at hq1
             rw [show (m 7).toNat = s_n s by omega]
             refine hq1 _ _ (updI m 7 (m 7 + 1)) (updA (updA (updA A 118 (updI (A 118) (s_n s) sm.2.2.1)) 119 (updI (A 119) (s_n s) sm.2.2.2.1)) 120 (updI (A 120) (s_n s) 0)) rfl (MR.p rfl (MR.s120 (MR.s119 (MR.s118 hM)))) ⟨?_, p2, fun i hi => ?_, p4, p5, p6⟩ ⟨fun k a b c => updI_ne _ _ a, fun k a b c => by rw [updA_ne _ _ (by omega), updA_ne _ _ (by omega), updA_ne _ _ (by omega)]⟩
             · rw [updI_eq]
               show m 7 + 1 = ((s_n s + 1 : Nat) : Int)
               omega
             · have hi' : i < s_n s + 1 := hi
               rw [updA_ne _ _ (show (118 : Nat) ≠ 120 by decide), updA_ne _ _ (show (118 : Nat) ≠ 119 by decide), updA_eq, updA_ne _ _ (show (119 : Nat) ≠ 120 by decide), updA_eq, updA_eq]
               show updI (A 118) (s_n s) sm.2.2.1 i = updI (s_k s) (s_n s) sm.2.2.1 i ∧ updI (A 119) (s_n s) sm.2.2.2.1 i = updI (s_g s) (s_n s) sm.2.2.2.1 i ∧ updI (A 120) (s_n s) 0 i = updI (s_l s) (s_n s) 0 i
               by_cases z : i = s_n s
               · rw [z, updI_eq, updI_eq, updI_eq, updI_eq, updI_eq, updI_eq]
                 exact ⟨rfl, rfl, rfl⟩
               · rw [updI_ne _ _ z, updI_ne _ _ z, updI_ne _ _ z, updI_ne _ _ z, updI_ne _ _ z, updI_ne _ _ z]
                 exact p3 i (by omega))
      · refine AW.iconst dX12_comes_73 ?_
        refine AW.zreturn dX12_comes_74 rfl (Or.inl rfl) ?_
        first
          | exact hq0 (if_pos (by omega))
          | (rw [if_neg (by omega)] at hq1
             rw [show (m 7).toNat = s_n s by omega]
             refine hq1 _ _ (updI m 7 (m 7 + 1)) (updA (updA (updA A 118 (updI (A 118) (s_n s) sm.2.2.1)) 119 (updI (A 119) (s_n s) sm.2.2.2.1)) 120 (updI (A 120) (s_n s) 0)) rfl (MR.p rfl (MR.s120 (MR.s119 (MR.s118 hM)))) ⟨?_, p2, fun i hi => ?_, p4, p5, p6⟩ ⟨fun k a b c => updI_ne _ _ a, fun k a b c => by rw [updA_ne _ _ (by omega), updA_ne _ _ (by omega), updA_ne _ _ (by omega)]⟩
             · rw [updI_eq]
               show m 7 + 1 = ((s_n s + 1 : Nat) : Int)
               omega
             · have hi' : i < s_n s + 1 := hi
               rw [updA_ne _ _ (show (118 : Nat) ≠ 120 by decide), updA_ne _ _ (show (118 : Nat) ≠ 119 by decide), updA_eq, updA_ne _ _ (show (119 : Nat) ≠ 120 by decide), updA_eq, updA_eq]
               show updI (A 118) (s_n s) sm.2.2.1 i = updI (s_k s) (s_n s) sm.2.2.1 i ∧ updI (A 119) (s_n s) sm.2.2.2.1 i = updI (s_g s) (s_n s) sm.2.2.2.1 i ∧ updI (A 120) (s_n s) 0 i = updI (s_l s) (s_n s) 0 i
               by_cases z : i = s_n s
               · rw [z, updI_eq, updI_eq, updI_eq, updI_eq, updI_eq, updI_eq]
                 exact ⟨rfl, rfl, rfl⟩
               · rw [updI_ne _ _ z, updI_ne _ _ z, updI_ne _ _ z, updI_ne _ _ z, updI_ne _ _ z, updI_ne _ _ z]
                 exact p3 i (by omega))
  · dsimp only [lkall] at c26
    obtain ⟨el, ⟨v1, v2⟩, w1, w2⟩ : sm.1 = 108 ∧ (0 ≤ sm.2.2.1 ∧ sm.2.2.1 ≤ 9) ∧ 0 ≤ sm.2.2.2.1 ∧ sm.2.2.2.1 ≤ 3 := by
      rcases hm with ⟨z, -⟩ | ⟨z, -⟩ | ⟨z, -⟩ | w
      · omega
      · omega
      · omega
      · exact w
    obtain ⟨z1, z2⟩ := d1 (Or.inr el)
    rw [z1, z2]
    rw [if_neg (by omega), if_neg (by omega), if_neg (by omega)] at hq0 hq1
    refine AW.aload_n dX12_comes_216 rfl ?_
    refine AW.iload_n dX12_comes_217 rfl ?_
    refine AW.cI2 (d' := d - 1) (cX12_128 rfl) okX12_isStranger dX12_comes_218 (by repeat (first | assumption | exact hset_eq _ _ _ | refine (hset_ne _ _ (by omega)).trans ?_)) (by omega) (W_isStranger (by assumption) (fun c218 c218b => ?_) (fun c218 => ?_))
    · refine AW.ifne_t (tgt := 226) dX12_comes_221 (by decide) (by decide) ?_
      refine AW.aload_n dX12_comes_226 rfl ?_
      refine AW.getf dX12_comes_227 gX12_19 (by repeat (first | assumption | exact hset_eq _ _ _ | refine (hset_ne _ _ (by omega)).trans ?_)) rfl ?_
      refine AW.iload_n dX12_comes_230 rfl ?_
      refine AW.dup2 dX12_comes_231 ?_
      refine AW.iaload dX12_comes_232 (by repeat (first | assumption | exact hset_eq _ _ _ | refine (hset_ne _ _ (by omega)).trans ?_)) (by omega) (by omega) ?_
      refine AW.iconst dX12_comes_233 ?_
      refine AW.iload_n dX12_comes_234 rfl ?_
      refine AW.ishl dX12_comes_235 ?_
      refine AW.ixor dX12_comes_236 ?_
      refine AW.iastore dX12_comes_237 (by omega) (by repeat (first | assumption | exact hset_eq _ _ _ | refine (hset_ne _ _ (by omega)).trans ?_)) (by omega) (by omega) ?_
      refine AW.iconst dX12_comes_238 ?_
      refine AW.zreturn dX12_comes_239 rfl (Or.inr rfl) ?_
      first
        | exact hq0 (if_pos (by omega))
        | (rw [if_neg (by omega)] at hq1
           refine hq1 _ _ m _ rfl (MR.s120 hM) ⟨p1, p2, fun i hi => ?_, ?_, ?_, ?_⟩ ⟨fun _ _ _ _ => rfl, fun k q1 q2 q3 => updA_ne _ _ (by omega)⟩
           · rw [updA_ne _ _ (show (118 : Nat) ≠ 120 by decide), updA_ne _ _ (show (119 : Nat) ≠ 120 by decide), updA_eq]
             refine ⟨(p3 i hi).1, (p3 i hi).2.1, ?_⟩
             show updI (A 120) sm.2.2.1.toNat (a_xor (A 120 sm.2.2.1.toNat) (a_shl 1 sm.2.2.2.1)) i = updI (s_l s) sm.2.2.1.toNat (a_xor (s_l s sm.2.2.1.toNat) (a_shl 1 sm.2.2.2.1)) i
             have hi' : i < s_n s := hi
             by_cases z : i = sm.2.2.1.toNat
             · rw [z, updI_eq, updI_eq, (p3 sm.2.2.1.toNat (by omega)).2.2]
             · rw [updI_ne _ _ z, updI_ne _ _ z]
               exact (p3 i hi').2.2
           · rw [updA_ne _ _ (by decide)]; exact p4
           · rw [updA_ne _ _ (by decide)]; exact p5
           · rw [updA_ne _ _ (by decide)]; exact p6)
    · refine AW.ifne_f (tgt := 226) dX12_comes_221 (by decide) rfl ?_
      refine AW.iconst dX12_comes_224 ?_
      refine AW.zreturn dX12_comes_225 rfl (Or.inl rfl) ?_
      first
        | exact hq0 (if_pos (by omega))
        | (rw [if_neg (by omega)] at hq1
           refine hq1 _ _ m _ rfl (MR.s120 hM) ⟨p1, p2, fun i hi => ?_, ?_, ?_, ?_⟩ ⟨fun _ _ _ _ => rfl, fun k q1 q2 q3 => updA_ne _ _ (by omega)⟩
           · rw [updA_ne _ _ (show (118 : Nat) ≠ 120 by decide), updA_ne _ _ (show (119 : Nat) ≠ 120 by decide), updA_eq]
             refine ⟨(p3 i hi).1, (p3 i hi).2.1, ?_⟩
             show updI (A 120) sm.2.2.1.toNat (a_xor (A 120 sm.2.2.1.toNat) (a_shl 1 sm.2.2.2.1)) i = updI (s_l s) sm.2.2.1.toNat (a_xor (s_l s sm.2.2.1.toNat) (a_shl 1 sm.2.2.2.1)) i
             have hi' : i < s_n s := hi
             by_cases z : i = sm.2.2.1.toNat
             · rw [z, updI_eq, updI_eq, (p3 sm.2.2.1.toNat (by omega)).2.2]
             · rw [updI_ne _ _ z, updI_ne _ _ z]
               exact (p3 i hi').2.2
           · rw [updA_ne _ _ (by decide)]; exact p4
           · rw [updA_ne _ _ (by decide)]; exact p5
           · rw [updA_ne _ _ (by decide)]; exact p6)
end Mod25

