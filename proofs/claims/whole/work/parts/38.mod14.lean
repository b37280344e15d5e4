/-! what the calls about fewest words answer -/
noncomputable def o_shortest (S : ST) (who v : Int) : Int × ST := if ¬ (-1 ≤ who ∧ who < s_n S.1) then (-1, rf S 1) else if v < 0 then (-4, rf S 4) else if 255 < v then (-6, rf S 6) else (shS S.1 who (-9) v, S)
noncomputable def ctF (len sh : Int) : Int := if sh < 0 then -9 else len - sh
noncomputable def o_cut (S : ST) (who i : Int) : Int × ST := if ¬ ((-1 ≤ who ∧ who < s_n S.1) ∧ 0 ≤ i ∧ i < s_h S.1) then (1000000001, rf S 1) else (ctF ((s_w S.1 i.toNat).length : Int) (shS S.1 who (-9) (cnS S.1 who (s_w S.1 i.toNat))), S)
noncomputable def mnF (s : SC) (who n : Int) (j : Nat) : Int := iv (shS s who (-9) (j : Int) = n) 1
noncomputable def o_many (S : ST) (who n : Int) : Int × ST := if ¬ (-1 ≤ who ∧ who < s_n S.1) then (-1, rf S 1) else if n < 1 then (-4, rf S 4) else if 20 < n then (-6, rf S 6) else (sumN 256 (mnF S.1 who n), S)
noncomputable def frF (f : Nat → Int) : Nat → Nat → Nat
  | 0, b => b
  | j + 1, b => frF f j (if 0 ≤ f j ∧ f b ≤ f j then j else b)
noncomputable def fbF (s : SC) (who : Int) : Nat := frF (fun j => shS s who (-9) (j : Int)) 256 170
noncomputable def o_farthest (S : ST) (who what : Int) : Int × ST := if ¬ (-1 ≤ who ∧ who < s_n S.1) then (-1, rf S 1) else if ¬ (0 ≤ what ∧ what ≤ 1) then (-2, rf S 2) else if what = 0 then (shS S.1 who (-9) (fbF S.1 who : Int), S) else ((fbF S.1 who : Int), S)
noncomputable def svF (s : SC) (who v : Int) (i : Nat) : Int := if shS s who (-9) (cnS s who (s_w s i)) < 0 then 0 else shS s who (-9) (cnS s who (s_w s i)) - shS s who v (cnS s who (s_w s i))
noncomputable def o_saves (S : ST) (who v : Int) : Int × ST := if ¬ (-1 ≤ who ∧ who < s_n S.1) then (1000000001, rf S 1) else if v < 0 then (1000000004, rf S 4) else if 255 < v then (1000000006, rf S 6) else if shS S.1 who (-9) v < 0 then (-9, S) else (sumN (s_h S.1) (svF S.1 who v) - shS S.1 who (-9) v - 1, S)
noncomputable def o_joined (S : ST) (who i j : Int) : Int × ST := if ¬ (-1 ≤ who ∧ who < s_n S.1) then (1000000001, rf S 1) else if i < 0 ∨ j < 0 then (1000000004, rf S 4) else if 255 < i ∨ 255 < j then (1000000006, rf S 6) else if shS S.1 who (-9) i < 0 ∨ shS S.1 who (-9) j < 0 ∨ shS S.1 who (-9) (a_and i j) < 0 then (99, S) else (shS S.1 who (-9) (a_and i j) - shS S.1 who (-9) i - shS S.1 who (-9) j, S)
theorem evF_in8 {k g : Int} {lf : Nat → Int} (h0 : 0 ≤ g) (h9 : g ≤ 9) (hl : ∀ w, w < 7 → in8 (lf w)) (ws : List Nat) : ∀ x ∈ evF k g lf ws, in8 x := by
  induction ws with
  | nil => intro x hx; cases hx
  | cons w t ih =>
    rw [evF_cons]
    generalize evF k g lf t = l at ih
    unfold stepF
    intro x hx
    split at hx
    · rcases List.mem_cons.mp hx with rfl | q
      · exact hl w (by assumption)
      · exact ih x q
    · split at hx
      · match l, ih, hx with
        | a :: t, ih, hx =>
          rcases List.mem_cons.mp hx with rfl | q
          · exact in8_notF (ih a List.mem_cons_self)
          · exact ih x (List.mem_cons_of_mem _ q)
        | [], ih, hx => cases hx
      · match l, ih, hx with
        | a :: b :: t, ih, hx =>
          rcases List.mem_cons.mp hx with rfl | q
          · split
            · exact in8_andF (ih a List.mem_cons_self)
            · exact in8_orF h0 h9 (ih a List.mem_cons_self) (ih b (List.mem_cons_of_mem _ List.mem_cons_self))
          · exact ih x (List.mem_cons_of_mem _ (List.mem_cons_of_mem _ q))
        | [a], ih, hx => cases hx
        | [], ih, hx => cases hx
theorem lfK_in8 {nm : Nat → Int} (h : ∀ n, n < 4 → nm n = -9 ∨ in8 (nm n)) {w : Nat} (hw : w < 7) : in8 (lfK nm w) := by
  unfold lfK
  split
  · exact ⟨by decide, by decide⟩
  split
  · exact ⟨by decide, by decide⟩
  split
  · exact ⟨by decide, by decide⟩
  split
  · exact ⟨by decide, by decide⟩
  · rcases h (w - 3) (by omega) with q | q
    · omega
    · exact q
theorem cnS_in8 {s : SC} {who : Int} (ok : scOK s) (h2 : who < s_n s) (ws : List Nat) : in8 (cnS s who ws) := by
  obtain ⟨-, g0, g9⟩ := kkS_b ok h2
  have h := evF_in8 (k := kkS s who) g0 g9 (fun w hw => lfK_in8 (fun n hn => nmS_b (who := who) ok hn) hw) ws
  unfold cnS concF
  cases he : evF (kkS s who) (ggS s who) (lfK (nmS s who)) ws with
  | nil => exact ⟨by decide, by decide⟩
  | cons x t => rw [he] at h; exact h x List.mem_cons_self
section Mod14
variable {d : Nat} {Q : Option AV → AH → Prop} {h h0 : AH} {m : Nat → Int} {A : Nat → Nat → Int} {who more x y z v : Int} {S : ST} {s : SC}
theorem T2.rfl' : T2 m m A A := ⟨fun _ _ => rfl, fun _ _ => rfl⟩
theorem T2.sq {m' : Nat → Int} {A' : Nat → Nat → Int} (h : T2 m m' A A') : SQ m m' A A' := ⟨⟨h.1 7 (by decide), h.1 8 (by decide), h.1 15 (by decide), h.1 19 (by decide), h.1 31 (by decide)⟩, h.2 117 (by decide), h.2 118 (by decide), h.2 119 (by decide), h.2 120 (by decide), h.2 121 (by decide), h.2 122 (by decide), h.2 123 (by decide), h.2 124 (by decide), h.2 130 (by decide), h.2 135 (by decide)⟩
theorem L_fs3 {a2 : Option AV} (hS : MSC m A s) (ok : scOK s) (hd : 4 ≤ d) (h1 : -1 ≤ who) (h2 : who < s_n s)
    (hq : ∀ h' A' z, MR h0 h' m A' → (∀ k, k ≠ 133 → A' k = A k) → LC (A' 133) (fun j => lvS s who (-9) (j : Int)) → AW d 0 0 mX12_findShortest Q 96 [some (.inr 116), some (.inl who), a2, z] [] h') :
    ∀ (r n : Nat) (h : AH) (A' : Nat → Nat → Int), n + r = 4 → MR h0 h m A' → (∀ k, k ≠ 133 → A' k = A k) → LC (A' 133) (fun j => j = 170 ∨ j = 204 ∨ j = 240 ∨ ∃ i : Nat, i < n ∧ 0 ≤ nmS s who i ∧ (j : Int) = nmS s who i) →
      AW d 0 0 mX12_findShortest Q 51 [some (.inr 116), some (.inl who), a2, some (.inl (n : Int))] [] h := by
  have h5 := ok.1
  intro r
  induction r with
  | zero =>
    intro n h A' hj hM hA hc
    have hj2 : n = 4 := by omega
    subst hj2
    refine AW.iload_n dX12_findShortest_51 rfl ?_
    refine AW.iconst dX12_findShortest_52 ?_
    refine AW.if_icmpge (tgt := 96) dX12_findShortest_53 (by decide) (fun c53 => ?_) (fun c53 => absurd c53 (by decide))
    refine hq h A' _ hM hA (hc.eq (fun j _ => ?_))
    unfold lvS
    constructor
    · rintro (q | q | q | q | ⟨q, -⟩)
      · exact Or.inl (by omega)
      · exact Or.inr (Or.inl (by omega))
      · exact Or.inr (Or.inr (Or.inl (by omega)))
      · exact Or.inr (Or.inr (Or.inr q))
      · omega
    · rintro (q | q | q | q)
      · exact Or.inl (by omega)
      · exact Or.inr (Or.inl (by omega))
      · exact Or.inr (Or.inr (Or.inl (by omega)))
      · exact Or.inr (Or.inr (Or.inr (Or.inl q)))
  | succ r ih =>
    intro n h A' hj hM hA hc
    obtain ⟨g116, g117, g118, g119, g120, g121, -, -, -, -, -, -, -, -, -, -, -, g133, -⟩ := id hM
    have e121 : A' 121 ((n : Int)).toNat = s_c s n := by rw [show ((n : Int)).toNat = n by omega, hA 121 (by decide)]; exact hS.2.2.2.1 n (by omega)
    have hcb := ok.2.2.2.1 n (by omega)
    have elb : lbM A' who = if who < 0 then 15 else s_l s who.toNat := by
      unfold lbM
      split
      · rfl
      · rw [hA 120 (by decide)]; exact (hS.2.2.1 who.toNat (by omega)).2.2
    have hbit : (a_and (a_shr (lbM A' who) (n : Int)) 1 = 1) ↔ (who < 0 ∨ a_and (a_shr (s_l s who.toNat) (n : Int)) 1 = 1) := by
      rw [elb]
      by_cases q : who < 0
      · rw [if_pos q]
        have h15 : ∀ n : Nat, n < 4 → a_and (a_shr 15 n) 1 = 1 := by decide
        exact ⟨fun _ => Or.inl q, fun _ => h15 n (by omega)⟩
      · rw [if_neg q]
        exact ⟨fun z => Or.inr z, fun z => z.elim (fun y => absurd y q) id⟩
    have nx : ∀ (P : Prop), ((0 ≤ nmS s who n) ↔ P) → True := fun _ _ => trivial
    have skip' : ¬ 0 ≤ nmS s who n → AW d 0 0 mX12_findShortest Q 51 [some (.inr 116), some (.inl who), a2, some (.inl ((n : Int) + 1))] [] h := by
      intro hneg
      refine ih (n + 1) h A' (by omega) hM hA (hc.eq (fun j _ => ?_))
      constructor
      · rintro (q | q | q | ⟨i, hi, q⟩)
        · exact Or.inl q
        · exact Or.inr (Or.inl q)
        · exact Or.inr (Or.inr (Or.inl q))
        · refine Or.inr (Or.inr (Or.inr ⟨i, ?_, q⟩))
          by_cases e : i = n
          · subst e; exact absurd q.1 hneg
          · omega
      · rintro (q | q | q | ⟨i, hi, q⟩)
        · exact Or.inl q
        · exact Or.inr (Or.inl q)
        · exact Or.inr (Or.inr (Or.inl q))
        · exact Or.inr (Or.inr (Or.inr ⟨i, by omega, q⟩))
    refine AW.iload_n dX12_findShortest_51 rfl ?_
    refine AW.iconst dX12_findShortest_52 ?_
    refine AW.if_icmpge (tgt := 96) dX12_findShortest_53 (by decide) (fun c53 => absurd c53 (by omega)) (fun c53 => ?_)
    refine AW.aload_n dX12_findShortest_56 rfl ?_
    refine AW.iload_n dX12_findShortest_57 rfl ?_
    refine AW.cI2 (d' := d - 1) (cX12_164 rfl) okX12_learntBy dX12_findShortest_58 (by repeat (first | assumption | exact hset_eq _ _ _ | refine (hset_ne _ _ (by omega)).trans ?_)) (by omega) (W_learntBy (by assumption) (by omega) ?_)
    refine AW.iload_n dX12_findShortest_61 rfl ?_
    refine AW.ishr dX12_findShortest_62 ?_
    refine AW.iconst dX12_findShortest_63 ?_
    refine AW.iand dX12_findShortest_64 ?_
    refine AW.iconst dX12_findShortest_65 ?_
    refine AW.if_icmpne (tgt := 90) dX12_findShortest_66 (by decide) (fun c66 => ?_) (fun c66 => ?_)
    · refine AW.inc3 dX12_findShortest_90 (by decide) (by unfold RI; omega) ?_
      refine AW.goto (tgt := 51) dX12_findShortest_93 (by decide) ?_
      first
        | (refine skip' (fun q => ?_)
           rw [hbit] at c66
           unfold nmS at q
           rw [if_neg c66] at q
           exact absurd q (by decide))
        | (refine skip' (fun q => ?_)
           rw [hbit] at c66
           unfold nmS at q
           rw [if_pos c66] at q
           rw [e121] at c75
           omega)
        | (rw [hbit] at c66
           rw [e121] at c75 ⊢
           have en : nmS s who n = s_c s n := by unfold nmS; rw [if_pos c66]
           refine ih (n + 1) _ _ (by omega) (MR.s133 hM) (fun k hk => by rw [updA_ne _ _ hk]; exact hA k hk) ?_
           rw [updA_eq]
           refine hc.add (fun j _ => ?_)
           constructor
           · rintro (q | q | q | ⟨i, hi, q⟩)
             · exact Or.inl (Or.inl q)
             · exact Or.inl (Or.inr (Or.inl q))
             · exact Or.inl (Or.inr (Or.inr (Or.inl q)))
             · by_cases e : i = n
               · subst e
                 rw [en] at q
                 exact Or.inr (by omega)
               · exact Or.inl (Or.inr (Or.inr (Or.inr ⟨i, by omega, q⟩)))
           · rintro ((q | q | q | ⟨i, hi, q⟩) | q)
             · exact Or.inl q
             · exact Or.inr (Or.inl q)
             · exact Or.inr (Or.inr (Or.inl q))
             · exact Or.inr (Or.inr (Or.inr ⟨i, by omega, q⟩))
             · exact Or.inr (Or.inr (Or.inr ⟨n, by omega, by rw [en]; omega, by rw [en]; omega⟩)))
    · refine AW.aload_n dX12_findShortest_69 rfl ?_
      refine AW.getf dX12_findShortest_70 gX12_22 (by repeat (first | assumption | exact hset_eq _ _ _ | refine (hset_ne _ _ (by omega)).trans ?_)) rfl ?_
      refine AW.iload_n dX12_findShortest_73 rfl ?_
      refine AW.iaload dX12_findShortest_74 (by repeat (first | assumption | exact hset_eq _ _ _ | refine (hset_ne _ _ (by omega)).trans ?_)) (by omega) (by omega) ?_
      refine AW.iflt (tgt := 90) dX12_findShortest_75 (by decide) (fun c75 => ?_) (fun c75 => ?_)
      · refine AW.inc3 dX12_findShortest_90 (by decide) (by unfold RI; omega) ?_
        refine AW.goto (tgt := 51) dX12_findShortest_93 (by decide) ?_
        first
          | (refine skip' (fun q => ?_)
             rw [hbit] at c66
             unfold nmS at q
             rw [if_neg c66] at q
             exact absurd q (by decide))
          | (refine skip' (fun q => ?_)
             rw [hbit] at c66
             unfold nmS at q
             rw [if_pos c66] at q
             rw [e121] at c75
             omega)
          | (rw [hbit] at c66
             rw [e121] at c75 ⊢
             have en : nmS s who n = s_c s n := by unfold nmS; rw [if_pos c66]
             refine ih (n + 1) _ _ (by omega) (MR.s133 hM) (fun k hk => by rw [updA_ne _ _ hk]; exact hA k hk) ?_
             rw [updA_eq]
             refine hc.add (fun j _ => ?_)
             constructor
             · rintro (q | q | q | ⟨i, hi, q⟩)
               · exact Or.inl (Or.inl q)
               · exact Or.inl (Or.inr (Or.inl q))
               · exact Or.inl (Or.inr (Or.inr (Or.inl q)))
               · by_cases e : i = n
                 · subst e
                   rw [en] at q
                   exact Or.inr (by omega)
                 · exact Or.inl (Or.inr (Or.inr (Or.inr ⟨i, by omega, q⟩)))
             · rintro ((q | q | q | ⟨i, hi, q⟩) | q)
               · exact Or.inl q
               · exact Or.inr (Or.inl q)
               · exact Or.inr (Or.inr (Or.inl q))
               · exact Or.inr (Or.inr (Or.inr ⟨i, by omega, q⟩))
               · exact Or.inr (Or.inr (Or.inr ⟨n, by omega, by rw [en]; omega, by rw [en]; omega⟩)))
      · refine AW.aload_n dX12_findShortest_78 rfl ?_
        refine AW.getf dX12_findShortest_79 gX12_58 (by repeat (first | assumption | exact hset_eq _ _ _ | refine (hset_ne _ _ (by omega)).trans ?_)) rfl ?_
        refine AW.aload_n dX12_findShortest_82 rfl ?_
        refine AW.getf dX12_findShortest_83 gX12_22 (by repeat (first | assumption | exact hset_eq _ _ _ | refine (hset_ne _ _ (by omega)).trans ?_)) rfl ?_
        refine AW.iload_n dX12_findShortest_86 rfl ?_
        refine AW.iaload dX12_findShortest_87 (by repeat (first | assumption | exact hset_eq _ _ _ | refine (hset_ne _ _ (by omega)).trans ?_)) (by omega) (by omega) ?_
        refine AW.iconst dX12_findShortest_88 ?_
        refine AW.iastore dX12_findShortest_89 (by omega) (by repeat (first | assumption | exact hset_eq _ _ _ | refine (hset_ne _ _ (by omega)).trans ?_)) (by rw [e121] at c75 ⊢; omega) (by rw [e121] at c75 ⊢; omega) ?_
        refine AW.inc3 dX12_findShortest_90 (by decide) (by unfold RI; omega) ?_
        refine AW.goto (tgt := 51) dX12_findShortest_93 (by decide) ?_
        first
          | (refine skip' (fun q => ?_)
             rw [hbit] at c66
             unfold nmS at q
             rw [if_neg c66] at q
             exact absurd q (by decide))
          | (refine skip' (fun q => ?_)
             rw [hbit] at c66
             unfold nmS at q
             rw [if_pos c66] at q
             rw [e121] at c75
             omega)
          | (rw [hbit] at c66
             rw [e121] at c75 ⊢
             have en : nmS s who n = s_c s n := by unfold nmS; rw [if_pos c66]
             refine ih (n + 1) _ _ (by omega) (MR.s133 hM) (fun k hk => by rw [updA_ne _ _ hk]; exact hA k hk) ?_
             rw [updA_eq]
             refine hc.add (fun j _ => ?_)
             constructor
             · rintro (q | q | q | ⟨i, hi, q⟩)
               · exact Or.inl (Or.inl q)
               · exact Or.inl (Or.inr (Or.inl q))
               · exact Or.inl (Or.inr (Or.inr (Or.inl q)))
               · by_cases e : i = n
                 · subst e
                   rw [en] at q
                   exact Or.inr (by omega)
                 · exact Or.inl (Or.inr (Or.inr (Or.inr ⟨i, by omega, q⟩)))
             · rintro ((q | q | q | ⟨i, hi, q⟩) | q)
               · exact Or.inl q
               · exact Or.inr (Or.inl q)
               · exact Or.inr (Or.inr (Or.inl q))
               · exact Or.inr (Or.inr (Or.inr ⟨i, by omega, q⟩))
               · exact Or.inr (Or.inr (Or.inr ⟨n, by omega, by rw [en]; omega, by rw [en]; omega⟩)))
theorem W_findShortest (hM : MR h0 h m A) (hS : MSC m A s) (ok : scOK s) (hd : 4 ≤ d) (h1 : -1 ≤ who) (h2 : who < s_n s) (hm : more ≤ 255)
    (hq : ∀ h' m' A', MR h0 h' m' A' → T2 m m' A A' → CST s who more (A' 133) → Q none h') : MW d 0 0 mX12_findShortest [.inr 116, .inl who, .inl more] h Q := by
  have h5 := ok.1
  obtain ⟨⟨k0, k5⟩, g0, g9⟩ := kkS_b ok h2
  obtain ⟨ek, eg, -⟩ := nm_lf hS ok h1 h2
  have fin : ∀ (h' : AH) (A' : Nat → Nat → Int) (z : Option AV), MR h0 h' m A' → (∀ k, k ≠ 133 → A' k = A k) → LC (A' 133) (fun j => lvS s who more (j : Int)) → AW d 0 0 mX12_findShortest Q 107 [some (.inr 116), some (.inl who), some (.inl more), z] [] h' := by
    intro h' A' z hM' hA' hc
    obtain ⟨g116, -⟩ := id hM'
    have hb : ∀ j, j < 256 → 1 ≤ A' 133 j ∧ A' 133 j ≤ 1000 := fun j hj => by
      by_cases q : lvS s who more (j : Int)
      · rw [(hc j hj).1 q]; decide
      · rw [(hc j hj).2 q]; decide
    refine AW.aload_n dX12_findShortest_107 rfl ?_
    refine AW.iconst dX12_findShortest_108 ?_
    refine AW.putf dX12_findShortest_109 pX12_204 (by repeat (first | assumption | exact hset_eq _ _ _ | refine (hset_ne _ _ (by omega)).trans ?_)) (Or.inr rfl) ?_
    refine L_fs5 (m := m) (A := A) (k := kkS s who) (g := ggS s who) (lv := lvS s who more) hd (by omega) g0 g9 ek eg (fun h2 m2 A2 hM2 hT2 b2 r2 l2 c2 => ?_) ((sumN 256 (A' 133)).toNat + 1) _ (updI m 26 1) A' (by omega) (MR.p rfl hM') ⟨fun k hk => updI_ne _ _ hk, hA'⟩ hb (fun j hj hlt => ?_) (fun j hj hl => (hc j hj).1 hl) (fun f0 => absurd f0 (by rw [updI_eq]; decide))
    · exact hq h2 m2 A2 hM2 hT2 (CST_of ok (by assumption) hm b2 r2 l2 c2)
    · by_cases q : lvS s who more (j : Int)
      · rw [(hc j hj).1 q]
        exact RS.leaf q
      · rw [(hc j hj).2 q] at hlt
        omega
  show AW d 0 0 mX12_findShortest Q 0 [some (.inr 116), some (.inl who), some (.inl more), none] [] h
  refine AW.iconst dX12_findShortest_0 ?_
  refine AW.ist3 dX12_findShortest_1 (by decide) ?_
  refine L_fs1 (m := m) (A := A) (fun h1 A1 z1 hM1 hA1 hc1 => ?_) 256 0 h A rfl hM (fun _ _ => rfl) (fun i hi => absurd hi (Nat.not_lt_zero _))
  refine AW.iconst dX12_findShortest_24 ?_
  refine AW.ist3 dX12_findShortest_25 (by decide) ?_
  refine L_fs2 (m := m) (A := A) hd (by omega) (fun h2 A2 z2 hM2 hA2 hc2 => ?_) 3 0 h1 A1 rfl hM1 hA1 (hc1.eq (fun j _ => ⟨fun q => by omega, fun q => q.elim⟩))
  refine AW.iconst dX12_findShortest_49 ?_
  refine AW.ist3 dX12_findShortest_50 (by decide) ?_
  refine L_fs3 (m := m) (A := A) (s := s) hS ok hd (by assumption) (by assumption) (fun h3 A3 z3 hM3 hA3 hc3 => ?_) 4 0 h2 A2 rfl hM2 hA2 (hc2.eq (fun j _ => by
    constructor
    · rintro (q | q | q | ⟨i, hi, -⟩)
      · exact Or.inl q
      · exact Or.inr (Or.inl q)
      · exact Or.inr (Or.inr q)
      · omega
    · rintro (q | q | q)
      · exact Or.inl q
      · exact Or.inr (Or.inl q)
      · exact Or.inr (Or.inr (Or.inl q))))
  obtain ⟨g116, -, -, -, -, -, -, -, -, -, -, -, -, -, -, -, -, g133, -⟩ := id hM3
  refine AW.iload_n dX12_findShortest_96 rfl ?_
  refine AW.iflt (tgt := 107) dX12_findShortest_97 (by decide) (fun c97 => ?_) (fun c97 => ?_)
  · first
      | (refine fin h3 A3 _ hM3 hA3 (hc3.eq (fun j _ => ?_))
         unfold lvS
         constructor
         · rintro (q | q | q | q | ⟨q, -⟩)
           · exact Or.inl q
           · exact Or.inr (Or.inl q)
           · exact Or.inr (Or.inr (Or.inl q))
           · exact Or.inr (Or.inr (Or.inr (Or.inl q)))
           · omega
         · rintro (q | q | q | q | ⟨q, -⟩)
           · exact Or.inl q
           · exact Or.inr (Or.inl q)
           · exact Or.inr (Or.inr (Or.inl q))
           · exact Or.inr (Or.inr (Or.inr (Or.inl q)))
           · omega)
      | (refine fin _ _ _ (MR.s133 hM3) (fun k hk => by rw [updA_ne _ _ hk]; exact hA3 k hk) ?_
         rw [updA_eq]
         refine hc3.add (fun j _ => ?_)
         unfold lvS
         constructor
         · rintro (q | q | q | q | ⟨-, q⟩)
           · exact Or.inl (Or.inl q)
           · exact Or.inl (Or.inr (Or.inl q))
           · exact Or.inl (Or.inr (Or.inr (Or.inl q)))
           · exact Or.inl (Or.inr (Or.inr (Or.inr (Or.inl q))))
           · exact Or.inr (by omega)
         · rintro ((q | q | q | q | ⟨q, -⟩) | q)
           · exact Or.inl q
           · exact Or.inr (Or.inl q)
           · exact Or.inr (Or.inr (Or.inl q))
           · exact Or.inr (Or.inr (Or.inr (Or.inl q)))
           · omega
           · exact Or.inr (Or.inr (Or.inr (Or.inr ⟨by omega, by omega⟩))))
  · refine AW.aload_n dX12_findShortest_100 rfl ?_
    refine AW.getf dX12_findShortest_101 gX12_58 (by repeat (first | assumption | exact hset_eq _ _ _ | refine (hset_ne _ _ (by omega)).trans ?_)) rfl ?_
    refine AW.iload_n dX12_findShortest_104 rfl ?_
    refine AW.iconst dX12_findShortest_105 ?_
    refine AW.iastore dX12_findShortest_106 (by omega) (by repeat (first | assumption | exact hset_eq _ _ _ | refine (hset_ne _ _ (by omega)).trans ?_)) (by omega) (by omega) ?_
    first
      | (refine fin h3 A3 _ hM3 hA3 (hc3.eq (fun j _ => ?_))
         unfold lvS
         constructor
         · rintro (q | q | q | q | ⟨q, -⟩)
           · exact Or.inl q
           · exact Or.inr (Or.inl q)
           · exact Or.inr (Or.inr (Or.inl q))
           · exact Or.inr (Or.inr (Or.inr (Or.inl q)))
           · omega
         · rintro (q | q | q | q | ⟨q, -⟩)
           · exact Or.inl q
           · exact Or.inr (Or.inl q)
           · exact Or.inr (Or.inr (Or.inl q))
           · exact Or.inr (Or.inr (Or.inr (Or.inl q)))
           · omega)
      | (refine fin _ _ _ (MR.s133 hM3) (fun k hk => by rw [updA_ne _ _ hk]; exact hA3 k hk) ?_
         rw [updA_eq]
         refine hc3.add (fun j _ => ?_)
         unfold lvS
         constructor
         · rintro (q | q | q | q | ⟨-, q⟩)
           · exact Or.inl (Or.inl q)
           · exact Or.inl (Or.inr (Or.inl q))
           · exact Or.inl (Or.inr (Or.inr (Or.inl q)))
           · exact Or.inl (Or.inr (Or.inr (Or.inr (Or.inl q))))
           · exact Or.inr (by omega)
         · rintro ((q | q | q | q | ⟨q, -⟩) | q)
           · exact Or.inl q
           · exact Or.inr (Or.inl q)
           · exact Or.inr (Or.inr (Or.inl q))
           · exact Or.inr (Or.inr (Or.inr (Or.inl q)))
           · omega
           · exact Or.inr (Or.inr (Or.inr (Or.inr ⟨by omega, by omega⟩))))
theorem W_shortestOf {more : Int} (hM : MR h0 h m A) (hC : CST s who more (A 133)) (hx : in8 x) (hq : Q (some (.inl (shS s who more x))) h) : MW d 0 0 mX12_shortestOf [.inr 116, .inl x] h Q := by
  obtain ⟨g116, -, -, -, -, -, -, -, -, -, -, -, -, -, -, -, -, g133, -⟩ := id hM
  have hx2 : 0 ≤ x ∧ x ≤ 255 := hx
  have hc := hC.sh (j := x.toNat) (by omega)
  rw [show ((x.toNat : Nat) : Int) = x by omega] at hc
  show AW d 0 0 mX12_shortestOf Q 0 [some (.inr 116), some (.inl x)] [] h
  refine AW.aload_n dX12_shortestOf_0 rfl ?_
  refine AW.getf dX12_shortestOf_1 gX12_58 (by repeat (first | assumption | exact hset_eq _ _ _ | refine (hset_ne _ _ (by omega)).trans ?_)) rfl ?_
  refine AW.iload_n dX12_shortestOf_4 rfl ?_
  refine AW.iaload dX12_shortestOf_5 (by repeat (first | assumption | exact hset_eq _ _ _ | refine (hset_ne _ _ (by omega)).trans ?_)) (by omega) (by omega) ?_
  refine AW.sipush dX12_shortestOf_6 ?_
  refine AW.if_icmpne (tgt := 17) dX12_shortestOf_9 (by decide) (fun c9 => ?_) (fun c9 => ?_)
  · refine AW.aload_n dX12_shortestOf_17 rfl ?_
    refine AW.getf dX12_shortestOf_18 gX12_58 (by repeat (first | assumption | exact hset_eq _ _ _ | refine (hset_ne _ _ (by omega)).trans ?_)) rfl ?_
    refine AW.iload_n dX12_shortestOf_21 rfl ?_
    refine AW.iaload dX12_shortestOf_22 (by repeat (first | assumption | exact hset_eq _ _ _ | refine (hset_ne _ _ (by omega)).trans ?_)) (by omega) (by omega) ?_
    refine AW.ireturn dX12_shortestOf_23 rfl ?_
    first
      | (rcases hc with ⟨e1, e2⟩ | ⟨e1, e2, e3⟩
         · rw [e2] at hq; exact hq
         · omega)
      | (rcases hc with ⟨e1, e2⟩ | ⟨e1, e2, e3⟩
         · omega
         · rw [e1]; exact hq)
  · refine AW.bipush dX12_shortestOf_12 ?_
    refine AW.goto (tgt := 23) dX12_shortestOf_14 (by decide) ?_
    refine AW.ireturn dX12_shortestOf_23 rfl ?_
    first
      | (rcases hc with ⟨e1, e2⟩ | ⟨e1, e2, e3⟩
         · rw [e2] at hq; exact hq
         · omega)
      | (rcases hc with ⟨e1, e2⟩ | ⟨e1, e2, e3⟩
         · omega
         · rw [e1]; exact hq)
theorem W_shortest (hM : MS h0 h S) (hd : 5 ≤ d) (hq : ∀ r S' h', (r, S') = o_shortest S x y → MS h0 h' S' → Q (some (.inl r)) h') : MW d 0 0 mX12_shortest [.inr 116, .inl x, .inl y] h Q := by
  obtain ⟨m, A, hM, hP, ok⟩ := hM
  obtain ⟨g116, -⟩ := id hM
  obtain ⟨⟨q1, q2, q3⟩, p2⟩ := id hP
  show AW d 0 0 mX12_shortest Q 0 [some (.inr 116), some (.inl x), some (.inl y), none] [] h
  refine AW.aload_n dX12_shortest_0 rfl ?_
  refine AW.iload_n dX12_shortest_1 rfl ?_
  refine AW.cI2 (d' := d - 1) (cX12_195 rfl) okX12_isWho dX12_shortest_2 (by repeat (first | assumption | exact hset_eq _ _ _ | refine (hset_ne _ _ (by omega)).trans ?_)) (by omega) (W_isWho (by assumption) (fun c2 c2b => ?_) (fun c2 => ?_))
  · refine AW.ifne_t (tgt := 12) dX12_shortest_5 (by decide) (by decide) ?_
    refine AW.iload_n dX12_shortest_12 rfl ?_
    refine AW.iconst dX12_shortest_13 ?_
    refine AW.sipush dX12_shortest_14 ?_
    refine AW.cS3 (d' := d - 1) (cX12_75 rfl) okX12_bound dX12_shortest_17 (by omega) (W_bound (fun c17 => ?_) (fun c17 c17b => ?_) (fun c17 c17b => ?_))
    · refine AW.ist3 dX12_shortest_20 (by decide) ?_
      refine AW.iload_n dX12_shortest_21 rfl ?_
      refine AW.ifeq_f (tgt := 31) dX12_shortest_22 (by decide) (by decide) ?_
      refine AW.aload_n dX12_shortest_25 rfl ?_
      refine AW.iload_n dX12_shortest_26 rfl ?_
      refine AW.cI2 (d' := d - 1) (cX12_82 rfl) okX12_no dX12_shortest_27 (by repeat (first | assumption | exact hset_eq _ _ _ | refine (hset_ne _ _ (by omega)).trans ?_)) (by omega) (W_no (by assumption) (by decide) (by decide) (fun h27 hM => ?_))
      refine AW.ireturn dX12_shortest_30 rfl ?_
      first | exact hq (-1) (rf S 1) _ (by unfold o_shortest; rw [if_pos (by omega)]) (ms_rf hM hP ok) | exact hq (-4) (rf S 4) _ (by unfold o_shortest; rw [if_neg (by omega), if_pos (by omega)]) (ms_rf hM hP ok) | exact hq (-6) (rf S 6) _ (by unfold o_shortest; rw [if_neg (by omega), if_neg (by omega), if_pos (by omega)]) (ms_rf hM hP ok)
    · refine AW.ist3 dX12_shortest_20 (by decide) ?_
      refine AW.iload_n dX12_shortest_21 rfl ?_
      refine AW.ifeq_f (tgt := 31) dX12_shortest_22 (by decide) (by decide) ?_
      refine AW.aload_n dX12_shortest_25 rfl ?_
      refine AW.iload_n dX12_shortest_26 rfl ?_
      refine AW.cI2 (d' := d - 1) (cX12_82 rfl) okX12_no dX12_shortest_27 (by repeat (first | assumption | exact hset_eq _ _ _ | refine (hset_ne _ _ (by omega)).trans ?_)) (by omega) (W_no (by assumption) (by decide) (by decide) (fun h27 hM => ?_))
      refine AW.ireturn dX12_shortest_30 rfl ?_
      first | exact hq (-1) (rf S 1) _ (by unfold o_shortest; rw [if_pos (by omega)]) (ms_rf hM hP ok) | exact hq (-4) (rf S 4) _ (by unfold o_shortest; rw [if_neg (by omega), if_pos (by omega)]) (ms_rf hM hP ok) | exact hq (-6) (rf S 6) _ (by unfold o_shortest; rw [if_neg (by omega), if_neg (by omega), if_pos (by omega)]) (ms_rf hM hP ok)
    · refine AW.ist3 dX12_shortest_20 (by decide) ?_
      refine AW.iload_n dX12_shortest_21 rfl ?_
      refine AW.ifeq_t (tgt := 31) dX12_shortest_22 (by decide) rfl ?_
      refine AW.aload_n dX12_shortest_31 rfl ?_
      refine AW.iload_n dX12_shortest_32 rfl ?_
      refine AW.bipush dX12_shortest_33 ?_
      refine AW.cI3 (d' := d - 1) (cX12_214 rfl) okX12_findShortest dX12_shortest_35 (by repeat (first | assumption | exact hset_eq _ _ _ | refine (hset_ne _ _ (by omega)).trans ?_)) (by omega) (W_findShortest hM hP.1 ok.1 (by omega) (by omega) (by omega) (by decide) (fun h1 m1 A1 hM1 t1 hC1 => ?_))
      refine AW.aload_n dX12_shortest_38 rfl ?_
      refine AW.iload_n dX12_shortest_39 rfl ?_
      refine AW.cI2 (d' := d - 1) (cX12_217 rfl) okX12_shortestOf dX12_shortest_40 hM1.1 (by omega) (W_shortestOf hM1 hC1 ⟨by omega, by omega⟩ ?_)
      refine AW.ireturn dX12_shortest_43 rfl ?_
      exact hq _ S _ (by unfold o_shortest; rw [if_neg (by omega), if_neg (by omega), if_neg (by omega)]) (ms_sq hM1 t1.sq hP ok)
  · refine AW.ifne_f (tgt := 12) dX12_shortest_5 (by decide) rfl ?_
    refine AW.iconst dX12_shortest_8 ?_
    refine AW.goto (tgt := 20) dX12_shortest_9 (by decide) ?_
    refine AW.ist3 dX12_shortest_20 (by decide) ?_
    refine AW.iload_n dX12_shortest_21 rfl ?_
    refine AW.ifeq_f (tgt := 31) dX12_shortest_22 (by decide) (by decide) ?_
    refine AW.aload_n dX12_shortest_25 rfl ?_
    refine AW.iload_n dX12_shortest_26 rfl ?_
    refine AW.cI2 (d' := d - 1) (cX12_82 rfl) okX12_no dX12_shortest_27 (by repeat (first | assumption | exact hset_eq _ _ _ | refine (hset_ne _ _ (by omega)).trans ?_)) (by omega) (W_no (by assumption) (by decide) (by decide) (fun h27 hM => ?_))
    refine AW.ireturn dX12_shortest_30 rfl ?_
    first | exact hq (-1) (rf S 1) _ (by unfold o_shortest; rw [if_pos (by omega)]) (ms_rf hM hP ok) | exact hq (-4) (rf S 4) _ (by unfold o_shortest; rw [if_neg (by omega), if_pos (by omega)]) (ms_rf hM hP ok) | exact hq (-6) (rf S 6) _ (by unfold o_shortest; rw [if_neg (by omega), if_neg (by omega), if_pos (by omega)]) (ms_rf hM hP ok)
end Mod14

