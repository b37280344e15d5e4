section Mod19
variable {d : Nat} {Q : Option AV → AH → Prop} {h h0 : AH} {m : Nat → Int} {A : Nat → Nat → Int} {who x y z v : Int} {S : ST} {s : SC}
theorem mol_p32 (m : Nat → Int) (X : Int) : (mol m).set 32 (.inl X) = mol (updI m 32 X) := rfl
theorem W_draw {n : Int} (hM : MR h0 h m A) (hn : 0 < n) (hn6 : n ≤ 6) (hq : ∀ h' v, MR h0 h' (updI m 32 (lcg (m 32))) A → v = dv (lcg (m 32)) n → Q (some (.inl v)) h') : MW d 0 0 mX12_draw [.inr 116, .inl n] h Q := by
  obtain ⟨g116, -⟩ := id hM
  have nz : ¬ Int32.ofInt n = 0 := by
    intro q
    have q2 := congrArg Int32.toInt q
    rw [ri_back ⟨by omega, by omega⟩] at q2
    exact absurd q2 (by show n ≠ 0; omega)
  simp only [lcg_eq, dv_eq] at hq
  show AW d 0 0 mX12_draw Q 0 [some (.inr 116), some (.inl n)] [] h
  refine AW.aload_n dX12_draw_0 rfl ?_
  refine AW.aload_n dX12_draw_1 rfl ?_
  refine AW.getf dX12_draw_2 gX12_248 (by repeat (first | assumption | exact hset_eq _ _ _ | refine (hset_ne _ _ (by omega)).trans ?_)) rfl ?_
  refine AW.ldc (n := 1103515245) dX12_draw_5 kX12_251 (by constructor <;> decide) ?_
  refine AW.imul dX12_draw_7 ?_
  refine AW.sipush dX12_draw_8 ?_
  refine AW.iadd dX12_draw_11 ?_
  refine AW.putf dX12_draw_12 pX12_248 (by repeat (first | assumption | exact hset_eq _ _ _ | refine (hset_ne _ _ (by omega)).trans ?_)) trivial ?_
  refine AW.aload_n dX12_draw_15 rfl ?_
  refine AW.getf dX12_draw_16 gX12_248 (by repeat (first | assumption | exact hset_eq _ _ _ | refine (hset_ne _ _ (by omega)).trans ?_)) rfl ?_
  refine AW.ldc (n := 2147483647) dX12_draw_19 kX12_252 (by constructor <;> decide) ?_
  refine AW.iand dX12_draw_21 ?_
  refine AW.ldc (n := 65536) dX12_draw_22 kX12_253 (by constructor <;> decide) ?_
  refine AW.idiv dX12_draw_24 (by decide) ?_
  refine AW.iload_n dX12_draw_25 rfl ?_
  refine AW.irem dX12_draw_26 nz ?_
  refine AW.ireturn dX12_draw_27 rfl ?_
  exact hq _ _ (MR.p (mol_p32 m _) hM) rfl
theorem L_push {e p : Nat} {a3 a4 : Option AV} (he : e ≤ 3) (hp : p ≤ 2) :
    ∀ (r k n : Nat) (h : AH) (A : Nat → Nat → Int) (t : List Int), k + r = p → t.length = n → n + r ≤ 24 → MR h0 h m A → PR (A 132) t →
      (∀ h' A', MR h0 h' m A' → (∀ i, i ≠ 132 → A' i = A i) → PR (A' 132) (List.replicate r ((e : Int) + 1) ++ t) → AW d 0 0 mX12_draws Q 14 [some (.inr 116), some (.inl ((n + r : Nat) : Int)), some (.inl (e : Int)), a3, a4, some (.inl (p : Int)), some (.inl (p : Int))] [] h') →
      AW d 0 0 mX12_draws Q 114 [some (.inr 116), some (.inl (n : Int)), some (.inl (e : Int)), a3, a4, some (.inl (p : Int)), some (.inl (k : Int))] [] h := by
  intro r
  induction r with
  | zero =>
    intro k n h A t hk hn hn2 hM hP hq
    have := hq h A hM (fun _ _ => rfl) (by simpa using hP)
    obtain ⟨g116, -⟩ := id hM
    rw [show k = p by omega]
    refine AW.iload dX12_draws_114 rfl ?_
    refine AW.iload dX12_draws_116 rfl ?_
    refine AW.if_icmpge (tgt := 139) dX12_draws_118 (by decide) (fun c118 => ?_) (fun c118 => absurd c118 (by omega))
    refine AW.goto (tgt := 14) dX12_draws_139 (by decide) ?_
    exact this
  | succ r ih =>
    intro k n h A t hk hn hn2 hM hP hq
    obtain ⟨g116, -, -, -, -, -, -, -, -, -, -, -, -, -, -, -, g132, -⟩ := id hM
    refine AW.iload dX12_draws_114 rfl ?_
    refine AW.iload dX12_draws_116 rfl ?_
    refine AW.if_icmpge (tgt := 139) dX12_draws_118 (by decide) (fun c118 => absurd c118 (by omega)) (fun c118 => ?_)
    refine AW.aload_n dX12_draws_121 rfl ?_
    refine AW.getf dX12_draws_122 gX12_55 (by repeat (first | assumption | exact hset_eq _ _ _ | refine (hset_ne _ _ (by omega)).trans ?_)) rfl ?_
    refine AW.iload_n dX12_draws_125 rfl ?_
    refine AW.iload_n dX12_draws_126 rfl ?_
    refine AW.iconst dX12_draws_127 ?_
    refine AW.iaddR dX12_draws_128 (by unfold RI; omega) ?_
    refine AW.iastore dX12_draws_129 (by omega) (by repeat (first | assumption | exact hset_eq _ _ _ | refine (hset_ne _ _ (by omega)).trans ?_)) (by omega) (by omega) ?_
    refine AW.inc1 dX12_draws_130 (by decide) (by unfold RI; omega) ?_
    refine AW.inc6 dX12_draws_133 (by decide) (by unfold RI; omega) ?_
    refine AW.goto (tgt := 114) dX12_draws_136 (by decide) ?_
    have e1 : (n : Int).toNat = t.length := by omega
    refine ih (k + 1) (n + 1) _ _ (((e : Int) + 1) :: t) (by omega) (by simp [hn]) (by omega) (MR.s132 hM) (by rw [updA_eq]; exact hP.cons_at _ e1) (fun h' A' hM' hA' hP' => ?_)
    have e2 : n + 1 + r = n + (r + 1) := by omega
    rw [e2]
    refine hq h' A' hM' (fun i hi => by rw [hA' i hi, updA_ne _ _ hi]) ?_
    rw [show List.replicate (r + 1) ((e : Int) + 1) ++ t = List.replicate r ((e : Int) + 1) ++ ((e : Int) + 1) :: t by rw [List.replicate_succ']; simp]
    exact hP'
/-- while one draws -/
def TD (m m' : Nat → Int) (A A' : Nat → Nat → Int) : Prop := (∀ k, k ≠ 24 → k ≠ 32 → m' k = m k) ∧ ∀ k, k ≠ 131 → k ≠ 132 → A' k = A k
theorem wt_c (e : Nat) (t : List Nat) : wt (e :: t) = (2 ^ (4 - e) - 1) + wt t := rfl
def plI (t : List Nat) : List Int := t.map (fun e : Nat => (e : Int))
theorem wt_len {t : List Nat} (h : ∀ e ∈ t, e ≤ 3) : t.length ≤ wt t := by
  induction t with
  | nil => exact Nat.le_refl _
  | cons e t ih =>
    have h1 := ih (fun x hx => h x (List.mem_cons_of_mem _ hx))
    have h2 := h e List.mem_cons_self
    rw [wt_c, List.length_cons]
    have h4 : 2 ^ 1 ≤ 2 ^ (4 - e) := Nat.pow_le_pow_right (by decide) (by omega)
    omega
theorem wt_pow {e : Nat} (h : e < 3) : 2 ^ (4 - e) = 2 * 2 ^ (4 - (e + 1)) ∧ 2 ≤ 2 ^ (4 - (e + 1)) := by
  have h4 : 2 ^ 1 ≤ 2 ^ (4 - (e + 1)) := Nat.pow_le_pow_right (by decide) (by omega)
  refine ⟨?_, h4⟩
  rw [show 4 - e = (4 - (e + 1)) + 1 by omega, Nat.pow_succ]
  omega
theorem L_draws {full : List Nat} {zz : Int} (hfl : full.length ≤ 24)
    (hq : ∀ h' m' A', MR h0 h' m' A' → TD m m' A A' → m' 32 = zz → m' 24 = (full.length : Int) → (∀ j w : Nat, full[j]? = some w → A' 131 j = (w : Int)) → Q none h') (hd : 1 ≤ d) :
    ∀ (r : Nat) (t : List Nat) (c : List Nat) (h : AH) (m' : Nat → Int) (A' : Nat → Nat → Int) (a2 a3 a4 a5 a6 : Option AV), wt t ≤ r → r ≤ 15 → (∀ e ∈ t, e ≤ 3) → MR h0 h m' A' → TD m m' A A' → m' 24 = (c.length : Int) → (∀ j w : Nat, c[j]? = some w → A' 131 j = (w : Int)) → PR (A' 132) (plI t) → c ++ (drL t (m' 32)).1 = full → (drL t (m' 32)).2 = zz →
      AW d 0 0 mX12_draws Q 14 [some (.inr 116), some (.inl (t.length : Int)), a2, a3, a4, a5, a6] [] h := by
  intro r
  induction r with
  | zero =>
    intro t c h m' A' a2 a3 a4 a5 a6 hw hr h3 hM hT h24 hc hP hf hz
    have hl := wt_len h3
    have ht : t = [] := List.length_eq_zero_iff.mp (by omega)
    subst ht
    refine AW.iload_n dX12_draws_14 rfl ?_
    refine AW.ifle (tgt := 142) dX12_draws_15 (by decide) (fun c15 => ?_) (fun c15 => absurd c15 (by decide))
    refine AW.vreturn dX12_draws_142 rfl ?_
    have ef : full = c := by rw [← hf]; unfold drL; simp
    rw [ef] at hq
    exact hq h m' A' hM hT hz h24 hc
  | succ r ih =>
    intro t c h m' A' a2 a3 a4 a5 a6 hw hr h3 hM hT h24 hc hP hf hz
    have hl := wt_len h3
    cases t with
    | nil =>
      refine AW.iload_n dX12_draws_14 rfl ?_
      refine AW.ifle (tgt := 142) dX12_draws_15 (by decide) (fun c15 => ?_) (fun c15 => absurd c15 (by decide))
      refine AW.vreturn dX12_draws_142 rfl ?_
      have ef : full = c := by rw [← hf]; unfold drL; simp
      rw [ef] at hq
      exact hq h m' A' hM hT hz h24 hc
    | cons e t =>
      obtain ⟨g116, -, -, -, -, -, -, -, -, -, -, -, -, -, -, g131, g132, -⟩ := id hM
      have he3 : e ≤ 3 := h3 e List.mem_cons_self
      have ht3 : ∀ e ∈ t, e ≤ 3 := fun x hx => h3 x (List.mem_cons_of_mem _ hx)
      have htop : A' 132 t.length = (e : Int) := by
        have := PR.top (t := plI t) (x := (e : Int)) hP
        rw [show (plI t).length = t.length by simp [plI]] at this
        exact this
      have hPt : PR (A' 132) (plI t) := PR.tail hP
      rw [wt_c] at hw hl
      have htl : t.length ≤ 14 := by simp only [List.length_cons] at hl; omega
      have mid : ∀ (v p : Nat) (z1 : Int) (h1 : AH), MR h0 h1 (updI m' 32 z1) A' → v ≤ 5 → (p = 0 ∧ v < 3 ∨ p = 1 ∧ v = 3 ∧ e < 3 ∨ p = 2 ∧ 3 < v ∧ e < 3) → drL (e :: t) (m' 32) = ((if v < 3 then v else v + 4) :: (drL (List.replicate p (e + 1) ++ t) z1).1, (drL (List.replicate p (e + 1) ++ t) z1).2) → AW d 0 0 mX12_draws Q 47 [some (.inr 116), some (.inl (t.length : Int)), some (.inl (e : Int)), a3, a4, a5, a6] [.inl (v : Int)] h1 := by
        intro v p z1 h1 hM1 hv5 hp hdr
        obtain ⟨k116, -, -, -, -, -, -, -, -, -, -, -, -, -, -, k131, k132, -⟩ := id hM1
        rw [hdr] at hf hz
        have hcl : c.length + 1 ≤ full.length := by rw [← hf]; simp
        have h24' : updI m' 32 z1 24 = (c.length : Int) := h24
        have fin : ∀ (w : Int) (b3 b4 : Option AV), w = ((if v < 3 then v else v + 4 : Nat) : Int) → ∀ h2, MR h0 h2 (updI (updI m' 32 z1) 24 (updI m' 32 z1 24 + 1)) (updA A' 131 (updI (A' 131) (updI m' 32 z1 24).toNat w)) → AW d 0 0 mX12_draws Q 114 [some (.inr 116), some (.inl (t.length : Int)), some (.inl (e : Int)), b3, b4, some (.inl (p : Int)), some (.inl ((0 : Nat) : Int))] [] h2 := by
          intro w b3 b4 hww h2 hM2
          have hPl : (plI t).length = t.length := by simp [plI]
          refine L_push he3 (by omega) p 0 t.length h2 _ (plI t) (by omega) hPl (by omega) hM2 (by rw [updA_ne _ _ (by decide)]; exact hPt) (fun h3' A3 hM3 hA3 hP3 => ?_)
          have e1 : t.length + p = (List.replicate p (e + 1) ++ t).length := by simp; omega
          rw [e1]
          have e2 : List.replicate p ((e : Int) + 1) ++ plI t = plI (List.replicate p (e + 1) ++ t) := by simp [plI]
          rw [e2] at hP3
          refine ih _ (c ++ [if v < 3 then v else v + 4]) h3' _ A3 _ _ _ _ _ ?_ (by omega) ?_ hM3 ?_ ?_ ?_ hP3 ?_ ?_
          · rcases hp with ⟨rfl, -⟩ | ⟨rfl, -, q⟩ | ⟨rfl, -, q⟩
            · show wt t ≤ r
              have h4 : 2 ^ 1 ≤ 2 ^ (4 - e) := Nat.pow_le_pow_right (by decide) (by omega)
              omega
            · show wt ((e + 1) :: t) ≤ r
              have := wt_pow q
              rw [wt_c]
              omega
            · show wt ((e + 1) :: (e + 1) :: t) ≤ r
              have := wt_pow q
              rw [wt_c, wt_c]
              omega
          · intro x hx
            rcases List.mem_append.mp hx with q | q
            · have := List.eq_of_mem_replicate q
              have : 0 < p := by
                rcases Nat.eq_zero_or_pos p with q0 | q0
                · subst q0; simp at q
                · exact q0
              omega
            · exact ht3 x q
          · refine ⟨fun k k1 k2 => ?_, fun k k1 k2 => ?_⟩
            · rw [updI_ne _ _ k1, updI_ne _ _ k2]; exact hT.1 k k1 k2
            · rw [hA3 k k2, updA_ne _ _ k1]; exact hT.2 k k1 k2
          · rw [updI_eq, h24', List.length_append, List.length_singleton]; omega
          · intro j u hj
            rw [hA3 131 (by decide), updA_eq]
            rcases Nat.lt_or_ge j c.length with q | q
            · rw [List.getElem?_append_left q] at hj
              rw [updI_ne _ _ (by omega)]
              exact hc j u hj
            · rw [List.getElem?_append_right q] at hj
              have h5 := (List.getElem?_eq_some_iff.mp hj).1
              simp only [List.length_singleton] at h5
              rw [show j - c.length = 0 by omega] at hj
              cases hj
              rw [show (updI m' 32 z1 24).toNat = j by omega, updI_eq]
              exact hww
          · rw [← hf]
            show c ++ [_] ++ (drL (List.replicate p (e + 1) ++ t) z1).1 = _
            simp
          · exact hz
        refine AW.ist3 dX12_draws_47 (by decide) ?_
        refine AW.iload_n dX12_draws_48 rfl ?_
        refine AW.iconst dX12_draws_49 ?_
        refine AW.if_icmpge (tgt := 57) dX12_draws_50 (by decide) (fun c50 => ?_) (fun c50 => ?_)
        · refine AW.bipush dX12_draws_57 ?_
          refine AW.iload_n dX12_draws_59 rfl ?_
          refine AW.iaddR dX12_draws_60 (by unfold RI; omega) ?_
          refine AW.iconst dX12_draws_61 ?_
          refine AW.isubR dX12_draws_62 (by unfold RI; omega) ?_
          refine AW.ist4 dX12_draws_63 (by decide) ?_
          refine AW.aload_n dX12_draws_65 rfl ?_
          refine AW.getf dX12_draws_66 gX12_52 (by repeat (first | assumption | exact hset_eq _ _ _ | refine (hset_ne _ _ (by omega)).trans ?_)) rfl ?_
          refine AW.aload_n dX12_draws_69 rfl ?_
          refine AW.getf dX12_draws_70 gX12_118 (by repeat (first | assumption | exact hset_eq _ _ _ | refine (hset_ne _ _ (by omega)).trans ?_)) rfl ?_
          refine AW.iload dX12_draws_73 rfl ?_
          refine AW.iastore dX12_draws_75 (by omega) (by repeat (first | assumption | exact hset_eq _ _ _ | refine (hset_ne _ _ (by omega)).trans ?_)) (by omega) (by omega) ?_
          refine AW.aload_n dX12_draws_76 rfl ?_
          refine AW.dup dX12_draws_77 ?_
          refine AW.getf dX12_draws_78 gX12_118 (by repeat (first | assumption | exact hset_eq _ _ _ | refine (hset_ne _ _ (by omega)).trans ?_)) rfl ?_
          refine AW.iconst dX12_draws_81 ?_
          refine AW.iaddR dX12_draws_82 (by unfold RI; omega) ?_
          refine AW.putf dX12_draws_83 pX12_118 (by repeat (first | assumption | exact hset_eq _ _ _ | refine (hset_ne _ _ (by omega)).trans ?_)) trivial ?_
          refine AW.iload dX12_draws_86 rfl ?_
          refine AW.bipush dX12_draws_88 ?_
          refine AW.if_icmpge (tgt := 97) dX12_draws_90 (by decide) (fun c90 => ?_) (fun c90 => ?_)
          · refine AW.iload dX12_draws_97 rfl ?_
            refine AW.bipush dX12_draws_99 ?_
            refine AW.if_icmpne (tgt := 108) dX12_draws_101 (by decide) (fun c101 => ?_) (fun c101 => ?_)
            · refine AW.iconst dX12_draws_108 ?_
              refine AW.ist5 dX12_draws_109 (by decide) ?_
              refine AW.iconst dX12_draws_111 ?_
              refine AW.ist6 dX12_draws_112 (by decide) ?_
              first
                | (exfalso; omega)
                | (have ep : p = 0 := by omega
                   subst ep
                   exact fin _ _ _ (by rw [if_pos (by omega)]) _ (MR.p rfl (MR.s131 hM1)))
                | (have ep : p = 1 := by omega
                   subst ep
                   exact fin _ _ _ (by rw [if_neg (by omega)]; omega) _ (MR.p rfl (MR.s131 hM1)))
                | (have ep : p = 2 := by omega
                   subst ep
                   exact fin _ _ _ (by rw [if_neg (by omega)]; omega) _ (MR.p rfl (MR.s131 hM1)))
            · refine AW.iconst dX12_draws_104 ?_
              refine AW.goto (tgt := 109) dX12_draws_105 (by decide) ?_
              refine AW.ist5 dX12_draws_109 (by decide) ?_
              refine AW.iconst dX12_draws_111 ?_
              refine AW.ist6 dX12_draws_112 (by decide) ?_
              first
                | (exfalso; omega)
                | (have ep : p = 0 := by omega
                   subst ep
                   exact fin _ _ _ (by rw [if_pos (by omega)]) _ (MR.p rfl (MR.s131 hM1)))
                | (have ep : p = 1 := by omega
                   subst ep
                   exact fin _ _ _ (by rw [if_neg (by omega)]; omega) _ (MR.p rfl (MR.s131 hM1)))
                | (have ep : p = 2 := by omega
                   subst ep
                   exact fin _ _ _ (by rw [if_neg (by omega)]; omega) _ (MR.p rfl (MR.s131 hM1)))
          · refine AW.iconst dX12_draws_93 ?_
            refine AW.goto (tgt := 109) dX12_draws_94 (by decide) ?_
            refine AW.ist5 dX12_draws_109 (by decide) ?_
            refine AW.iconst dX12_draws_111 ?_
            refine AW.ist6 dX12_draws_112 (by decide) ?_
            first
              | (exfalso; omega)
              | (have ep : p = 0 := by omega
                 subst ep
                 exact fin _ _ _ (by rw [if_pos (by omega)]) _ (MR.p rfl (MR.s131 hM1)))
              | (have ep : p = 1 := by omega
                 subst ep
                 exact fin _ _ _ (by rw [if_neg (by omega)]; omega) _ (MR.p rfl (MR.s131 hM1)))
              | (have ep : p = 2 := by omega
                 subst ep
                 exact fin _ _ _ (by rw [if_neg (by omega)]; omega) _ (MR.p rfl (MR.s131 hM1)))
        · refine AW.iload_n dX12_draws_53 rfl ?_
          refine AW.goto (tgt := 63) dX12_draws_54 (by decide) ?_
          refine AW.ist4 dX12_draws_63 (by decide) ?_
          refine AW.aload_n dX12_draws_65 rfl ?_
          refine AW.getf dX12_draws_66 gX12_52 (by repeat (first | assumption | exact hset_eq _ _ _ | refine (hset_ne _ _ (by omega)).trans ?_)) rfl ?_
          refine AW.aload_n dX12_draws_69 rfl ?_
          refine AW.getf dX12_draws_70 gX12_118 (by repeat (first | assumption | exact hset_eq _ _ _ | refine (hset_ne _ _ (by omega)).trans ?_)) rfl ?_
          refine AW.iload dX12_draws_73 rfl ?_
          refine AW.iastore dX12_draws_75 (by omega) (by repeat (first | assumption | exact hset_eq _ _ _ | refine (hset_ne _ _ (by omega)).trans ?_)) (by omega) (by omega) ?_
          refine AW.aload_n dX12_draws_76 rfl ?_
          refine AW.dup dX12_draws_77 ?_
          refine AW.getf dX12_draws_78 gX12_118 (by repeat (first | assumption | exact hset_eq _ _ _ | refine (hset_ne _ _ (by omega)).trans ?_)) rfl ?_
          refine AW.iconst dX12_draws_81 ?_
          refine AW.iaddR dX12_draws_82 (by unfold RI; omega) ?_
          refine AW.putf dX12_draws_83 pX12_118 (by repeat (first | assumption | exact hset_eq _ _ _ | refine (hset_ne _ _ (by omega)).trans ?_)) trivial ?_
          refine AW.iload dX12_draws_86 rfl ?_
          refine AW.bipush dX12_draws_88 ?_
          refine AW.if_icmpge (tgt := 97) dX12_draws_90 (by decide) (fun c90 => ?_) (fun c90 => ?_)
          · refine AW.iload dX12_draws_97 rfl ?_
            refine AW.bipush dX12_draws_99 ?_
            refine AW.if_icmpne (tgt := 108) dX12_draws_101 (by decide) (fun c101 => ?_) (fun c101 => ?_)
            · refine AW.iconst dX12_draws_108 ?_
              refine AW.ist5 dX12_draws_109 (by decide) ?_
              refine AW.iconst dX12_draws_111 ?_
              refine AW.ist6 dX12_draws_112 (by decide) ?_
              first
                | (exfalso; omega)
                | (have ep : p = 0 := by omega
                   subst ep
                   exact fin _ _ _ (by rw [if_pos (by omega)]) _ (MR.p rfl (MR.s131 hM1)))
                | (have ep : p = 1 := by omega
                   subst ep
                   exact fin _ _ _ (by rw [if_neg (by omega)]; omega) _ (MR.p rfl (MR.s131 hM1)))
                | (have ep : p = 2 := by omega
                   subst ep
                   exact fin _ _ _ (by rw [if_neg (by omega)]; omega) _ (MR.p rfl (MR.s131 hM1)))
            · refine AW.iconst dX12_draws_104 ?_
              refine AW.goto (tgt := 109) dX12_draws_105 (by decide) ?_
              refine AW.ist5 dX12_draws_109 (by decide) ?_
              refine AW.iconst dX12_draws_111 ?_
              refine AW.ist6 dX12_draws_112 (by decide) ?_
              first
                | (exfalso; omega)
                | (have ep : p = 0 := by omega
                   subst ep
                   exact fin _ _ _ (by rw [if_pos (by omega)]) _ (MR.p rfl (MR.s131 hM1)))
                | (have ep : p = 1 := by omega
                   subst ep
                   exact fin _ _ _ (by rw [if_neg (by omega)]; omega) _ (MR.p rfl (MR.s131 hM1)))
                | (have ep : p = 2 := by omega
                   subst ep
                   exact fin _ _ _ (by rw [if_neg (by omega)]; omega) _ (MR.p rfl (MR.s131 hM1)))
          · refine AW.iconst dX12_draws_93 ?_
            refine AW.goto (tgt := 109) dX12_draws_94 (by decide) ?_
            refine AW.ist5 dX12_draws_109 (by decide) ?_
            refine AW.iconst dX12_draws_111 ?_
            refine AW.ist6 dX12_draws_112 (by decide) ?_
            first
              | (exfalso; omega)
              | (have ep : p = 0 := by omega
                 subst ep
                 exact fin _ _ _ (by rw [if_pos (by omega)]) _ (MR.p rfl (MR.s131 hM1)))
              | (have ep : p = 1 := by omega
                 subst ep
                 exact fin _ _ _ (by rw [if_neg (by omega)]; omega) _ (MR.p rfl (MR.s131 hM1)))
              | (have ep : p = 2 := by omega
                 subst ep
                 exact fin _ _ _ (by rw [if_neg (by omega)]; omega) _ (MR.p rfl (MR.s131 hM1)))
      have e0 : (t.length : Int).toNat = t.length := by omega
      have eln : (((e :: t).length : Nat) : Int) + -1 = (t.length : Int) := by rw [List.length_cons]; omega
      have go3 : e = 3 → ∀ h1 (v : Int), MR h0 h1 (updI m' 32 (lcg (m' 32))) A' → v = dv (lcg (m' 32)) 3 → AW d 0 0 mX12_draws Q 47 [some (.inr 116), some (.inl (t.length : Int)), some (.inl (e : Int)), a3, a4, a5, a6] [.inl v] h1 := by
        intro q h1 v hM1 hv
        have hb := dv_b (lcg (m' 32)) (n := 3) (by decide) (by decide)
        have hdr := drL_3 t (m' 32)
        generalize lcg (m' 32) = z1 at *
        rw [← hv] at hb hdr
        have ev : v = ((v.toNat : Nat) : Int) := by omega
        rw [ev]
        refine mid v.toNat 0 z1 h1 hM1 (by omega) (Or.inl ⟨rfl, by omega⟩) ?_
        rw [if_pos (by omega), q]
        exact hdr
      have go6 : e < 3 → ∀ h1 (v : Int), MR h0 h1 (updI m' 32 (lcg (m' 32))) A' → v = dv (lcg (m' 32)) 6 → AW d 0 0 mX12_draws Q 47 [some (.inr 116), some (.inl (t.length : Int)), some (.inl (e : Int)), a3, a4, a5, a6] [.inl v] h1 := by
        intro q h1 v hM1 hv
        have hb := dv_b (lcg (m' 32)) (n := 6) (by decide) (by decide)
        have hdr := drL_lt q t (m' 32)
        generalize lcg (m' 32) = z1 at *
        rw [← hv] at hb hdr
        have ev : v = ((v.toNat : Nat) : Int) := by omega
        rw [ev]
        by_cases q3 : v.toNat < 3
        · refine mid v.toNat 0 z1 h1 hM1 (by omega) (Or.inl ⟨rfl, q3⟩) ?_
          rw [if_pos q3] at hdr ⊢
          exact hdr
        · rw [if_neg q3] at hdr
          by_cases q4 : v.toNat = 3
          · refine mid v.toNat 1 z1 h1 hM1 (by omega) (Or.inr (Or.inl ⟨rfl, q4, q⟩)) ?_
            rw [if_pos q4] at hdr
            rw [if_neg q3, q4]
            exact hdr
          · refine mid v.toNat 2 z1 h1 hM1 (by omega) (Or.inr (Or.inr ⟨rfl, by omega, q⟩)) ?_
            rw [if_neg q4] at hdr
            rw [if_neg q3]
            exact hdr
      refine AW.iload_n dX12_draws_14 rfl ?_
      refine AW.ifle (tgt := 142) dX12_draws_15 (by decide) (fun c15 => absurd c15 (by rw [List.length_cons]; omega)) (fun c15 => ?_)
      refine AW.inc1 dX12_draws_18 (by decide) (by unfold RI; omega) ?_
      rw [eln]
      refine AW.aload_n dX12_draws_21 rfl ?_
      refine AW.getf dX12_draws_22 gX12_55 (by repeat (first | assumption | exact hset_eq _ _ _ | refine (hset_ne _ _ (by omega)).trans ?_)) rfl ?_
      refine AW.iload_n dX12_draws_25 rfl ?_
      refine AW.iaload dX12_draws_26 (by repeat (first | assumption | exact hset_eq _ _ _ | refine (hset_ne _ _ (by omega)).trans ?_)) (by omega) (by omega) ?_
      rw [e0, htop]
      refine AW.ist2 dX12_draws_27 (by decide) ?_
      refine AW.iload_n dX12_draws_28 rfl ?_
      refine AW.iconst dX12_draws_29 ?_
      refine AW.if_icmpne (tgt := 41) dX12_draws_30 (by decide) (fun c30 => ?_) (fun c30 => ?_)
      · refine AW.aload_n dX12_draws_41 rfl ?_
        refine AW.bipush dX12_draws_42 ?_
        refine AW.cI2 (d' := d - 1) (cX12_254 rfl) okX12_draw dX12_draws_44 (by repeat (first | assumption | exact hset_eq _ _ _ | refine (hset_ne _ _ (by omega)).trans ?_)) (by omega) (W_draw hM (by decide) (by decide) (fun h1 v hM1 hv => ?_))
        first
          | exact go3 (by omega) _ _ hM1 hv
          | exact go6 (by omega) _ _ hM1 hv
      · refine AW.aload_n dX12_draws_33 rfl ?_
        refine AW.iconst dX12_draws_34 ?_
        refine AW.cI2 (d' := d - 1) (cX12_254 rfl) okX12_draw dX12_draws_35 (by repeat (first | assumption | exact hset_eq _ _ _ | refine (hset_ne _ _ (by omega)).trans ?_)) (by omega) (W_draw hM (by decide) (by decide) (fun h1 v hM1 hv => ?_))
        refine AW.goto (tgt := 47) dX12_draws_38 (by decide) ?_
        first
          | exact go3 (by omega) _ _ hM1 hv
          | exact go6 (by omega) _ _ hM1 hv
theorem drL_n (z : Int) : drL [] z = ([], z) := by rw [drL]
theorem drL_0 (z : Int) : drL [0] z = ((drw 3 z).1, (drw 3 z).2) := by
  rw [drL_c, Nat.sub_zero]
  generalize drw 3 z = D
  rw [drL_n, List.append_nil]
theorem W_draws (hM : MR h0 h m A) (hd : 2 ≤ d) (hq : ∀ h' m' A', MR h0 h' m' A' → TD m m' A A' → m' 32 = (drw 3 (m 32)).2 → m' 24 = ((drw 3 (m 32)).1.length : Int) → (∀ j w : Nat, (drw 3 (m 32)).1[j]? = some w → A' 131 j = (w : Int)) → Q none h') : MW d 0 0 mX12_draws [.inr 116] h Q := by
  obtain ⟨g116, -, -, -, -, -, -, -, -, -, -, -, -, -, -, -, g132, -⟩ := id hM
  have hl := drw_len 3 (m 32)
  have hM1 : MR h0 (hset h 116 (.inl (13, (mol m).set 24 (.inl 0)))) (updI m 24 0) A := MR.p rfl hM
  have e0 := drL_0 (m 32)
  have e32 : updI m 24 0 32 = m 32 := updI_ne _ _ (by decide)
  generalize drw 3 (m 32) = D at hq e0 hl
  show AW d 0 0 mX12_draws Q 0 [some (.inr 116), none, none, none, none, none, none] [] h
  refine AW.aload_n dX12_draws_0 rfl ?_
  refine AW.iconst dX12_draws_1 ?_
  refine AW.putf dX12_draws_2 pX12_118 (by repeat (first | assumption | exact hset_eq _ _ _ | refine (hset_ne _ _ (by omega)).trans ?_)) trivial ?_
  refine AW.aload_n dX12_draws_5 rfl ?_
  refine AW.getf dX12_draws_6 gX12_55 (by repeat (first | assumption | exact hset_eq _ _ _ | refine (hset_ne _ _ (by omega)).trans ?_)) rfl ?_
  refine AW.iconst dX12_draws_9 ?_
  refine AW.iconst dX12_draws_10 ?_
  refine AW.iastore dX12_draws_11 (by omega) (by repeat (first | assumption | exact hset_eq _ _ _ | refine (hset_ne _ _ (by omega)).trans ?_)) (by omega) (by omega) ?_
  refine AW.iconst dX12_draws_12 ?_
  refine AW.ist1 dX12_draws_13 (by decide) ?_
  refine L_draws (full := D.1) (zz := D.2) (by omega) hq (by omega) 15 [0] [] _ (updI m 24 0) _ _ _ _ _ _ (by decide) (by decide) (by decide) (MR.s132 hM1) ⟨fun k k1 k2 => updI_ne _ _ k1, fun k k1 k2 => updA_ne _ _ k2⟩ rfl (fun j w hj => by simp at hj) (by rw [updA_eq]; exact PR.cons_at (PR.nil _) 0 rfl) ?_ ?_
  · rw [e32, e0, List.nil_append]
  · rw [e32, e0]
end Mod19

