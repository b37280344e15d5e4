section Mod26
variable {d : Nat} {Q : Option AV → AH → Prop} {h h0 : AH} {m : Nat → Int} {A : Nat → Nat → Int} {x lt : Int} {L : List Int} {p c : Nat} {s : SC} {S : ST}
theorem RW.keep {m' : Nat → Int} {A' : Nat → Nat → Int} {i : Nat} {sm : SM} (hT : TW m m' A A' c) (hi : i ≠ c) (hR : RW L A i sm) : RW L A' i sm := by
  obtain ⟨t1, t2, t3, t4⟩ := hT
  unfold RW DT
  rw [(t3 i hi).1, (t3 i hi).2.1, (t3 i hi).2.2.1, (t3 i hi).2.2.2, t4 (2 * i) (by omega) (by omega), t4 (2 * i + 1) (by omega) (by omega)]
  exact hR
theorem RW.same {A' : Nat → Nat → Int} {i : Nat} {sm : SM} (h5 : A' 125 = A 125) (h6 : A' 126 = A 126) (h7 : A' 127 = A 127) (h8 : A' 128 = A 128) (h9 : A' 129 = A 129) (hR : RW L A i sm) : RW L A' i sm := by
  unfold RW DT
  rw [h5, h6, h7, h8, h9]
  exact hR
theorem allP_s (f : Nat) : allP L (f + 1) p = if (stP L p).1 = true then (if L.length ≤ (stP L p).2.1 then (true, (stP L p).2.1, [(stP L p).2.2]) else ((allP L f (stP L p).2.1).1, (allP L f (stP L p).2.1).2.1, (stP L p).2.2 :: (allP L f (stP L p).2.1).2.2)) else (false, (stP L p).2.1, []) := by rw [allP]
def smK (sm : SM) : Prop := smOK sm ∧ sm.2.1 ≤ 80
def T1 (m m' : Nat → Int) (A A' : Nat → Nat → Int) : Prop := (∀ k, k ≠ 16 → k ≠ 17 → m' k = m k) ∧ ∀ k, k < 125 ∨ 129 < k → A' k = A k
theorem L_sch1 {B : Bool} {E : Nat} {all : List SM} {a2 : Option AV} (hd : 6 ≤ d)
    (hq : ∀ h' m' A', MR h0 h' m' A' → T1 m m' A A' → m' 16 = (E : Int) → (B = true → m' 17 = (all.length : Int) ∧ all.length ≤ 27 ∧ ∀ i sm, all[i]? = some sm → RW L A' i sm ∧ smK sm) → AW d 0 0 mX12_school Q 60 [some (.inr 116), some (.inl (if B = true then 1 else 0)), a2] [] h') :
    ∀ (f p : Nat) (acc : List SM) (a1 : Option AV) (h : AH) (m' : Nat → Int) (A' : Nat → Nat → Int), MR h0 h m' A' → TP L m' A' p → p ≤ L.length → L.length ≤ p + f + 2 → 3 * acc.length ≤ p → T1 m m' A A' → m' 17 = (acc.length : Int) → (∀ i sm, acc[i]? = some sm → RW L A' i sm ∧ smK sm) → (allP L (f + 1) p).1 = B → (allP L (f + 1) p).2.1 = E → acc ++ (allP L (f + 1) p).2.2 = all →
      AW d 0 0 mX12_school Q 34 [some (.inr 116), a1, a2] [] h := by
  intro f
  induction f using Nat.strongRecOn with
  | _ f ih =>
    intro p acc a1 h m' A' hM hT hp hpf hac h1 h17 hac2 eB eE eA
    obtain ⟨g116, -⟩ := id hM
    have h80 := hT.2.1
    rw [allP_s] at eB eE eA
    refine AW.aload_n dX12_school_34 rfl ?_
    refine AW.cI1 (d' := d - 1) (cX12_131 rfl) okX12_statement dX12_school_35 (by repeat (first | assumption | exact hset_eq _ _ _ | refine (hset_ne _ _ (by omega)).trans ?_)) (by omega) (W_statement (L := L) (p := p) (c := acc.length) hM hT (by omega) h17 hp (by omega) (fun R eR h2 m2 A2 hM2 tw t16 hRW => ?_))
    have hpl := stP_pl (L := L) hp
    have hok := fun q => stP_ok (L := L) (p := p) q
    rw [eR] at eB eE eA hpl hok
    obtain ⟨k116, -⟩ := id hM2
    have e17 : m2 17 = (acc.length : Int) := (tw.1 17 (by decide)).trans h17
    have e15 : m2 15 = (L.length : Int) := (tw.1 15 (by decide)).trans hT.1
    by_cases hb : R.1 = true
    · rw [if_pos hb] at eB eE eA ⊢
      obtain ⟨o1, o2, o3, o4, o5⟩ := hok hb
      have hrw := hRW hb
      have hM3 : MR h0 (hset h2 116 (.inl (13, (mol m2).set 17 (.inl (m2 17 + 1))))) (updI m2 17 (m2 17 + 1)) A2 := MR.p rfl hM2
      have h13 : T1 m (updI m2 17 (m2 17 + 1)) A A2 := ⟨fun k q1 q2 => by rw [updI_ne _ _ q2, tw.1 k q1]; exact h1.1 k q1 q2, fun k q => by rw [tw.2.1 k q]; exact h1.2 k q⟩
      have hacc : ∀ i sm, (acc ++ [R.2.2])[i]? = some sm → RW L A2 i sm ∧ smK sm := by
        intro i sm hi
        rcases Nat.lt_or_ge i acc.length with q | q
        · rw [List.getElem?_append_left q] at hi
          exact ⟨RW.keep tw (by omega) (hac2 i sm hi).1, (hac2 i sm hi).2⟩
        · rw [List.getElem?_append_right q] at hi
          have h5 := (List.getElem?_eq_some_iff.mp hi).1
          simp only [List.length_singleton] at h5
          rw [show i - acc.length = 0 by omega] at hi
          cases hi
          rw [show i = acc.length by omega]
          exact ⟨hrw, o1, by rw [o3]; omega⟩
      have hl1 : (acc ++ [R.2.2]).length = acc.length + 1 := by simp
      have e17' : updI m2 17 (m2 17 + 1) 17 = ((acc ++ [R.2.2]).length : Int) := by rw [updI_eq, hl1]; omega
      have e16' : updI m2 17 (m2 17 + 1) 16 = (R.2.1 : Int) := by rw [updI_ne _ _ (by decide)]; exact t16
      have e15' : updI m2 17 (m2 17 + 1) 15 = (L.length : Int) := by rw [updI_ne _ _ (by decide)]; exact e15
      obtain ⟨j116, -⟩ := id hM3
      refine AW.ist1 dX12_school_38 (by decide) ?_
      refine AW.aload_n dX12_school_39 rfl ?_
      refine AW.dup dX12_school_40 ?_
      refine AW.getf dX12_school_41 gX12_97 (by repeat (first | assumption | exact hset_eq _ _ _ | refine (hset_ne _ _ (by omega)).trans ?_)) rfl ?_
      refine AW.iload_n dX12_school_44 rfl ?_
      refine AW.ifeq_f (tgt := 52) dX12_school_45 (by decide) (by decide) ?_
      refine AW.iconst dX12_school_48 ?_
      refine AW.goto (tgt := 53) dX12_school_49 (by decide) ?_
      refine AW.iaddR dX12_school_53 (by unfold RI; omega) ?_
      refine AW.putf dX12_school_54 pX12_97 (by repeat (first | assumption | exact hset_eq _ _ _ | refine (hset_ne _ _ (by omega)).trans ?_)) trivial ?_
      refine AW.goto (tgt := 12) dX12_school_57 (by decide) ?_
      by_cases hend : L.length ≤ R.2.1
      · rw [if_pos hend] at eB eE eA
        have eA' : acc ++ [R.2.2] = all := eA
        have eE' : R.2.1 = E := eE
        have fin := hq _ _ _ hM3 h13 (by rw [e16']; exact congrArg _ eE') (fun _ => ⟨by rw [e17', eA'], by rw [← eA', hl1]; omega, by rw [← eA']; exact hacc⟩)
        rw [if_pos eB.symm] at fin
        refine AW.iload_n dX12_school_12 rfl ?_
        refine AW.ifeq (tgt := 60) dX12_school_13 (by decide) (fun c13 => absurd c13 (by decide)) (fun c13 => ?_)
        refine AW.aload_n dX12_school_16 rfl ?_
        refine AW.getf dX12_school_17 gX12_86 (by repeat (first | assumption | exact hset_eq _ _ _ | refine (hset_ne _ _ (by omega)).trans ?_)) rfl ?_
        refine AW.aload_n dX12_school_20 rfl ?_
        refine AW.getf dX12_school_21 gX12_79 (by repeat (first | assumption | exact hset_eq _ _ _ | refine (hset_ne _ _ (by omega)).trans ?_)) rfl ?_
        refine AW.if_icmplt (tgt := 34) dX12_school_24 (by decide) (fun c24 => absurd c24 (by omega)) (fun c24 => ?_)
        refine AW.aload_n dX12_school_27 rfl ?_
        refine AW.getf dX12_school_28 gX12_97 (by repeat (first | assumption | exact hset_eq _ _ _ | refine (hset_ne _ _ (by omega)).trans ?_)) rfl ?_
        refine AW.ifne (tgt := 60) dX12_school_31 (by decide) (fun c31 => ?_) (fun c31 => absurd c31 (by omega))
        exact fin
      · rw [if_neg hend] at eB eE eA
        obtain ⟨g, rfl⟩ : ∃ g, f = g + 1 := ⟨f - 1, by omega⟩
        have nx := ih g (by omega) R.2.1 (acc ++ [R.2.2]) (some (.inl 1)) _ _ _ hM3 (hT.sq (e15'.trans hT.1.symm) (tw.2.1 124 (by decide)) e16') hpl (by omega) (by rw [hl1]; omega) h13 e17' hacc eB eE (by rw [List.append_assoc]; exact eA)
        refine AW.iload_n dX12_school_12 rfl ?_
        refine AW.ifeq (tgt := 60) dX12_school_13 (by decide) (fun c13 => absurd c13 (by decide)) (fun c13 => ?_)
        refine AW.aload_n dX12_school_16 rfl ?_
        refine AW.getf dX12_school_17 gX12_86 (by repeat (first | assumption | exact hset_eq _ _ _ | refine (hset_ne _ _ (by omega)).trans ?_)) rfl ?_
        refine AW.aload_n dX12_school_20 rfl ?_
        refine AW.getf dX12_school_21 gX12_79 (by repeat (first | assumption | exact hset_eq _ _ _ | refine (hset_ne _ _ (by omega)).trans ?_)) rfl ?_
        refine AW.if_icmplt (tgt := 34) dX12_school_24 (by decide) (fun c24 => ?_) (fun c24 => absurd c24 (by omega))
        exact nx
    · rw [if_neg hb] at eB eE eA ⊢
      have hM3 : MR h0 (hset h2 116 (.inl (13, (mol m2).set 17 (.inl (m2 17 + 0))))) (updI m2 17 (m2 17 + 0)) A2 := MR.p rfl hM2
      have eE' : R.2.1 = E := eE
      have h13 : T1 m (updI m2 17 (m2 17 + 0)) A A2 := ⟨fun k q1 q2 => by rw [updI_ne _ _ q2, tw.1 k q1]; exact h1.1 k q1 q2, fun k q => by rw [tw.2.1 k q]; exact h1.2 k q⟩
      have eB' : false = B := eB
      have fin := hq _ _ _ hM3 h13 (by rw [updI_ne _ _ (by decide), t16]; exact congrArg _ eE') (fun q => by rw [← eB'] at q; cases q)
      rw [if_neg (by rw [← eB']; decide)] at fin
      refine AW.ist1 dX12_school_38 (by decide) ?_
      refine AW.aload_n dX12_school_39 rfl ?_
      refine AW.dup dX12_school_40 ?_
      refine AW.getf dX12_school_41 gX12_97 (by repeat (first | assumption | exact hset_eq _ _ _ | refine (hset_ne _ _ (by omega)).trans ?_)) rfl ?_
      refine AW.iload_n dX12_school_44 rfl ?_
      refine AW.ifeq_t (tgt := 52) dX12_school_45 (by decide) rfl ?_
      refine AW.iconst dX12_school_52 ?_
      refine AW.iaddR dX12_school_53 (by unfold RI; omega) ?_
      refine AW.putf dX12_school_54 pX12_97 (by repeat (first | assumption | exact hset_eq _ _ _ | refine (hset_ne _ _ (by omega)).trans ?_)) trivial ?_
      refine AW.goto (tgt := 12) dX12_school_57 (by decide) ?_
      refine AW.iload_n dX12_school_12 rfl ?_
      refine AW.ifeq (tgt := 60) dX12_school_13 (by decide) (fun c13 => ?_) (fun c13 => absurd rfl c13)
      exact fin
theorem trF_c (s : SC) (sm : SM) (t : List SM) : trF s (sm :: t) = match cmS s sm with
    | none => (some sm.2.1, s)
    | some s' => trF s' t := rfl
theorem L_sch2 {all : List SM} {s0 : SC} {a1 : Option AV} (hd : 6 ≤ d) (hL : TL L A) (hall : all.length ≤ 27) (hRW : ∀ i sm, all[i]? = some sm → RW L A i sm ∧ smK sm) (h17 : m 17 = (all.length : Int)) (hK : KSC (A 130) 160 s0) (ok0 : scOK s0)
    (hq1 : ∀ s' h' m' A', (none, s') = trF s0 all → MR h0 h' m' A' → MSC m' A' s' → scOK s' → TC m m' A A' → Q (some (.inl (all.length : Int))) h')
    (hq0 : ∀ q s' h' m' A', (some q, s') = trF s0 all → MR h0 h' m' A' → MSC m' A' s0 → (∀ k, k ≠ 7 → k ≠ 8 → k ≠ 20 → k ≠ 21 → k ≠ 24 → m' k = m k) → (∀ k, k < 118 ∨ 123 < k → k ≠ 131 → k ≠ 132 → A' k = A k) → Q (some (.inl (-2000 - (q : Int)))) h') :
    ∀ (r i : Nat) (s : SC) (h : AH) (m' : Nat → Int) (A' : Nat → Nat → Int), i + r = all.length → MR h0 h m' A' → MSC m' A' s → scOK s → TC m m' A A' → trF s (all.drop i) = trF s0 all →
      AW d 0 0 mX12_school Q 86 [some (.inr 116), a1, some (.inl (i : Int))] [] h := by
  intro r
  induction r with
  | zero =>
    intro i s h m' A' hi hM hS ok hT he
    obtain ⟨g116, -⟩ := id hM
    have e17 : m' 17 = (all.length : Int) := (hT.1 17 (by decide) (by decide) (by decide)).trans h17
    rw [List.drop_of_length_le (by omega)] at he
    refine AW.iload_n dX12_school_86 rfl ?_
    refine AW.aload_n dX12_school_87 rfl ?_
    refine AW.getf dX12_school_88 gX12_97 (by repeat (first | assumption | exact hset_eq _ _ _ | refine (hset_ne _ _ (by omega)).trans ?_)) rfl ?_
    refine AW.if_icmpge (tgt := 128) dX12_school_91 (by decide) (fun c91 => ?_) (fun c91 => absurd c91 (by omega))
    refine AW.aload_n dX12_school_128 rfl ?_
    refine AW.getf dX12_school_129 gX12_97 (by repeat (first | assumption | exact hset_eq _ _ _ | refine (hset_ne _ _ (by omega)).trans ?_)) rfl ?_
    refine AW.ireturn dX12_school_132 rfl ?_
    rw [e17]
    exact hq1 s h m' A' he hM hS ok hT
  | succ r ih =>
    intro i s h m' A' hi hM hS ok hT he
    obtain ⟨g116, -, -, -, -, -, -, -, -, -, g126, -⟩ := id hM
    have e17 : m' 17 = (all.length : Int) := (hT.1 17 (by decide) (by decide) (by decide)).trans h17
    obtain ⟨sm, hsm⟩ : ∃ sm, all[i]? = some sm := ⟨_, List.getElem?_eq_getElem (by omega)⟩
    have hdr : all.drop i = sm :: all.drop (i + 1) := by
      obtain ⟨hk, he⟩ := List.getElem?_eq_some_iff.mp hsm
      rw [List.drop_eq_getElem_cons hk, he]
    rw [hdr, trF_c] at he
    obtain ⟨w1, w2, hps⟩ := hRW i sm hsm
    have hb : ∀ k, k < 118 ∨ 123 < k → k ≠ 131 → k ≠ 132 → A' k = A k := hT.2
    have w3 : RW L A' i sm := RW.same (hb 125 (by decide) (by decide) (by decide)) (hb 126 (by decide) (by decide) (by decide)) (hb 127 (by decide) (by decide) (by decide)) (hb 128 (by decide) (by decide) (by decide)) (hb 129 (by decide) (by decide) (by decide)) w1
    have hL' : TL L A' := by unfold TL; rw [hb 124 (by decide) (by decide) (by decide)]; exact hL
    refine AW.iload_n dX12_school_86 rfl ?_
    refine AW.aload_n dX12_school_87 rfl ?_
    refine AW.getf dX12_school_88 gX12_97 (by repeat (first | assumption | exact hset_eq _ _ _ | refine (hset_ne _ _ (by omega)).trans ?_)) rfl ?_
    refine AW.if_icmpge (tgt := 128) dX12_school_91 (by decide) (fun c91 => absurd c91 (by omega)) (fun c91 => ?_)
    refine AW.aload_n dX12_school_94 rfl ?_
    refine AW.iload_n dX12_school_95 rfl ?_
    refine AW.cI2 (d' := d - 1) (cX12_138 rfl) okX12_comes dX12_school_96 (by repeat (first | assumption | exact hset_eq _ _ _ | refine (hset_ne _ _ (by omega)).trans ?_)) (by omega) (W_comes hM hS ok hL' w3 w2 (by omega) (by omega) (fun hn => ?_) (fun s' h' m2 A2 hn hM2 hS2 hT2 => ?_))
    · rw [hn] at he
      refine AW.ifeq_t (tgt := 105) dX12_school_99 (by decide) rfl ?_
      refine AW.aload_n dX12_school_105 rfl ?_
      refine AW.iconst dX12_school_106 ?_
      refine AW.iconst dX12_school_107 ?_
      refine AW.cI3 (d' := d - 1) (cX12_134 rfl) okX12_passesAll dX12_school_108 (by repeat (first | assumption | exact hset_eq _ _ _ | refine (hset_ne _ _ (by omega)).trans ?_)) (by omega) (W_back (w := 1) (by decide) hM (by omega) (fun h1 m1 A1 hM1 e1 k1 K1 => ?_))
      obtain ⟨k116, -, -, -, -, -, -, -, -, -, k126, -⟩ := id hM1
      have e126 : A1 126 ((i : Int)).toNat = (sm.2.1 : Int) := by rw [k1 126 (by decide), show ((i : Int)).toNat = i by omega]; exact w3.2.1
      have hS1 : MSC m1 A1 s0 := Kept.to (b := 160) K1 ok0 (by rw [hb 130 (by decide) (by decide) (by decide)]; exact hK)
      refine AW.sipush dX12_school_111 ?_
      refine AW.aload_n dX12_school_114 rfl ?_
      refine AW.getf dX12_school_115 gX12_37 (by repeat (first | assumption | exact hset_eq _ _ _ | refine (hset_ne _ _ (by omega)).trans ?_)) rfl ?_
      refine AW.iload_n dX12_school_118 rfl ?_
      refine AW.iaload dX12_school_119 (by repeat (first | assumption | exact hset_eq _ _ _ | refine (hset_ne _ _ (by omega)).trans ?_)) (by omega) (by omega) ?_
      rw [e126]
      refine AW.isubR dX12_school_120 (by unfold RI; omega) ?_
      refine AW.ireturn dX12_school_121 rfl ?_
      exact hq0 sm.2.1 s _ m1 A1 he hM1 hS1 (fun k q1 q2 q3 q4 q5 => by rw [e1 k q1 q2 q3 q4]; exact hT.1 k q1 q2 q5) (fun k q1 q2 q3 => by rw [k1 k q1]; exact hb k q1 q2 q3)
    · rw [hn] at he
      have nx := ih (i + 1) s' h' m2 A2 (by omega) hM2 hS2 (cmS_ok ok w2 hn) (hT.trans hT2) he
      refine AW.ifeq_f (tgt := 105) dX12_school_99 (by decide) (by decide) ?_
      refine AW.goto (tgt := 122) dX12_school_102 (by decide) ?_
      refine AW.inc2 dX12_school_122 (by decide) (by unfold RI; omega) ?_
      refine AW.goto (tgt := 86) dX12_school_125 (by decide) ?_
      exact nx
theorem W_school (hM : MS h0 h S) (hd : 6 ≤ d) (hq : ∀ r S' h', (r, S') = o_school S → MS h0 h' S' → Q (some (.inl r)) h') : MW d 0 0 mX12_school [.inr 116] h Q := by
  obtain ⟨m, A, hR, hP, ok⟩ := id hM
  obtain ⟨g116, -⟩ := id hR
  obtain ⟨p1, p2, p3, p4, p5, p6, p7⟩ := id hP
  obtain ⟨k1, k2, k3, k4, k5⟩ := id ok
  have hM1 : MR h0 (hset h 116 (.inl (13, (mol m).set 16 (.inl 0)))) (updI m 16 0) A := MR.p rfl hR
  have hM2 : MR h0 (hset (hset h 116 (.inl (13, (mol m).set 16 (.inl 0)))) 116 (.inl (13, (mol (updI m 16 0)).set 17 (.inl 0)))) (updI (updI m 16 0) 17 0) A := MR.p rfl hM1
  obtain ⟨j116, -⟩ := id hM1
  obtain ⟨i116, -⟩ := id hM2
  have eo : ∀ B E all, allP S.2.2.1 80 0 = (B, E, all) → o_school S = if B = true then (match trF S.1 all with
    | (some p, _) => (-2000 - (p : Int), (S.1, S.2.1, [], S.2.2.2))
    | (none, s) => ((all.length : Int), (s, S.2.1, [], S.2.2.2))) else (-1000 - (E : Int), (S.1, S.2.1, [], S.2.2.2)) := fun B E all e => by unfold o_school; rw [e]; rfl
  obtain ⟨B, E, all, e⟩ : ∃ B E all, allP S.2.2.1 80 0 = (B, E, all) := ⟨_, _, _, rfl⟩
  have eo := eo B E all e
  have start : ∀ a1, AW d 0 0 mX12_school Q 34 [some (.inr 116), a1, none] [] (hset (hset h 116 (.inl (13, (mol m).set 16 (.inl 0)))) 116 (.inl (13, (mol (updI m 16 0)).set 17 (.inl 0)))) := by
    intro a1
    refine L_sch1 (L := S.2.2.1) (B := B) (E := E) (all := all) (m := updI (updI m 16 0) 17 0) (A := A) (by omega) (fun h3 m3 A3 hM3 hT3 e16 hB => ?_) 79 0 [] a1 _ _ _ hM2 ⟨p3, k3, p4, k4, rfl⟩ (Nat.zero_le _) (by omega) (Nat.le_refl _) ⟨fun _ _ _ => rfl, fun _ _ => rfl⟩ rfl (fun i sm hi => by simp at hi) (by rw [e]) (by rw [e]) (by rw [e]; rfl)
    obtain ⟨l116, -⟩ := id hM3
    have em : ∀ k, k ≠ 16 → k ≠ 17 → m3 k = m k := fun k q1 q2 => by rw [hT3.1 k q1 q2, updI_ne _ _ q2, updI_ne _ _ q1]
    have eA : ∀ k, k < 125 ∨ 129 < k → A3 k = A k := hT3.2
    have hS3 : MSC m3 A3 S.1 := by
      unfold MSC
      rw [em 7 (by decide) (by decide), em 8 (by decide) (by decide), eA 118 (by decide), eA 119 (by decide), eA 120 (by decide), eA 121 (by decide), eA 122 (by decide), eA 123 (by decide)]
      exact p1
    have hM4 : MR h0 (hset h3 116 (.inl (13, (mol m3).set 15 (.inl 0)))) (updI m3 15 0) A3 := MR.p rfl hM3
    have em4 : ∀ k, k ≠ 15 → k ≠ 16 → k ≠ 17 → updI m3 15 0 k = m k := fun k q0 q1 q2 => by rw [updI_ne _ _ q0]; exact em k q1 q2
    obtain ⟨n116, -⟩ := id hM4
    have okL : ∀ s, scOK s → stOK (s, S.2.1, [], S.2.2.2) := fun s hs => ⟨hs, k2, Nat.zero_le _, fun x hx => by simp at hx, k5⟩
    have hE : E ≤ 80 := by
      have hh : ∀ (f q : Nat), q ≤ S.2.2.1.length → (allP S.2.2.1 f q).2.1 ≤ S.2.2.1.length := by
        intro f
        induction f with
        | zero => intro q hq; exact hq
        | succ f ih =>
          intro q hq
          rw [allP_s]
          have := stP_pl hq
          split
          · split
            · exact this
            · exact ih _ this
          · exact this
      have := hh 80 0 (Nat.zero_le _)
      rw [e] at this
      have t2 : E ≤ S.2.2.1.length := this
      omega
    have hBc : B = true ∨ B = false := by cases B <;> simp
    rcases hBc with hb | hb
    · rw [if_pos hb]
      rw [if_pos hb] at eo
      obtain ⟨b1, b2, b3⟩ := hB hb
      refine AW.aload_n dX12_school_60 rfl ?_
      refine AW.iconst dX12_school_61 ?_
      refine AW.putf dX12_school_62 pX12_79 (by repeat (first | assumption | exact hset_eq _ _ _ | refine (hset_ne _ _ (by omega)).trans ?_)) trivial ?_
      refine AW.iload_n dX12_school_65 rfl ?_
      refine AW.ifne (tgt := 78) dX12_school_66 (by decide) (fun c66 => ?_) (fun c66 => absurd c66 (by decide))
      refine AW.aload_n dX12_school_78 rfl ?_
      refine AW.iconst dX12_school_79 ?_
      refine AW.iconst dX12_school_80 ?_
      refine AW.cI3 (d' := d - 1) (cX12_134 rfl) okX12_passesAll dX12_school_81 (by repeat (first | assumption | exact hset_eq _ _ _ | refine (hset_ne _ _ (by omega)).trans ?_)) (by omega) (W_keep (w := 1) (by decide) hM4 (by omega) (fun h5 m5 A5 hM5 e5 f5 g5 K5 => ?_))
      refine AW.iconst dX12_school_84 ?_
      refine AW.ist2 dX12_school_85 (by decide) ?_
      have em5 : ∀ k, k ≠ 15 → k ≠ 16 → k ≠ 17 → k ≠ 20 → k ≠ 21 → m5 k = m k := fun k q0 q1 q2 q3 q4 => by rw [e5 k q3 q4]; exact em4 k q0 q1 q2
      have hK : KSC (A5 130) 160 S.1 := Kept.of (m := m3) (b := 160) K5 k1 hS3
      have hS5 : MSC m5 A5 S.1 := by
        unfold MSC
        rw [em5 7 (by decide) (by decide) (by decide) (by decide) (by decide), em5 8 (by decide) (by decide) (by decide) (by decide) (by decide), f5 118 (by decide), f5 119 (by decide), f5 120 (by decide), f5 121 (by decide), f5 122 (by decide), f5 123 (by decide)]
        rw [eA 118 (by decide), eA 119 (by decide), eA 120 (by decide), eA 121 (by decide), eA 122 (by decide), eA 123 (by decide)]
        exact p1
      have hL5 : TL S.2.2.1 A5 := by unfold TL; rw [f5 124 (by decide), eA 124 (by decide)]; exact ⟨k3, p4, k4⟩
      have him : ∀ (m6 : Nat → Int) (A6 : Nat → Nat → Int), m6 19 = m5 19 → A6 130 = A5 130 → MIm m6 (A6 130) S.2.1 := by
        intro m6 A6 q1 q2
        have q3 : m6 19 = m 19 := q1.trans (em5 19 (by decide) (by decide) (by decide) (by decide) (by decide))
        have q4 : ∀ j, j < 160 → A6 130 j = A 130 j := fun j hj => by rw [q2, g5 j (Or.inl (by omega)), eA 130 (by decide)]
        unfold MIm at p2 ⊢
        cases hi : S.2.1 with
        | none => rw [hi] at p2; exact q3.trans p2
        | some s1 =>
          rw [hi] at p2
          refine ⟨q3.trans p2.1, ?_⟩
          obtain ⟨u1, u2, u3, u4, u5, u6⟩ := p2.2
          have oks := k2 s1 hi
          have o1 := oks.1
          have o2 := oks.2.1
          refine ⟨?_, ?_, fun i hi => ?_, fun i hi => ?_, fun i hi => ?_, fun i hi j w hj => ?_⟩
          · rw [q4 _ (by omega)]; exact u1
          · rw [q4 _ (by omega)]; exact u2
          · rw [q4 _ (by omega), q4 _ (by omega), q4 _ (by omega)]; exact u3 i hi
          · rw [q4 _ (by omega)]; exact u4 i hi
          · rw [q4 _ (by omega)]; exact u5 i hi
          · have := (oks.2.2.2.2 i hi).2
            have := (List.getElem?_eq_some_iff.mp hj).1
            rw [q4 _ (by omega)]; exact u6 i hi j w hj
      have fin : ∀ (s' : SC) (h6 : AH) (m6 : Nat → Int) (A6 : Nat → Nat → Int), scOK s' → MR h0 h6 m6 A6 → MSC m6 A6 s' → m6 15 = m5 15 → m6 19 = m5 19 → m6 31 = m5 31 → A6 117 = A5 117 → A6 130 = A5 130 → A6 135 = A5 135 → MS h0 h6 (s', S.2.1, [], S.2.2.2) := by
        intro s' h6 m6 A6 ok6 hM6 hS6 q15 q19 q31 q117 q130 q135
        refine ⟨m6, A6, hM6, ⟨hS6, him m6 A6 q19 q130, ?_, fun i x hi => by simp at hi, ?_, ?_, ?_⟩, okL s' ok6⟩
        · rw [q15, e5 15 (by decide) (by decide)]; rfl
        · rw [q31, em5 31 (by decide) (by decide) (by decide) (by decide) (by decide)]; exact p5
        · rw [q135, f5 135 (by decide), eA 135 (by decide)]; exact p6
        · rw [q117, f5 117 (by decide), eA 117 (by decide)]; exact p7
      refine L_sch2 (L := S.2.2.1) (A := A5) (m := m5) (s0 := S.1) (by omega) hL5 b2 (fun i sm hi => ⟨RW.same (f5 125 (by decide)) (f5 126 (by decide)) (f5 127 (by decide)) (f5 128 (by decide)) (f5 129 (by decide)) (b3 i sm hi).1, (b3 i sm hi).2⟩) ?_ hK k1 (fun s' h6 m6 A6 et hM6 hS6 ok6 hT6 => ?_) (fun q s' h6 m6 A6 et hM6 hS6 hm6 hA6 => ?_) all.length 0 S.1 _ m5 A5 (by omega) hM5 hS5 k1 ⟨fun _ _ _ _ => rfl, fun _ _ _ _ => rfl⟩ rfl
      · rw [e5 17 (by decide) (by decide), updI_ne _ _ (by decide)]; exact b1
      · rw [← et] at eo
        exact hq _ _ _ eo.symm (fin s' h6 m6 A6 ok6 hM6 hS6 (hT6.1 15 (by decide) (by decide) (by decide)) (hT6.1 19 (by decide) (by decide) (by decide)) (hT6.1 31 (by decide) (by decide) (by decide)) (hT6.2 117 (by decide) (by decide) (by decide)) (hT6.2 130 (by decide) (by decide) (by decide)) (hT6.2 135 (by decide) (by decide) (by decide)))
      · rw [← et] at eo
        exact hq _ _ _ eo.symm (fin S.1 h6 m6 A6 k1 hM6 hS6 (hm6 15 (by decide) (by decide) (by decide) (by decide) (by decide)) (hm6 19 (by decide) (by decide) (by decide) (by decide) (by decide)) (hm6 31 (by decide) (by decide) (by decide) (by decide) (by decide)) (hA6 117 (by decide) (by decide) (by decide)) (hA6 130 (by decide) (by decide) (by decide)) (hA6 135 (by decide) (by decide) (by decide)))
    · rw [if_neg (by rw [hb]; decide)]
      rw [if_neg (by rw [hb]; decide)] at eo
      have e16' : updI m3 15 0 16 = (E : Int) := by rw [updI_ne _ _ (by decide)]; exact e16
      refine AW.aload_n dX12_school_60 rfl ?_
      refine AW.iconst dX12_school_61 ?_
      refine AW.putf dX12_school_62 pX12_79 (by repeat (first | assumption | exact hset_eq _ _ _ | refine (hset_ne _ _ (by omega)).trans ?_)) trivial ?_
      refine AW.iload_n dX12_school_65 rfl ?_
      refine AW.ifne (tgt := 78) dX12_school_66 (by decide) (fun c66 => absurd rfl c66) (fun c66 => ?_)
      refine AW.sipush dX12_school_69 ?_
      refine AW.aload_n dX12_school_72 rfl ?_
      refine AW.getf dX12_school_73 gX12_86 (by repeat (first | assumption | exact hset_eq _ _ _ | refine (hset_ne _ _ (by omega)).trans ?_)) rfl ?_
      refine AW.isubR dX12_school_76 (by unfold RI; omega) ?_
      refine AW.ireturn dX12_school_77 rfl ?_
      rw [e16']
      refine hq _ _ _ eo.symm ⟨_, _, hM4, ⟨hS3, ?_, rfl, fun i x hi => by simp at hi, ?_, ?_, ?_⟩, okL S.1 k1⟩
      · unfold MIm at p2 ⊢
        rw [em4 19 (by decide) (by decide) (by decide), eA 130 (by decide)]
        exact p2
      · rw [em4 31 (by decide) (by decide) (by decide)]; exact p5
      · rw [eA 135 (by decide)]; exact p6
      · rw [eA 117 (by decide)]; exact p7
  show AW d 0 0 mX12_school Q 0 [some (.inr 116), none, none] [] h
  refine AW.aload_n dX12_school_0 rfl ?_
  refine AW.iconst dX12_school_1 ?_
  refine AW.putf dX12_school_2 pX12_86 (by repeat (first | assumption | exact hset_eq _ _ _ | refine (hset_ne _ _ (by omega)).trans ?_)) trivial ?_
  refine AW.aload_n dX12_school_5 rfl ?_
  refine AW.iconst dX12_school_6 ?_
  refine AW.putf dX12_school_7 pX12_97 (by repeat (first | assumption | exact hset_eq _ _ _ | refine (hset_ne _ _ (by omega)).trans ?_)) trivial ?_
  refine AW.iconst dX12_school_10 ?_
  refine AW.ist1 dX12_school_11 (by decide) ?_
  refine AW.iload_n dX12_school_12 rfl ?_
  refine AW.ifeq_f (tgt := 60) dX12_school_13 (by decide) (by decide) ?_
  refine AW.aload_n dX12_school_16 rfl ?_
  refine AW.getf dX12_school_17 gX12_86 (by repeat (first | assumption | exact hset_eq _ _ _ | refine (hset_ne _ _ (by omega)).trans ?_)) rfl ?_
  refine AW.aload_n dX12_school_20 rfl ?_
  refine AW.getf dX12_school_21 gX12_79 (by repeat (first | assumption | exact hset_eq _ _ _ | refine (hset_ne _ _ (by omega)).trans ?_)) rfl ?_
  refine AW.if_icmplt (tgt := 34) dX12_school_24 (by decide) (fun c24 => ?_) (fun c24 => ?_)
  · exact start _
  · refine AW.aload_n dX12_school_27 rfl ?_
    refine AW.getf dX12_school_28 gX12_97 (by repeat (first | assumption | exact hset_eq _ _ _ | refine (hset_ne _ _ (by omega)).trans ?_)) rfl ?_
    refine AW.ifne (tgt := 60) dX12_school_31 (by decide) (fun c31 => absurd rfl c31) (fun c31 => ?_)
    exact start _
end Mod26

