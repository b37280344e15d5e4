section Mod6
variable {d : Nat} {Q : Option AV → AH → Prop} {h h0 : AH} {m : Nat → Int} {A : Nat → Nat → Int} {who x y z v : Int} {S : ST} {s : SC}
theorem W_doesBeat {a b : Nat} (hM : MR h0 h m A) (hS : MSC m A s) (ok : scOK s) (hd : 5 ≤ d) (h1 : -1 ≤ who) (h2 : who < s_n s) (ha : a < s_h s) (hb : b < s_h s)
    (hq1 : btS s who a b → ∀ h' m' A', MR h0 h' m' A' → T3 m m' A A' → Q (some (.inl 1)) h') (hq0 : ¬ btS s who a b → ∀ h' m' A', MR h0 h' m' A' → T3 m m' A A' → Q (some (.inl 0)) h') : MW d 0 0 mX12_doesBeat [.inr 116, .inl who, .inl (a : Int), .inl (b : Int)] h Q := by
  obtain ⟨g116, g117, g118, g119, g120, g121, g122, -⟩ := id hM
  have h6 := ok.2.1
  have ea := hS.2.2.2.2.1 a ha
  have eb := hS.2.2.2.2.1 b hb
  have na : ((a : Int)).toNat = a := by omega
  have nb : ((b : Int)).toNat = b := by omega
  show AW d 0 0 mX12_doesBeat Q 0 [some (.inr 116), some (.inl who), some (.inl (a : Int)), some (.inl (b : Int))] [] h
  refine AW.aload_n dX12_doesBeat_0 rfl ?_
  refine AW.getf dX12_doesBeat_1 gX12_25 (by repeat (first | assumption | exact hset_eq _ _ _ | refine (hset_ne _ _ (by omega)).trans ?_)) rfl ?_
  refine AW.iload_n dX12_doesBeat_4 rfl ?_
  refine AW.iaload dX12_doesBeat_5 (by repeat (first | assumption | exact hset_eq _ _ _ | refine (hset_ne _ _ (by omega)).trans ?_)) (by omega) (by omega) ?_
  refine AW.aload_n dX12_doesBeat_6 rfl ?_
  refine AW.getf dX12_doesBeat_7 gX12_25 (by repeat (first | assumption | exact hset_eq _ _ _ | refine (hset_ne _ _ (by omega)).trans ?_)) rfl ?_
  refine AW.iload_n dX12_doesBeat_10 rfl ?_
  refine AW.iaload dX12_doesBeat_11 (by repeat (first | assumption | exact hset_eq _ _ _ | refine (hset_ne _ _ (by omega)).trans ?_)) (by omega) (by omega) ?_
  rw [na, nb, ea, eb]
  refine AW.if_icmpge (tgt := 34) dX12_doesBeat_12 (by decide) (fun c12 => ?_) (fun c12 => ?_)
  · refine AW.iconst dX12_doesBeat_34 ?_
    refine AW.zreturn dX12_doesBeat_35 rfl (Or.inl rfl) ?_
    first
      | exact hq0 (fun q => by have := q.1; omega) h m A hM T3.rfl'
      | exact hq1 ⟨by omega, by assumption⟩ h2 m2 A2 hM2 (t1.trans t2)
      | exact hq0 (fun q => absurd q.2 (by assumption)) h2 m2 A2 hM2 (t1.trans t2)
  · refine AW.aload_n dX12_doesBeat_15 rfl ?_
    refine AW.iload_n dX12_doesBeat_16 rfl ?_
    refine AW.iload_n dX12_doesBeat_17 rfl ?_
    refine AW.cI3 (d' := d - 1) (cX12_198 rfl) okX12_concludedFrom dX12_doesBeat_18 (by repeat (first | assumption | exact hset_eq _ _ _ | refine (hset_ne _ _ (by omega)).trans ?_)) (by omega) (W_concludedFrom hM hS ok (by omega) (by omega) (by omega) ha (fun h1 m1 A1 hM1 t1 => ?_))
    refine AW.aload_n dX12_doesBeat_21 rfl ?_
    refine AW.iload_n dX12_doesBeat_22 rfl ?_
    refine AW.iload_n dX12_doesBeat_23 rfl ?_
    refine AW.cI3 (d' := d - 1) (cX12_198 rfl) okX12_concludedFrom dX12_doesBeat_24 (by have := hM1.1; assumption) (by omega) (W_concludedFrom hM1 (hS.sq t1.sq) ok (by omega) (by omega) (by omega) hb (fun h2 m2 A2 hM2 t2 => ?_))
    refine AW.if_icmpne (tgt := 34) dX12_doesBeat_27 (by decide) (fun c27 => ?_) (fun c27 => ?_)
    · refine AW.iconst dX12_doesBeat_34 ?_
      refine AW.zreturn dX12_doesBeat_35 rfl (Or.inl rfl) ?_
      first
        | exact hq0 (fun q => by have := q.1; omega) h m A hM T3.rfl'
        | exact hq1 ⟨by omega, by assumption⟩ h2 m2 A2 hM2 (t1.trans t2)
        | exact hq0 (fun q => absurd q.2 (by assumption)) h2 m2 A2 hM2 (t1.trans t2)
    · refine AW.iconst dX12_doesBeat_30 ?_
      refine AW.goto (tgt := 35) dX12_doesBeat_31 (by decide) ?_
      refine AW.zreturn dX12_doesBeat_35 rfl (Or.inr rfl) ?_
      first
        | exact hq0 (fun q => by have := q.1; omega) h m A hM T3.rfl'
        | exact hq1 ⟨by omega, by assumption⟩ h2 m2 A2 hM2 (t1.trans t2)
        | exact hq0 (fun q => absurd q.2 (by assumption)) h2 m2 A2 hM2 (t1.trans t2)
theorem sumN_succ (n : Nat) (f : Nat → Int) : sumN (n + 1) f = sumN n f + f n := rfl
theorem sumN_iv (n : Nat) (p : Nat → Prop) : 0 ≤ sumN n (fun j => iv (p j) 1) ∧ sumN n (fun j => iv (p j) 1) ≤ n := by
  induction n with
  | zero => exact ⟨Int.le_refl _, Int.le_refl _⟩
  | succ n ih =>
    rw [sumN_succ]
    by_cases q : p n
    · rw [iv_pos q]; omega
    · rw [iv_neg q]; omega
theorem L_won {i : Nat} (ok : scOK s) (hd : 6 ≤ d) (h1 : -1 ≤ who) (h2 : who < s_n s) (hi : i < s_h s)
    (hq : ∀ h' m' A', MR h0 h' m' A' → T3 m m' A A' → Q (some (.inl (sumN (s_h s) (fun j => iv (btS s who i j) 1)))) h') :
    ∀ (r j : Nat) (h : AH) (m' : Nat → Int) (A' : Nat → Nat → Int), j + r = s_h s → MR h0 h m' A' → MSC m' A' s → T3 m m' A A' →
      AW d 0 0 mX12_won Q 27 [some (.inr 116), some (.inl who), some (.inl (i : Int)), some (.inl (sumN j (fun j => iv (btS s who i j) 1))), some (.inl (j : Int))] [] h := by
  intro r
  induction r with
  | zero =>
    intro j h m' A' hj hM hS hT
    obtain ⟨g116, -⟩ := id hM
    have e8 := hS.2.1
    refine AW.iload dX12_won_27 rfl ?_
    refine AW.aload_n dX12_won_29 rfl ?_
    refine AW.getf dX12_won_30 gX12_72 (by repeat (first | assumption | exact hset_eq _ _ _ | refine (hset_ne _ _ (by omega)).trans ?_)) rfl ?_
    refine AW.if_icmpge (tgt := 61) dX12_won_33 (by decide) (fun c33 => ?_) (fun c33 => absurd c33 (by omega))
    refine AW.iload_n dX12_won_61 rfl ?_
    refine AW.ireturn dX12_won_62 rfl ?_
    have hj2 : j = s_h s := by omega
    subst hj2
    exact hq h m' A' hM hT
  | succ r ih =>
    intro j h m' A' hj hM hS hT
    obtain ⟨g116, -⟩ := id hM
    have e8 := hS.2.1
    have h6 := ok.2.1
    have hb := sumN_iv j (fun j => btS s who i j)
    refine AW.iload dX12_won_27 rfl ?_
    refine AW.aload_n dX12_won_29 rfl ?_
    refine AW.getf dX12_won_30 gX12_72 (by repeat (first | assumption | exact hset_eq _ _ _ | refine (hset_ne _ _ (by omega)).trans ?_)) rfl ?_
    refine AW.if_icmpge (tgt := 61) dX12_won_33 (by decide) (fun c33 => absurd c33 (by omega)) (fun c33 => ?_)
    refine AW.iload_n dX12_won_36 rfl ?_
    refine AW.aload_n dX12_won_37 rfl ?_
    refine AW.iload_n dX12_won_38 rfl ?_
    refine AW.iload_n dX12_won_39 rfl ?_
    refine AW.iload dX12_won_40 rfl ?_
    refine AW.cI4 (d' := d - 1) (cX12_201 rfl) okX12_doesBeat dX12_won_42 (by repeat (first | assumption | exact hset_eq _ _ _ | refine (hset_ne _ _ (by omega)).trans ?_)) (by omega) (W_doesBeat hM hS ok (by omega) (by omega) (by omega) hi (show j < s_h s by omega) (fun hbt h1 m1 A1 hM1 t1 => ?_) (fun hbt h1 m1 A1 hM1 t1 => ?_))
    · refine AW.ifeq_f (tgt := 52) dX12_won_45 (by decide) (by decide) ?_
      refine AW.iconst dX12_won_48 ?_
      refine AW.goto (tgt := 53) dX12_won_49 (by decide) ?_
      refine AW.iaddR dX12_won_53 (by unfold RI; omega) ?_
      refine AW.ist3 dX12_won_54 (by decide) ?_
      refine AW.inc4 dX12_won_55 (by decide) (by unfold RI; omega) ?_
      refine AW.goto (tgt := 27) dX12_won_58 (by decide) ?_
      have e1 := ih (j + 1) h1 m1 A1 (by omega) hM1 (hS.sq t1.sq) (hT.trans t1)
      rw [sumN_succ] at e1
      first
        | (rw [iv_pos hbt] at e1; exact e1)
        | (rw [iv_neg hbt] at e1; exact e1)
    · refine AW.ifeq_t (tgt := 52) dX12_won_45 (by decide) rfl ?_
      refine AW.iconst dX12_won_52 ?_
      refine AW.iaddR dX12_won_53 (by unfold RI; omega) ?_
      refine AW.ist3 dX12_won_54 (by decide) ?_
      refine AW.inc4 dX12_won_55 (by decide) (by unfold RI; omega) ?_
      refine AW.goto (tgt := 27) dX12_won_58 (by decide) ?_
      have e1 := ih (j + 1) h1 m1 A1 (by omega) hM1 (hS.sq t1.sq) (hT.trans t1)
      rw [sumN_succ] at e1
      first
        | (rw [iv_pos hbt] at e1; exact e1)
        | (rw [iv_neg hbt] at e1; exact e1)
theorem W_won (hM : MS h0 h S) (hd : 6 ≤ d) (hq : ∀ r S' h', (r, S') = o_won S x y → MS h0 h' S' → Q (some (.inl r)) h') : MW d 0 0 mX12_won [.inr 116, .inl x, .inl y] h Q := by
  obtain ⟨m, A, hM, hP, ok⟩ := hM
  obtain ⟨g116, -⟩ := id hM
  obtain ⟨⟨q1, q2, q3⟩, p2⟩ := id hP
  show AW d 0 0 mX12_won Q 0 [some (.inr 116), some (.inl x), some (.inl y), none, none] [] h
  refine AW.aload_n dX12_won_0 rfl ?_
  refine AW.iload_n dX12_won_1 rfl ?_
  refine AW.cI2 (d' := d - 1) (cX12_195 rfl) okX12_isWho dX12_won_2 (by repeat (first | assumption | exact hset_eq _ _ _ | refine (hset_ne _ _ (by omega)).trans ?_)) (by omega) (W_isWho (by assumption) (fun c2 c2b => ?_) (fun c2 => ?_))
  · refine AW.ifeq_f (tgt := 16) dX12_won_5 (by decide) (by decide) ?_
    refine AW.aload_n dX12_won_8 rfl ?_
    refine AW.iload_n dX12_won_9 rfl ?_
    refine AW.cI2 (d' := d - 1) (cX12_189 rfl) okX12_isScholar dX12_won_10 (by repeat (first | assumption | exact hset_eq _ _ _ | refine (hset_ne _ _ (by omega)).trans ?_)) (by omega) (W_isScholar (by assumption) (fun c10 c10b => ?_) (fun c10 => ?_))
    · refine AW.ifne_t (tgt := 22) dX12_won_13 (by decide) (by decide) ?_
      refine AW.iconst dX12_won_22 ?_
      refine AW.ist3 dX12_won_23 (by decide) ?_
      refine AW.iconst dX12_won_24 ?_
      refine AW.ist4 dX12_won_25 (by decide) ?_
      have ey : y = ((y.toNat : Nat) : Int) := by omega
      rw [ey]
      exact L_won (m := m) (A := A) (s := S.1) ok.1 (by omega) (by omega) (by omega) (show y.toNat < s_h S.1 by omega) (fun h' m' A' hM' hT => hq _ S _ (by unfold o_won; rw [if_neg (by omega)]) (ms_sq hM' hT.sq hP ok)) (s_h S.1) 0 h m A (by omega) hM hP.1 T3.rfl'
    · refine AW.ifne_f (tgt := 22) dX12_won_13 (by decide) rfl ?_
      refine AW.aload_n dX12_won_16 rfl ?_
      refine AW.iconst dX12_won_17 ?_
      refine AW.cI2 (d' := d - 1) (cX12_82 rfl) okX12_no dX12_won_18 (by repeat (first | assumption | exact hset_eq _ _ _ | refine (hset_ne _ _ (by omega)).trans ?_)) (by omega) (W_no (by assumption) (by decide) (by decide) (fun h18 hM => ?_))
      refine AW.ireturn dX12_won_21 rfl ?_
      exact hq (-1) (rf S 1) _ (by unfold o_won; rw [if_pos (by omega)]) (ms_rf hM hP ok)
  · refine AW.ifeq_t (tgt := 16) dX12_won_5 (by decide) rfl ?_
    refine AW.aload_n dX12_won_16 rfl ?_
    refine AW.iconst dX12_won_17 ?_
    refine AW.cI2 (d' := d - 1) (cX12_82 rfl) okX12_no dX12_won_18 (by repeat (first | assumption | exact hset_eq _ _ _ | refine (hset_ne _ _ (by omega)).trans ?_)) (by omega) (W_no (by assumption) (by decide) (by decide) (fun h18 hM => ?_))
    refine AW.ireturn dX12_won_21 rfl ?_
    exact hq (-1) (rf S 1) _ (by unfold o_won; rw [if_pos (by omega)]) (ms_rf hM hP ok)
/-! masters -/
theorem clr6 : ∀ j : Nat, j < 6 → ∀ v : Nat, v < 64 → a_and (v : Int) (a_xor (a_shl 1 (j : Int)) (-1)) = (v : Int) - ((v / 2 ^ j % 2 * 2 ^ j : Nat) : Int) := by decide +kernel
theorem kp6 : ∀ v : Nat, v < 64 → a_and (v : Int) (-1) = (v : Int) := by decide +kernel
theorem shl6 : ∀ j : Nat, j < 10 → a_shl 1 (j : Int) = ((2 ^ j : Nat) : Int) := by decide +kernel
theorem sumN_mw (s : SC) (who : Int) (n : Nat) : 0 ≤ sumN n (mwF s who) ∧ sumN n (mwF s who) < ((2 ^ n : Nat) : Int) := by
  induction n with
  | zero => exact ⟨Int.le_refl _, show (0 : Int) < ((2 ^ 0 : Nat) : Int) by decide⟩
  | succ n ih =>
    rw [sumN_succ, Nat.pow_succ]
    unfold mwF at ih ⊢
    by_cases q : ¬ ∃ i, i < s_h s ∧ btS s who i n
    · rw [iv_pos q]; omega
    · rw [iv_neg q]; omega
/-- what the rest of the masters' bits are while scholar j is looked at -/
theorem L_mast2 (ok : scOK s) (hd : 6 ≤ d) (h1 : -1 ≤ who) (h2 : who < s_n s) {j : Nat} (hj : j < s_h s) {lo hi : Int} (hlo : 0 ≤ lo) (hlo2 : lo < ((2 ^ j : Nat) : Int)) (hhi : hi = ((2 ^ s_h s : Nat) : Int) - ((2 ^ (j + 1) : Nat) : Int))
    (hq : ∀ h' m' A' z, MR h0 h' m' A' → MSC m' A' s → T3 m m' A A' → AW d 0 0 mX12_masters Q 74 [some (.inr 116), some (.inl who), some (.inl (lo + mwF s who j + hi)), some (.inl (j : Int)), z] [] h') :
    ∀ (r k : Nat) (h : AH) (m' : Nat → Int) (A' : Nat → Nat → Int), k + r = s_h s → MR h0 h m' A' → MSC m' A' s → T3 m m' A A' →
      AW d 0 0 mX12_masters Q 36 [some (.inr 116), some (.inl who), some (.inl (lo + iv (¬ ∃ i, i < k ∧ btS s who i j) ((2 ^ j : Nat) : Int) + hi)), some (.inl (j : Int)), some (.inl (k : Int))] [] h := by
  have h6 := ok.2.1
  intro r
  induction r with
  | zero =>
    intro k h m' A' hk hM hS hT
    obtain ⟨g116, -⟩ := id hM
    have e8 := hS.2.1
    have hk2 : k = s_h s := by omega
    subst hk2
    refine AW.iload dX12_masters_36 rfl ?_
    refine AW.aload_n dX12_masters_38 rfl ?_
    refine AW.getf dX12_masters_39 gX12_72 (by repeat (first | assumption | exact hset_eq _ _ _ | refine (hset_ne _ _ (by omega)).trans ?_)) rfl ?_
    refine AW.if_icmpge (tgt := 74) dX12_masters_42 (by decide) (fun c42 => ?_) (fun c42 => absurd c42 (by omega))
    exact hq h m' A' _ hM hS hT
  | succ r ih =>
    intro k h m' A' hk hM hS hT
    obtain ⟨g116, -⟩ := id hM
    have e8 := hS.2.1
    have hv : ∀ cur : Int, (cur = 0 ∨ cur = ((2 ^ j : Nat) : Int)) → (0 ≤ lo + cur + hi ∧ lo + cur + hi < 64) ∧ (((lo + cur + hi).toNat / 2 ^ j % 2 * 2 ^ j : Nat) : Int) = cur := by
      intro cur hc
      rw [hhi]
      have hj6 : j < 6 := by omega
      have hs6 : s_h s = j + 1 ∨ s_h s = j + 2 ∨ s_h s = j + 3 ∨ s_h s = j + 4 ∨ s_h s = j + 5 ∨ s_h s = j + 6 := by omega
      rcases (show j = 0 ∨ j = 1 ∨ j = 2 ∨ j = 3 ∨ j = 4 ∨ j = 5 by omega) with rfl | rfl | rfl | rfl | rfl | rfl <;> rcases hs6 with e | e | e | e | e | e <;> rw [e] at h6 ⊢ <;> first | omega | (simp only [Nat.reducePow, Nat.reduceAdd] at hlo2 hc ⊢; omega)
    have hcur : iv (¬ ∃ i, i < k ∧ btS s who i j) ((2 ^ j : Nat) : Int) = 0 ∨ iv (¬ ∃ i, i < k ∧ btS s who i j) ((2 ^ j : Nat) : Int) = ((2 ^ j : Nat) : Int) := by
      by_cases q : ¬ ∃ i, i < k ∧ btS s who i j
      · exact Or.inr (iv_pos q)
      · exact Or.inl (iv_neg q)
    obtain ⟨⟨v0, v64⟩, vbit⟩ := hv _ hcur
    generalize hV : lo + iv (¬ ∃ i, i < k ∧ btS s who i j) ((2 ^ j : Nat) : Int) + hi = V at v0 v64 vbit
    have eV : V = ((V.toNat : Nat) : Int) := by omega
    have nx : ∀ (h' : AH) (m' : Nat → Int) (A' : Nat → Nat → Int) (W : Int), W = lo + iv (¬ ∃ i, i < k + 1 ∧ btS s who i j) ((2 ^ j : Nat) : Int) + hi → MR h0 h' m' A' → MSC m' A' s → T3 m m' A A' → AW d 0 0 mX12_masters Q 36 [some (.inr 116), some (.inl who), some (.inl W), some (.inl (j : Int)), some (.inl ((k : Int) + 1))] [] h' := by
      intro h' m' A' W hW hM' hS' hT'
      rw [hW]
      exact ih (k + 1) h' m' A' (by omega) hM' hS' hT'
    refine AW.iload dX12_masters_36 rfl ?_
    refine AW.aload_n dX12_masters_38 rfl ?_
    refine AW.getf dX12_masters_39 gX12_72 (by repeat (first | assumption | exact hset_eq _ _ _ | refine (hset_ne _ _ (by omega)).trans ?_)) rfl ?_
    refine AW.if_icmpge (tgt := 74) dX12_masters_42 (by decide) (fun c42 => absurd c42 (by omega)) (fun c42 => ?_)
    refine AW.iload_n dX12_masters_45 rfl ?_
    refine AW.aload_n dX12_masters_46 rfl ?_
    refine AW.iload_n dX12_masters_47 rfl ?_
    refine AW.iload dX12_masters_48 rfl ?_
    refine AW.iload_n dX12_masters_50 rfl ?_
    refine AW.cI4 (d' := d - 1) (cX12_201 rfl) okX12_doesBeat dX12_masters_51 (by repeat (first | assumption | exact hset_eq _ _ _ | refine (hset_ne _ _ (by omega)).trans ?_)) (by omega) (W_doesBeat hM hS ok (by omega) (by omega) (by omega) (show k < s_h s by omega) hj (fun hbt h1 m1 A1 hM1 t1 => ?_) (fun hbt h1 m1 A1 hM1 t1 => ?_))
    · refine AW.ifeq_f (tgt := 65) dX12_masters_54 (by decide) (by decide) ?_
      refine AW.iconst dX12_masters_57 ?_
      refine AW.iload_n dX12_masters_58 rfl ?_
      refine AW.ishl dX12_masters_59 ?_
      refine AW.iconst dX12_masters_60 ?_
      refine AW.ixor dX12_masters_61 ?_
      refine AW.goto (tgt := 66) dX12_masters_62 (by decide) ?_
      refine AW.iand dX12_masters_66 ?_
      refine AW.ist2 dX12_masters_67 (by decide) ?_
      refine AW.inc4 dX12_masters_68 (by decide) (by unfold RI; omega) ?_
      refine AW.goto (tgt := 36) dX12_masters_71 (by decide) ?_
      refine nx _ m1 A1 _ ?_ hM1 (hS.sq t1.sq) (hT.trans t1)
      first
        | (rw [iv_neg (fun q => q ⟨k, by omega, hbt⟩), eV, clr6 j (by omega) V.toNat (by omega), vbit]
           omega)
        | (have e3 : iv (¬ ∃ i, i < k + 1 ∧ btS s who i j) ((2 ^ j : Nat) : Int) = iv (¬ ∃ i, i < k ∧ btS s who i j) ((2 ^ j : Nat) : Int) := by
             congr 1
             refine propext ⟨fun q ⟨i, hi, hb⟩ => q ⟨i, by omega, hb⟩, fun q ⟨i, hi, hb⟩ => ?_⟩
             by_cases hik : i = k
             · subst hik
               exact hbt hb
             · exact q ⟨i, by omega, hb⟩
           rw [e3, hV, eV, kp6 V.toNat (by omega)])
    · refine AW.ifeq_t (tgt := 65) dX12_masters_54 (by decide) rfl ?_
      refine AW.iconst dX12_masters_65 ?_
      refine AW.iand dX12_masters_66 ?_
      refine AW.ist2 dX12_masters_67 (by decide) ?_
      refine AW.inc4 dX12_masters_68 (by decide) (by unfold RI; omega) ?_
      refine AW.goto (tgt := 36) dX12_masters_71 (by decide) ?_
      refine nx _ m1 A1 _ ?_ hM1 (hS.sq t1.sq) (hT.trans t1)
      first
        | (rw [iv_neg (fun q => q ⟨k, by omega, hbt⟩), eV, clr6 j (by omega) V.toNat (by omega), vbit]
           omega)
        | (have e3 : iv (¬ ∃ i, i < k + 1 ∧ btS s who i j) ((2 ^ j : Nat) : Int) = iv (¬ ∃ i, i < k ∧ btS s who i j) ((2 ^ j : Nat) : Int) := by
             congr 1
             refine propext ⟨fun q ⟨i, hi, hb⟩ => q ⟨i, by omega, hb⟩, fun q ⟨i, hi, hb⟩ => ?_⟩
             by_cases hik : i = k
             · subst hik
               exact hbt hb
             · exact q ⟨i, by omega, hb⟩
           rw [e3, hV, eV, kp6 V.toNat (by omega)])
theorem L_mast (ok : scOK s) (hd : 6 ≤ d) (h1 : -1 ≤ who) (h2 : who < s_n s)
    (hq : ∀ h' m' A', MR h0 h' m' A' → T3 m m' A A' → Q (some (.inl (sumN (s_h s) (mwF s who)))) h') :
    ∀ (r j : Nat) (h : AH) (m' : Nat → Int) (A' : Nat → Nat → Int) (z : Option AV), j + r = s_h s → MR h0 h m' A' → MSC m' A' s → T3 m m' A A' →
      AW d 0 0 mX12_masters Q 25 [some (.inr 116), some (.inl who), some (.inl (sumN j (mwF s who) + (((2 ^ s_h s : Nat) : Int) - ((2 ^ j : Nat) : Int)))), some (.inl (j : Int)), z] [] h := by
  have h6 := ok.2.1
  intro r
  induction r with
  | zero =>
    intro j h m' A' z hj hM hS hT
    obtain ⟨g116, -⟩ := id hM
    have e8 := hS.2.1
    have hj2 : j = s_h s := by omega
    subst hj2
    refine AW.iload_n dX12_masters_25 rfl ?_
    refine AW.aload_n dX12_masters_26 rfl ?_
    refine AW.getf dX12_masters_27 gX12_72 (by repeat (first | assumption | exact hset_eq _ _ _ | refine (hset_ne _ _ (by omega)).trans ?_)) rfl ?_
    refine AW.if_icmpge (tgt := 80) dX12_masters_30 (by decide) (fun c30 => ?_) (fun c30 => absurd c30 (by omega))
    refine AW.iload_n dX12_masters_80 rfl ?_
    refine AW.ireturn dX12_masters_81 rfl ?_
    rw [show sumN (s_h s) (mwF s who) + (((2 ^ s_h s : Nat) : Int) - ((2 ^ s_h s : Nat) : Int)) = sumN (s_h s) (mwF s who) by omega]
    exact hq h m' A' hM hT
  | succ r ih =>
    intro j h m' A' z hj hM hS hT
    obtain ⟨g116, -⟩ := id hM
    have e8 := hS.2.1
    have hb := sumN_mw s who j
    refine AW.iload_n dX12_masters_25 rfl ?_
    refine AW.aload_n dX12_masters_26 rfl ?_
    refine AW.getf dX12_masters_27 gX12_72 (by repeat (first | assumption | exact hset_eq _ _ _ | refine (hset_ne _ _ (by omega)).trans ?_)) rfl ?_
    refine AW.if_icmpge (tgt := 80) dX12_masters_30 (by decide) (fun c30 => absurd c30 (by omega)) (fun c30 => ?_)
    refine AW.iconst dX12_masters_33 ?_
    refine AW.ist4 dX12_masters_34 (by decide) ?_
    have e1 := L_mast2 (m := m) (A := A) (h0 := h0) (Q := Q) (d := d) ok hd h1 h2 (show j < s_h s by omega) hb.1 hb.2 rfl (fun h' m2 A2 z hM2 hS2 hT2 => ?_) (s_h s) 0 h m' A' (by omega) hM hS hT
    · rw [iv_pos (by rintro ⟨i, hi, -⟩; omega)] at e1
      rw [show sumN j (mwF s who) + (((2 ^ s_h s : Nat) : Int) - ((2 ^ j : Nat) : Int)) = sumN j (mwF s who) + ((2 ^ j : Nat) : Int) + (((2 ^ s_h s : Nat) : Int) - ((2 ^ (j + 1) : Nat) : Int)) by rw [Nat.pow_succ]; omega]
      exact e1
    · have e2 := ih (j + 1) h' m2 A2 z (by omega) hM2 hS2 hT2
      rw [sumN_succ] at e2
      refine AW.inc3 dX12_masters_74 (by decide) (by unfold RI; omega) ?_
      refine AW.goto (tgt := 25) dX12_masters_77 (by decide) ?_
      exact e2
theorem pw6 : ∀ n : Nat, n ≤ 6 → a_sub (a_shl 1 (n : Int)) 1 = ((2 ^ n : Nat) : Int) - 1 := by decide +kernel
theorem W_masters (hM : MS h0 h S) (hd : 6 ≤ d) (hq : ∀ r S' h', (r, S') = o_masters S x → MS h0 h' S' → Q (some (.inl r)) h') : MW d 0 0 mX12_masters [.inr 116, .inl x] h Q := by
  obtain ⟨m, A, hM, hP, ok⟩ := hM
  obtain ⟨g116, -⟩ := id hM
  obtain ⟨⟨q1, q2, q3⟩, p2⟩ := id hP
  show AW d 0 0 mX12_masters Q 0 [some (.inr 116), some (.inl x), none, none, none] [] h
  refine AW.aload_n dX12_masters_0 rfl ?_
  refine AW.iload_n dX12_masters_1 rfl ?_
  refine AW.cI2 (d' := d - 1) (cX12_195 rfl) okX12_isWho dX12_masters_2 (by repeat (first | assumption | exact hset_eq _ _ _ | refine (hset_ne _ _ (by omega)).trans ?_)) (by omega) (W_isWho (by assumption) (fun c2 c2b => ?_) (fun c2 => ?_))
  · refine AW.ifne_t (tgt := 14) dX12_masters_5 (by decide) (by decide) ?_
    refine AW.iconst dX12_masters_14 ?_
    refine AW.aload_n dX12_masters_15 rfl ?_
    refine AW.getf dX12_masters_16 gX12_72 (by repeat (first | assumption | exact hset_eq _ _ _ | refine (hset_ne _ _ (by omega)).trans ?_)) rfl ?_
    refine AW.ishl dX12_masters_19 ?_
    refine AW.iconst dX12_masters_20 ?_
    refine AW.isub dX12_masters_21 ?_
    refine AW.ist2 dX12_masters_22 (by decide) ?_
    refine AW.iconst dX12_masters_23 ?_
    refine AW.ist3 dX12_masters_24 (by decide) ?_
    have e1 := L_mast (m := m) (A := A) (h0 := h0) (Q := Q) (d := d) (s := S.1) (who := x) ok.1 (by omega) (by omega) (by omega) (fun h' m' A' hM' hT => hq _ S _ (by unfold o_masters; rw [if_neg (by omega)]) (ms_sq hM' hT.sq hP ok)) (s_h S.1) 0 h m A none (by omega) hM hP.1 T3.rfl'
    rw [q2, pw6 _ ok.1.2.1]
    rw [show sumN 0 (mwF S.1 x) + (((2 ^ s_h S.1 : Nat) : Int) - ((2 ^ 0 : Nat) : Int)) = ((2 ^ s_h S.1 : Nat) : Int) - 1 from by show (0 : Int) + _ = _; omega] at e1
    exact e1
  · refine AW.ifne_f (tgt := 14) dX12_masters_5 (by decide) rfl ?_
    refine AW.aload_n dX12_masters_8 rfl ?_
    refine AW.iconst dX12_masters_9 ?_
    refine AW.cI2 (d' := d - 1) (cX12_82 rfl) okX12_no dX12_masters_10 (by repeat (first | assumption | exact hset_eq _ _ _ | refine (hset_ne _ _ (by omega)).trans ?_)) (by omega) (W_no (by assumption) (by decide) (by decide) (fun h10 hM => ?_))
    refine AW.ireturn dX12_masters_13 rfl ?_
    exact hq (-1) (rf S 1) _ (by unfold o_masters; rw [if_pos (by omega)]) (ms_rf hM hP ok)
end Mod6

