section Mod1
variable {d : Nat} {Q : Option AV → AH → Prop} {h h0 : AH} {m : Nat → Int} {A : Nat → Nat → Int}
theorem W_isIn {v lo hi : Int} (h1 : lo ≤ v → v ≤ hi → Q (some (.inl 1)) h) (hq0 : ¬ (lo ≤ v ∧ v ≤ hi) → Q (some (.inl 0)) h) : MW d 0 0 mX12_isIn [.inl v, .inl lo, .inl hi] h Q := by
  show AW d 0 0 mX12_isIn Q 0 [some (.inl v), some (.inl lo), some (.inl hi)] [] h
  refine AW.iload_n dX12_isIn_0 rfl ?_
  refine AW.iload_n dX12_isIn_1 rfl ?_
  refine AW.if_icmplt (tgt := 14) dX12_isIn_2 (by decide) (fun c2 => ?_) (fun c2 => ?_)
  · refine AW.iconst dX12_isIn_14 ?_
    refine AW.zreturn dX12_isIn_15 rfl (Or.inl rfl) ?_
    first | exact h1 (by omega) (by omega) | exact hq0 (by omega)
  · refine AW.iload_n dX12_isIn_5 rfl ?_
    refine AW.iload_n dX12_isIn_6 rfl ?_
    refine AW.if_icmpgt (tgt := 14) dX12_isIn_7 (by decide) (fun c7 => ?_) (fun c7 => ?_)
    · refine AW.iconst dX12_isIn_14 ?_
      refine AW.zreturn dX12_isIn_15 rfl (Or.inl rfl) ?_
      first | exact h1 (by omega) (by omega) | exact hq0 (by omega)
    · refine AW.iconst dX12_isIn_10 ?_
      refine AW.goto (tgt := 15) dX12_isIn_11 (by decide) ?_
      refine AW.zreturn dX12_isIn_15 rfl (Or.inr rfl) ?_
      first | exact h1 (by omega) (by omega) | exact hq0 (by omega)
theorem W_bound {v lo hi : Int} (h1 : v < lo → Q (some (.inl (-4))) h) (h2 : ¬ v < lo → hi < v → Q (some (.inl (-6))) h) (h3 : lo ≤ v → v ≤ hi → Q (some (.inl 0)) h) : MW d 0 0 mX12_bound [.inl v, .inl lo, .inl hi] h Q := by
  show AW d 0 0 mX12_bound Q 0 [some (.inl v), some (.inl lo), some (.inl hi)] [] h
  refine AW.iload_n dX12_bound_0 rfl ?_
  refine AW.iload_n dX12_bound_1 rfl ?_
  refine AW.if_icmpge (tgt := 10) dX12_bound_2 (by decide) (fun c2 => ?_) (fun c2 => ?_)
  · refine AW.iload_n dX12_bound_10 rfl ?_
    refine AW.iload_n dX12_bound_11 rfl ?_
    refine AW.if_icmple (tgt := 20) dX12_bound_12 (by decide) (fun c12 => ?_) (fun c12 => ?_)
    · refine AW.iconst dX12_bound_20 ?_
      refine AW.ireturn dX12_bound_21 rfl ?_
      first | exact h1 (by omega) | exact h2 (by omega) (by omega) | exact h3 (by omega) (by omega)
    · refine AW.bipush dX12_bound_15 ?_
      refine AW.goto (tgt := 21) dX12_bound_17 (by decide) ?_
      refine AW.ireturn dX12_bound_21 rfl ?_
      first | exact h1 (by omega) | exact h2 (by omega) (by omega) | exact h3 (by omega) (by omega)
  · refine AW.bipush dX12_bound_5 ?_
    refine AW.goto (tgt := 21) dX12_bound_7 (by decide) ?_
    refine AW.ireturn dX12_bound_21 rfl ?_
    first | exact h1 (by omega) | exact h2 (by omega) (by omega) | exact h3 (by omega) (by omega)
theorem W_isName {v : Int} (h1 : 0 ≤ v → v < 4 → Q (some (.inl 1)) h) (hq0 : ¬ (0 ≤ v ∧ v < 4) → Q (some (.inl 0)) h) : MW d 0 0 mX12_isName [.inl v] h Q := by
  show AW d 0 0 mX12_isName Q 0 [some (.inl v)] [] h
  refine AW.iload_n dX12_isName_0 rfl ?_
  refine AW.iflt (tgt := 13) dX12_isName_1 (by decide) (fun c1 => ?_) (fun c1 => ?_)
  · refine AW.iconst dX12_isName_13 ?_
    refine AW.zreturn dX12_isName_14 rfl (Or.inl rfl) ?_
    first | exact h1 (by omega) (by omega) | exact hq0 (by omega)
  · refine AW.iload_n dX12_isName_4 rfl ?_
    refine AW.iconst dX12_isName_5 ?_
    refine AW.if_icmpge (tgt := 13) dX12_isName_6 (by decide) (fun c6 => ?_) (fun c6 => ?_)
    · refine AW.iconst dX12_isName_13 ?_
      refine AW.zreturn dX12_isName_14 rfl (Or.inl rfl) ?_
      first | exact h1 (by omega) (by omega) | exact hq0 (by omega)
    · refine AW.iconst dX12_isName_9 ?_
      refine AW.goto (tgt := 14) dX12_isName_10 (by decide) ?_
      refine AW.zreturn dX12_isName_14 rfl (Or.inr rfl) ?_
      first | exact h1 (by omega) (by omega) | exact hq0 (by omega)
theorem W_isWho {v : Int} (hM : MR h0 h m A) (h1 : -1 ≤ v → v < m 7 → Q (some (.inl 1)) h) (hq0 : ¬ (-1 ≤ v ∧ v < m 7) → Q (some (.inl 0)) h) : MW d 0 0 mX12_isWho [.inr 116, .inl v] h Q := by
  obtain ⟨g116, -⟩ := hM
  show AW d 0 0 mX12_isWho Q 0 [some (.inr 116), some (.inl v)] [] h
  refine AW.iload_n dX12_isWho_0 rfl ?_
  refine AW.iconst dX12_isWho_1 ?_
  refine AW.if_icmplt (tgt := 17) dX12_isWho_2 (by decide) (fun c2 => ?_) (fun c2 => ?_)
  · refine AW.iconst dX12_isWho_17 ?_
    refine AW.zreturn dX12_isWho_18 rfl (Or.inl rfl) ?_
    first | exact h1 (by omega) (by omega) | exact hq0 (by omega)
  · refine AW.iload_n dX12_isWho_5 rfl ?_
    refine AW.aload_n dX12_isWho_6 rfl ?_
    refine AW.getf dX12_isWho_7 gX12_68 (by repeat (first | assumption | exact hset_eq _ _ _ | refine (hset_ne _ _ (by omega)).trans ?_)) rfl ?_
    refine AW.if_icmpge (tgt := 17) dX12_isWho_10 (by decide) (fun c10 => ?_) (fun c10 => ?_)
    · refine AW.iconst dX12_isWho_17 ?_
      refine AW.zreturn dX12_isWho_18 rfl (Or.inl rfl) ?_
      first | exact h1 (by omega) (by omega) | exact hq0 (by omega)
    · refine AW.iconst dX12_isWho_13 ?_
      refine AW.goto (tgt := 18) dX12_isWho_14 (by decide) ?_
      refine AW.zreturn dX12_isWho_18 rfl (Or.inr rfl) ?_
      first | exact h1 (by omega) (by omega) | exact hq0 (by omega)
theorem W_isStranger {v : Int} (hM : MR h0 h m A) (h1 : 0 ≤ v → v < m 7 → Q (some (.inl 1)) h) (hq0 : ¬ (0 ≤ v ∧ v < m 7) → Q (some (.inl 0)) h) : MW d 0 0 mX12_isStranger [.inr 116, .inl v] h Q := by
  obtain ⟨g116, -⟩ := hM
  show AW d 0 0 mX12_isStranger Q 0 [some (.inr 116), some (.inl v)] [] h
  refine AW.iload_n dX12_isStranger_0 rfl ?_
  refine AW.iflt (tgt := 16) dX12_isStranger_1 (by decide) (fun c1 => ?_) (fun c1 => ?_)
  · refine AW.iconst dX12_isStranger_16 ?_
    refine AW.zreturn dX12_isStranger_17 rfl (Or.inl rfl) ?_
    first | exact h1 (by omega) (by omega) | exact hq0 (by omega)
  · refine AW.iload_n dX12_isStranger_4 rfl ?_
    refine AW.aload_n dX12_isStranger_5 rfl ?_
    refine AW.getf dX12_isStranger_6 gX12_68 (by repeat (first | assumption | exact hset_eq _ _ _ | refine (hset_ne _ _ (by omega)).trans ?_)) rfl ?_
    refine AW.if_icmpge (tgt := 16) dX12_isStranger_9 (by decide) (fun c9 => ?_) (fun c9 => ?_)
    · refine AW.iconst dX12_isStranger_16 ?_
      refine AW.zreturn dX12_isStranger_17 rfl (Or.inl rfl) ?_
      first | exact h1 (by omega) (by omega) | exact hq0 (by omega)
    · refine AW.iconst dX12_isStranger_12 ?_
      refine AW.goto (tgt := 17) dX12_isStranger_13 (by decide) ?_
      refine AW.zreturn dX12_isStranger_17 rfl (Or.inr rfl) ?_
      first | exact h1 (by omega) (by omega) | exact hq0 (by omega)
theorem W_isScholar {v : Int} (hM : MR h0 h m A) (h1 : 0 ≤ v → v < m 8 → Q (some (.inl 1)) h) (hq0 : ¬ (0 ≤ v ∧ v < m 8) → Q (some (.inl 0)) h) : MW d 0 0 mX12_isScholar [.inr 116, .inl v] h Q := by
  obtain ⟨g116, -⟩ := hM
  show AW d 0 0 mX12_isScholar Q 0 [some (.inr 116), some (.inl v)] [] h
  refine AW.iload_n dX12_isScholar_0 rfl ?_
  refine AW.iflt (tgt := 16) dX12_isScholar_1 (by decide) (fun c1 => ?_) (fun c1 => ?_)
  · refine AW.iconst dX12_isScholar_16 ?_
    refine AW.zreturn dX12_isScholar_17 rfl (Or.inl rfl) ?_
    first | exact h1 (by omega) (by omega) | exact hq0 (by omega)
  · refine AW.iload_n dX12_isScholar_4 rfl ?_
    refine AW.aload_n dX12_isScholar_5 rfl ?_
    refine AW.getf dX12_isScholar_6 gX12_72 (by repeat (first | assumption | exact hset_eq _ _ _ | refine (hset_ne _ _ (by omega)).trans ?_)) rfl ?_
    refine AW.if_icmpge (tgt := 16) dX12_isScholar_9 (by decide) (fun c9 => ?_) (fun c9 => ?_)
    · refine AW.iconst dX12_isScholar_16 ?_
      refine AW.zreturn dX12_isScholar_17 rfl (Or.inl rfl) ?_
      first | exact h1 (by omega) (by omega) | exact hq0 (by omega)
    · refine AW.iconst dX12_isScholar_12 ?_
      refine AW.goto (tgt := 17) dX12_isScholar_13 (by decide) ?_
      refine AW.zreturn dX12_isScholar_17 rfl (Or.inr rfl) ?_
      first | exact h1 (by omega) (by omega) | exact hq0 (by omega)
/-- a refusal is counted -/
def rfA (A : Nat → Nat → Int) (k : Nat) : Nat → Nat → Int := updA A 117 (updI (A 117) k (a_add (A 117 k) 1))
theorem W_no {v : Int} (hM : MR h0 h m A) (hv : -6 ≤ v) (hv2 : v ≤ -1) (hq : ∀ h', MR h0 h' m (rfA A (-v).toNat) → Q (some (.inl v)) h') : MW d 0 0 mX12_no [.inr 116, .inl v] h Q := by
  obtain ⟨g116, g117, -⟩ := id hM
  show AW d 0 0 mX12_no Q 0 [some (.inr 116), some (.inl v)] [] h
  refine AW.aload_n dX12_no_0 rfl ?_
  refine AW.getf dX12_no_1 gX12_7 (by repeat (first | assumption | exact hset_eq _ _ _ | refine (hset_ne _ _ (by omega)).trans ?_)) rfl ?_
  refine AW.iload_n dX12_no_4 rfl ?_
  refine AW.inegR dX12_no_5 (by unfold RI; omega) ?_
  refine AW.dup2 dX12_no_6 ?_
  refine AW.iaload dX12_no_7 (by repeat (first | assumption | exact hset_eq _ _ _ | refine (hset_ne _ _ (by omega)).trans ?_)) (by omega) (by omega) ?_
  refine AW.iconst dX12_no_8 ?_
  refine AW.iadd dX12_no_9 ?_
  refine AW.iastore dX12_no_10 (by omega) (by repeat (first | assumption | exact hset_eq _ _ _ | refine (hset_ne _ _ (by omega)).trans ?_)) (by omega) (by omega) ?_
  refine AW.iload_n dX12_no_11 rfl ?_
  refine AW.ireturn dX12_no_12 rfl ?_
  exact hq _ (MR.s117 hM)
theorem W_lower {v : Int} (hM : MR h0 h m A) (hv : -6 ≤ v) (hv2 : v ≤ -1) (hq : ∀ h', MR h0 h' m (rfA A (-v).toNat) → Q (some (.inl (1000000000 - v))) h') : MW d 0 0 mX12_lower [.inr 116, .inl v] h Q := by
  obtain ⟨g116, g117, -⟩ := id hM
  show AW d 0 0 mX12_lower Q 0 [some (.inr 116), some (.inl v)] [] h
  refine AW.aload_n dX12_lower_0 rfl ?_
  refine AW.getf dX12_lower_1 gX12_7 (by repeat (first | assumption | exact hset_eq _ _ _ | refine (hset_ne _ _ (by omega)).trans ?_)) rfl ?_
  refine AW.iload_n dX12_lower_4 rfl ?_
  refine AW.inegR dX12_lower_5 (by unfold RI; omega) ?_
  refine AW.dup2 dX12_lower_6 ?_
  refine AW.iaload dX12_lower_7 (by repeat (first | assumption | exact hset_eq _ _ _ | refine (hset_ne _ _ (by omega)).trans ?_)) (by omega) (by omega) ?_
  refine AW.iconst dX12_lower_8 ?_
  refine AW.iadd dX12_lower_9 ?_
  refine AW.iastore dX12_lower_10 (by omega) (by repeat (first | assumption | exact hset_eq _ _ _ | refine (hset_ne _ _ (by omega)).trans ?_)) (by omega) (by omega) ?_
  refine AW.ldc (n := 1000000000) dX12_lower_11 kX12_67 (by constructor <;> decide) ?_
  refine AW.iload_n dX12_lower_13 rfl ?_
  refine AW.isubR dX12_lower_14 (by unfold RI; omega) ?_
  refine AW.ireturn dX12_lower_15 rfl ?_
  exact hq _ (MR.s117 hM)
theorem W_next (hM : MR h0 h m A) (h15 : m 15 ≤ 80) (h16 : 0 ≤ m 16) (hq : Q (some (.inl (if m 16 < m 15 then A 124 (m 16).toNat else -1))) h) : MW d 0 0 mX12_next [.inr 116] h Q := by
  obtain ⟨g116, g117, g118, g119, g120, g121, g122, g123, g124, -⟩ := id hM
  show AW d 0 0 mX12_next Q 0 [some (.inr 116)] [] h
  refine AW.aload_n dX12_next_0 rfl ?_
  refine AW.getf dX12_next_1 gX12_86 (by repeat (first | assumption | exact hset_eq _ _ _ | refine (hset_ne _ _ (by omega)).trans ?_)) rfl ?_
  refine AW.aload_n dX12_next_4 rfl ?_
  refine AW.getf dX12_next_5 gX12_79 (by repeat (first | assumption | exact hset_eq _ _ _ | refine (hset_ne _ _ (by omega)).trans ?_)) rfl ?_
  refine AW.if_icmpge (tgt := 23) dX12_next_8 (by decide) (fun c8 => ?_) (fun c8 => ?_)
  · refine AW.iconst dX12_next_23 ?_
    refine AW.ireturn dX12_next_24 rfl ?_
    first | (rw [if_pos (by omega)] at hq; exact hq) | (rw [if_neg (by omega)] at hq; exact hq)
  · refine AW.aload_n dX12_next_11 rfl ?_
    refine AW.getf dX12_next_12 gX12_31 (by repeat (first | assumption | exact hset_eq _ _ _ | refine (hset_ne _ _ (by omega)).trans ?_)) rfl ?_
    refine AW.aload_n dX12_next_15 rfl ?_
    refine AW.getf dX12_next_16 gX12_86 (by repeat (first | assumption | exact hset_eq _ _ _ | refine (hset_ne _ _ (by omega)).trans ?_)) rfl ?_
    refine AW.iaload dX12_next_19 (by repeat (first | assumption | exact hset_eq _ _ _ | refine (hset_ne _ _ (by omega)).trans ?_)) (by omega) (by omega) ?_
    refine AW.goto (tgt := 24) dX12_next_20 (by decide) ?_
    refine AW.ireturn dX12_next_24 rfl ?_
    first | (rw [if_pos (by omega)] at hq; exact hq) | (rw [if_neg (by omega)] at hq; exact hq)
end Mod1

