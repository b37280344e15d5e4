section Mod1
variable {d : Nat} {Q : Option AV → AH → Prop} {h : AH}
theorem W_isIn {v lo hi : Int} (h1 : lo ≤ v → v ≤ hi → Q (some (.inl 1)) h) (h0 : ¬ (lo ≤ v ∧ v ≤ hi) → Q (some (.inl 0)) h) : MW d 0 0 mX12_isIn [.inl v, .inl lo, .inl hi] h Q := by
  show AW d 0 0 mX12_isIn Q 0 [some (.inl v), some (.inl lo), some (.inl hi)] [] h
  refine AW.iload_n dX12_isIn_0 rfl ?_
  refine AW.iload_n dX12_isIn_1 rfl ?_
  refine AW.if_icmplt (tgt := 14) dX12_isIn_2 (by decide) (fun c2 => ?_) (fun c2 => ?_)
  · refine AW.iconst dX12_isIn_14 ?_
    refine AW.zreturn dX12_isIn_15 rfl (Or.inl rfl) ?_
    first | exact h1 (by omega) (by omega) | exact h0 (by omega)
  · refine AW.iload_n dX12_isIn_5 rfl ?_
    refine AW.iload_n dX12_isIn_6 rfl ?_
    refine AW.if_icmpgt (tgt := 14) dX12_isIn_7 (by decide) (fun c7 => ?_) (fun c7 => ?_)
    · refine AW.iconst dX12_isIn_14 ?_
      refine AW.zreturn dX12_isIn_15 rfl (Or.inl rfl) ?_
      first | exact h1 (by omega) (by omega) | exact h0 (by omega)
    · refine AW.iconst dX12_isIn_10 ?_
      refine AW.goto (tgt := 15) dX12_isIn_11 (by decide) ?_
      refine AW.zreturn dX12_isIn_15 rfl (Or.inr rfl) ?_
      first | exact h1 (by omega) (by omega) | exact h0 (by omega)
theorem W_bound {v lo hi : Int} (h1 : v < lo → Q (some (.inl (-4))) h) (h2 : ¬ v < lo → hi < v → Q (some (.inl (-6))) h) (h3 : lo ≤ v → v ≤ hi → Q (some (.inl 0)) h) : MW d 0 0 mX12_bound [.inl v, .inl lo, .inl hi] h Q := by
  show AW d 0 0 mX12_bound Q 0 [some (.inl v), some (.inl lo), some (.inl hi)] [] h
  refine AW.iload_n dX12_bound_0 rfl ?_
  refine AW.iload_n dX12_bound_1 rfl ?_
  refine AW.if_icmpge (tgt := 10) dX12_bound_2 (by decide) (fun c2 => ?_) (fun c2 => ?_)
  · refine AW.iload_n dX12_bound_10 rfl ?_
    refine AW.iload_n dX12_bound_11 rfl ?_
    refine AW.if_icmple (tgt := 20) dX12_bound_12 (by decide) (fun c12 => ?_) (fun c12 => ?_)
    · refine AW.iconst dX12_bound_20 ?_
      refine AW.ireturn dX12_bound_21 rfl ?_
      first | exact h1 (by omega) | exact h2 (by omega) (by omega) | exact h3 (by omega) (by omega)
    · refine AW.bipush dX12_bound_15 ?_
      refine AW.goto (tgt := 21) dX12_bound_17 (by decide) ?_
      refine AW.ireturn dX12_bound_21 rfl ?_
      first | exact h1 (by omega) | exact h2 (by omega) (by omega) | exact h3 (by omega) (by omega)
  · refine AW.bipush dX12_bound_5 ?_
    refine AW.goto (tgt := 21) dX12_bound_7 (by decide) ?_
    refine AW.ireturn dX12_bound_21 rfl ?_
    first | exact h1 (by omega) | exact h2 (by omega) (by omega) | exact h3 (by omega) (by omega)
end Mod1

