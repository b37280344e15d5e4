section Mod10
variable {d : Nat} {Q : Option AV → AH → Prop} {h h0 : AH} {m : Nat → Int} {A : Nat → Nat → Int} {who x y z v : Int} {S : ST} {s : SC}
theorem L_passK {a n c : Nat} (ga : ∀ (h : AH) (m : Nat → Int) (A : Nat → Nat → Int), MR h0 h m A → h.2 a = .inr (n, A a)) (hn : n ≤ 120) (ha : a ≠ 130) (hc : c + n ≤ 320)
    (hq : ∀ h' m' A', MR h0 h' m' A' → m' 21 = ((c + n : Nat) : Int) → (∀ k, k ≠ 21 → m' k = m k) → (∀ k, k ≠ 130 → A' k = A k) → (∀ j, A' 130 j = if c ≤ j ∧ j < c + n then A a (j - c) else A 130 j) → Q none h') (hk : m 20 = 1) :
    ∀ (r i : Nat) (h : AH) (m' : Nat → Int) (A' : Nat → Nat → Int), i + r = n → MR h0 h m' A' → m' 21 = ((c + i : Nat) : Int) → (∀ k, k ≠ 21 → m' k = m k) → (∀ k, k ≠ 130 → A' k = A k) → (∀ j, A' 130 j = if c ≤ j ∧ j < c + i then A a (j - c) else A 130 j) →
      AW d 0 0 mX12_passes Q 2 [some (.inr 116), some (.inr a), some (.inl (i : Int))] [] h := by
  intro r
  induction r with
  | zero =>
    intro i h m' A' hi hM hm hm2 hA hK
    have gaa := ga h m' A' hM
    have hi2 : i = n := by omega
    subst hi2
    refine AW.iload_n dX12_passes_2 rfl ?_
    refine AW.aload_n dX12_passes_3 rfl ?_
    refine AW.alen dX12_passes_4 (by repeat (first | assumption | exact hset_eq _ _ _ | refine (hset_ne _ _ (by omega)).trans ?_)) (by omega) ?_
    refine AW.if_icmpge (tgt := 58) dX12_passes_5 (by decide) (fun c5 => ?_) (fun c5 => absurd c5 (by omega))
    refine AW.vreturn dX12_passes_58 rfl ?_
    exact hq h m' A' hM hm hm2 hA hK
  | succ r ih =>
    intro i h m' A' hi hM hm hm2 hA hK
    have gaa := ga h m' A' hM
    obtain ⟨g116, -, -, -, -, -, -, -, -, -, -, -, -, -, g130, -⟩ := id hM
    have e20 : m' 20 = 1 := by rw [hm2 20 (by decide)]; exact hk
    refine AW.iload_n dX12_passes_2 rfl ?_
    refine AW.aload_n dX12_passes_3 rfl ?_
    refine AW.alen dX12_passes_4 (by repeat (first | assumption | exact hset_eq _ _ _ | refine (hset_ne _ _ (by omega)).trans ?_)) (by omega) ?_
    refine AW.if_icmpge (tgt := 58) dX12_passes_5 (by decide) (fun c5 => absurd c5 (by omega)) (fun c5 => ?_)
    refine AW.aload_n dX12_passes_8 rfl ?_
    refine AW.getf dX12_passes_9 gX12_141 (by repeat (first | assumption | exact hset_eq _ _ _ | refine (hset_ne _ _ (by omega)).trans ?_)) rfl ?_
    refine AW.ifeq (tgt := 30) dX12_passes_12 (by decide) (fun c12 => absurd c12 (by omega)) (fun c12 => ?_)
    refine AW.aload_n dX12_passes_15 rfl ?_
    refine AW.getf dX12_passes_16 gX12_49 (by repeat (first | assumption | exact hset_eq _ _ _ | refine (hset_ne _ _ (by omega)).trans ?_)) rfl ?_
    refine AW.aload_n dX12_passes_19 rfl ?_
    refine AW.getf dX12_passes_20 gX12_145 (by repeat (first | assumption | exact hset_eq _ _ _ | refine (hset_ne _ _ (by omega)).trans ?_)) rfl ?_
    refine AW.aload_n dX12_passes_23 rfl ?_
    refine AW.iload_n dX12_passes_24 rfl ?_
    refine AW.iaload dX12_passes_25 (by repeat (first | assumption | exact hset_eq _ _ _ | refine (hset_ne _ _ (by omega)).trans ?_)) (by omega) (by omega) ?_
    refine AW.iastore dX12_passes_26 (by omega) (by repeat (first | assumption | exact hset_eq _ _ _ | refine (hset_ne _ _ (by omega)).trans ?_)) (by omega) (by omega) ?_
    refine AW.goto (tgt := 42) dX12_passes_27 (by decide) ?_
    refine AW.aload_n dX12_passes_42 rfl ?_
    refine AW.dup dX12_passes_43 ?_
    refine AW.getf dX12_passes_44 gX12_145 (by repeat (first | assumption | exact hset_eq _ _ _ | refine (hset_ne _ _ (by omega)).trans ?_)) rfl ?_
    refine AW.iconst dX12_passes_47 ?_
    refine AW.iaddR dX12_passes_48 (by unfold RI; omega) ?_
    refine AW.putf dX12_passes_49 pX12_145 (by repeat (first | assumption | exact hset_eq _ _ _ | refine (hset_ne _ _ (by omega)).trans ?_)) trivial ?_
    refine AW.inc2 dX12_passes_52 (by decide) (by unfold RI; omega) ?_
    refine AW.goto (tgt := 2) dX12_passes_55 (by decide) ?_
    refine ih (i + 1) _ (updI m' 21 (m' 21 + 1)) (updA A' 130 (updI (A' 130) (m' 21).toNat (A' a ((i : Int)).toNat))) (by omega) (MR.p rfl (MR.s130 hM)) (by rw [updI_eq]; omega) (fun k hk => by rw [updI_ne _ _ hk]; exact hm2 k hk) (fun k hk => by rw [updA_ne _ _ hk]; exact hA k hk) (fun j => ?_)
    rw [updA_eq, hA a ha, show (m' 21).toNat = c + i by omega, show ((i : Int)).toNat = i by omega]
    by_cases e : j = c + i
    · subst e
      rw [updI_eq, if_pos (by omega), show c + i - c = i by omega]
    · rw [updI_ne _ _ e, hK j]
      by_cases e2 : c ≤ j ∧ j < c + i
      · rw [if_pos e2, if_pos (by omega)]
      · rw [if_neg e2, if_neg (by omega)]
theorem W_passK {a n c : Nat} (hM : MR h0 h m A) (ga : ∀ (h : AH) (m : Nat → Int) (A : Nat → Nat → Int), MR h0 h m A → h.2 a = .inr (n, A a)) (hn : n ≤ 120) (ha : a ≠ 130) (hc : c + n ≤ 320) (hk : m 20 = 1) (h21 : m 21 = (c : Int))
    (hq : ∀ h' m' A', MR h0 h' m' A' → m' 21 = ((c + n : Nat) : Int) → (∀ k, k ≠ 21 → m' k = m k) → (∀ k, k ≠ 130 → A' k = A k) → (∀ j, A' 130 j = if c ≤ j ∧ j < c + n then A a (j - c) else A 130 j) → Q none h') : MW d 0 0 mX12_passes [.inr 116, .inr a] h Q := by
  show AW d 0 0 mX12_passes Q 0 [some (.inr 116), some (.inr a), none] [] h
  refine AW.iconst dX12_passes_0 ?_
  refine AW.ist2 dX12_passes_1 (by decide) ?_
  exact L_passK ga hn ha hc hq hk n 0 h m A (by omega) hM (by omega) (fun _ _ => rfl) (fun _ _ => rfl) (fun j => by rw [if_neg (by omega)])
theorem L_passR {a n c : Nat} (ga : ∀ (h : AH) (m : Nat → Int) (A : Nat → Nat → Int), MR h0 h m A → h.2 a = .inr (n, A a)) (sa : ∀ (h : AH) (m : Nat → Int) (A : Nat → Nat → Int) (f : Nat → Int), MR h0 h m A → MR h0 (hset h a (.inr (n, f))) m (updA A a f)) (hn : n ≤ 120) (ha : a ≠ 130) (ha16 : 117 ≤ a) (hc : c + n ≤ 320)
    (hq : ∀ h' m' A', MR h0 h' m' A' → m' 21 = ((c + n : Nat) : Int) → (∀ k, k ≠ 21 → m' k = m k) → (∀ k, k ≠ a → A' k = A k) → (∀ j, j < n → A' a j = A 130 (c + j)) → Q none h') (hk : m 20 = 0) :
    ∀ (r i : Nat) (h : AH) (m' : Nat → Int) (A' : Nat → Nat → Int), i + r = n → MR h0 h m' A' → m' 21 = ((c + i : Nat) : Int) → (∀ k, k ≠ 21 → m' k = m k) → (∀ k, k ≠ a → A' k = A k) → (∀ j, j < i → A' a j = A 130 (c + j)) →
      AW d 0 0 mX12_passes Q 2 [some (.inr 116), some (.inr a), some (.inl (i : Int))] [] h := by
  intro r
  induction r with
  | zero =>
    intro i h m' A' hi hM hm hm2 hA hK
    have gaa := ga h m' A' hM
    have hi2 : i = n := by omega
    subst hi2
    refine AW.iload_n dX12_passes_2 rfl ?_
    refine AW.aload_n dX12_passes_3 rfl ?_
    refine AW.alen dX12_passes_4 (by repeat (first | assumption | exact hset_eq _ _ _ | refine (hset_ne _ _ (by omega)).trans ?_)) (by omega) ?_
    refine AW.if_icmpge (tgt := 58) dX12_passes_5 (by decide) (fun c5 => ?_) (fun c5 => absurd c5 (by omega))
    refine AW.vreturn dX12_passes_58 rfl ?_
    exact hq h m' A' hM hm hm2 hA hK
  | succ r ih =>
    intro i h m' A' hi hM hm hm2 hA hK
    have gaa := ga h m' A' hM
    obtain ⟨g116, -, -, -, -, -, -, -, -, -, -, -, -, -, g130, -⟩ := id hM
    have e20 : m' 20 = 0 := by rw [hm2 20 (by decide)]; exact hk
    refine AW.iload_n dX12_passes_2 rfl ?_
    refine AW.aload_n dX12_passes_3 rfl ?_
    refine AW.alen dX12_passes_4 (by repeat (first | assumption | exact hset_eq _ _ _ | refine (hset_ne _ _ (by omega)).trans ?_)) (by omega) ?_
    refine AW.if_icmpge (tgt := 58) dX12_passes_5 (by decide) (fun c5 => absurd c5 (by omega)) (fun c5 => ?_)
    refine AW.aload_n dX12_passes_8 rfl ?_
    refine AW.getf dX12_passes_9 gX12_141 (by repeat (first | assumption | exact hset_eq _ _ _ | refine (hset_ne _ _ (by omega)).trans ?_)) rfl ?_
    refine AW.ifeq (tgt := 30) dX12_passes_12 (by decide) (fun c12 => ?_) (fun c12 => absurd e20 c12)
    refine AW.aload_n dX12_passes_30 rfl ?_
    refine AW.iload_n dX12_passes_31 rfl ?_
    refine AW.aload_n dX12_passes_32 rfl ?_
    refine AW.getf dX12_passes_33 gX12_49 (by repeat (first | assumption | exact hset_eq _ _ _ | refine (hset_ne _ _ (by omega)).trans ?_)) rfl ?_
    refine AW.aload_n dX12_passes_36 rfl ?_
    refine AW.getf dX12_passes_37 gX12_145 (by repeat (first | assumption | exact hset_eq _ _ _ | refine (hset_ne _ _ (by omega)).trans ?_)) rfl ?_
    refine AW.iaload dX12_passes_40 (by repeat (first | assumption | exact hset_eq _ _ _ | refine (hset_ne _ _ (by omega)).trans ?_)) (by omega) (by omega) ?_
    refine AW.iastore dX12_passes_41 (by omega) (by repeat (first | assumption | exact hset_eq _ _ _ | refine (hset_ne _ _ (by omega)).trans ?_)) (by omega) (by omega) ?_
    refine AW.aload_n dX12_passes_42 rfl ?_
    refine AW.dup dX12_passes_43 ?_
    refine AW.getf dX12_passes_44 gX12_145 (by repeat (first | assumption | exact hset_eq _ _ _ | refine (hset_ne _ _ (by omega)).trans ?_)) rfl ?_
    refine AW.iconst dX12_passes_47 ?_
    refine AW.iaddR dX12_passes_48 (by unfold RI; omega) ?_
    refine AW.putf dX12_passes_49 pX12_145 (by repeat (first | assumption | exact hset_eq _ _ _ | refine (hset_ne _ _ (by omega)).trans ?_)) trivial ?_
    refine AW.inc2 dX12_passes_52 (by decide) (by unfold RI; omega) ?_
    refine AW.goto (tgt := 2) dX12_passes_55 (by decide) ?_
    refine ih (i + 1) _ (updI m' 21 (m' 21 + 1)) (updA A' a (updI (A' a) ((i : Int)).toNat (A' 130 (m' 21).toNat))) (by omega) (MR.p rfl (sa _ _ _ _ hM)) (by rw [updI_eq]; omega) (fun k hk => by rw [updI_ne _ _ hk]; exact hm2 k hk) (fun k hk => by rw [updA_ne _ _ hk]; exact hA k hk) (fun j hj => ?_)
    rw [updA_eq, hA 130 (Ne.symm ha), show (m' 21).toNat = c + i by omega, show ((i : Int)).toNat = i by omega]
    by_cases e : j = i
    · subst e
      rw [updI_eq]
    · rw [updI_ne _ _ e]
      exact hK j (by omega)
theorem W_passR {a n c : Nat} (hM : MR h0 h m A) (ga : ∀ (h : AH) (m : Nat → Int) (A : Nat → Nat → Int), MR h0 h m A → h.2 a = .inr (n, A a)) (sa : ∀ (h : AH) (m : Nat → Int) (A : Nat → Nat → Int) (f : Nat → Int), MR h0 h m A → MR h0 (hset h a (.inr (n, f))) m (updA A a f)) (hn : n ≤ 120) (ha : a ≠ 130) (ha16 : 117 ≤ a) (hc : c + n ≤ 320) (hk : m 20 = 0) (h21 : m 21 = (c : Int))
    (hq : ∀ h' m' A', MR h0 h' m' A' → m' 21 = ((c + n : Nat) : Int) → (∀ k, k ≠ 21 → m' k = m k) → (∀ k, k ≠ a → A' k = A k) → (∀ j, j < n → A' a j = A 130 (c + j)) → Q none h') : MW d 0 0 mX12_passes [.inr 116, .inr a] h Q := by
  show AW d 0 0 mX12_passes Q 0 [some (.inr 116), some (.inr a), none] [] h
  refine AW.iconst dX12_passes_0 ?_
  refine AW.ist2 dX12_passes_1 (by decide) ?_
  exact L_passR ga sa hn ha ha16 hc hq hk n 0 h m A (by omega) hM (by omega) (fun _ _ => rfl) (fun _ _ => rfl) (fun j hj => absurd hj (Nat.not_lt_zero _))
theorem W_passOneK {c : Nat} (hM : MR h0 h m A) (hc : c < 320) (hk : m 20 = 1) (h21 : m 21 = (c : Int))
    (hq : ∀ h' m' A', MR h0 h' m' A' → m' 21 = ((c + 1 : Nat) : Int) → (∀ k, k ≠ 21 → m' k = m k) → (∀ k, k ≠ 130 → A' k = A k) → (∀ j, A' 130 j = if j = c then v else A 130 j) → Q (some (.inl v)) h') : MW d 0 0 mX12_passOne [.inr 116, .inl v] h Q := by
  obtain ⟨g116, -, -, -, -, -, -, -, -, -, -, -, -, -, g130, -⟩ := id hM
  show AW d 0 0 mX12_passOne Q 0 [some (.inr 116), some (.inl v), none] [] h
  refine AW.aload_n dX12_passOne_0 rfl ?_
  refine AW.getf dX12_passOne_1 gX12_141 (by repeat (first | assumption | exact hset_eq _ _ _ | refine (hset_ne _ _ (by omega)).trans ?_)) rfl ?_
  refine AW.ifeq (tgt := 11) dX12_passOne_4 (by decide) (fun c4 => absurd c4 (by omega)) (fun c4 => ?_)
  refine AW.iload_n dX12_passOne_7 rfl ?_
  refine AW.goto (tgt := 20) dX12_passOne_8 (by decide) ?_
  refine AW.ist2 dX12_passOne_20 (by decide) ?_
  refine AW.aload_n dX12_passOne_21 rfl ?_
  refine AW.getf dX12_passOne_22 gX12_141 (by repeat (first | assumption | exact hset_eq _ _ _ | refine (hset_ne _ _ (by omega)).trans ?_)) rfl ?_
  refine AW.ifeq (tgt := 38) dX12_passOne_25 (by decide) (fun c25 => absurd c25 (by omega)) (fun c25 => ?_)
  refine AW.aload_n dX12_passOne_28 rfl ?_
  refine AW.getf dX12_passOne_29 gX12_49 (by repeat (first | assumption | exact hset_eq _ _ _ | refine (hset_ne _ _ (by omega)).trans ?_)) rfl ?_
  refine AW.aload_n dX12_passOne_32 rfl ?_
  refine AW.getf dX12_passOne_33 gX12_145 (by repeat (first | assumption | exact hset_eq _ _ _ | refine (hset_ne _ _ (by omega)).trans ?_)) rfl ?_
  refine AW.iload_n dX12_passOne_36 rfl ?_
  refine AW.iastore dX12_passOne_37 (by omega) (by repeat (first | assumption | exact hset_eq _ _ _ | refine (hset_ne _ _ (by omega)).trans ?_)) (by omega) (by omega) ?_
  refine AW.aload_n dX12_passOne_38 rfl ?_
  refine AW.dup dX12_passOne_39 ?_
  refine AW.getf dX12_passOne_40 gX12_145 (by repeat (first | assumption | exact hset_eq _ _ _ | refine (hset_ne _ _ (by omega)).trans ?_)) rfl ?_
  refine AW.iconst dX12_passOne_43 ?_
  refine AW.iaddR dX12_passOne_44 (by unfold RI; omega) ?_
  refine AW.putf dX12_passOne_45 pX12_145 (by repeat (first | assumption | exact hset_eq _ _ _ | refine (hset_ne _ _ (by omega)).trans ?_)) trivial ?_
  refine AW.iload_n dX12_passOne_48 rfl ?_
  refine AW.ireturn dX12_passOne_49 rfl ?_
  refine hq _ (updI m 21 (m 21 + 1)) (updA A 130 (updI (A 130) (m 21).toNat v)) (MR.p rfl (MR.s130 hM)) (by rw [updI_eq]; omega) (fun k hk => updI_ne _ _ hk) (fun k hk => updA_ne _ _ hk) (fun j => ?_)
  rw [updA_eq, show (m 21).toNat = c by omega]
  rfl
theorem W_passOneR {c : Nat} (hM : MR h0 h m A) (hc : c < 320) (hk : m 20 = 0) (h21 : m 21 = (c : Int))
    (hq : ∀ h' m', MR h0 h' m' A → m' 21 = ((c + 1 : Nat) : Int) → (∀ k, k ≠ 21 → m' k = m k) → Q (some (.inl (A 130 c))) h') : MW d 0 0 mX12_passOne [.inr 116, .inl v] h Q := by
  obtain ⟨g116, -, -, -, -, -, -, -, -, -, -, -, -, -, g130, -⟩ := id hM
  show AW d 0 0 mX12_passOne Q 0 [some (.inr 116), some (.inl v), none] [] h
  refine AW.aload_n dX12_passOne_0 rfl ?_
  refine AW.getf dX12_passOne_1 gX12_141 (by repeat (first | assumption | exact hset_eq _ _ _ | refine (hset_ne _ _ (by omega)).trans ?_)) rfl ?_
  refine AW.ifeq (tgt := 11) dX12_passOne_4 (by decide) (fun c4 => ?_) (fun c4 => absurd hk c4)
  refine AW.aload_n dX12_passOne_11 rfl ?_
  refine AW.getf dX12_passOne_12 gX12_49 (by repeat (first | assumption | exact hset_eq _ _ _ | refine (hset_ne _ _ (by omega)).trans ?_)) rfl ?_
  refine AW.aload_n dX12_passOne_15 rfl ?_
  refine AW.getf dX12_passOne_16 gX12_145 (by repeat (first | assumption | exact hset_eq _ _ _ | refine (hset_ne _ _ (by omega)).trans ?_)) rfl ?_
  refine AW.iaload dX12_passOne_19 (by repeat (first | assumption | exact hset_eq _ _ _ | refine (hset_ne _ _ (by omega)).trans ?_)) (by omega) (by omega) ?_
  refine AW.ist2 dX12_passOne_20 (by decide) ?_
  refine AW.aload_n dX12_passOne_21 rfl ?_
  refine AW.getf dX12_passOne_22 gX12_141 (by repeat (first | assumption | exact hset_eq _ _ _ | refine (hset_ne _ _ (by omega)).trans ?_)) rfl ?_
  refine AW.ifeq (tgt := 38) dX12_passOne_25 (by decide) (fun c25 => ?_) (fun c25 => absurd hk c25)
  refine AW.aload_n dX12_passOne_38 rfl ?_
  refine AW.dup dX12_passOne_39 ?_
  refine AW.getf dX12_passOne_40 gX12_145 (by repeat (first | assumption | exact hset_eq _ _ _ | refine (hset_ne _ _ (by omega)).trans ?_)) rfl ?_
  refine AW.iconst dX12_passOne_43 ?_
  refine AW.iaddR dX12_passOne_44 (by unfold RI; omega) ?_
  refine AW.putf dX12_passOne_45 pX12_145 (by repeat (first | assumption | exact hset_eq _ _ _ | refine (hset_ne _ _ (by omega)).trans ?_)) trivial ?_
  refine AW.iload_n dX12_passOne_48 rfl ?_
  refine AW.ireturn dX12_passOne_49 rfl ?_
  rw [show (m 21).toNat = c by omega]
  exact hq _ (updI m 21 (m 21 + 1)) (MR.p rfl hM) (by rw [updI_eq]; omega) (fun k hk => updI_ne _ _ hk)
end Mod10

