def PC (a : Nat) : Prop := 16 ≤ a ∧ a < 116
section Cls3
variable {d : Nat} {Q : Option AV → AH → Prop} {h h' : AH} {nw tr b : Nat} {ik sd at' tc : Int} {S S' : ST} {P : Nat → Prop} {s : SC} {x who : Int}
theorem CM.st {sd2 at2 : Int} (F : Fr h h' P) (hp : ∀ a, P a → a = 16 ∨ a = 17 ∨ a = 18 ∨ a = 70 ∨ a = 71 ∨ PS a) (H : CM h nw tr ik sd at' S) (e1 : S'.1 = S.1) (e2 : S'.2.1 = S.2.1) (hCO : CO h' nw tr ik (S'.2.2.2.1.length : Int) sd2) (hLet : LetA h' S'.2.2.1 at2)
    (hrow : ∃ f, h'.2 70 = .inr (6, f) ∧ ∀ (i : Nat) (x : Int), S'.2.2.2.1[i]? = some x → f i = x) (href : ∃ f, h'.2 71 = .inr (7, f) ∧ ∀ i, 1 ≤ i → i ≤ 6 → f i = S'.2.2.2.2 i) (ok' : stOK S') : CM h' nw tr ik sd2 at2 S' := by
  obtain ⟨h1, h2, h3, ⟨s1, s2, s3, s4⟩, h4, h5, h6, h7, -, -, h10, h11, ok⟩ := H
  have hp' : ∀ a, (a < 16 ∨ (19 ≤ a ∧ a < 70) ∨ a = 72 ∨ a = 74 ∨ a = 78 ∨ 136 ≤ a) → ¬ P a := fun a ha q => by have := hp a q; unfold PS at this; omega
  have e : ∀ a, (a < 16 ∨ a = 72 ∨ a = 78) → h'.2 a = h.2 a := fun a ha => F.2 a (by omega) (hp' a (by omega))
  have k1 := ok.1
  refine ⟨h1, hCO, by have := F.1; omega, ⟨(e 2 (by omega)).trans s1, (e 3 (by omega)).trans s2, (e 4 (by omega)).trans s3, (e 5 (by omega)).trans s4⟩, hLet, ?_, h6.fr F (by omega) (fun a ha => hp' a (by omega)), ?_, hrow, href, (e 72 (by omega)).trans h10, (e 78 (by omega)).trans h11, ok'⟩
  · rw [e1]; exact h5.fr F (by omega) (fun a ha => hp' a (by omega)) k1.2.1
  · rw [e2]; exact h7.fr F h3 (fun a ha => hp' a (by omega)) ok.2.1
theorem C_noStr {n m : Int} (g16 : CO h nw tr ik tc sd) (gn : h.2 nw = .inl (9, [.inr (nw + 1), .inr (nw + 2), .inl n, .inr (nw + 3), .inl m, .inr (nw + 4)])) (h1 : ¬ (0 ≤ x ∧ x < n) → Q (some (.inl 1)) h) (h0 : 0 ≤ x → x < n → Q (some (.inl 0)) h) : MW d 0 0 mX11_noStranger [.inr 16, .inl x] h Q := by
  unfold CO at g16
  show AW d 0 0 mX11_noStranger Q 0 [some (.inr 16), some (.inl x)] [] h
  refine AW.iload_n dX11_noStranger_0 rfl ?_
  refine AW.iflt (tgt := 15) dX11_noStranger_1 (by decide) (fun c1 => ?_) (fun c1 => ?_)
  · refine AW.iconst dX11_noStranger_15 ?_
    refine AW.goto (tgt := 20) dX11_noStranger_16 (by decide) ?_
    refine AW.zreturn dX11_noStranger_20 rfl (Or.inr rfl) ?_
    first | exact h0 (by omega) (by omega) | exact h1 (by omega)
  · refine AW.iload_n dX11_noStranger_4 rfl ?_
    refine AW.aload_n dX11_noStranger_5 rfl ?_
    refine AW.getf dX11_noStranger_6 gX11_19 (by repeat (first | assumption | exact hset_eq _ _ _ | refine (hset_ne _ _ (by omega)).trans ?_)) rfl ?_
    refine AW.getf dX11_noStranger_9 gX11_212 (by repeat (first | assumption | exact hset_eq _ _ _ | refine (hset_ne _ _ (by omega)).trans ?_)) rfl ?_
    refine AW.if_icmplt (tgt := 19) dX11_noStranger_12 (by decide) (fun c12 => ?_) (fun c12 => ?_)
    · refine AW.iconst dX11_noStranger_19 ?_
      refine AW.zreturn dX11_noStranger_20 rfl (Or.inl rfl) ?_
      first | exact h0 (by omega) (by omega) | exact h1 (by omega)
    · refine AW.iconst dX11_noStranger_15 ?_
      refine AW.goto (tgt := 20) dX11_noStranger_16 (by decide) ?_
      refine AW.zreturn dX11_noStranger_20 rfl (Or.inr rfl) ?_
      first | exact h0 (by omega) (by omega) | exact h1 (by omega)
theorem C_noLis {n m : Int} (g16 : CO h nw tr ik tc sd) (gn : h.2 nw = .inl (9, [.inr (nw + 1), .inr (nw + 2), .inl n, .inr (nw + 3), .inl m, .inr (nw + 4)])) (hn : 0 ≤ n) (hd : 1 ≤ d) (h1 : ¬ (-1 ≤ x ∧ x < n) → Q (some (.inl 1)) h) (h0 : -1 ≤ x → x < n → Q (some (.inl 0)) h) : MW d 0 0 mX11_noListener [.inr 16, .inl x] h Q := by
  have g16' := g16
  unfold CO at g16'
  show AW d 0 0 mX11_noListener Q 0 [some (.inr 16), some (.inl x)] [] h
  refine AW.iload_n dX11_noListener_0 rfl ?_
  refine AW.iconst dX11_noListener_1 ?_
  refine AW.if_icmpeq (tgt := 17) dX11_noListener_2 (by decide) (fun c2 => ?_) (fun c2 => ?_)
  · refine AW.iconst dX11_noListener_17 ?_
    refine AW.zreturn dX11_noListener_18 rfl (Or.inl rfl) ?_
    first | exact h0 (by omega) (by omega) | exact h1 (by omega)
  · refine AW.aload_n dX11_noListener_5 rfl ?_
    refine AW.iload_n dX11_noListener_6 rfl ?_
    refine AW.cI2 (d' := d - 1) (cX11_108 rfl) okX11_noStranger dX11_noListener_7 (by repeat (first | assumption | exact hset_eq _ _ _ | refine (hset_ne _ _ (by omega)).trans ?_)) (by omega) (C_noStr (by assumption) (by assumption) (fun c7 => ?_) (fun c7 c7b => ?_))
    · refine AW.ifeq_f (tgt := 17) dX11_noListener_10 (by decide) (by decide) ?_
      refine AW.iconst dX11_noListener_13 ?_
      refine AW.goto (tgt := 18) dX11_noListener_14 (by decide) ?_
      refine AW.zreturn dX11_noListener_18 rfl (Or.inr rfl) ?_
      first | exact h0 (by omega) (by omega) | exact h1 (by omega)
    · refine AW.ifeq_t (tgt := 17) dX11_noListener_10 (by decide) rfl ?_
      refine AW.iconst dX11_noListener_17 ?_
      refine AW.zreturn dX11_noListener_18 rfl (Or.inl rfl) ?_
      first | exact h0 (by omega) (by omega) | exact h1 (by omega)
theorem C_noSch {n m : Int} (g16 : CO h nw tr ik tc sd) (gn : h.2 nw = .inl (9, [.inr (nw + 1), .inr (nw + 2), .inl n, .inr (nw + 3), .inl m, .inr (nw + 4)])) (h1 : ¬ (0 ≤ x ∧ x < m) → Q (some (.inl 1)) h) (h0 : 0 ≤ x → x < m → Q (some (.inl 0)) h) : MW d 0 0 mX11_noScholar [.inr 16, .inl x] h Q := by
  unfold CO at g16
  show AW d 0 0 mX11_noScholar Q 0 [some (.inr 16), some (.inl x)] [] h
  refine AW.iload_n dX11_noScholar_0 rfl ?_
  refine AW.iflt (tgt := 15) dX11_noScholar_1 (by decide) (fun c1 => ?_) (fun c1 => ?_)
  · refine AW.iconst dX11_noScholar_15 ?_
    refine AW.goto (tgt := 20) dX11_noScholar_16 (by decide) ?_
    refine AW.zreturn dX11_noScholar_20 rfl (Or.inr rfl) ?_
    first | exact h0 (by omega) (by omega) | exact h1 (by omega)
  · refine AW.iload_n dX11_noScholar_4 rfl ?_
    refine AW.aload_n dX11_noScholar_5 rfl ?_
    refine AW.getf dX11_noScholar_6 gX11_19 (by repeat (first | assumption | exact hset_eq _ _ _ | refine (hset_ne _ _ (by omega)).trans ?_)) rfl ?_
    refine AW.getf dX11_noScholar_9 gX11_148 (by repeat (first | assumption | exact hset_eq _ _ _ | refine (hset_ne _ _ (by omega)).trans ?_)) rfl ?_
    refine AW.if_icmplt (tgt := 19) dX11_noScholar_12 (by decide) (fun c12 => ?_) (fun c12 => ?_)
    · refine AW.iconst dX11_noScholar_19 ?_
      refine AW.zreturn dX11_noScholar_20 rfl (Or.inl rfl) ?_
      first | exact h0 (by omega) (by omega) | exact h1 (by omega)
    · refine AW.iconst dX11_noScholar_15 ?_
      refine AW.goto (tgt := 20) dX11_noScholar_16 (by decide) ?_
      refine AW.zreturn dX11_noScholar_20 rfl (Or.inr rfl) ?_
      first | exact h0 (by omega) (by omega) | exact h1 (by omega)
theorem C_refused {n : Int} (H : CS h S) (h1 : 1 ≤ n) (h6 : n ≤ 6) (hq : ∀ h', CS h' (rf S n.toNat) → Fr h h' PC → Q (some (.inl (-n))) h') : MW d 0 0 mX11_refused [.inr 16, .inl n] h Q := by
  obtain ⟨nw, tr, ik, sd, at', HM, HL, HS⟩ := H
  obtain ⟨k1, g16, h9, k2, k3, k4, k5, k6, k7, ⟨f, k8, k9⟩, k10, k11, ok⟩ := id HM
  have g16' := g16
  unfold CO at g16'
  show AW d 0 0 mX11_refused Q 0 [some (.inr 16), some (.inl n)] [] h
  refine AW.aload_n dX11_refused_0 rfl ?_
  refine AW.getf dX11_refused_1 gX11_41 (by repeat (first | assumption | exact hset_eq _ _ _ | refine (hset_ne _ _ (by omega)).trans ?_)) rfl ?_
  refine AW.iload_n dX11_refused_4 rfl ?_
  refine AW.dup2 dX11_refused_5 ?_
  refine AW.iaload dX11_refused_6 (by repeat (first | assumption | exact hset_eq _ _ _ | refine (hset_ne _ _ (by omega)).trans ?_)) (by omega) (by omega) ?_
  refine AW.iconst dX11_refused_7 ?_
  refine AW.iadd dX11_refused_8 ?_
  refine AW.iastore dX11_refused_9 (by omega) (by repeat (first | assumption | exact hset_eq _ _ _ | refine (hset_ne _ _ (by omega)).trans ?_)) (by omega) (by omega) ?_
  refine AW.iload_n dX11_refused_10 rfl ?_
  refine AW.inegR dX11_refused_11 (by unfold RI; omega) ?_
  refine AW.ireturn dX11_refused_12 rfl ?_
  have F : Fr h (hset h 71 (.inr (7, updI f n.toNat (a_add (f n.toNat) 1)))) (fun a => a = 71) := Fr.set rfl
  refine hq _ ⟨nw, tr, ik, sd, at', HM.st F (fun a ha => by omega) rfl rfl ((hset_ne _ _ (by decide)).trans g16) (k3.fr F h9 ⟨by decide, by decide⟩) ?_ ⟨_, hset_eq _ _ _, fun i i1 i2 => ?_⟩ (rf_ok ok), HL.fr F h9 (fun a ha => by omega), HS.fr F h9 (fun a ha => by omega)⟩ (F.mono (fun a ha => by unfold PC; omega))
  · obtain ⟨f1, q1, q2⟩ := k7
    exact ⟨f1, (hset_ne _ _ (by decide)).trans q1, q2⟩
  · show updI f n.toNat (a_add (f n.toNat) 1) i = updI S.2.2.2.2 n.toNat (a_add (S.2.2.2.2 n.toNat) 1) i
    unfold updI
    rw [k9 i i1 i2, k9 n.toNat (by omega) (by omega)]
theorem C_far {n : Int} (H : CS h S) (h1 : 1 ≤ n) (h6 : n ≤ 6) (hd : 1 ≤ d) (hq : ∀ h', CS h' (rf S n.toNat) → Fr h h' PC → Q (some (.inl (1000000000 + n))) h') : MW d 0 0 mX11_refusedFarOff [.inr 16, .inl n] h Q := by
  obtain ⟨nw, tr, ik, sd, at', HM, -⟩ := id H
  have g16 := HM.2.1
  unfold CO at g16
  show AW d 0 0 mX11_refusedFarOff Q 0 [some (.inr 16), some (.inl n)] [] h
  refine AW.ldc (n := 1000000000) dX11_refusedFarOff_0 kX11_239 (by constructor <;> decide) ?_
  refine AW.aload_n dX11_refusedFarOff_2 rfl ?_
  refine AW.iload_n dX11_refusedFarOff_3 rfl ?_
  refine AW.cI2 (d' := d - 1) (cX11_84 rfl) okX11_refused dX11_refusedFarOff_4 (by repeat (first | assumption | exact hset_eq _ _ _ | refine (hset_ne _ _ (by omega)).trans ?_)) (by omega) (C_refused H h1 h6 (fun h2 H2 F2 => ?_))
  refine AW.isubR dX11_refusedFarOff_7 (by unfold RI; omega) ?_
  refine AW.ireturn dX11_refusedFarOff_8 rfl ?_
  rw [show (1000000000 : Int) - -n = 1000000000 + n by omega]
  exact hq h2 H2 F2
end Cls3

