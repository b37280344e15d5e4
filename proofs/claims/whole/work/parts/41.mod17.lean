section Mod17
variable {d : Nat} {Q : Option AV → AH → Prop} {h h0 : AH} {m : Nat → Int} {A : Nat → Nat → Int} {who x y z v : Int} {S : ST} {s : SC}
theorem L_behind {hh : Nat} {ws : List Nat} (hM : MR h0 h m A) (hh6 : hh < 6) (h20 : ws.length ≤ 20) (hw : ∀ j w : Nat, ws[j]? = some w → A 123 (20 * hh + j) = (w : Int)) {a2 : Option AV} {e : Nat} (he : e ≤ 20) (hq : Q (some (.inl (e : Int))) h) :
    ∀ (r n k : Nat) (z : Option AV), k + r = ws.length → e = k + sk n (ws.drop k) → (∃ g, hgt (ws.drop k) = some g ∧ n ≤ g) → n ≤ 30 → AW d 0 0 mX12_behind Q 5 [some (.inr 116), some (.inl (hh : Int)), a2, some (.inl (n : Int)), some (.inl (k : Int)), z] [] h := by
  obtain ⟨g116, g117, g118, g119, g120, g121, g122, g123, -⟩ := id hM
  intro r
  induction r with
  | zero =>
    intro n k z hk hek hg hn
    obtain ⟨g, hg1, hg2⟩ := hg
    rw [List.drop_of_length_le (by omega)] at hg1 hek
    cases hg1
    have : n = 0 := by omega
    subst this
    rw [sk_z, Nat.add_zero] at hek
    refine AW.iload_n dX12_behind_5 rfl ?_
    refine AW.ifle (tgt := 55) dX12_behind_6 (by decide) (fun c6 => ?_) (fun c6 => absurd c6 (by decide))
    refine AW.iload dX12_behind_55 rfl ?_
    refine AW.ireturn dX12_behind_57 rfl ?_
    rw [← hek]; exact hq
  | succ r ih =>
    intro n k z hk hek hg hn
    obtain ⟨g, hg1, hg2⟩ := hg
    cases n with
    | zero =>
      rw [sk_z, Nat.add_zero] at hek
      refine AW.iload_n dX12_behind_5 rfl ?_
      refine AW.ifle (tgt := 55) dX12_behind_6 (by decide) (fun c6 => ?_) (fun c6 => absurd c6 (by decide))
      refine AW.iload dX12_behind_55 rfl ?_
      refine AW.ireturn dX12_behind_57 rfl ?_
      rw [← hek]; exact hq
    | succ n =>
      obtain ⟨w, hwk⟩ : ∃ w, ws[k]? = some w := ⟨_, List.getElem?_eq_getElem (by omega)⟩
      have hdr := drop_cons hwk
      rw [hdr] at hg1 hek
      obtain ⟨h9, r2, hr2, hp, hkr⟩ := hgt_un hg1
      rw [sk_cons] at hek
      have hrl := hgt_le hr2
      rw [List.length_drop] at hrl
      have e1 : (20 * (hh : Int) + (k : Int)).toNat = 20 * hh + k := by omega
      have nx := ih (n + ptW w) (k + 1) (some (.inl (w : Int))) (by omega) (by omega) ⟨r2, hr2, by omega⟩ (by omega)
      have ew := hw k w hwk
      unfold ptW at nx
      refine AW.iload_n dX12_behind_5 rfl ?_
      refine AW.ifle (tgt := 55) dX12_behind_6 (by decide) (fun c6 => absurd c6 (by omega)) (fun c6 => ?_)
      refine AW.aload_n dX12_behind_9 rfl ?_
      refine AW.getf dX12_behind_10 gX12_28 (by repeat (first | assumption | exact hset_eq _ _ _ | refine (hset_ne _ _ (by omega)).trans ?_)) rfl ?_
      refine AW.bipush dX12_behind_13 ?_
      refine AW.iload_n dX12_behind_15 rfl ?_
      refine AW.imulR dX12_behind_16 (by unfold RI; omega) ?_
      refine AW.iload dX12_behind_17 rfl ?_
      refine AW.iaddR dX12_behind_19 (by unfold RI; omega) ?_
      refine AW.iaload dX12_behind_20 (by repeat (first | assumption | exact hset_eq _ _ _ | refine (hset_ne _ _ (by omega)).trans ?_)) (by omega) (by omega) ?_
      rw [e1, ew]
      refine AW.ist5 dX12_behind_21 (by decide) ?_
      refine AW.iload_n dX12_behind_23 rfl ?_
      refine AW.iload dX12_behind_24 rfl ?_
      refine AW.bipush dX12_behind_26 ?_
      refine AW.if_icmpne (tgt := 35) dX12_behind_28 (by decide) (fun c28 => ?_) (fun c28 => ?_)
      · refine AW.iload dX12_behind_35 rfl ?_
        refine AW.bipush dX12_behind_37 ?_
        refine AW.if_icmple (tgt := 46) dX12_behind_39 (by decide) (fun c39 => ?_) (fun c39 => ?_)
        · refine AW.iconst dX12_behind_46 ?_
          refine AW.iaddR dX12_behind_47 (by unfold RI; omega) ?_
          refine AW.ist3 dX12_behind_48 (by decide) ?_
          refine AW.inc4 dX12_behind_49 (by decide) (by unfold RI; omega) ?_
          refine AW.goto (tgt := 5) dX12_behind_52 (by decide) ?_
          first
            | (rw [if_neg (by omega), if_pos (by omega)] at nx
               rw [show ((n + 1 : Nat) : Int) + 0 = ((n + 1 : Nat) : Int) by omega]
               exact nx)
            | (rw [if_neg (by omega), if_neg (by omega)] at nx
               rw [show ((n + 1 : Nat) : Int) + 1 = ((n + 2 : Nat) : Int) by omega]
               exact nx)
            | (rw [if_pos (by omega)] at nx
               rw [show ((n + 1 : Nat) : Int) + -1 = ((n + 0 : Nat) : Int) by omega]
               exact nx)
        · refine AW.iconst dX12_behind_42 ?_
          refine AW.goto (tgt := 47) dX12_behind_43 (by decide) ?_
          refine AW.iaddR dX12_behind_47 (by unfold RI; omega) ?_
          refine AW.ist3 dX12_behind_48 (by decide) ?_
          refine AW.inc4 dX12_behind_49 (by decide) (by unfold RI; omega) ?_
          refine AW.goto (tgt := 5) dX12_behind_52 (by decide) ?_
          first
            | (rw [if_neg (by omega), if_pos (by omega)] at nx
               rw [show ((n + 1 : Nat) : Int) + 0 = ((n + 1 : Nat) : Int) by omega]
               exact nx)
            | (rw [if_neg (by omega), if_neg (by omega)] at nx
               rw [show ((n + 1 : Nat) : Int) + 1 = ((n + 2 : Nat) : Int) by omega]
               exact nx)
            | (rw [if_pos (by omega)] at nx
               rw [show ((n + 1 : Nat) : Int) + -1 = ((n + 0 : Nat) : Int) by omega]
               exact nx)
      · refine AW.iconst dX12_behind_31 ?_
        refine AW.goto (tgt := 47) dX12_behind_32 (by decide) ?_
        refine AW.iaddR dX12_behind_47 (by unfold RI; omega) ?_
        refine AW.ist3 dX12_behind_48 (by decide) ?_
        refine AW.inc4 dX12_behind_49 (by decide) (by unfold RI; omega) ?_
        refine AW.goto (tgt := 5) dX12_behind_52 (by decide) ?_
        first
          | (rw [if_neg (by omega), if_pos (by omega)] at nx
             rw [show ((n + 1 : Nat) : Int) + 0 = ((n + 1 : Nat) : Int) by omega]
             exact nx)
          | (rw [if_neg (by omega), if_neg (by omega)] at nx
             rw [show ((n + 1 : Nat) : Int) + 1 = ((n + 2 : Nat) : Int) by omega]
             exact nx)
          | (rw [if_pos (by omega)] at nx
             rw [show ((n + 1 : Nat) : Int) + -1 = ((n + 0 : Nat) : Int) by omega]
             exact nx)
theorem W_behind {hh i : Nat} {ws : List Nat} (hM : MR h0 h m A) (hh6 : hh < 6) (h20 : ws.length ≤ 20) (hw : ∀ j w : Nat, ws[j]? = some w → A 123 (20 * hh + j) = (w : Int)) (hi : i ≤ ws.length) (hb : bhF ws i ≤ ws.length) (hg : ∃ g, hgt (ws.drop i) = some g ∧ 1 ≤ g) (hq : Q (some (.inl (bhF ws i : Int))) h) : MW d 0 0 mX12_behind [.inr 116, .inl (hh : Int), .inl (i : Int)] h Q := by
  show AW d 0 0 mX12_behind Q 0 [some (.inr 116), some (.inl (hh : Int)), some (.inl (i : Int)), none, none, none] [] h
  refine AW.iconst dX12_behind_0 ?_
  refine AW.ist3 dX12_behind_1 (by decide) ?_
  refine AW.iload_n dX12_behind_2 rfl ?_
  refine AW.ist4 dX12_behind_3 (by decide) ?_
  exact L_behind hM hh6 h20 hw (show bhF ws i ≤ 20 by omega) hq (ws.length - i) 1 i none (by omega) rfl hg (by decide)
/-- the table holds the row, all else that counts is as it was -/
def Tab (m m' : Nat → Int) (A A' : Nat → Nat → Int) (c : List Nat) : Prop := (∀ k, k ≠ 24 → m' k = m k) ∧ (∀ k, k ≠ 131 → A' k = A k) ∧ m' 24 = (c.length : Int) ∧ ∀ j w : Nat, c[j]? = some w → A' 131 j = (w : Int)
theorem L_but {hh f a b : Nat} {ws : List Nat} (hh6 : hh < 6) (h20 : ws.length ≤ 20) (hlen : A 122 hh = (ws.length : Int)) (hw : ∀ j w : Nat, ws[j]? = some w → A 123 (20 * hh + j) = (w : Int))
    (hq : ∀ h' m' A', MR h0 h' m' A' → Tab m m' A A' (butL ws f a b ws.length) → Q none h') :
    ∀ (r j : Nat) (h : AH) (m' : Nat → Int) (A' : Nat → Nat → Int), j + r = ws.length → MR h0 h m' A' → Tab m m' A A' (butL ws f a b j) → (butL ws f a b j).length ≤ j →
      AW d 0 0 mX12_laysBut Q 8 [some (.inr 116), some (.inl (hh : Int)), some (.inl (f : Int)), some (.inl (a : Int)), some (.inl (b : Int)), some (.inl (j : Int))] [] h := by
  intro r
  induction r with
  | zero =>
    intro j h m' A' hj hM hT hl
    obtain ⟨g116, g117, g118, g119, g120, g121, g122, -⟩ := id hM
    have hj2 : j = ws.length := by omega
    subst hj2
    have e1 : A' 122 ((hh : Int)).toNat = (ws.length : Int) := by rw [show ((hh : Int)).toNat = hh by omega, hT.2.1 122 (by decide)]; exact hlen
    refine AW.iload dX12_laysBut_8 rfl ?_
    refine AW.aload_n dX12_laysBut_10 rfl ?_
    refine AW.getf dX12_laysBut_11 gX12_25 (by repeat (first | assumption | exact hset_eq _ _ _ | refine (hset_ne _ _ (by omega)).trans ?_)) rfl ?_
    refine AW.iload_n dX12_laysBut_14 rfl ?_
    refine AW.iaload dX12_laysBut_15 (by repeat (first | assumption | exact hset_eq _ _ _ | refine (hset_ne _ _ (by omega)).trans ?_)) (by omega) (by omega) ?_
    refine AW.if_icmpge (tgt := 78) dX12_laysBut_16 (by decide) (fun c16 => ?_) (fun c16 => absurd c16 (by rw [e1]; omega))
    refine AW.vreturn dX12_laysBut_78 rfl ?_
    exact hq h m' A' hM hT
  | succ r ih =>
    intro j h m' A' hj hM hT hl
    obtain ⟨g116, g117, g118, g119, g120, g121, g122, g123, -, -, -, -, -, -, -, g131, -⟩ := id hM
    obtain ⟨t1, t2, t3, t4⟩ := id hT
    have e1 : A' 122 ((hh : Int)).toNat = (ws.length : Int) := by rw [show ((hh : Int)).toNat = hh by omega, t2 122 (by decide)]; exact hlen
    obtain ⟨w, hwj⟩ : ∃ w, ws[j]? = some w := ⟨_, List.getElem?_eq_getElem (by omega)⟩
    have ew : A' 123 (20 * (hh : Int) + (j : Int)).toNat = (w : Int) := by rw [show (20 * (hh : Int) + (j : Int)).toNat = 20 * hh + j by omega, t2 123 (by decide)]; exact hw j w hwj
    have egd : ws.getD j 0 = w := by rw [List.getD_eq_getElem?_getD, hwj]; rfl
    have sk1 : (j = f ∨ (a ≤ j ∧ j < b)) → butL ws f a b (j + 1) = butL ws f a b j := fun q => if_pos q
    have sk2 : ¬ (j = f ∨ (a ≤ j ∧ j < b)) → butL ws f a b (j + 1) = butL ws f a b j ++ [w] := fun q => by rw [← egd]; exact if_neg q
    refine AW.iload dX12_laysBut_8 rfl ?_
    refine AW.aload_n dX12_laysBut_10 rfl ?_
    refine AW.getf dX12_laysBut_11 gX12_25 (by repeat (first | assumption | exact hset_eq _ _ _ | refine (hset_ne _ _ (by omega)).trans ?_)) rfl ?_
    refine AW.iload_n dX12_laysBut_14 rfl ?_
    refine AW.iaload dX12_laysBut_15 (by repeat (first | assumption | exact hset_eq _ _ _ | refine (hset_ne _ _ (by omega)).trans ?_)) (by omega) (by omega) ?_
    refine AW.if_icmpge (tgt := 78) dX12_laysBut_16 (by decide) (fun c16 => absurd c16 (by rw [e1]; omega)) (fun c16 => ?_)
    refine AW.iload dX12_laysBut_19 rfl ?_
    refine AW.iload_n dX12_laysBut_21 rfl ?_
    refine AW.if_icmpeq (tgt := 72) dX12_laysBut_22 (by decide) (fun c22 => ?_) (fun c22 => ?_)
    · refine AW.inc5 dX12_laysBut_72 (by decide) (by unfold RI; omega) ?_
      refine AW.goto (tgt := 8) dX12_laysBut_75 (by decide) ?_
      first
        | (have eb := sk1 (by omega)
           exact ih (j + 1) h m' A' (by omega) hM (by rw [eb]; exact hT) (by rw [eb]; omega))
        | (have eb := sk2 (by omega)
           rw [ew]
           refine ih (j + 1) _ (updI m' 24 (m' 24 + 1)) (updA A' 131 (updI (A' 131) (m' 24).toNat (w : Int))) (by omega) (MR.p rfl (MR.s131 hM)) ?_ (by rw [eb, List.length_append, List.length_singleton]; omega)
           rw [eb]
           refine ⟨fun k hk => by rw [updI_ne _ _ hk]; exact t1 k hk, fun k hk => by rw [updA_ne _ _ hk]; exact t2 k hk, by rw [updI_eq, List.length_append, List.length_singleton]; omega, fun i u hi => ?_⟩
           rw [updA_eq]
           rcases Nat.lt_or_ge i (butL ws f a b j).length with q | q
           · rw [List.getElem?_append_left q] at hi
             rw [updI_ne _ _ (by omega)]
             exact t4 i u hi
           · rw [List.getElem?_append_right q] at hi
             have h2 := (List.getElem?_eq_some_iff.mp hi).1
             simp only [List.length_singleton] at h2
             rw [show i - (butL ws f a b j).length = 0 by omega] at hi
             cases hi
             rw [show (m' 24).toNat = i by omega, updI_eq])
    · refine AW.iload dX12_laysBut_25 rfl ?_
      refine AW.iload_n dX12_laysBut_27 rfl ?_
      refine AW.if_icmplt (tgt := 41) dX12_laysBut_28 (by decide) (fun c28 => ?_) (fun c28 => ?_)
      · refine AW.aload_n dX12_laysBut_41 rfl ?_
        refine AW.getf dX12_laysBut_42 gX12_52 (by repeat (first | assumption | exact hset_eq _ _ _ | refine (hset_ne _ _ (by omega)).trans ?_)) rfl ?_
        refine AW.aload_n dX12_laysBut_45 rfl ?_
        refine AW.getf dX12_laysBut_46 gX12_118 (by repeat (first | assumption | exact hset_eq _ _ _ | refine (hset_ne _ _ (by omega)).trans ?_)) rfl ?_
        refine AW.aload_n dX12_laysBut_49 rfl ?_
        refine AW.getf dX12_laysBut_50 gX12_28 (by repeat (first | assumption | exact hset_eq _ _ _ | refine (hset_ne _ _ (by omega)).trans ?_)) rfl ?_
        refine AW.bipush dX12_laysBut_53 ?_
        refine AW.iload_n dX12_laysBut_55 rfl ?_
        refine AW.imulR dX12_laysBut_56 (by unfold RI; omega) ?_
        refine AW.iload dX12_laysBut_57 rfl ?_
        refine AW.iaddR dX12_laysBut_59 (by unfold RI; omega) ?_
        refine AW.iaload dX12_laysBut_60 (by repeat (first | assumption | exact hset_eq _ _ _ | refine (hset_ne _ _ (by omega)).trans ?_)) (by omega) (by omega) ?_
        refine AW.iastore dX12_laysBut_61 (by omega) (by repeat (first | assumption | exact hset_eq _ _ _ | refine (hset_ne _ _ (by omega)).trans ?_)) (by omega) (by omega) ?_
        refine AW.aload_n dX12_laysBut_62 rfl ?_
        refine AW.dup dX12_laysBut_63 ?_
        refine AW.getf dX12_laysBut_64 gX12_118 (by repeat (first | assumption | exact hset_eq _ _ _ | refine (hset_ne _ _ (by omega)).trans ?_)) rfl ?_
        refine AW.iconst dX12_laysBut_67 ?_
        refine AW.iaddR dX12_laysBut_68 (by unfold RI; omega) ?_
        refine AW.putf dX12_laysBut_69 pX12_118 (by repeat (first | assumption | exact hset_eq _ _ _ | refine (hset_ne _ _ (by omega)).trans ?_)) trivial ?_
        refine AW.inc5 dX12_laysBut_72 (by decide) (by unfold RI; omega) ?_
        refine AW.goto (tgt := 8) dX12_laysBut_75 (by decide) ?_
        first
          | (have eb := sk1 (by omega)
             exact ih (j + 1) h m' A' (by omega) hM (by rw [eb]; exact hT) (by rw [eb]; omega))
          | (have eb := sk2 (by omega)
             rw [ew]
             refine ih (j + 1) _ (updI m' 24 (m' 24 + 1)) (updA A' 131 (updI (A' 131) (m' 24).toNat (w : Int))) (by omega) (MR.p rfl (MR.s131 hM)) ?_ (by rw [eb, List.length_append, List.length_singleton]; omega)
             rw [eb]
             refine ⟨fun k hk => by rw [updI_ne _ _ hk]; exact t1 k hk, fun k hk => by rw [updA_ne _ _ hk]; exact t2 k hk, by rw [updI_eq, List.length_append, List.length_singleton]; omega, fun i u hi => ?_⟩
             rw [updA_eq]
             rcases Nat.lt_or_ge i (butL ws f a b j).length with q | q
             · rw [List.getElem?_append_left q] at hi
               rw [updI_ne _ _ (by omega)]
               exact t4 i u hi
             · rw [List.getElem?_append_right q] at hi
               have h2 := (List.getElem?_eq_some_iff.mp hi).1
               simp only [List.length_singleton] at h2
               rw [show i - (butL ws f a b j).length = 0 by omega] at hi
               cases hi
               rw [show (m' 24).toNat = i by omega, updI_eq])
      · refine AW.iload dX12_laysBut_31 rfl ?_
        refine AW.iload dX12_laysBut_33 rfl ?_
        refine AW.if_icmpge (tgt := 41) dX12_laysBut_35 (by decide) (fun c35 => ?_) (fun c35 => ?_)
        · refine AW.aload_n dX12_laysBut_41 rfl ?_
          refine AW.getf dX12_laysBut_42 gX12_52 (by repeat (first | assumption | exact hset_eq _ _ _ | refine (hset_ne _ _ (by omega)).trans ?_)) rfl ?_
          refine AW.aload_n dX12_laysBut_45 rfl ?_
          refine AW.getf dX12_laysBut_46 gX12_118 (by repeat (first | assumption | exact hset_eq _ _ _ | refine (hset_ne _ _ (by omega)).trans ?_)) rfl ?_
          refine AW.aload_n dX12_laysBut_49 rfl ?_
          refine AW.getf dX12_laysBut_50 gX12_28 (by repeat (first | assumption | exact hset_eq _ _ _ | refine (hset_ne _ _ (by omega)).trans ?_)) rfl ?_
          refine AW.bipush dX12_laysBut_53 ?_
          refine AW.iload_n dX12_laysBut_55 rfl ?_
          refine AW.imulR dX12_laysBut_56 (by unfold RI; omega) ?_
          refine AW.iload dX12_laysBut_57 rfl ?_
          refine AW.iaddR dX12_laysBut_59 (by unfold RI; omega) ?_
          refine AW.iaload dX12_laysBut_60 (by repeat (first | assumption | exact hset_eq _ _ _ | refine (hset_ne _ _ (by omega)).trans ?_)) (by omega) (by omega) ?_
          refine AW.iastore dX12_laysBut_61 (by omega) (by repeat (first | assumption | exact hset_eq _ _ _ | refine (hset_ne _ _ (by omega)).trans ?_)) (by omega) (by omega) ?_
          refine AW.aload_n dX12_laysBut_62 rfl ?_
          refine AW.dup dX12_laysBut_63 ?_
          refine AW.getf dX12_laysBut_64 gX12_118 (by repeat (first | assumption | exact hset_eq _ _ _ | refine (hset_ne _ _ (by omega)).trans ?_)) rfl ?_
          refine AW.iconst dX12_laysBut_67 ?_
          refine AW.iaddR dX12_laysBut_68 (by unfold RI; omega) ?_
          refine AW.putf dX12_laysBut_69 pX12_118 (by repeat (first | assumption | exact hset_eq _ _ _ | refine (hset_ne _ _ (by omega)).trans ?_)) trivial ?_
          refine AW.inc5 dX12_laysBut_72 (by decide) (by unfold RI; omega) ?_
          refine AW.goto (tgt := 8) dX12_laysBut_75 (by decide) ?_
          first
            | (have eb := sk1 (by omega)
               exact ih (j + 1) h m' A' (by omega) hM (by rw [eb]; exact hT) (by rw [eb]; omega))
            | (have eb := sk2 (by omega)
               rw [ew]
               refine ih (j + 1) _ (updI m' 24 (m' 24 + 1)) (updA A' 131 (updI (A' 131) (m' 24).toNat (w : Int))) (by omega) (MR.p rfl (MR.s131 hM)) ?_ (by rw [eb, List.length_append, List.length_singleton]; omega)
               rw [eb]
               refine ⟨fun k hk => by rw [updI_ne _ _ hk]; exact t1 k hk, fun k hk => by rw [updA_ne _ _ hk]; exact t2 k hk, by rw [updI_eq, List.length_append, List.length_singleton]; omega, fun i u hi => ?_⟩
               rw [updA_eq]
               rcases Nat.lt_or_ge i (butL ws f a b j).length with q | q
               · rw [List.getElem?_append_left q] at hi
                 rw [updI_ne _ _ (by omega)]
                 exact t4 i u hi
               · rw [List.getElem?_append_right q] at hi
                 have h2 := (List.getElem?_eq_some_iff.mp hi).1
                 simp only [List.length_singleton] at h2
                 rw [show i - (butL ws f a b j).length = 0 by omega] at hi
                 cases hi
                 rw [show (m' 24).toNat = i by omega, updI_eq])
        · refine AW.goto (tgt := 72) dX12_laysBut_38 (by decide) ?_
          refine AW.inc5 dX12_laysBut_72 (by decide) (by unfold RI; omega) ?_
          refine AW.goto (tgt := 8) dX12_laysBut_75 (by decide) ?_
          first
            | (have eb := sk1 (by omega)
               exact ih (j + 1) h m' A' (by omega) hM (by rw [eb]; exact hT) (by rw [eb]; omega))
            | (have eb := sk2 (by omega)
               rw [ew]
               refine ih (j + 1) _ (updI m' 24 (m' 24 + 1)) (updA A' 131 (updI (A' 131) (m' 24).toNat (w : Int))) (by omega) (MR.p rfl (MR.s131 hM)) ?_ (by rw [eb, List.length_append, List.length_singleton]; omega)
               rw [eb]
               refine ⟨fun k hk => by rw [updI_ne _ _ hk]; exact t1 k hk, fun k hk => by rw [updA_ne _ _ hk]; exact t2 k hk, by rw [updI_eq, List.length_append, List.length_singleton]; omega, fun i u hi => ?_⟩
               rw [updA_eq]
               rcases Nat.lt_or_ge i (butL ws f a b j).length with q | q
               · rw [List.getElem?_append_left q] at hi
                 rw [updI_ne _ _ (by omega)]
                 exact t4 i u hi
               · rw [List.getElem?_append_right q] at hi
                 have h2 := (List.getElem?_eq_some_iff.mp hi).1
                 simp only [List.length_singleton] at h2
                 rw [show i - (butL ws f a b j).length = 0 by omega] at hi
                 cases hi
                 rw [show (m' 24).toNat = i by omega, updI_eq])
theorem W_laysBut {hh f a b : Nat} {ws : List Nat} (hM : MR h0 h m A) (hh6 : hh < 6) (h20 : ws.length ≤ 20) (hlen : A 122 hh = (ws.length : Int)) (hw : ∀ j w : Nat, ws[j]? = some w → A 123 (20 * hh + j) = (w : Int))
    (hq : ∀ h' m' A', MR h0 h' m' A' → Tab m m' A A' (butL ws f a b ws.length) → Q none h') : MW d 0 0 mX12_laysBut [.inr 116, .inl (hh : Int), .inl (f : Int), .inl (a : Int), .inl (b : Int)] h Q := by
  obtain ⟨g116, -⟩ := id hM
  show AW d 0 0 mX12_laysBut Q 0 [some (.inr 116), some (.inl (hh : Int)), some (.inl (f : Int)), some (.inl (a : Int)), some (.inl (b : Int)), none] [] h
  refine AW.aload_n dX12_laysBut_0 rfl ?_
  refine AW.iconst dX12_laysBut_1 ?_
  refine AW.putf dX12_laysBut_2 pX12_118 (by repeat (first | assumption | exact hset_eq _ _ _ | refine (hset_ne _ _ (by omega)).trans ?_)) trivial ?_
  refine AW.iconst dX12_laysBut_5 ?_
  refine AW.ist5 dX12_laysBut_6 (by decide) ?_
  exact L_but hh6 h20 hlen hw hq ws.length 0 _ (updI m 24 0) A (by omega) (MR.p rfl hM) ⟨fun k hk => updI_ne _ _ hk, fun _ _ => rfl, rfl, fun j w hj => by simp [butL] at hj⟩ (Nat.le_refl _)
/-- while one looks at what can be dropped -/
def T5 (m m' : Nat → Int) (A A' : Nat → Nat → Int) : Prop := (∀ k, k ≠ 24 → k ≠ 28 → k ≠ 29 → m' k = m k) ∧ ∀ k, k ≠ 131 → k ≠ 132 → A' k = A k
theorem T5.sq {m' : Nat → Int} {A' : Nat → Nat → Int} (h : T5 m m' A A') : SQ m m' A A' := ⟨⟨h.1 7 (by decide) (by decide) (by decide), h.1 8 (by decide) (by decide) (by decide), h.1 15 (by decide) (by decide) (by decide), h.1 19 (by decide) (by decide) (by decide), h.1 31 (by decide) (by decide) (by decide)⟩, h.2 117 (by decide) (by decide), h.2 118 (by decide) (by decide), h.2 119 (by decide) (by decide), h.2 120 (by decide) (by decide), h.2 121 (by decide) (by decide), h.2 122 (by decide) (by decide), h.2 123 (by decide) (by decide), h.2 124 (by decide) (by decide), h.2 130 (by decide) (by decide), h.2 135 (by decide) (by decide)⟩
theorem W_tells {c : List Nat} {due : Int} {m1 : Nat → Int} {A1 : Nat → Nat → Int} (hM : MR h0 h m1 A1) (hS : MSC m1 A1 s) (ok : scOK s) (hT : T5 m m1 A A1) (hd : 4 ≤ d) (h1 : -1 ≤ who) (h2 : who < s_n s) (h24 : m1 24 = (c.length : Int)) (hc : ∀ j w : Nat, c[j]? = some w → A1 131 j = (w : Int)) (wf : hgt c = some 1) (h20 : c.length ≤ 20) (hb0 : 0 ≤ m1 28) (hb1 : m1 28 ≤ 1000)
    (hq : ∀ h' m' A', MR h0 h' m' A' → T5 m m' A A' → m' 28 = (drS s who due c (m1 28, m1 29)).1 → m' 29 = (drS s who due c (m1 28, m1 29)).2 → Q none h') : MW d 0 0 mX12_tells [.inr 116, .inl who, .inl due] h Q := by
  obtain ⟨g116, -⟩ := id hM
  have h5 := ok.1
  obtain ⟨c1, c2, c3⟩ := nm_lf hS ok h1 h2
  show AW d 0 0 mX12_tells Q 0 [some (.inr 116), some (.inl who), some (.inl due)] [] h
  refine AW.aload_n dX12_tells_0 rfl ?_
  refine AW.iload_n dX12_tells_1 rfl ?_
  refine AW.cI2 (d' := d - 1) (cX12_125 rfl) okX12_concluded dX12_tells_2 (by repeat (first | assumption | exact hset_eq _ _ _ | refine (hset_ne _ _ (by omega)).trans ?_)) (by omega) (W_concluded (ws := c) hM (by omega) (by omega) hc h24 wf h20 (fun h3 B hM3 hB => ?_))
  rw [c1, c2, concF_congr c3]
  have hT3 : T5 m m1 A B := ⟨hT.1, fun k k1 k2 => by rw [hB k k2]; exact hT.2 k k1 k2⟩
  obtain ⟨k116, -⟩ := id hM3
  have ecn : cnS s who c = concF (kkS s who) (ggS s who) (lfK (nmS s who)) c := rfl
  have hneg : ¬ concF (kkS s who) (ggS s who) (lfK (nmS s who)) c = due → Q none h3 := fun q => hq h3 m1 B hM3 hT3 (by unfold drS; rw [if_neg (by rw [ecn]; exact q)]) (by unfold drS; rw [if_neg (by rw [ecn]; exact q)])
  have hpos : ∀ v29 : Int, concF (kkS s who) (ggS s who) (lfK (nmS s who)) c = due → (v29 = if (c.length : Int) < m1 29 then (c.length : Int) else m1 29) → Q none (hset (hset h3 116 (.inl (13, (mol m1).set 28 (.inl (m1 28 + 1))))) 116 (.inl (13, (mol (updI m1 28 (m1 28 + 1))).set 29 (.inl v29)))) := by
    intro v29 q hv
    have hM4 : MR h0 (hset h3 116 (.inl (13, (mol m1).set 28 (.inl (m1 28 + 1))))) (updI m1 28 (m1 28 + 1)) B := MR.p rfl hM3
    exact hq _ (updI (updI m1 28 (m1 28 + 1)) 29 v29) B (MR.p rfl hM4) ⟨fun k k1 k2 k3 => by rw [updI_ne _ _ k3, updI_ne _ _ k2]; exact hT3.1 k k1 k2 k3, hT3.2⟩ (by unfold drS; rw [if_pos (by rw [ecn]; exact q)]; rfl) (by unfold drS; rw [if_pos (by rw [ecn]; exact q)]; exact hv)
  refine AW.iload_n dX12_tells_5 rfl ?_
  refine AW.if_icmpeq (tgt := 10) dX12_tells_6 (by decide) (fun c6 => ?_) (fun c6 => ?_)
  · refine AW.aload_n dX12_tells_10 rfl ?_
    refine AW.dup dX12_tells_11 ?_
    refine AW.getf dX12_tells_12 gX12_223 (by repeat (first | assumption | exact hset_eq _ _ _ | refine (hset_ne _ _ (by omega)).trans ?_)) rfl ?_
    refine AW.iconst dX12_tells_15 ?_
    refine AW.iaddR dX12_tells_16 (by unfold RI; omega) ?_
    refine AW.putf dX12_tells_17 pX12_223 (by repeat (first | assumption | exact hset_eq _ _ _ | refine (hset_ne _ _ (by omega)).trans ?_)) trivial ?_
    refine AW.aload_n dX12_tells_20 rfl ?_
    refine AW.aload_n dX12_tells_21 rfl ?_
    refine AW.getf dX12_tells_22 gX12_118 (by repeat (first | assumption | exact hset_eq _ _ _ | refine (hset_ne _ _ (by omega)).trans ?_)) rfl ?_
    refine AW.aload_n dX12_tells_25 rfl ?_
    refine AW.getf dX12_tells_26 gX12_226 (by repeat (first | assumption | exact hset_eq _ _ _ | refine (hset_ne _ _ (by omega)).trans ?_)) rfl ?_
    refine AW.if_icmpge (tgt := 39) dX12_tells_29 (by decide) (fun c29 => ?_) (fun c29 => ?_)
    · refine AW.aload_n dX12_tells_39 rfl ?_
      refine AW.getf dX12_tells_40 gX12_226 (by repeat (first | assumption | exact hset_eq _ _ _ | refine (hset_ne _ _ (by omega)).trans ?_)) rfl ?_
      refine AW.putf dX12_tells_43 pX12_226 (by repeat (first | assumption | exact hset_eq _ _ _ | refine (hset_ne _ _ (by omega)).trans ?_)) trivial ?_
      refine AW.vreturn dX12_tells_46 rfl ?_
      first
        | exact hneg (by assumption)
        | exact hpos (m1 24) (by assumption) (by rw [if_pos (by omega)]; exact h24)
        | exact hpos (m1 29) (by assumption) (by rw [if_neg (by omega)])
    · refine AW.aload_n dX12_tells_32 rfl ?_
      refine AW.getf dX12_tells_33 gX12_118 (by repeat (first | assumption | exact hset_eq _ _ _ | refine (hset_ne _ _ (by omega)).trans ?_)) rfl ?_
      refine AW.goto (tgt := 43) dX12_tells_36 (by decide) ?_
      refine AW.putf dX12_tells_43 pX12_226 (by repeat (first | assumption | exact hset_eq _ _ _ | refine (hset_ne _ _ (by omega)).trans ?_)) trivial ?_
      refine AW.vreturn dX12_tells_46 rfl ?_
      first
        | exact hneg (by assumption)
        | exact hpos (m1 24) (by assumption) (by rw [if_pos (by omega)]; exact h24)
        | exact hpos (m1 29) (by assumption) (by rw [if_neg (by omega)])
  · refine AW.vreturn dX12_tells_9 rfl ?_
    first
      | exact hneg (by assumption)
      | exact hpos (m1 24) (by assumption) (by rw [if_pos (by omega)]; exact h24)
      | exact hpos (m1 29) (by assumption) (by rw [if_neg (by omega)])
theorem L_drops {hh : Nat} {due x : Int} (ok : scOK s) (hd : 5 ≤ d) (h1 : -1 ≤ who) (h2 : who < s_n s) (hh6 : hh < s_h s) (hx0 : 0 ≤ x)
    (hq : ∀ h' m' A', MR h0 h' m' A' → SQ m m' A A' → Q (some (.inl (if x = 0 then (drN s who due (s_w s hh) (s_w s hh).length).1 else (drN s who due (s_w s hh) (s_w s hh).length).2))) h') :
    ∀ (r i : Nat) (h : AH) (m' : Nat → Int) (A' : Nat → Nat → Int) (z1 z2 : Option AV), i + r = (s_w s hh).length → MR h0 h m' A' → MSC m' A' s → SQ m m' A A' → m' 28 = (drN s who due (s_w s hh) i).1 → m' 29 = (drN s who due (s_w s hh) i).2 →
      AW d 0 0 mX12_drops Q 64 [some (.inr 116), some (.inl who), some (.inl (hh : Int)), some (.inl x), some (.inl due), some (.inl (i : Int)), z1, z2] [] h := by
  have h6 := ok.2.1
  have h5 := ok.1
  obtain ⟨wf, h20⟩ := ok.2.2.2.2 hh hh6
  intro r
  induction r with
  | zero =>
    intro i h m' A' z1 z2 hi hM hS hT h28 h29
    obtain ⟨g116, g117, g118, g119, g120, g121, g122, -⟩ := id hM
    have e1 : A' 122 ((hh : Int)).toNat = ((s_w s hh).length : Int) := by rw [show ((hh : Int)).toNat = hh by omega]; exact hS.2.2.2.2.1 hh hh6
    have hi2 : i = (s_w s hh).length := by omega
    subst hi2
    have hf := hq h m' A' hM hT
    refine AW.iload dX12_drops_64 rfl ?_
    refine AW.aload_n dX12_drops_66 rfl ?_
    refine AW.getf dX12_drops_67 gX12_25 (by repeat (first | assumption | exact hset_eq _ _ _ | refine (hset_ne _ _ (by omega)).trans ?_)) rfl ?_
    refine AW.iload_n dX12_drops_70 rfl ?_
    refine AW.iaload dX12_drops_71 (by repeat (first | assumption | exact hset_eq _ _ _ | refine (hset_ne _ _ (by omega)).trans ?_)) (by omega) (by omega) ?_
    refine AW.if_icmpge (tgt := 185) dX12_drops_72 (by decide) (fun c72 => ?_) (fun c72 => absurd c72 (by rw [e1]; omega))
    refine AW.iload_n dX12_drops_185 rfl ?_
    refine AW.ifne (tgt := 196) dX12_drops_186 (by decide) (fun c186 => ?_) (fun c186 => ?_)
    · refine AW.aload_n dX12_drops_196 rfl ?_
      refine AW.getf dX12_drops_197 gX12_226 (by repeat (first | assumption | exact hset_eq _ _ _ | refine (hset_ne _ _ (by omega)).trans ?_)) rfl ?_
      refine AW.ireturn dX12_drops_200 rfl ?_
      first | (rw [if_pos (by omega), ← h28] at hf; exact hf) | (rw [if_neg (by omega), ← h29] at hf; exact hf)
    · refine AW.aload_n dX12_drops_189 rfl ?_
      refine AW.getf dX12_drops_190 gX12_223 (by repeat (first | assumption | exact hset_eq _ _ _ | refine (hset_ne _ _ (by omega)).trans ?_)) rfl ?_
      refine AW.goto (tgt := 200) dX12_drops_193 (by decide) ?_
      refine AW.ireturn dX12_drops_200 rfl ?_
      first | (rw [if_pos (by omega), ← h28] at hf; exact hf) | (rw [if_neg (by omega), ← h29] at hf; exact hf)
  | succ r ih =>
    intro i h m' A' z1 z2 hi hM hS hT h28 h29
    obtain ⟨g116, g117, g118, g119, g120, g121, g122, g123, -⟩ := id hM
    have hwd := hS.2.2.2.2.2 hh hh6
    have hln := hS.2.2.2.2.1 hh hh6
    have e1 : A' 122 ((hh : Int)).toNat = ((s_w s hh).length : Int) := by rw [show ((hh : Int)).toNat = hh by omega]; exact hln
    obtain ⟨w, hwi⟩ : ∃ w, (s_w s hh)[i]? = some w := ⟨_, List.getElem?_eq_getElem (by omega)⟩
    have ew : A' 123 (20 * (hh : Int) + (i : Int)).toNat = (w : Int) := by rw [show (20 * (hh : Int) + (i : Int)).toNat = 20 * hh + i by omega]; exact hwd i w hwi
    have egd : (s_w s hh).getD i 0 = w := by rw [List.getD_eq_getElem?_getD, hwi]; rfl
    obtain ⟨ck7, ck8⟩ := cd_ok wf hwi
    have hb := drN_b (s := s) (who := who) (due := due) h20 i
    have eN : drN s who due (s_w s hh) (i + 1) = drAt s who due (s_w s hh) i (drN s who due (s_w s hh) i) := rfl
    unfold drAt at eN
    rw [egd] at eN
    have bl : ∀ f a b n, (butL (s_w s hh) f a b n).length ≤ n := by
      intro f a b n
      induction n with
      | zero => exact Nat.le_refl _
      | succ n ih =>
        unfold butL
        split
        · omega
        · rw [List.length_append, List.length_singleton]; omega
    refine AW.iload dX12_drops_64 rfl ?_
    refine AW.aload_n dX12_drops_66 rfl ?_
    refine AW.getf dX12_drops_67 gX12_25 (by repeat (first | assumption | exact hset_eq _ _ _ | refine (hset_ne _ _ (by omega)).trans ?_)) rfl ?_
    refine AW.iload_n dX12_drops_70 rfl ?_
    refine AW.iaload dX12_drops_71 (by repeat (first | assumption | exact hset_eq _ _ _ | refine (hset_ne _ _ (by omega)).trans ?_)) (by omega) (by omega) ?_
    refine AW.if_icmpge (tgt := 185) dX12_drops_72 (by decide) (fun c72 => absurd c72 (by rw [e1]; omega)) (fun c72 => ?_)
    refine AW.aload_n dX12_drops_75 rfl ?_
    refine AW.getf dX12_drops_76 gX12_28 (by repeat (first | assumption | exact hset_eq _ _ _ | refine (hset_ne _ _ (by omega)).trans ?_)) rfl ?_
    refine AW.bipush dX12_drops_79 ?_
    refine AW.iload_n dX12_drops_81 rfl ?_
    refine AW.imulR dX12_drops_82 (by unfold RI; omega) ?_
    refine AW.iload dX12_drops_83 rfl ?_
    refine AW.iaddR dX12_drops_85 (by unfold RI; omega) ?_
    refine AW.iaload dX12_drops_86 (by repeat (first | assumption | exact hset_eq _ _ _ | refine (hset_ne _ _ (by omega)).trans ?_)) (by omega) (by omega) ?_
    rw [ew]
    refine AW.ist6 dX12_drops_87 (by decide) ?_
    refine AW.iload dX12_drops_89 rfl ?_
    refine AW.bipush dX12_drops_91 ?_
    refine AW.if_icmpge (tgt := 99) dX12_drops_93 (by decide) (fun c93 => ?_) (fun c93 => ?_)
    · refine AW.iload dX12_drops_99 rfl ?_
      refine AW.bipush dX12_drops_101 ?_
      refine AW.if_icmpne (tgt := 125) dX12_drops_103 (by decide) (fun c103 => ?_) (fun c103 => ?_)
      · have w8 : 7 < w := by omega
        obtain ⟨b1, b2, b3, b4, hcB, hcA⟩ := ck8 w8
        have b1' : i + 1 ≤ bhF (s_w s hh) (i + 1) := by omega
        rw [if_neg (by omega), if_neg (by omega)] at eN
        have ebB : butL (s_w s hh) i (i + 1) (bhF (s_w s hh) (i + 1)) (s_w s hh).length = cdB (s_w s hh) i := by
          rw [((butL_eq (ws := s_w s hh) (f := i) (a := i + 1) (b := bhF (s_w s hh) (i + 1)) (Nat.le_refl _) b1' b2 _ (Nat.le_refl _)).2.2.2 b2), sg_self, List.append_nil, sg_end]
          rfl
        have ebA : butL (s_w s hh) i (bhF (s_w s hh) (i + 1)) (bhF (s_w s hh) (bhF (s_w s hh) (i + 1))) (s_w s hh).length = cdA (s_w s hh) i := by
          rw [((butL_eq (ws := s_w s hh) (f := i) (a := bhF (s_w s hh) (i + 1)) (b := bhF (s_w s hh) (bhF (s_w s hh) (i + 1))) b1' b3 b4 _ (Nat.le_refl _)).2.2.2 b4), sg_end]
          rfl
        have hg1 : ∃ g, hgt ((s_w s hh).drop (i + 1)) = some g ∧ 1 ≤ g := by
          obtain ⟨k, hk⟩ := hgt_drop wf i
          rw [drop_cons hwi] at hk
          obtain ⟨-, r2, hr2, hp, -⟩ := hgt_un hk
          have : ptW w = 2 := by unfold ptW; rw [if_neg (by omega), if_neg (by omega)]
          exact ⟨r2, hr2, by omega⟩
        have hg2 : ∃ g, hgt ((s_w s hh).drop (bhF (s_w s hh) (i + 1))) = some g ∧ 1 ≤ g := by
          obtain ⟨k, hk⟩ := hgt_drop wf i
          rw [drop_cons hwi] at hk
          obtain ⟨-, r2, hr2, hp, -⟩ := hgt_un hk
          have e2 : ptW w = 2 := by unfold ptW; rw [if_neg (by omega), if_neg (by omega)]
          obtain ⟨-, a2, -⟩ := sk_ok (n := 1) hr2 (by omega)
          rw [List.drop_drop] at a2
          exact ⟨r2 - 1, a2, by omega⟩
        have ei : ((i : Int) + 1) = ((i + 1 : Nat) : Int) := by omega
        have b2' : bhF (s_w s hh) (i + 1) ≤ 20 := by omega
        refine AW.aload_n dX12_drops_125 rfl ?_
        refine AW.iload_n dX12_drops_126 rfl ?_
        refine AW.iload dX12_drops_127 rfl ?_
        refine AW.iconst dX12_drops_129 ?_
        refine AW.iaddR dX12_drops_130 (by unfold RI; omega) ?_
        rw [ei]
        refine AW.cI3 (d' := d - 1) (cX12_236 rfl) okX12_behind dX12_drops_131 (by repeat (first | assumption | exact hset_eq _ _ _ | refine (hset_ne _ _ (by omega)).trans ?_)) (by omega) (W_behind (hh := hh) (i := i + 1) hM (by omega) h20 hwd (by omega) b2 hg1 ?_)
        refine AW.ist7 dX12_drops_134 (by decide) ?_
        refine AW.aload_n dX12_drops_136 rfl ?_
        refine AW.iload_n dX12_drops_137 rfl ?_
        refine AW.iload dX12_drops_138 rfl ?_
        refine AW.iload dX12_drops_140 rfl ?_
        refine AW.iconst dX12_drops_142 ?_
        refine AW.iaddR dX12_drops_143 (by unfold RI; omega) ?_
        refine AW.iload dX12_drops_144 rfl ?_
        rw [ei]
        refine AW.cI5 (d' := d - 1) (cX12_229 rfl) okX12_laysBut dX12_drops_146 (by repeat (first | assumption | exact hset_eq _ _ _ | refine (hset_ne _ _ (by omega)).trans ?_)) (by omega) (W_laysBut (hh := hh) (f := i) (a := i + 1) (b := bhF (s_w s hh) (i + 1)) hM (by omega) h20 hln hwd (fun h3 m3 A3 hM3 t3 => ?_))
        rw [ebB] at t3
        obtain ⟨u1, u2, u3, u4⟩ := t3
        have q3 : T5 m' m3 A' A3 := ⟨fun k k1 _ _ => u1 k k1, fun k k1 _ => u2 k k1⟩
        have hl3 := bl i (i + 1) (bhF (s_w s hh) (i + 1)) (s_w s hh).length
        rw [ebB] at hl3
        have k116 := hM3.1
        refine AW.aload_n dX12_drops_149 rfl ?_
        refine AW.iload_n dX12_drops_150 rfl ?_
        refine AW.iload dX12_drops_151 rfl ?_
        refine AW.cI3 (d' := d - 1) (cX12_233 rfl) okX12_tells dX12_drops_153 (by repeat (first | assumption | exact hset_eq _ _ _ | refine (hset_ne _ _ (by omega)).trans ?_)) (by omega) (W_tells (m := m') (A := A') (c := cdB (s_w s hh) i) hM3 (hS.sq q3.sq) ok q3 (by omega) (by omega) (by omega) u3 u4 hcB (by omega) (by rw [u1 28 (by decide), h28]; omega) (by rw [u1 28 (by decide), h28]; omega) (fun h4 m4 A4 hM4 q4 e28 e29 => ?_))
        rw [u1 28 (by decide), u1 29 (by decide), h28, h29] at e28 e29
        have hb4 := drS_b (s := s) (who := who) (due := due) (c := cdB (s_w s hh) i) hb.1.1 hb.1.2 hb.2.1 hb.2.2
        rw [← e28, ← e29] at hb4
        have l116 := hM4.1
        have hwd4 : ∀ j w : Nat, (s_w s hh)[j]? = some w → A4 123 (20 * hh + j) = (w : Int) := by rw [q4.2 123 (by decide) (by decide)]; exact hwd
        have hln4 : A4 122 hh = ((s_w s hh).length : Int) := by rw [q4.2 122 (by decide) (by decide)]; exact hln
        refine AW.aload_n dX12_drops_156 rfl ?_
        refine AW.iload_n dX12_drops_157 rfl ?_
        refine AW.iload dX12_drops_158 rfl ?_
        refine AW.iload dX12_drops_160 rfl ?_
        refine AW.aload_n dX12_drops_162 rfl ?_
        refine AW.iload_n dX12_drops_163 rfl ?_
        refine AW.iload dX12_drops_164 rfl ?_
        refine AW.cI3 (d' := d - 1) (cX12_236 rfl) okX12_behind dX12_drops_166 (by repeat (first | assumption | exact hset_eq _ _ _ | refine (hset_ne _ _ (by omega)).trans ?_)) (by omega) (W_behind (hh := hh) (i := bhF (s_w s hh) (i + 1)) hM4 (by omega) h20 hwd4 b2 b4 hg2 ?_)
        refine AW.cI5 (d' := d - 1) (cX12_229 rfl) okX12_laysBut dX12_drops_169 (by repeat (first | assumption | exact hset_eq _ _ _ | refine (hset_ne _ _ (by omega)).trans ?_)) (by omega) (W_laysBut (hh := hh) (f := i) (a := bhF (s_w s hh) (i + 1)) (b := bhF (s_w s hh) (bhF (s_w s hh) (i + 1))) hM4 (by omega) h20 hln4 hwd4 (fun h5 m5 A5 hM5 t5 => ?_))
        rw [ebA] at t5
        obtain ⟨y1, y2, y3, y4⟩ := t5
        have q5 : T5 m' m5 A' A5 := ⟨fun k k1 k2 k3 => (y1 k k1).trans (q4.1 k k1 k2 k3), fun k k1 k2 => (y2 k k1).trans (q4.2 k k1 k2)⟩
        have hl5 := bl i (bhF (s_w s hh) (i + 1)) (bhF (s_w s hh) (bhF (s_w s hh) (i + 1))) (s_w s hh).length
        rw [ebA] at hl5
        have n116 := hM5.1
        refine AW.aload_n dX12_drops_172 rfl ?_
        refine AW.iload_n dX12_drops_173 rfl ?_
        refine AW.iload dX12_drops_174 rfl ?_
        refine AW.cI3 (d' := d - 1) (cX12_233 rfl) okX12_tells dX12_drops_176 (by repeat (first | assumption | exact hset_eq _ _ _ | refine (hset_ne _ _ (by omega)).trans ?_)) (by omega) (W_tells (m := m') (A := A') (c := cdA (s_w s hh) i) hM5 (hS.sq q5.sq) ok q5 (by omega) (by omega) (by omega) y3 y4 hcA (by omega) (by rw [y1 28 (by decide)]; omega) (by rw [y1 28 (by decide)]; omega) (fun h6 m6 A6 hM6 q6 f28 f29 => ?_))
        refine AW.inc5 dX12_drops_179 (by decide) (by unfold RI; omega) ?_
        refine AW.goto (tgt := 64) dX12_drops_182 (by decide) ?_
        rw [y1 28 (by decide), y1 29 (by decide), e28, e29] at f28 f29
        exact ih (i + 1) h6 m6 A6 _ _ (by omega) hM6 (hS.sq q6.sq) (hT.trans q6.sq) (by rw [eN]; exact f28) (by rw [eN]; exact f29)
      · have w7 : w = 7 := by omega
        have hcn := ck7 w7
        have ebn : butL (s_w s hh) i 0 0 (s_w s hh).length = cdN (s_w s hh) i := by
          rw [butL_0, ((butL_eq (ws := s_w s hh) (f := i) (a := i + 1) (b := i + 1) (Nat.le_refl _) (Nat.le_refl _) (by omega) _ (Nat.le_refl _)).2.2.2 (by omega)), sg_self, List.append_nil, sg_end]
          rfl
        rw [if_neg (by omega), if_pos w7] at eN
        refine AW.aload_n dX12_drops_106 rfl ?_
        refine AW.iload_n dX12_drops_107 rfl ?_
        refine AW.iload dX12_drops_108 rfl ?_
        refine AW.iconst dX12_drops_110 ?_
        refine AW.iconst dX12_drops_111 ?_
        refine AW.cI5 (d' := d - 1) (cX12_229 rfl) okX12_laysBut dX12_drops_112 (by repeat (first | assumption | exact hset_eq _ _ _ | refine (hset_ne _ _ (by omega)).trans ?_)) (by omega) (W_laysBut (hh := hh) (f := i) (a := 0) (b := 0) hM (by omega) h20 hln hwd (fun h3 m3 A3 hM3 t3 => ?_))
        rw [ebn] at t3
        obtain ⟨u1, u2, u3, u4⟩ := t3
        have q3 : T5 m' m3 A' A3 := ⟨fun k k1 _ _ => u1 k k1, fun k k1 _ => u2 k k1⟩
        have hl3 := bl i 0 0 (s_w s hh).length
        rw [ebn] at hl3
        have k116 := hM3.1
        refine AW.aload_n dX12_drops_115 rfl ?_
        refine AW.iload_n dX12_drops_116 rfl ?_
        refine AW.iload dX12_drops_117 rfl ?_
        refine AW.cI3 (d' := d - 1) (cX12_233 rfl) okX12_tells dX12_drops_119 (by repeat (first | assumption | exact hset_eq _ _ _ | refine (hset_ne _ _ (by omega)).trans ?_)) (by omega) (W_tells (m := m') (A := A') (c := cdN (s_w s hh) i) hM3 (hS.sq q3.sq) ok q3 (by omega) (by omega) (by omega) u3 u4 hcn (by omega) (by rw [u1 28 (by decide), h28]; omega) (by rw [u1 28 (by decide), h28]; omega) (fun h4 m4 A4 hM4 q4 e28 e29 => ?_))
        refine AW.goto (tgt := 179) dX12_drops_122 (by decide) ?_
        refine AW.inc5 dX12_drops_179 (by decide) (by unfold RI; omega) ?_
        refine AW.goto (tgt := 64) dX12_drops_182 (by decide) ?_
        rw [u1 28 (by decide), u1 29 (by decide), h28, h29] at e28 e29
        exact ih (i + 1) h4 m4 A4 _ _ (by omega) hM4 (hS.sq q4.sq) (hT.trans q4.sq) (by rw [eN]; exact e28) (by rw [eN]; exact e29)
    · refine AW.goto (tgt := 179) dX12_drops_96 (by decide) ?_
      refine AW.inc5 dX12_drops_179 (by decide) (by unfold RI; omega) ?_
      refine AW.goto (tgt := 64) dX12_drops_182 (by decide) ?_
      rw [if_pos (by omega)] at eN
      exact ih (i + 1) h m' A' _ _ (by omega) hM hS hT (by rw [eN]; exact h28) (by rw [eN]; exact h29)
theorem W_drops (hM : MS h0 h S) (hd : 5 ≤ d) (hq : ∀ r S' h', (r, S') = o_drops S x y z → MS h0 h' S' → Q (some (.inl r)) h') : MW d 0 0 mX12_drops [.inr 116, .inl x, .inl y, .inl z] h Q := by
  obtain ⟨m, A, hM, hP, ok⟩ := hM
  obtain ⟨g116, -⟩ := id hM
  obtain ⟨⟨q1, q2, q3, q4, q5, q6⟩, p2⟩ := id hP
  have h6 := ok.1.2.1
  show AW d 0 0 mX12_drops Q 0 [some (.inr 116), some (.inl x), some (.inl y), some (.inl z), none, none, none, none] [] h
  refine AW.aload_n dX12_drops_0 rfl ?_
  refine AW.iload_n dX12_drops_1 rfl ?_
  refine AW.cI2 (d' := d - 1) (cX12_195 rfl) okX12_isWho dX12_drops_2 (by repeat (first | assumption | exact hset_eq _ _ _ | refine (hset_ne _ _ (by omega)).trans ?_)) (by omega) (W_isWho (by assumption) (fun c2 c2b => ?_) (fun c2 => ?_))
  · refine AW.ifeq_f (tgt := 16) dX12_drops_5 (by decide) (by decide) ?_
    refine AW.aload_n dX12_drops_8 rfl ?_
    refine AW.iload_n dX12_drops_9 rfl ?_
    refine AW.cI2 (d' := d - 1) (cX12_189 rfl) okX12_isScholar dX12_drops_10 (by repeat (first | assumption | exact hset_eq _ _ _ | refine (hset_ne _ _ (by omega)).trans ?_)) (by omega) (W_isScholar (by assumption) (fun c10 c10b => ?_) (fun c10 => ?_))
    · refine AW.ifne_t (tgt := 22) dX12_drops_13 (by decide) (by decide) ?_
      refine AW.iload_n dX12_drops_22 rfl ?_
      refine AW.iconst dX12_drops_23 ?_
      refine AW.iconst dX12_drops_24 ?_
      refine AW.cS3 (d' := d - 1) (cX12_89 rfl) okX12_isIn dX12_drops_25 (by omega) (W_isIn (fun c25 c25b => ?_) (fun c25 => ?_))
      · refine AW.ifne_t (tgt := 38) dX12_drops_28 (by decide) (by decide) ?_
        refine AW.aload_n dX12_drops_38 rfl ?_
        refine AW.iload_n dX12_drops_39 rfl ?_
        refine AW.iload_n dX12_drops_40 rfl ?_
        refine AW.cI3 (d' := d - 1) (cX12_198 rfl) okX12_concludedFrom dX12_drops_41 (by repeat (first | assumption | exact hset_eq _ _ _ | refine (hset_ne _ _ (by omega)).trans ?_)) (by omega) (W_cF hM hP.1 ok.1 (by omega) (by omega) (by omega) (by omega) (by omega) (fun h1 m1 A1 hM1 t1 => ?_))
        obtain ⟨k116, k117, k118, k119, k120, k121, k122, -⟩ := id hM1
        have ey : y = ((y.toNat : Nat) : Int) := by omega
        have hy6 : y.toNat < s_h S.1 := by omega
        have el : A1 122 y.toNat = ((s_w S.1 y.toNat).length : Int) := by rw [t1.2 122 (by decide) (by decide)]; exact q5 y.toNat hy6
        have fin := L_drops (Q := Q) (h0 := h0) (d := d) (m := m) (A := A) (s := S.1) (who := x) (x := z) (hh := y.toNat) (due := cnS S.1 x (s_w S.1 y.toNat)) ok.1 hd (by omega) (by omega) hy6 (by omega) (fun h' m' A' hM' hT' => ?_)
        · have hM2 : MR h0 (hset h1 116 (.inl (13, (mol m1).set 28 (.inl 0)))) (updI m1 28 0) A1 := MR.p rfl hM1
          have hM3 : MR h0 (hset (hset h1 116 (.inl (13, (mol m1).set 28 (.inl 0)))) 116 (.inl (13, (mol (updI m1 28 0)).set 29 (.inl (A1 122 y.toNat))))) (updI (updI m1 28 0) 29 (A1 122 y.toNat)) A1 := MR.p rfl hM2
          have sq3 : SQ m (updI (updI m1 28 0) 29 (A1 122 y.toNat)) A A1 := t1.sq
          have f2 := fin (s_w S.1 y.toNat).length 0 _ _ A1 none none (by omega) hM3 (hP.1.sq sq3) sq3 rfl el
          rw [← ey] at f2
          refine AW.ist4 dX12_drops_44 (by decide) ?_
          refine AW.aload_n dX12_drops_46 rfl ?_
          refine AW.iconst dX12_drops_47 ?_
          refine AW.putf dX12_drops_48 pX12_223 (by repeat (first | assumption | exact hset_eq _ _ _ | refine (hset_ne _ _ (by omega)).trans ?_)) trivial ?_
          refine AW.aload_n dX12_drops_51 rfl ?_
          refine AW.aload_n dX12_drops_52 rfl ?_
          refine AW.getf dX12_drops_53 gX12_25 (by repeat (first | assumption | exact hset_eq _ _ _ | refine (hset_ne _ _ (by omega)).trans ?_)) rfl ?_
          refine AW.iload_n dX12_drops_56 rfl ?_
          refine AW.iaload dX12_drops_57 (by repeat (first | assumption | exact hset_eq _ _ _ | refine (hset_ne _ _ (by omega)).trans ?_)) (by omega) (by omega) ?_
          refine AW.putf dX12_drops_58 pX12_226 (by repeat (first | assumption | exact hset_eq _ _ _ | refine (hset_ne _ _ (by omega)).trans ?_)) trivial ?_
          refine AW.iconst dX12_drops_61 ?_
          refine AW.ist5 dX12_drops_62 (by decide) ?_
          exact f2
        · by_cases e : z = 0
          · rw [if_pos e]
            exact hq _ S _ (by unfold o_drops; rw [if_neg (by omega), if_neg (by omega), if_pos e]) (ms_sq hM' hT' hP ok)
          · rw [if_neg e]
            exact hq _ S _ (by unfold o_drops; rw [if_neg (by omega), if_neg (by omega), if_neg e]) (ms_sq hM' hT' hP ok)
      · refine AW.ifne_f (tgt := 38) dX12_drops_28 (by decide) rfl ?_
        refine AW.aload_n dX12_drops_31 rfl ?_
        refine AW.bipush dX12_drops_32 ?_
        refine AW.cI2 (d' := d - 1) (cX12_82 rfl) okX12_no dX12_drops_34 (by repeat (first | assumption | exact hset_eq _ _ _ | refine (hset_ne _ _ (by omega)).trans ?_)) (by omega) (W_no (by assumption) (by decide) (by decide) (fun h34 hM => ?_))
        refine AW.ireturn dX12_drops_37 rfl ?_
        first | exact hq (-1) (rf S 1) _ (by unfold o_drops; rw [if_pos (by omega)]) (ms_rf hM hP ok) | exact hq (-2) (rf S 2) _ (by unfold o_drops; rw [if_neg (by omega), if_pos (by omega)]) (ms_rf hM hP ok)
    · refine AW.ifne_f (tgt := 22) dX12_drops_13 (by decide) rfl ?_
      refine AW.aload_n dX12_drops_16 rfl ?_
      refine AW.iconst dX12_drops_17 ?_
      refine AW.cI2 (d' := d - 1) (cX12_82 rfl) okX12_no dX12_drops_18 (by repeat (first | assumption | exact hset_eq _ _ _ | refine (hset_ne _ _ (by omega)).trans ?_)) (by omega) (W_no (by assumption) (by decide) (by decide) (fun h18 hM => ?_))
      refine AW.ireturn dX12_drops_21 rfl ?_
      first | exact hq (-1) (rf S 1) _ (by unfold o_drops; rw [if_pos (by omega)]) (ms_rf hM hP ok) | exact hq (-2) (rf S 2) _ (by unfold o_drops; rw [if_neg (by omega), if_pos (by omega)]) (ms_rf hM hP ok)
  · refine AW.ifeq_t (tgt := 16) dX12_drops_5 (by decide) rfl ?_
    refine AW.aload_n dX12_drops_16 rfl ?_
    refine AW.iconst dX12_drops_17 ?_
    refine AW.cI2 (d' := d - 1) (cX12_82 rfl) okX12_no dX12_drops_18 (by repeat (first | assumption | exact hset_eq _ _ _ | refine (hset_ne _ _ (by omega)).trans ?_)) (by omega) (W_no (by assumption) (by decide) (by decide) (fun h18 hM => ?_))
    refine AW.ireturn dX12_drops_21 rfl ?_
    first | exact hq (-1) (rf S 1) _ (by unfold o_drops; rw [if_pos (by omega)]) (ms_rf hM hP ok) | exact hq (-2) (rf S 2) _ (by unfold o_drops; rw [if_neg (by omega), if_pos (by omega)]) (ms_rf hM hP ok)
end Mod17

