section Cls18
variable {d bc bs : Nat} {Q : Option AV → AH → Prop} {h h' : AH} {nw tr a b c : Nat} {ik sd at' tc : Int} {S S' : ST} {P : Nat → Prop} {s s' : SC} {x y z who k g more v : Int} {nm : Nat → Int} {ws : List Nat}
theorem W_min (hq : Q (some (.inl (if y < x then y else x))) h) : MW d 0 0 mJ9_min_7cf53 [.inl x, .inl y] h Q := by
  have e : ∀ v, (if y < x then y else x) = v → Q (some (.inl v)) h := fun v hv => hv ▸ hq
  show AW d 0 0 mJ9_min_7cf53 Q 0 [some (.inl x), some (.inl y)] [] h
  refine AW.iload_n dJ9_min_7cf53_0 rfl ?_
  refine AW.iload_n dJ9_min_7cf53_1 rfl ?_
  refine AW.if_icmpgt (tgt := 9) dJ9_min_7cf53_2 (by decide) (fun c7 => ?_) (fun c7 => ?_)
  · refine AW.iload_n dJ9_min_7cf53_9 rfl ?_
    refine AW.ireturn dJ9_min_7cf53_10 rfl ?_
    exact e _ (if_pos (by omega))
  · refine AW.iload_n dJ9_min_7cf53_5 rfl ?_
    refine AW.goto (tgt := 10) dJ9_min_7cf53_6 (by decide) ?_
    refine AW.ireturn dJ9_min_7cf53_10 rfl ?_
    exact e _ (if_neg (by omega))
theorem sk_add (t : List Nat) : ∀ n m : Nat, sk (n + m) t = sk n t + sk m (t.drop (sk n t)) := by
  induction t with
  | nil =>
    intro n m
    have e : ∀ k, sk k [] = 0 := fun k => by cases k <;> rfl
    rw [e, e, List.drop_nil, e]
  | cons w t ih =>
    intro n m
    cases n with
    | zero => rw [sk_z, Nat.zero_add, Nat.zero_add, List.drop_zero]
    | succ n =>
      rw [show n + 1 + m = (n + m) + 1 by omega, sk_cons, sk_cons, show n + m + ptW w = (n + ptW w) + m by omega, ih, show 1 + sk (n + ptW w) t = sk (n + ptW w) t + 1 by omega, List.drop_succ_cons]
      omega
theorem sk_le (t : List Nat) : ∀ n : Nat, sk n t ≤ t.length := by
  induction t with
  | nil => intro n; cases n <;> exact Nat.le_refl _
  | cons w t ih =>
    intro n
    cases n with
    | zero => rw [sk_z]; omega
    | succ n =>
      have := ih (n + ptW w)
      rw [sk_cons, List.length_cons]
      omega
theorem LC_behind {e : Nat} (H : SyA h c ws) (hd : 1 ≤ d) (hq : Q (some (.inl (e : Int))) h) {a1 : Option AV} :
    ∀ (r n k : Nat), k + r = ws.length → e = k + sk n (ws.drop k) → n ≤ k + 1 → AW d 0 0 mX7_behind Q 4 [some (.inr c), a1, some (.inl (n : Int)), some (.inl (k : Int))] [] h := by
  obtain ⟨f, h1, h2, h3, h4, h5⟩ := id H
  intro r
  induction r with
  | zero =>
    intro n k hk he hn
    rw [List.drop_of_length_le (by omega), show sk n [] = 0 by cases n <;> rfl] at he
    obtain rfl : e = k := he
    refine AW.iload_n dX7_behind_4 rfl ?_
    refine AW.aload_n dX7_behind_5 rfl ?_
    refine AW.getf dX7_behind_6 gX7_15 (by repeat (first | assumption | exact hset_eq _ _ _ | refine (hset_ne _ _ (by omega)).trans ?_)) rfl ?_
    refine AW.if_icmpge (tgt := 36) dX7_behind_9 (by decide) (fun c9 => ?_) (fun c9 => absurd c9 (by omega))
    refine AW.iload_n dX7_behind_36 rfl ?_
    refine AW.ireturn dX7_behind_37 rfl ?_
    exact hq
  | succ r ih =>
    intro n k hk he hn
    have hl : k < ws.length := by omega
    have hg := List.getElem?_eq_getElem hl
    have ef := h5 _ _ hg
    have hw := h4 _ (List.mem_of_getElem? hg)
    have hdr := drop_cons hg
    rw [hdr] at he
    generalize ws[k] = w at *
    cases n with
    | zero =>
      rw [sk_z] at he
      obtain rfl : e = k := he
      refine AW.iload_n dX7_behind_4 rfl ?_
      refine AW.aload_n dX7_behind_5 rfl ?_
      refine AW.getf dX7_behind_6 gX7_15 (by repeat (first | assumption | exact hset_eq _ _ _ | refine (hset_ne _ _ (by omega)).trans ?_)) rfl ?_
      refine AW.if_icmpge (tgt := 36) dX7_behind_9 (by decide) (fun c9 => absurd c9 (by omega)) (fun c9 => ?_)
      refine AW.iload_n dX7_behind_12 rfl ?_
      refine AW.ifle (tgt := 36) dX7_behind_13 (by decide) (fun c13 => ?_) (fun c13 => absurd c13 (by decide))
      refine AW.iload_n dX7_behind_36 rfl ?_
      refine AW.ireturn dX7_behind_37 rfl ?_
      exact hq
    | succ n =>
      rw [sk_cons] at he
      have hp := ptW_le w
      have nx := ih (n + ptW w) (k + 1) (by omega) (by omega) (by omega)
      refine AW.iload_n dX7_behind_4 rfl ?_
      refine AW.aload_n dX7_behind_5 rfl ?_
      refine AW.getf dX7_behind_6 gX7_15 (by repeat (first | assumption | exact hset_eq _ _ _ | refine (hset_ne _ _ (by omega)).trans ?_)) rfl ?_
      refine AW.if_icmpge (tgt := 36) dX7_behind_9 (by decide) (fun c9 => absurd c9 (by omega)) (fun c9 => ?_)
      refine AW.iload_n dX7_behind_12 rfl ?_
      refine AW.ifle (tgt := 36) dX7_behind_13 (by decide) (fun c13 => absurd c13 (by omega)) (fun c13 => ?_)
      refine AW.iload_n dX7_behind_16 rfl ?_
      refine AW.aload_n dX7_behind_17 rfl ?_
      refine AW.getf dX7_behind_18 gX7_9 (by repeat (first | assumption | exact hset_eq _ _ _ | refine (hset_ne _ _ (by omega)).trans ?_)) rfl ?_
      refine AW.iload_n dX7_behind_21 rfl ?_
      refine AW.iaload dX7_behind_22 (by repeat (first | assumption | exact hset_eq _ _ _ | refine (hset_ne _ _ (by omega)).trans ?_)) (by omega) (by omega) ?_
      refine AW.cS1 (d' := d - 1) (cX7_31 rfl) okX7_partsOf dX7_behind_23 (by omega) (W_partsOf ?_)
      rw [show ((k : Int)).toNat = k by omega, ef, ptL_LETT hw]
      refine AW.iconst dX7_behind_26 ?_
      refine AW.isubR dX7_behind_27 (by unfold RI; omega) ?_
      refine AW.iaddR dX7_behind_28 (by unfold RI; omega) ?_
      refine AW.ist2 dX7_behind_29 (by decide) ?_
      refine AW.inc3 dX7_behind_30 (by decide) (by unfold RI; omega) ?_
      refine AW.goto (tgt := 4) dX7_behind_33 (by decide) ?_
      rw [show ((n + 1 : Nat) : Int) + ((ptW w : Int) - 1) = ((n + ptW w : Nat) : Int) by omega]
      exact nx
theorem V_behind {i : Nat} (H : SyA h c ws) (hi : i ≤ ws.length) (hd : 1 ≤ d) (hq : Q (some (.inl (bhF ws i : Int))) h) : MW d 0 0 mX7_behind [.inr c, .inl (i : Int)] h Q := by
  show AW d 0 0 mX7_behind Q 0 [some (.inr c), some (.inl (i : Int)), none, none] [] h
  refine AW.iconst dX7_behind_0 ?_
  refine AW.ist2 dX7_behind_1 (by decide) ?_
  refine AW.iload_n dX7_behind_2 rfl ?_
  refine AW.ist3 dX7_behind_3 (by decide) ?_
  exact LC_behind H hd hq (ws.length - i) 1 i (by omega) rfl (by omega)
theorem bhF_b {i : Nat} (hi : i ≤ ws.length) : i ≤ bhF ws i ∧ bhF ws i ≤ ws.length := by
  have := sk_le (ws.drop i) 1
  rw [List.length_drop] at this
  unfold bhF
  omega
theorem W_alone {i p B : Nat} (h16 : 16 ≤ b) (hbc : b + 1 < c ∨ c + 1 < b) (hcs : c + 2 ≤ 16 + h.1) (hd : 2 ≤ d) (hb : SyR h b) (hc : SyA h c ws) (hi : i < ws.length) (hp : (p = 0 ∧ B = i + 1) ∨ (p = 1 ∧ B = bhF ws (i + 1))) (hfit : bhF ws B ≤ bhF ws i)
    (hq : ∀ h', SyA h' b (sg ws 0 i ++ sg ws B (bhF ws B) ++ ws.drop (bhF ws i)) → Fr h h' (PB b) → Q none h') : MW d 0 0 mX7_copyWithPartAlone [.inr b, .inr c, .inl (i : Int), .inl (p : Int)] h Q := by
  obtain ⟨f, h1, h2, h3, h4, h5⟩ := id hc
  have b1 := bhF_b (ws := ws) (i := i + 1) (by omega)
  have b0 := bhF_b (ws := ws) (i := i) (by omega)
  have bB := bhF_b (ws := ws) (i := B) (by omega)
  have hBi : i + 1 ≤ B := by omega
  obtain ⟨n0, f0, sy1, sy2⟩ := id hb
  have fin : ∀ z, AW d 0 0 mX7_copyWithPartAlone Q 28 [some (.inr b), some (.inr c), some (.inl (i : Int)), some (.inl (p : Int)), some (.inl (B : Int)), z] [] h := by
    intro z
    have Z : SyA (hset h b (.inl (7 + 1, [.inr (b + 1), .inl 0]))) b [] := hb.zero _ sy1
    have FZ : Fr h (hset h b (.inl (7 + 1, [.inr (b + 1), .inl 0]))) (PB b) := Fr.set (Or.inl rfl)
    refine AW.aload_n dX7_copyWithPartAlone_28 rfl ?_
    refine AW.iconst dX7_copyWithPartAlone_29 ?_
    refine AW.putf dX7_copyWithPartAlone_30 pX7_15 (by repeat (first | assumption | exact hset_eq _ _ _ | refine (hset_ne _ _ (by omega)).trans ?_)) trivial ?_
    show AW _ _ _ _ _ _ _ _ (hset h b (.inl (7 + 1, [.inr (b + 1), .inl 0])))
    generalize hset h b (.inl (7 + 1, [.inr (b + 1), .inl 0])) = h0 at Z FZ ⊢
    have F1 := FZ.1
    have C0 := hc.fr FZ hcs ⟨by unfold PB; omega, by unfold PB; omega⟩
    obtain ⟨fz, z1, -⟩ := id Z
    refine AW.aload_n dX7_copyWithPartAlone_33 rfl ?_
    refine AW.aload_n dX7_copyWithPartAlone_34 rfl ?_
    refine AW.iconst dX7_copyWithPartAlone_35 ?_
    refine AW.iload_n dX7_copyWithPartAlone_36 rfl ?_
    refine AW.cI4 (d' := d - 1) (cX7_19 rfl) okX7_addFrom dX7_copyWithPartAlone_37 (by repeat (first | assumption | exact hset_eq _ _ _ | refine (hset_ne _ _ (by omega)).trans ?_)) (by omega) (W_addFrom (i := 0) (by omega) hbc (by omega) (by omega) (by omega) (by rw [List.length_nil]; omega) (by omega) Z C0 (fun ha Ya Fa => ?_))
    have F2 := Fa.1
    have Ca := C0.fr Fa (by omega) ⟨by unfold PB; omega, by unfold PB; omega⟩
    rw [List.nil_append, List.drop_zero] at Ya
    obtain ⟨f1, y1, -⟩ := id Ya
    obtain ⟨fc, w1, -⟩ := id Ca
    have la : (ws.take i).length = i := by rw [List.length_take]; omega
    refine AW.aload_n dX7_copyWithPartAlone_40 rfl ?_
    refine AW.aload_n dX7_copyWithPartAlone_41 rfl ?_
    refine AW.iload dX7_copyWithPartAlone_42 rfl ?_
    refine AW.aload_n dX7_copyWithPartAlone_44 rfl ?_
    refine AW.iload dX7_copyWithPartAlone_45 rfl ?_
    refine AW.cI2 (d' := d - 1) (cX7_23 rfl) okX7_behind dX7_copyWithPartAlone_47 (by repeat (first | assumption | exact hset_eq _ _ _ | refine (hset_ne _ _ (by omega)).trans ?_)) (by omega) (V_behind Ca (by omega) (by omega) ?_)
    refine AW.cI4 (d' := d - 1) (cX7_19 rfl) okX7_addFrom dX7_copyWithPartAlone_50 (by repeat (first | assumption | exact hset_eq _ _ _ | refine (hset_ne _ _ (by omega)).trans ?_)) (by omega) (W_addFrom (by omega) hbc (by omega) (by omega) (by omega) (by rw [la]; omega) (by omega) Ya Ca (fun hb2 Yb Fb => ?_))
    have F3 := Fb.1
    have Cb := Ca.fr Fb (by omega) ⟨by unfold PB; omega, by unfold PB; omega⟩
    obtain ⟨f2, y2, -⟩ := id Yb
    obtain ⟨fc2, w2, -⟩ := id Cb
    have lb : (ws.take i ++ (ws.take (bhF ws B)).drop B).length = i + (bhF ws B - B) := by rw [List.length_append, la, List.length_drop, List.length_take]; omega
    refine AW.aload_n dX7_copyWithPartAlone_53 rfl ?_
    refine AW.aload_n dX7_copyWithPartAlone_54 rfl ?_
    refine AW.aload_n dX7_copyWithPartAlone_55 rfl ?_
    refine AW.iload_n dX7_copyWithPartAlone_56 rfl ?_
    refine AW.cI2 (d' := d - 1) (cX7_23 rfl) okX7_behind dX7_copyWithPartAlone_57 (by repeat (first | assumption | exact hset_eq _ _ _ | refine (hset_ne _ _ (by omega)).trans ?_)) (by omega) (V_behind Cb (by omega) (by omega) ?_)
    refine AW.aload_n dX7_copyWithPartAlone_60 rfl ?_
    refine AW.getf dX7_copyWithPartAlone_61 gX7_15 (by repeat (first | assumption | exact hset_eq _ _ _ | refine (hset_ne _ _ (by omega)).trans ?_)) rfl ?_
    refine AW.cI4 (d' := d - 1) (cX7_19 rfl) okX7_addFrom dX7_copyWithPartAlone_64 (by repeat (first | assumption | exact hset_eq _ _ _ | refine (hset_ne _ _ (by omega)).trans ?_)) (by omega) (W_addFrom (by omega) hbc (by omega) (by omega) (by omega) (by rw [lb]; omega) (by omega) Yb Cb (fun hb3 Yc Fc => ?_))
    refine AW.vreturn dX7_copyWithPartAlone_67 rfl ?_
    refine hq hb3 ?_ ((FZ.trans Fa).trans (Fb.trans Fc))
    rw [List.take_length, List.drop_take] at Yc
    rw [sg_0]
    exact Yc
  have hpb : p ≤ 1 := by omega
  show AW d 0 0 mX7_copyWithPartAlone Q 0 [some (.inr b), some (.inr c), some (.inl (i : Int)), some (.inl (p : Int)), none, none] [] h
  refine AW.iload_n dX7_copyWithPartAlone_0 rfl ?_
  refine AW.iconst dX7_copyWithPartAlone_1 ?_
  refine AW.iaddR dX7_copyWithPartAlone_2 (by unfold RI; omega) ?_
  refine AW.ist4 dX7_copyWithPartAlone_3 (by decide) ?_
  refine AW.iconst dX7_copyWithPartAlone_5 ?_
  refine AW.ist5 dX7_copyWithPartAlone_6 (by decide) ?_
  rcases hp with ⟨rfl, rfl⟩ | ⟨rfl, rfl⟩
  · skip
    refine AW.iload dX7_copyWithPartAlone_8 rfl ?_
    refine AW.iload_n dX7_copyWithPartAlone_10 rfl ?_
    refine AW.if_icmpge (tgt := 28) dX7_copyWithPartAlone_11 (by decide) (fun c11 => ?_) (fun c11 => absurd c11 (by decide))
    exact fin _
  · skip
    refine AW.iload dX7_copyWithPartAlone_8 rfl ?_
    refine AW.iload_n dX7_copyWithPartAlone_10 rfl ?_
    refine AW.if_icmpge (tgt := 28) dX7_copyWithPartAlone_11 (by decide) (fun c11 => absurd c11 (by decide)) (fun c11 => ?_)
    refine AW.aload_n dX7_copyWithPartAlone_14 rfl ?_
    refine AW.iload dX7_copyWithPartAlone_15 rfl ?_
    refine AW.cI2 (d' := d - 1) (cX7_23 rfl) okX7_behind dX7_copyWithPartAlone_17 (by repeat (first | assumption | exact hset_eq _ _ _ | refine (hset_ne _ _ (by omega)).trans ?_)) (by omega) (V_behind (i := i + 1) hc (by omega) (by omega) ?_)
    refine AW.ist4 dX7_copyWithPartAlone_20 (by decide) ?_
    refine AW.inc5 dX7_copyWithPartAlone_22 (by decide) (by unfold RI; omega) ?_
    refine AW.goto (tgt := 8) dX7_copyWithPartAlone_25 (by decide) ?_
    refine AW.iload dX7_copyWithPartAlone_8 rfl ?_
    refine AW.iload_n dX7_copyWithPartAlone_10 rfl ?_
    refine AW.if_icmpge (tgt := 28) dX7_copyWithPartAlone_11 (by decide) (fun c11 => ?_) (fun c11 => absurd c11 (by decide))
    exact fin _
theorem bh_1 {i w : Nat} (hi : ws[i]? = some w) (h1 : ptW w = 1) : bhF ws i = bhF ws (i + 1) := by
  unfold bhF
  rw [drop_cons hi, sk_cons, h1]
  show i + (1 + sk 1 _) = _
  omega
theorem bh_2 {i w : Nat} (hi : ws[i]? = some w) (h1 : ptW w = 2) : bhF ws i = bhF ws (bhF ws (i + 1)) := by
  have e : bhF ws (i + 1) = i + 1 + sk 1 (ws.drop (i + 1)) := rfl
  have e2 : bhF ws (bhF ws (i + 1)) = bhF ws (i + 1) + sk 1 (ws.drop (bhF ws (i + 1))) := rfl
  have e0 : bhF ws i = i + (1 + sk (1 + 1) (ws.drop (i + 1))) := by
    unfold bhF
    rw [drop_cons hi, sk_cons, h1]
  rw [e0, sk_add, e2, List.drop_drop, ← e]
  omega
theorem sg_drop {a b : Nat} (hab : a ≤ b) : sg ws a b ++ ws.drop b = ws.drop a := by
  unfold sg
  have := List.take_append_drop (b - a) (ws.drop a)
  rw [List.drop_drop, show a + (b - a) = b by omega] at this
  exact this
/-- the candidate with the part p alone -/
def cdP (ws : List Nat) (i p : Nat) : List Nat := sg ws 0 i ++ sg ws (if p = 0 then i + 1 else bhF ws (i + 1)) (bhF ws (if p = 0 then i + 1 else bhF ws (i + 1))) ++ ws.drop (bhF ws i)
theorem cdP_N {i w : Nat} (hi : ws[i]? = some w) (h1 : ptW w = 1) : cdP ws i 0 = cdN ws i := by
  have hl := (List.getElem?_eq_some_iff.mp hi).1
  unfold cdP cdN
  rw [if_pos rfl, List.append_assoc, bh_1 hi h1, sg_drop (bhF_b (by omega)).1]
theorem cdP_A {i w : Nat} (hi : ws[i]? = some w) (h1 : ptW w = 2) : cdP ws i 0 = cdA ws i := by
  unfold cdP cdA
  rw [if_pos rfl, bh_2 hi h1]
theorem cdP_B {i w : Nat} (hi : ws[i]? = some w) (h1 : ptW w = 2) : cdP ws i 1 = cdB ws i := by
  have hl := (List.getElem?_eq_some_iff.mp hi).1
  have b1 := bhF_b (ws := ws) (i := i + 1) (by omega)
  unfold cdP cdB
  rw [if_neg (by decide), List.append_assoc, bh_2 hi h1, sg_drop (bhF_b b1.2).1]
theorem drS_comm (c1 c2 : List Nat) (p : Int × Int) : drS s who x c1 (drS s who x c2 p) = drS s who x c2 (drS s who x c1 p) := by
  unfold drS
  by_cases h1 : cnS s who c1 = x
  · by_cases h2 : cnS s who c2 = x
    · rw [if_pos h1, if_pos h2, if_pos h1, if_pos h2]
      refine Prod.ext rfl ?_
      show (if (c1.length : Int) < (if (c2.length : Int) < p.2 then (c2.length : Int) else p.2) then (c1.length : Int) else (if (c2.length : Int) < p.2 then (c2.length : Int) else p.2)) = (if (c2.length : Int) < (if (c1.length : Int) < p.2 then (c1.length : Int) else p.2) then (c2.length : Int) else (if (c1.length : Int) < p.2 then (c1.length : Int) else p.2))
      by_cases u1 : (c1.length : Int) < p.2
      · by_cases u2 : (c2.length : Int) < p.2
        · rw [if_pos u1, if_pos u2]
          by_cases u3 : (c1.length : Int) < c2.length
          · rw [if_pos u3, if_neg (by omega)]
          · rw [if_neg u3]
            by_cases u4 : (c2.length : Int) < c1.length
            · rw [if_pos u4]
            · rw [if_neg u4]; omega
        · rw [if_pos u1, if_neg u2, if_pos u1, if_neg (by omega)]
      · by_cases u2 : (c2.length : Int) < p.2
        · rw [if_neg u1, if_pos u2, if_neg (by omega)]
        · rw [if_neg u1, if_neg u2, if_neg u1]
    · rw [if_neg h2, if_neg h2]
  · rw [if_neg h1, if_neg h1]
/-- the parts of one place, in the program's order -/
noncomputable def drP (s : SC) (who due : Int) (ws : List Nat) (i : Nat) : Nat → Int × Int → Int × Int
  | 0, p => p
  | n + 1, p => drS s who due (cdP ws i n) (drP s who due ws i n p)
theorem drP_at {i w : Nat} (hi : ws[i]? = some w) (p : Int × Int) : drP s who x ws i (ptW w) p = drAt s who x ws i p := by
  have hg : ws.getD i 0 = w := by rw [List.getD_eq_getElem?_getD, hi]; rfl
  unfold drAt
  rw [hg]
  by_cases h7 : w < 7
  · rw [if_pos h7, show ptW w = 0 from if_pos h7]
    rfl
  · by_cases e7 : w = 7
    · have e : ptW w = 1 := by unfold ptW; rw [if_neg h7, if_pos e7]
      rw [if_neg h7, if_pos e7, e]
      show drS s who x (cdP ws i 0) p = _
      rw [cdP_N hi e]
    · have e : ptW w = 2 := by unfold ptW; rw [if_neg h7, if_neg e7]
      rw [if_neg h7, if_neg e7, e]
      show drS s who x (cdP ws i 1) (drS s who x (cdP ws i 0) p) = _
      rw [cdP_A hi e, cdP_B hi e]
      exact drS_comm _ _ _
theorem cdP_ok {i w p : Nat} (wf : hgt ws = some 1) (hi : ws[i]? = some w) (hp : p < ptW w) : hgt (cdP ws i p) = some 1 := by
  have c := cd_ok wf hi
  by_cases h7 : w < 7
  · have e : ptW w = 0 := if_pos h7
    omega
  · by_cases e7 : w = 7
    · have e : ptW w = 1 := by unfold ptW; rw [if_neg h7, if_pos e7]
      obtain rfl : p = 0 := by omega
      rw [cdP_N hi e]
      exact c.1 e7
    · have e : ptW w = 2 := by unfold ptW; rw [if_neg h7, if_neg e7]
      obtain ⟨-, -, -, -, u1, u2⟩ := c.2 (by omega)
      have : p = 0 ∨ p = 1 := by omega
      rcases this with rfl | rfl
      · rw [cdP_A hi e]; exact u2
      · rw [cdP_B hi e]; exact u1
theorem V_alone {i p w : Nat} (h16 : 16 ≤ b) (hbc : b + 1 < c ∨ c + 1 < b) (hcs : c + 2 ≤ 16 + h.1) (hd : 2 ≤ d) (hb : SyR h b) (hc : SyA h c ws) (hi : ws[i]? = some w) (hp : p < ptW w)
    (hq : ∀ h', SyA h' b (cdP ws i p) → Fr h h' (PB b) → Q none h') : MW d 0 0 mX7_copyWithPartAlone [.inr b, .inr c, .inl (i : Int), .inl (p : Int)] h Q := by
  have hl := (List.getElem?_eq_some_iff.mp hi).1
  have hp2 := ptW_le w
  have : p = 0 ∨ p = 1 := by omega
  have b1 := bhF_b (ws := ws) (i := i + 1) (by omega)
  rcases this with rfl | rfl
  · refine W_alone (B := i + 1) h16 hbc hcs hd hb hc hl (Or.inl ⟨rfl, rfl⟩) ?_ hq
    by_cases e : ptW w = 1
    · rw [bh_1 hi e]; exact Nat.le_refl _
    · rw [bh_2 hi (by omega)]
      exact (bhF_b b1.2).1
  · refine W_alone (B := bhF ws (i + 1)) h16 hbc hcs hd hb hc hl (Or.inr ⟨rfl, rfl⟩) ?_ hq
    rw [bh_2 hi (by omega)]
    exact Nat.le_refl _
end Cls18

