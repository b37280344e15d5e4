section Lis2
variable {d : Nat} {Q : Option AV → AH → Prop} {h : AH} {b a : Nat} {x k g more : Int} {ws : List Nat} {w : Nat} {nm : Nat → Int} {f f2 : Nat → Int} {l : List Int}
theorem L_meaningOf (h9 : 120 ≤ h.1) (h4 : h.2 4 = .inr (3, rowOf [170, 204, 240])) (h73 : h.2 73 = .inl (7, [.inr a, .inr 75, .inr 76])) (hS : StA h a k g) (h75 : h.2 75 = .inr (5, f)) (hf : ∀ i, i < 4 → f i = nm i) (hn : nmOK nm) (hb : SyA h b ws) (hb7 : b + 1 < 73 ∨ 77 ≤ b) (hbs : b + 2 ≤ 16 + h.1) (hd : 4 ≤ d) (hw1 : hgt ws = some 1)
    (hq : ∀ h' f3, h' = hset h 76 (.inr (20, f3)) → Q (some (.inl (concF k g (lfK nm) ws))) h') :
    ∀ (i n : Nat) (f2 : Nat → Int) (h' : AH), i ≤ ws.length → h'.2 = (hset h 76 (.inr (20, f2))).2 → h'.1 = h.1 → hgt (ws.drop i) = some n → PR f2 (evF k g (lfK nm) (ws.drop i)) →
      AW d 0 0 mX6_meaningOf Q 9 [some (.inr 73), some (.inr b), some (.inl (n : Int)), some (.inl ((i : Int) - 1))] [] h' := by
  obtain ⟨fb, b1, b2, b3, b4, b5⟩ := id hb
  intro i
  induction i with
  | zero =>
    intro n f2 h' hi e1 e2 hg hP
    have hh : h' = hset h 76 (.inr (20, f2)) := Prod.ext e2 e1
    rw [List.drop_zero] at hg hP
    rw [hw1] at hg
    cases hg
    have k73 : h'.2 73 = .inl (7, [.inr a, .inr 75, .inr 76]) := by rw [hh]; exact (hset_ne _ _ (by decide)).trans h73
    have k76 : h'.2 76 = .inr (20, f2) := by rw [hh]; exact hset_eq _ _ _
    have hlen := evF_len (k := k) (g := g) (lf := lfK nm) hw1
    have hv : f2 0 = concF k g (lfK nm) ws := by
      unfold concF
      generalize evF k g (lfK nm) ws = L at hP hlen
      match L, hlen with
      | [y], _ => exact hP.top
    refine AW.iload_n dX6_meaningOf_9 rfl ?_
    refine AW.iflt (tgt := 31) dX6_meaningOf_10 (by decide) (fun c10 => ?_) (fun c10 => absurd c10 (by omega))
    refine AW.iload_n dX6_meaningOf_31 rfl ?_
    refine AW.ifle (tgt := 46) dX6_meaningOf_32 (by decide) (fun c32 => absurd c32 (by decide)) (fun c32 => ?_)
    refine AW.aload_n dX6_meaningOf_35 rfl ?_
    refine AW.getf dX6_meaningOf_36 gX6_24 (by repeat (first | assumption | exact hset_eq _ _ _ | refine (hset_ne _ _ (by omega)).trans ?_)) rfl ?_
    refine AW.iload_n dX6_meaningOf_39 rfl ?_
    refine AW.iconst dX6_meaningOf_40 ?_
    refine AW.isubR dX6_meaningOf_41 (by unfold RI; omega) ?_
    refine AW.iaload dX6_meaningOf_42 (by repeat (first | assumption | exact hset_eq _ _ _ | refine (hset_ne _ _ (by omega)).trans ?_)) (by omega) (by omega) ?_
    refine AW.goto (tgt := 47) dX6_meaningOf_43 (by decide) ?_
    refine AW.ireturn dX6_meaningOf_47 rfl ?_
    have e0 : f2 (((1 : Nat) : Int) - 1).toNat = concF k g (lfK nm) ws := hv
    rw [e0]
    exact hq h' f2 hh
  | succ i ih =>
    intro n f2 h' hi e1 e2 hg hP
    have hh : h' = hset h 76 (.inr (20, f2)) := Prod.ext e2 e1
    obtain ⟨w, hw⟩ : ∃ w, ws[i]? = some w := ⟨_, List.getElem?_eq_getElem (by omega)⟩
    have hdr := drop_cons hw
    obtain ⟨n2, hg2⟩ := hgt_drop hw1 i
    rw [hdr] at hg2
    have ne : ∀ a, a ≠ 76 → h'.2 a = h.2 a := fun a ha => by rw [hh]; exact hset_ne _ _ ha
    have k76 : h'.2 76 = .inr (20, f2) := by rw [hh]; exact hset_eq _ _ _
    have k73 := (ne 73 (by decide)).trans h73
    have k75 := (ne 75 (by decide)).trans h75
    have k4 := (ne 4 (by decide)).trans h4
    have kb1 := (ne b (by omega)).trans b1
    have kb2 := (ne (b + 1) (by omega)).trans b2
    have F : Fr h h' P76 := by rw [hh]; exact Fr.set rfl
    have kS := hS.fr F (by unfold P76; omega)
    have ei : ((i : Int)).toNat = i := by omega
    have e1' : (((i + 1 : Nat) : Int) - 1) = (i : Int) := by omega
    have hlen := evF_len (k := k) (g := g) (lf := lfK nm) hg
    have hdl : (ws.drop (i + 1)).length < 20 := by rw [List.length_drop]; omega
    rw [e1']
    refine AW.iload_n dX6_meaningOf_9 rfl ?_
    refine AW.iflt (tgt := 31) dX6_meaningOf_10 (by decide) (fun c10 => absurd c10 (by omega)) (fun c10 => ?_)
    refine AW.aload_n dX6_meaningOf_13 rfl ?_
    refine AW.aload_n dX6_meaningOf_14 rfl ?_
    refine AW.getf dX6_meaningOf_15 gX6_33 (by repeat (first | assumption | exact hset_eq _ _ _ | refine (hset_ne _ _ (by omega)).trans ?_)) rfl ?_
    refine AW.iload_n dX6_meaningOf_18 rfl ?_
    refine AW.iaload dX6_meaningOf_19 (by repeat (first | assumption | exact hset_eq _ _ _ | refine (hset_ne _ _ (by omega)).trans ?_)) (by omega) (by omega) ?_
    rw [ei, b5 i w hw]
    refine AW.iload_n dX6_meaningOf_20 rfl ?_
    refine AW.cI3 (d' := d - 1) (cX6_36 rfl) okX6_hear dX6_meaningOf_21 (by repeat (first | assumption | exact hset_eq _ _ _ | refine (hset_ne _ _ (by omega)).trans ?_)) (by omega) (W_hear k4 k73 kS k75 hf hn k76 hP hlen hg hg2 hdl (by omega) (fun h3 f3 e3 p3 l3 => ?_))
    refine AW.ist2 dX6_meaningOf_24 (by decide) ?_
    refine AW.inc3 dX6_meaningOf_25 (by decide) (by unfold RI; omega) ?_
    refine AW.goto (tgt := 9) dX6_meaningOf_28 (by decide) ?_
    have hh3 : h3 = hset h 76 (.inr (20, f3)) := by
      rw [e3, hh]
      refine Prod.ext rfl (funext fun z => ?_)
      show (if z = 76 then _ else if z = 76 then _ else h.2 z) = if z = 76 then _ else h.2 z
      by_cases q : z = 76
      · rw [if_pos q, if_pos q]
      · rw [if_neg q, if_neg q, if_neg q]
    exact ih n2 f3 h3 (by omega) (by rw [hh3]) (by rw [hh3]; rfl) (by rw [hdr]; exact hg2) (by rw [hdr, evF_cons]; exact p3)
theorem W_meaningOf (h9 : 120 ≤ h.1) (h4 : h.2 4 = .inr (3, rowOf [170, 204, 240])) (hL : LisA h k g nm more) (hn : nmOK nm) (hb : SyA h b ws) (hb7 : b + 1 < 73 ∨ 77 ≤ b) (hbs : b + 2 ≤ 16 + h.1) (hd : 4 ≤ d) (hw1 : hgt ws = some 1)
    (hq : ∀ h', LisA h' k g nm more → Fr h h' P76 → Q (some (.inl (concF k g (lfK nm) ws))) h') : MW d 0 0 mX6_meaningOf [.inr 73, .inr b] h Q := by
  obtain ⟨a, f, f2, h73, hS, h75, hf, hf4, h76⟩ := id hL
  obtain ⟨fb, b1, b2, b3, b4, b5⟩ := id hb
  show AW d 0 0 mX6_meaningOf Q 0 [some (.inr 73), some (.inr b), none, none] [] h
  refine AW.iconst dX6_meaningOf_0 ?_
  refine AW.ist2 dX6_meaningOf_1 (by decide) ?_
  refine AW.aload_n dX6_meaningOf_2 rfl ?_
  refine AW.getf dX6_meaningOf_3 gX6_27 (by repeat (first | assumption | exact hset_eq _ _ _ | refine (hset_ne _ _ (by omega)).trans ?_)) rfl ?_
  refine AW.iconst dX6_meaningOf_6 ?_
  refine AW.isubR dX6_meaningOf_7 (by unfold RI; omega) ?_
  refine AW.ist3 dX6_meaningOf_8 (by decide) ?_
  refine L_meaningOf (f := f) h9 h4 h73 hS h75 hf hn hb hb7 hbs hd hw1 (fun h' f3 e3 => ?_) ws.length 0 f2 h (Nat.le_refl _) ?_ rfl (by rw [List.drop_of_length_le (Nat.le_refl _)]; rfl) (by rw [List.drop_of_length_le (Nat.le_refl _)]; exact PR.nil _)
  · have F : Fr h h' P76 := by rw [e3]; exact Fr.set rfl
    refine hq h' ⟨a, f, f3, ?_, hS.fr F (by unfold P76; omega), ?_, hf, hf4, ?_⟩ F
    · rw [e3]; exact (hset_ne _ _ (by decide)).trans h73
    · rw [e3]; exact (hset_ne _ _ (by decide)).trans h75
    · rw [e3]; exact hset_eq _ _ _
  · funext z
    show h.2 z = if z = 76 then _ else h.2 z
    by_cases q : z = 76
    · rw [if_pos q, q]; exact h76
    · rw [if_neg q]
/-! become -/
def PL (a : Nat) : Prop := a = 73 ∨ a = 75 ∨ a = 76
def bcF (c : Nat → Int) (ln : Int) (i : Nat) : Int := if a_and (a_shr ln (i : Int)) 1 = 1 then c i else -9
theorem L_become {c : Nat → Int} {cb : Nat} {ln : Int} (h9 : 120 ≤ h.1) (hS : StA h a k g) (hc : h.2 cb = .inr (4, c)) (hcb : 16 ≤ cb ∧ cb < 73) (h76 : h.2 76 = .inr (20, f2))
    (hq : ∀ h', LisA h' k g (bcF c ln) (-9) → Fr h h' PL → Q none h') :
    ∀ (r i : Nat) (f : Nat → Int) (h' : AH), i + r = 4 → Fr h h' PL → h'.2 73 = .inl (7, [.inr a, .inr 75, .inr 76]) → h'.2 75 = .inr (5, f) → h'.2 76 = .inr (20, f2) → (∀ j, j < i → f j = bcF c ln j) →
      AW d 0 0 mX6_become Q 8 [some (.inr 73), some (.inr a), some (.inr cb), some (.inl ln), some (.inl (i : Int))] [] h' := by
  intro r
  induction r with
  | zero =>
    intro i f h' hi F k73 k75 k76 hf
    refine AW.iload dX6_become_8 rfl ?_
    refine AW.iconst dX6_become_10 ?_
    refine AW.if_icmpge (tgt := 53) dX6_become_11 (by decide) (fun c11 => ?_) (fun c11 => absurd c11 (by omega))
    refine AW.aload_n dX6_become_53 rfl ?_
    refine AW.getf dX6_become_54 gX6_20 (by repeat (first | assumption | exact hset_eq _ _ _ | refine (hset_ne _ _ (by omega)).trans ?_)) rfl ?_
    refine AW.iconst dX6_become_57 ?_
    refine AW.bipush dX6_become_58 ?_
    refine AW.iastore dX6_become_60 (by omega) (by repeat (first | assumption | exact hset_eq _ _ _ | refine (hset_ne _ _ (by omega)).trans ?_)) (by omega) (by omega) ?_
    refine AW.vreturn dX6_become_61 rfl ?_
    have F2 : Fr h (hset h' 75 (.inr (5, updI f 4 (-9)))) PL := F.trans (Fr.set (Or.inr (Or.inl rfl)))
    refine hq _ ⟨a, updI f 4 (-9), f2, (hset_ne _ _ (by decide)).trans k73, hS.fr F2 (by unfold PL; omega), hset_eq _ _ _, fun j hj => ?_, updI_eq _ _ _, (hset_ne _ _ (by decide)).trans k76⟩ F2
    rw [updI_ne _ _ (by omega)]
    exact hf j (by omega)
  | succ r ih =>
    intro i f h' hi F k73 k75 k76 hf
    have kc : h'.2 cb = .inr (4, c) := (F.2 cb (by omega) (by unfold PL; omega)).trans hc
    have ei : ((i : Int)).toNat = i := by omega
    have nx : ∀ v, v = bcF c ln i → AW d 0 0 mX6_become Q 8 [some (.inr 73), some (.inr a), some (.inr cb), some (.inl ln), some (.inl ((i : Int) + 1))] [] (hset h' 75 (.inr (5, updI f ((i : Int)).toNat v))) := by
      intro v hv
      rw [ei]
      refine ih (i + 1) (updI f i v) _ (by omega) (F.trans (Fr.set (Or.inr (Or.inl rfl)))) ((hset_ne _ _ (by decide)).trans k73) (hset_eq _ _ _) ((hset_ne _ _ (by decide)).trans k76) (fun j hj => ?_)
      by_cases q : j = i
      · rw [q, updI_eq]; exact hv
      · rw [updI_ne _ _ q]; exact hf j (by omega)
    refine AW.iload dX6_become_8 rfl ?_
    refine AW.iconst dX6_become_10 ?_
    refine AW.if_icmpge (tgt := 53) dX6_become_11 (by decide) (fun c11 => absurd c11 (by omega)) (fun c11 => ?_)
    refine AW.iload dX6_become_14 rfl ?_
    refine AW.aload_n dX6_become_16 rfl ?_
    refine AW.alen dX6_become_17 (by repeat (first | assumption | exact hset_eq _ _ _ | refine (hset_ne _ _ (by omega)).trans ?_)) (by omega) ?_
    refine AW.if_icmpge (tgt := 53) dX6_become_18 (by decide) (fun c18 => absurd c18 (by omega)) (fun c18 => ?_)
    refine AW.aload_n dX6_become_21 rfl ?_
    refine AW.getf dX6_become_22 gX6_20 (by repeat (first | assumption | exact hset_eq _ _ _ | refine (hset_ne _ _ (by omega)).trans ?_)) rfl ?_
    refine AW.iload dX6_become_25 rfl ?_
    refine AW.iload_n dX6_become_27 rfl ?_
    refine AW.iload dX6_become_28 rfl ?_
    refine AW.ishr dX6_become_30 ?_
    refine AW.iconst dX6_become_31 ?_
    refine AW.iand dX6_become_32 ?_
    refine AW.iconst dX6_become_33 ?_
    refine AW.if_icmpne (tgt := 44) dX6_become_34 (by decide) (fun c34 => ?_) (fun c34 => ?_)
    · refine AW.bipush dX6_become_44 ?_
      refine AW.iastore dX6_become_46 (by omega) (by repeat (first | assumption | exact hset_eq _ _ _ | refine (hset_ne _ _ (by omega)).trans ?_)) (by omega) (by omega) ?_
      refine AW.inc4 dX6_become_47 (by decide) (by unfold RI; omega) ?_
      refine AW.goto (tgt := 8) dX6_become_50 (by decide) ?_
      first
        | exact nx _ (by unfold bcF; rw [if_neg (by assumption)])
        | exact nx _ (by unfold bcF; rw [if_pos (by assumption), ei])
    · refine AW.aload_n dX6_become_37 rfl ?_
      refine AW.iload dX6_become_38 rfl ?_
      refine AW.iaload dX6_become_40 (by repeat (first | assumption | exact hset_eq _ _ _ | refine (hset_ne _ _ (by omega)).trans ?_)) (by omega) (by omega) ?_
      refine AW.goto (tgt := 46) dX6_become_41 (by decide) ?_
      refine AW.iastore dX6_become_46 (by omega) (by repeat (first | assumption | exact hset_eq _ _ _ | refine (hset_ne _ _ (by omega)).trans ?_)) (by omega) (by omega) ?_
      refine AW.inc4 dX6_become_47 (by decide) (by unfold RI; omega) ?_
      refine AW.goto (tgt := 8) dX6_become_50 (by decide) ?_
      first
        | exact nx _ (by unfold bcF; rw [if_neg (by assumption)])
        | exact nx _ (by unfold bcF; rw [if_pos (by assumption), ei])
theorem W_become {c : Nat → Int} {cb : Nat} {ln : Int} (h9 : 120 ≤ h.1) (hL : LisR h) (hS : StA h a k g) (hc : h.2 cb = .inr (4, c)) (hcb : 16 ≤ cb ∧ cb < 73)
    (hq : ∀ h', LisA h' k g (bcF c ln) (-9) → Fr h h' PL → Q none h') : MW d 0 0 mX6_become [.inr 73, .inr a, .inr cb, .inl ln] h Q := by
  obtain ⟨a0, f, f2, h73, h75, h76⟩ := id hL
  show AW d 0 0 mX6_become Q 0 [some (.inr 73), some (.inr a), some (.inr cb), some (.inl ln), none] [] h
  refine AW.aload_n dX6_become_0 rfl ?_
  refine AW.aload_n dX6_become_1 rfl ?_
  refine AW.putf dX6_become_2 pX6_14 (by repeat (first | assumption | exact hset_eq _ _ _ | refine (hset_ne _ _ (by omega)).trans ?_)) trivial ?_
  refine AW.iconst dX6_become_5 ?_
  refine AW.ist4 dX6_become_6 (by decide) ?_
  exact L_become h9 hS hc hcb h76 hq 4 0 f _ (by omega) (Fr.set (Or.inl rfl)) (hset_eq _ _ _) ((hset_ne _ _ (by decide)).trans h75) ((hset_ne _ _ (by decide)).trans h76) (fun j hj => by omega)
theorem W_knowInMind (h9 : 120 ≤ h.1) (hL : LisA h k g nm more) (hq : ∀ h', LisA h' k g nm x → Fr h h' PL → Q none h') : MW d 0 0 mX6_knowInMind [.inr 73, .inl x] h Q := by
  obtain ⟨a, f, f2, h73, hS, h75, hf, hf4, h76⟩ := id hL
  show AW d 0 0 mX6_knowInMind Q 0 [some (.inr 73), some (.inl x)] [] h
  refine AW.aload_n dX6_knowInMind_0 rfl ?_
  refine AW.getf dX6_knowInMind_1 gX6_20 (by repeat (first | assumption | exact hset_eq _ _ _ | refine (hset_ne _ _ (by omega)).trans ?_)) rfl ?_
  refine AW.iconst dX6_knowInMind_4 ?_
  refine AW.iload_n dX6_knowInMind_5 rfl ?_
  refine AW.iastore dX6_knowInMind_6 (by omega) (by repeat (first | assumption | exact hset_eq _ _ _ | refine (hset_ne _ _ (by omega)).trans ?_)) (by omega) (by omega) ?_
  refine AW.vreturn dX6_knowInMind_7 rfl ?_
  have F : Fr h (hset h 75 (.inr (5, updI f 4 x))) PL := Fr.set (Or.inr (Or.inl rfl))
  refine hq _ ⟨a, updI f 4 x, f2, (hset_ne _ _ (by decide)).trans h73, hS.fr F (by unfold PL; omega), hset_eq _ _ _, fun j hj => ?_, updI_eq _ _ _, (hset_ne _ _ (by decide)).trans h76⟩ F
  rw [updI_ne _ _ (by omega)]
  exact hf j hj
end Lis2

