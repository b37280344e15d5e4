section Cls11
variable {d : Nat} {Q : Option AV → AH → Prop} {h h' : AH} {nw tr b : Nat} {ik sd at' tc : Int} {S S' : ST} {P : Nat → Prop} {s : SC} {x y z who k g more : Int} {nm : Nat → Int}
theorem L_cagr2 {a : Nat} {n0 : Int} (HM : CM h nw tr ik sd at' S) (hd : 7 ≤ d) (ha : a < s_n S.1) (hn0 : 0 ≤ n0) (hn1 : n0 ≤ 25)
    (hq : ∀ h' z, LisR h' → Fr h h' PL → AW d 0 0 mX11_agree Q 48 [some (.inr 16), some (.inl (n0 + agF S.1 a (s_n S.1))), some (.inl (a : Int)), z] [] h') :
    ∀ (r b : Nat) (h' : AH), b + r = s_n S.1 → a < b → LisR h' → Fr h h' PL →
      AW d 0 0 mX11_agree Q 19 [some (.inr 16), some (.inl (n0 + agF S.1 a b)), some (.inl (a : Int)), some (.inl (b : Int))] [] h' := by
  have ok := HM.2.2.2.2.2.2.2.2.2.2.2.2
  have o := ok.1.1
  intro r
  induction r with
  | zero =>
    intro b h' hb hab L F
    have HM' := HM.fr F (fun a => PL_PS)
    have g16 := HM'.2.1
    unfold CO at g16
    have gn := HM'.2.2.2.2.2.1.1
    rw [show b = s_n S.1 by omega]
    refine AW.iload_n dX11_agree_19 rfl ?_
    refine AW.aload_n dX11_agree_20 rfl ?_
    refine AW.getf dX11_agree_21 gX11_19 (by repeat (first | assumption | exact hset_eq _ _ _ | refine (hset_ne _ _ (by omega)).trans ?_)) rfl ?_
    refine AW.getf dX11_agree_24 gX11_212 (by repeat (first | assumption | exact hset_eq _ _ _ | refine (hset_ne _ _ (by omega)).trans ?_)) rfl ?_
    refine AW.if_icmpge (tgt := 48) dX11_agree_27 (by decide) (fun c27 => ?_) (fun c27 => absurd c27 (by omega))
    exact hq h' _ L F
  | succ r ih =>
    intro b h' hb hab L F
    have HM' := HM.fr F (fun a => PL_PS)
    have g16 := HM'.2.1
    unfold CO at g16
    have gn := HM'.2.2.2.2.2.1.1
    have hbb := agF_b S.1 a b
    have e2 : agF S.1 a (b + 1) = agF S.1 a b + iv (a < b ∧ agS S.1 a b) 1 := rfl
    refine AW.iload_n dX11_agree_19 rfl ?_
    refine AW.aload_n dX11_agree_20 rfl ?_
    refine AW.getf dX11_agree_21 gX11_19 (by repeat (first | assumption | exact hset_eq _ _ _ | refine (hset_ne _ _ (by omega)).trans ?_)) rfl ?_
    refine AW.getf dX11_agree_24 gX11_212 (by repeat (first | assumption | exact hset_eq _ _ _ | refine (hset_ne _ _ (by omega)).trans ?_)) rfl ?_
    refine AW.if_icmpge (tgt := 48) dX11_agree_27 (by decide) (fun c27 => absurd c27 (by omega)) (fun c27 => ?_)
    refine AW.aload_n dX11_agree_30 rfl ?_
    refine AW.iload_n dX11_agree_31 rfl ?_
    refine AW.iload_n dX11_agree_32 rfl ?_
    refine AW.cI3 (d' := d - 1) (cX11_218 rfl) okX11_concludeAlike dX11_agree_33 (by repeat (first | assumption | exact hset_eq _ _ _ | refine (hset_ne _ _ (by omega)).trans ?_)) (by omega) (W_alike HM' L ha (by omega) (by omega) (fun hag h2 L2 F2 => ?_) (fun hag h2 L2 F2 => ?_))
    · refine AW.ifeq_f (tgt := 42) dX11_agree_36 (by decide) (by decide) ?_
      refine AW.inc1 dX11_agree_39 (by decide) (by unfold RI; omega) ?_
      refine AW.inc3 dX11_agree_42 (by decide) (by unfold RI; omega) ?_
      refine AW.goto (tgt := 19) dX11_agree_45 (by decide) ?_
      have e1 := ih (b + 1) h2 (by omega) (by omega) L2 (F.trans F2)
      rw [e2] at e1
      first
        | (rw [iv_pos ⟨hab, hag⟩, ← Int.add_assoc] at e1; exact e1)
        | (rw [iv_neg (fun q => hag q.2), Int.add_zero] at e1; exact e1)
    · refine AW.ifeq_t (tgt := 42) dX11_agree_36 (by decide) rfl ?_
      refine AW.inc3 dX11_agree_42 (by decide) (by unfold RI; omega) ?_
      refine AW.goto (tgt := 19) dX11_agree_45 (by decide) ?_
      have e1 := ih (b + 1) h2 (by omega) (by omega) L2 (F.trans F2)
      rw [e2] at e1
      first
        | (rw [iv_pos ⟨hab, hag⟩, ← Int.add_assoc] at e1; exact e1)
        | (rw [iv_neg (fun q => hag q.2), Int.add_zero] at e1; exact e1)
theorem L_cagr (HM : CM h nw tr ik sd at' S) (hd : 7 ≤ d) (hq : ∀ h', LisR h' → Fr h h' PL → Q (some (.inl (sumN (s_n S.1) (fun a => agF S.1 a (s_n S.1))))) h') :
    ∀ (r a : Nat) (h' : AH) (z : Option AV), a + r = s_n S.1 → LisR h' → Fr h h' PL →
      AW d 0 0 mX11_agree Q 4 [some (.inr 16), some (.inl (sumN a (fun a => agF S.1 a (s_n S.1)))), some (.inl (a : Int)), z] [] h' := by
  have ok := HM.2.2.2.2.2.2.2.2.2.2.2.2
  have o := ok.1.1
  intro r
  induction r with
  | zero =>
    intro a h' z ha L F
    have HM' := HM.fr F (fun a => PL_PS)
    have g16 := HM'.2.1
    unfold CO at g16
    have gn := HM'.2.2.2.2.2.1.1
    rw [show a = s_n S.1 by omega]
    refine AW.iload_n dX11_agree_4 rfl ?_
    refine AW.aload_n dX11_agree_5 rfl ?_
    refine AW.getf dX11_agree_6 gX11_19 (by repeat (first | assumption | exact hset_eq _ _ _ | refine (hset_ne _ _ (by omega)).trans ?_)) rfl ?_
    refine AW.getf dX11_agree_9 gX11_212 (by repeat (first | assumption | exact hset_eq _ _ _ | refine (hset_ne _ _ (by omega)).trans ?_)) rfl ?_
    refine AW.if_icmpge (tgt := 54) dX11_agree_12 (by decide) (fun c12 => ?_) (fun c12 => absurd c12 (by omega))
    refine AW.iload_n dX11_agree_54 rfl ?_
    refine AW.ireturn dX11_agree_55 rfl ?_
    exact hq h' L F
  | succ r ih =>
    intro a h' z ha L F
    have HM' := HM.fr F (fun a => PL_PS)
    have g16 := HM'.2.1
    unfold CO at g16
    have gn := HM'.2.2.2.2.2.1.1
    have hb := agS_b S.1 (s_n S.1) a
    have hb2 : sumN a (fun a => agF S.1 a (s_n S.1)) ≤ 25 := by
      have : (a : Int) * (s_n S.1 : Int) ≤ 5 * 5 := Int.mul_le_mul (by omega) (by omega) (by omega) (by omega)
      omega
    refine AW.iload_n dX11_agree_4 rfl ?_
    refine AW.aload_n dX11_agree_5 rfl ?_
    refine AW.getf dX11_agree_6 gX11_19 (by repeat (first | assumption | exact hset_eq _ _ _ | refine (hset_ne _ _ (by omega)).trans ?_)) rfl ?_
    refine AW.getf dX11_agree_9 gX11_212 (by repeat (first | assumption | exact hset_eq _ _ _ | refine (hset_ne _ _ (by omega)).trans ?_)) rfl ?_
    refine AW.if_icmpge (tgt := 54) dX11_agree_12 (by decide) (fun c12 => absurd c12 (by omega)) (fun c12 => ?_)
    refine AW.iload_n dX11_agree_15 rfl ?_
    refine AW.iconst dX11_agree_16 ?_
    refine AW.iaddR dX11_agree_17 (by unfold RI; omega) ?_
    refine AW.ist3 dX11_agree_18 (by decide) ?_
    have e1 := L_cagr2 (Q := Q) (d := d) HM hd (show a < s_n S.1 by omega) hb.1 hb2 (fun h2 z L2 F2 => ?_) r (a + 1) h' (by omega) (by omega) L F
    · rw [agF_low S.1 a (a + 1) (Nat.le_refl _), Int.add_zero] at e1
      exact e1
    · have e2 := fun z => ih (a + 1) h2 z (by omega) L2 F2
      simp only [sumN_succ] at e2
      refine AW.inc2 dX11_agree_48 (by decide) (by unfold RI; omega) ?_
      refine AW.goto (tgt := 4) dX11_agree_51 (by decide) ?_
      exact e2 _
theorem C_agree (H : CS h S) (hd : 7 ≤ d) (hq : ∀ r S' h', (r, S') = o_agree S → CS h' S' → Fr h h' PC → Q (some (.inl r)) h') : MW d 0 0 mX11_agree [.inr 16] h Q := by
  obtain ⟨nw, tr, ik, sd, at', HM, HL, HS⟩ := id H
  show AW d 0 0 mX11_agree Q 0 [some (.inr 16), none, none, none] [] h
  refine AW.iconst dX11_agree_0 ?_
  refine AW.ist1 dX11_agree_1 (by decide) ?_
  refine AW.iconst dX11_agree_2 ?_
  refine AW.ist2 dX11_agree_3 (by decide) ?_
  exact L_cagr HM hd (fun h2 L2 F2 => hq _ S h2 rfl (CS.lis HM HS L2 F2) (F2.mono (fun a => PL_PC))) (s_n S.1) 0 h _ (by omega) HL Fr.rfl'
theorem L_cjudge {row : List Int} {e n0 : Int} {b : Nat} {f : Nat → Int} (HM : CM h nw tr ik sd at' S) (hd : 6 ≤ d) (hb : b ≤ s_h S.1) (hbr : b ≤ row.length) (h70 : h.2 70 = .inr (6, f)) (hb6 : b ≤ 6) (hf : ∀ (i : Nat) (x : Int), row[i]? = some x → f i = x) (he : e = if n0 = (s_h S.1 : Int) then -9 else (b : Int))
    (hq : ∀ h', LisR h' → Fr h h' PL → Q (some (.inl (jdF S.1 who row e 0 b))) h') (h1 : -1 ≤ who) (h2 : who < s_n S.1) :
    ∀ (r i : Nat) (h' : AH), i + r = b → LisA h' (kkS S.1 who) (ggS S.1 who) (nmS S.1 who) (-9) → Fr h h' PL → jdF S.1 who row e 0 b = jdF S.1 who row e i r →
      AW d 0 0 mX11_judge Q 44 [some (.inr 16), some (.inl who), some (.inl n0), some (.inl (b : Int)), some (.inl (i : Int))] [] h' := by
  have ok := HM.2.2.2.2.2.2.2.2.2.2.2.2
  have o := ok.1.2.1
  intro r
  induction r with
  | zero =>
    intro i h' hi L F hj
    have HM' := HM.fr F (fun a => PL_PS)
    have g16 := HM'.2.1
    unfold CO at g16
    have gn := HM'.2.2.2.2.2.1.1
    have hf := hq h' L.r F
    rw [hj] at hf
    have hf : Q (some (.inl e)) h' := hf
    rw [he] at hf
    refine AW.iload dX11_judge_44 rfl ?_
    refine AW.iload_n dX11_judge_46 rfl ?_
    refine AW.if_icmpge (tgt := 75) dX11_judge_47 (by decide) (fun c47 => ?_) (fun c47 => absurd c47 (by omega))
    refine AW.iload_n dX11_judge_75 rfl ?_
    refine AW.aload_n dX11_judge_76 rfl ?_
    refine AW.getf dX11_judge_77 gX11_19 (by repeat (first | assumption | exact hset_eq _ _ _ | refine (hset_ne _ _ (by omega)).trans ?_)) rfl ?_
    refine AW.getf dX11_judge_80 gX11_148 (by repeat (first | assumption | exact hset_eq _ _ _ | refine (hset_ne _ _ (by omega)).trans ?_)) rfl ?_
    refine AW.if_icmpne (tgt := 91) dX11_judge_83 (by decide) (fun c83 => ?_) (fun c83 => ?_)
    · refine AW.iload_n dX11_judge_91 rfl ?_
      refine AW.ireturn dX11_judge_92 rfl ?_
      first | (rw [if_pos (by omega)] at hf; exact hf) | (rw [if_neg (by omega)] at hf; exact hf)
    · refine AW.bipush dX11_judge_86 ?_
      refine AW.goto (tgt := 92) dX11_judge_88 (by decide) ?_
      refine AW.ireturn dX11_judge_92 rfl ?_
      first | (rw [if_pos (by omega)] at hf; exact hf) | (rw [if_neg (by omega)] at hf; exact hf)
  | succ r ih =>
    intro i h' hi L F hj
    have HM' := HM.fr F (fun a => PL_PS)
    have g16 := HM'.2.1
    unfold CO at g16
    have gn := HM'.2.2.2.2.2.1.1
    have h9 := HM.2.2.1
    have er : f ((i : Int)).toNat = row.getD i 0 := by
      rw [show ((i : Int)).toNat = i by omega, List.getD_eq_getElem?_getD, List.getElem?_eq_getElem (show i < row.length by omega)]
      exact hf i _ (List.getElem?_eq_getElem (by omega))
    have e2 : jdF S.1 who row e i (r + 1) = if row.getD i 0 ≠ cnS S.1 who (s_w S.1 i) then (i : Int) else jdF S.1 who row e (i + 1) r := rfl
    rw [e2] at hj
    refine AW.iload dX11_judge_44 rfl ?_
    refine AW.iload_n dX11_judge_46 rfl ?_
    refine AW.if_icmpge (tgt := 75) dX11_judge_47 (by decide) (fun c47 => absurd c47 (by omega)) (fun c47 => ?_)
    refine AW.aload_n dX11_judge_50 rfl ?_
    refine AW.iload dX11_judge_51 rfl ?_
    refine AW.cI2 (d' := d - 1) (cX11_157 rfl) okX11_meaningOf dX11_judge_53 (by repeat (first | assumption | exact hset_eq _ _ _ | refine (hset_ne _ _ (by omega)).trans ?_)) (by omega) (C_meaning HM' L (nmOK_S ok.1) (by omega) (by omega) (by omega) (fun h3 L3 F3 => ?_))
    have F4 := F.trans (F3.mono (fun a => P76_PL))
    have HM3 := HM.fr F4 (fun a => PL_PS)
    have g3 := HM3.2.1
    unfold CO at g3
    have k70 : h3.2 70 = .inr (6, f) := (F4.2 70 (by omega) (by unfold PL; decide)).trans h70
    have ecn : cnS S.1 who (s_w S.1 i) = concF (kkS S.1 who) (ggS S.1 who) (lfK (nmS S.1 who)) (s_w S.1 i) := rfl
    refine AW.aload_n dX11_judge_56 rfl ?_
    refine AW.getf dX11_judge_57 gX11_33 (by repeat (first | assumption | exact hset_eq _ _ _ | refine (hset_ne _ _ (by omega)).trans ?_)) rfl ?_
    refine AW.iload dX11_judge_60 rfl ?_
    refine AW.iaload dX11_judge_62 (by repeat (first | assumption | exact hset_eq _ _ _ | refine (hset_ne _ _ (by omega)).trans ?_)) (by omega) (by omega) ?_
    refine AW.if_icmpeq (tgt := 69) dX11_judge_63 (by decide) (fun c63 => ?_) (fun c63 => ?_)
    · refine AW.inc4 dX11_judge_69 (by decide) (by unfold RI; omega) ?_
      refine AW.goto (tgt := 44) dX11_judge_72 (by decide) ?_
      exact ih (i + 1) h3 (by omega) L3 F4 (by rw [hj, if_neg (by rw [← er]; exact fun q => q (Eq.symm c63))])
    · refine AW.iload dX11_judge_66 rfl ?_
      refine AW.ireturn dX11_judge_68 rfl ?_
      have hf := hq h3 L3.r F4
      rw [hj, if_pos (by rw [← er]; exact fun q => c63 (Eq.symm q))] at hf
      exact hf
end Cls11

