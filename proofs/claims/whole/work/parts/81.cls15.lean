section Cls15
variable {d : Nat} {Q : Option AV → AH → Prop} {h h' : AH} {nw tr b : Nat} {ik sd at' tc : Int} {S S' : ST} {P : Nat → Prop} {s : SC} {x y z who k g more v : Int} {nm : Nat → Int}
def PV (who : Int) (a : Nat) : Prop := PL a ∨ PF (bW who) a ∨ PF 79 a
theorem L_saved (HM : CM h nw tr ik sd at' S) (h1 : -1 ≤ who) (h2 : who < s_n S.1) (hv : v ≤ 255) (hd : 6 ≤ d)
    (hq : ∀ h', LisR h' → FewS h' (bW who) S.1 who (-9) → FewV h' 79 → Fr h h' (PV who) → Q (some (.inl (sumN (s_h S.1) (svF S.1 who v)))) h') :
    ∀ (r n : Nat) (h1 : AH) (a5 a6 : Option AV), n + r = s_h S.1 → LisA h1 (kkS S.1 who) (ggS S.1 who) (nmS S.1 who) v → FewS h1 (bW who) S.1 who (-9) → FewS h1 79 S.1 who v → Fr h h1 (PV who) → -1000 * (n : Int) ≤ sumN n (svF S.1 who v) ∧ sumN n (svF S.1 who v) ≤ 1000 * (n : Int) →
      AW d 0 0 mX11_wordsSavedBy Q 24 [some (.inr 16), some (.inl v), some (.inr (bW who)), some (.inl (sumN n (svF S.1 who v))), some (.inl (n : Int)), a5, a6] [] h1 := by
  have ok := HM.2.2.2.2.2.2.2.2.2.2.2.2
  have o := ok.1.1
  have o2 := ok.1.2.1
  have h9 := HM.2.2.1
  have hbb := bW_b (who := who) h1 (by omega)
  intro r
  induction r with
  | zero =>
    intro n h1 a5 a6 hn L X Y F hb
    have HM1 := HM.fr F (fun a ha => by unfold PV PL PF at ha; unfold PS; omega)
    have n16 := HM1.2.1
    unfold CO at n16
    have gn := HM1.2.2.2.2.2.1.1
    obtain rfl : n = s_h S.1 := by omega
    refine AW.iload dX11_wordsSavedBy_24 rfl ?_
    refine AW.aload_n dX11_wordsSavedBy_26 rfl ?_
    refine AW.getf dX11_wordsSavedBy_27 gX11_19 (by repeat (first | assumption | exact hset_eq _ _ _ | refine (hset_ne _ _ (by omega)).trans ?_)) rfl ?_
    refine AW.getf dX11_wordsSavedBy_30 gX11_148 (by repeat (first | assumption | exact hset_eq _ _ _ | refine (hset_ne _ _ (by omega)).trans ?_)) rfl ?_
    refine AW.if_icmpge (tgt := 80) dX11_wordsSavedBy_33 (by decide) (fun c33 => ?_) (fun c33 => absurd c33 (by omega))
    refine AW.iload_n dX11_wordsSavedBy_80 rfl ?_
    refine AW.ireturn dX11_wordsSavedBy_81 rfl ?_
    exact hq h1 L.r X Y.v F
  | succ r ih =>
    intro n h1 a5 a6 hn L X Y F hb
    have HM1 := HM.fr F (fun a ha => by unfold PV PL PF at ha; unfold PS; omega)
    have n16 := HM1.2.1
    unfold CO at n16
    have gn := HM1.2.2.2.2.2.1.1
    have g9 := HM1.2.2.1
    refine AW.iload dX11_wordsSavedBy_24 rfl ?_
    refine AW.aload_n dX11_wordsSavedBy_26 rfl ?_
    refine AW.getf dX11_wordsSavedBy_27 gX11_19 (by repeat (first | assumption | exact hset_eq _ _ _ | refine (hset_ne _ _ (by omega)).trans ?_)) rfl ?_
    refine AW.getf dX11_wordsSavedBy_30 gX11_148 (by repeat (first | assumption | exact hset_eq _ _ _ | refine (hset_ne _ _ (by omega)).trans ?_)) rfl ?_
    refine AW.if_icmpge (tgt := 80) dX11_wordsSavedBy_33 (by decide) (fun c33 => absurd c33 (by omega)) (fun c33 => ?_)
    refine AW.aload_n dX11_wordsSavedBy_36 rfl ?_
    refine AW.iload dX11_wordsSavedBy_37 rfl ?_
    refine AW.cI2 (d' := d - 1) (cX11_157 rfl) okX11_meaningOf dX11_wordsSavedBy_39 (by repeat (first | assumption | exact hset_eq _ _ _ | refine (hset_ne _ _ (by omega)).trans ?_)) (by omega) (C_meaning HM1 L (nmOK_S ok.1) (by omega) (by omega) (by omega) (fun h3 L3 F3 => ?_))
    have X3 := X.fr F3 (by omega) (fun a ha => by unfold PF at ha; unfold P76; omega)
    have Y3 := Y.fr F3 (by omega) (fun a ha => by unfold PF at ha; unfold P76; omega)
    have F' := F.trans (F3.mono (fun a ha => Or.inl (P76_PL ha)))
    obtain ⟨vs, hvs⟩ := X3.o
    have g9' := Nat.le_trans h9 F'.1
    show AW _ _ _ _ _ _ _ [.inl (cnS S.1 who (s_w S.1 n))] _
    have hi8 := cnS_in8 (who := who) ok.1 h2 (s_w S.1 n)
    refine AW.ist5 dX11_wordsSavedBy_42 (by decide) ?_
    refine AW.aload_n dX11_wordsSavedBy_44 rfl ?_
    refine AW.iload dX11_wordsSavedBy_45 rfl ?_
    refine AW.cI2 (d' := d - 1) (cX11_173 rfl) okX3_wordsFor dX11_wordsSavedBy_47 (by repeat (first | assumption | exact hset_eq _ _ _ | refine (hset_ne _ _ (by omega)).trans ?_)) (by omega) (C_words8 ok.1 (by omega) (by decide) ⟨hbb.1, hbb.2.1⟩ g9' (by omega) hi8 X3 (fun h4 X4 F4 => ?_))
    have L4 := L3.fr F4 g9' (fun a ha => by unfold PF; omega)
    have Y4 := Y3.fr F4 (by omega) (fun a ha => by unfold PF at ha ⊢; omega)
    have F'' := F'.trans (F4.mono (fun a => fun q => Or.inr (Or.inl q)))
    have HM4 := HM.fr F'' (fun a ha => by unfold PV PL PF at ha; unfold PS; omega)
    have n16' := HM4.2.1
    unfold CO at n16'
    have g9'' := Nat.le_trans h9 F''.1
    obtain ⟨vs4, hvs4⟩ := Y4.o
    have s1 := shS_b (who := who) (more := -9) ok.1 h2 (by decide) (cnS S.1 who (s_w S.1 n))
    have s2 := shS_b (who := who) (more := v) ok.1 h2 hv (cnS S.1 who (s_w S.1 n))
    have nx := ih (n + 1)
    rw [sumN_succ] at nx
    refine AW.ist6 dX11_wordsSavedBy_50 (by decide) ?_
    refine AW.iload dX11_wordsSavedBy_52 rfl ?_
    refine AW.bipush dX11_wordsSavedBy_54 ?_
    refine AW.if_icmpeq (tgt := 74) dX11_wordsSavedBy_56 (by decide) (fun c56 => ?_) (fun c56 => ?_)
    · refine AW.inc4 dX11_wordsSavedBy_74 (by decide) (by unfold RI; omega) ?_
      refine AW.goto (tgt := 24) dX11_wordsSavedBy_77 (by decide) ?_
      first
        | (have e : svF S.1 who v n = shS S.1 who (-9) (cnS S.1 who (s_w S.1 n)) - shS S.1 who v (cnS S.1 who (s_w S.1 n)) := if_neg (by omega)
           rw [e] at nx
           exact nx h5 _ _ (by omega) (L4.fr F5 g9'' (fun a ha => by unfold PF; omega)) (X4.fr F5 (by omega) (fun a ha => by unfold PF at ha ⊢; omega)) X5 (F''.trans (F5.mono (fun a => fun q => Or.inr (Or.inr q)))) (by omega))
        | (have e : svF S.1 who v n = 0 := if_pos (by omega)
           rw [e, Int.add_zero] at nx
           exact nx h4 _ _ (by omega) L4 X4 Y4 F'' (by omega))
    · refine AW.iload_n dX11_wordsSavedBy_59 rfl ?_
      refine AW.iload dX11_wordsSavedBy_60 rfl ?_
      refine AW.aload_n dX11_wordsSavedBy_62 rfl ?_
      refine AW.getf dX11_wordsSavedBy_63 gX11_70 (by repeat (first | assumption | exact hset_eq _ _ _ | refine (hset_ne _ _ (by omega)).trans ?_)) rfl ?_
      refine AW.iload dX11_wordsSavedBy_66 rfl ?_
      refine AW.cI2 (d' := d - 1) (cX11_173 rfl) okX3_wordsFor dX11_wordsSavedBy_68 (by repeat (first | assumption | exact hset_eq _ _ _ | refine (hset_ne _ _ (by omega)).trans ?_)) (by omega) (C_words8 ok.1 (by omega) hv ⟨by omega, by omega⟩ g9'' (by omega) hi8 Y4 (fun h5 X5 F5 => ?_))
      refine AW.isubR dX11_wordsSavedBy_71 (by unfold RI; omega) ?_
      refine AW.iaddR dX11_wordsSavedBy_72 (by unfold RI; omega) ?_
      refine AW.ist3 dX11_wordsSavedBy_73 (by decide) ?_
      refine AW.inc4 dX11_wordsSavedBy_74 (by decide) (by unfold RI; omega) ?_
      refine AW.goto (tgt := 24) dX11_wordsSavedBy_77 (by decide) ?_
      first
        | (have e : svF S.1 who v n = shS S.1 who (-9) (cnS S.1 who (s_w S.1 n)) - shS S.1 who v (cnS S.1 who (s_w S.1 n)) := if_neg (by omega)
           rw [e] at nx
           exact nx h5 _ _ (by omega) (L4.fr F5 g9'' (fun a ha => by unfold PF; omega)) (X4.fr F5 (by omega) (fun a ha => by unfold PF at ha ⊢; omega)) X5 (F''.trans (F5.mono (fun a => fun q => Or.inr (Or.inr q)))) (by omega))
        | (have e : svF S.1 who v n = 0 := if_pos (by omega)
           rw [e, Int.add_zero] at nx
           exact nx h4 _ _ (by omega) L4 X4 Y4 F'' (by omega))
theorem sv_bd (ok : scOK s) (h2 : who < s_n s) (hv : v ≤ 255) (n : Nat) : -1000 * (n : Int) ≤ sumN n (svF s who v) ∧ sumN n (svF s who v) ≤ 1000 * (n : Int) := by
  induction n with
  | zero => exact ⟨Int.le_refl _, Int.le_refl _⟩
  | succ n ih =>
    have s1 := shS_b (who := who) (more := -9) ok h2 (by decide) (cnS s who (s_w s n))
    have s2 := shS_b (who := who) (more := v) ok h2 hv (cnS s who (s_w s n))
    have e : -1000 ≤ svF s who v n ∧ svF s who v n ≤ 1000 := by
      unfold svF
      split <;> omega
    rw [sumN_succ]
    omega
theorem SCR.few2 (F : Fr h h' (PV who)) (h9 : 120 ≤ h.1) (h1 : -1 ≤ who) (h2 : who < 5) (hF : FewV h' (bW who)) (hG : FewV h' 79) (H : SCR h) : SCR h' := by
  obtain ⟨⟨f, q1⟩, q2, q3, q4⟩ := H
  have hbb := bW_b (who := who) h1 h2
  have hor := bW_or (who := who) h1 h2
  refine ⟨⟨f, (F.2 77 (by omega) (by unfold PV PL PF; omega)).trans q1⟩, hG, fun i hi => ?_, q4.fr F (by omega) ⟨by unfold PV PL PF; rcases hor with q | ⟨i, q1, q2⟩ <;> omega, by unfold PV PL PF; rcases hor with q | ⟨i, q1, q2⟩ <;> omega⟩⟩
  by_cases z : bW who = 86 + 5 * i
  · rw [z] at hF; exact hF
  · exact (q3 i hi).fr F (by omega) (fun x hx => by unfold PF at hx; unfold PV PL PF; rcases hor with q | ⟨i, q1, q2⟩ <;> omega)
theorem C_savedBy (HM : CM h nw tr ik sd at' S) (h1 : -1 ≤ who) (h2 : who < s_n S.1) (hv : in8 v) (hd : 6 ≤ d) (L : LisA h (kkS S.1 who) (ggS S.1 who) (nmS S.1 who) (-9)) (X : FewS h (bW who) S.1 who (-9)) (Y : FewV h 79)
    (hq : ∀ h', LisR h' → FewS h' (bW who) S.1 who (-9) → FewV h' 79 → Fr h h' (PV who) → Q (some (.inl (sumN (s_h S.1) (svF S.1 who v)))) h') : MW d 0 0 mX11_wordsSavedBy [.inr 16, .inl v, .inr (bW who)] h Q := by
  obtain ⟨k1, g16, h9, k2, k3, k4, k5, k6, k7, k8, k10, k11, ok⟩ := id HM
  have gn := k4.1
  unfold CO at g16
  have o := ok.1.1
  have hbb := bW_b (who := who) h1 (by omega)
  obtain ⟨aL, fL, fL2, l73, -⟩ := id L
  show AW d 0 0 mX11_wordsSavedBy Q 0 [some (.inr 16), some (.inl v), some (.inr (bW who)), none, none, none, none] [] h
  refine AW.aload_n dX11_wordsSavedBy_0 rfl ?_
  refine AW.getf dX11_wordsSavedBy_1 gX11_56 (by repeat (first | assumption | exact hset_eq _ _ _ | refine (hset_ne _ _ (by omega)).trans ?_)) rfl ?_
  refine AW.iload_n dX11_wordsSavedBy_4 rfl ?_
  refine AW.cI2 (d' := d - 1) (cX11_248 rfl) okX6_knowInMind dX11_wordsSavedBy_5 (by repeat (first | assumption | exact hset_eq _ _ _ | refine (hset_ne _ _ (by omega)).trans ?_)) (by omega) (W_knowInMind h9 L (fun h3 L3 F3 => ?_))
  have X3 := X.fr F3 (by omega) (fun a ha => by unfold PF at ha; unfold PL; omega)
  have Y3 := Y.fr F3 (by omega) (fun a ha => by unfold PF at ha; unfold PL; omega)
  have HM3 := HM.fr F3 (fun a => PL_PS)
  have n16 := HM3.2.1
  unfold CO at n16
  obtain ⟨-, -, g9, q2, -⟩ := id HM3
  obtain ⟨aL3, fL3, fL23, l733, -⟩ := id L3
  obtain ⟨a0, kn0, W0, FD0, ST0, c0, L0, lg0, X0⟩ := Y3.x
  obtain ⟨x0, -⟩ := id X0
  refine AW.aload_n dX11_wordsSavedBy_8 rfl ?_
  refine AW.getf dX11_wordsSavedBy_9 gX11_70 (by repeat (first | assumption | exact hset_eq _ _ _ | refine (hset_ne _ _ (by omega)).trans ?_)) rfl ?_
  refine AW.aload_n dX11_wordsSavedBy_12 rfl ?_
  refine AW.getf dX11_wordsSavedBy_13 gX11_56 (by repeat (first | assumption | exact hset_eq _ _ _ | refine (hset_ne _ _ (by omega)).trans ?_)) rfl ?_
  refine AW.cI2 (d' := d - 1) (cX11_244 rfl) okX3_turnTo dX11_wordsSavedBy_16 (by repeat (first | assumption | exact hset_eq _ _ _ | refine (hset_ne _ _ (by omega)).trans ?_)) (by omega) (W_turnTo Y3 L3 ⟨by omega, by omega⟩ g9 q2.2.2.1 (by omega) (fun j hj => nmS_b ok.1 hj) (Or.inr hv) (fun h4 a kn X1 X2 X3' X4 X5 F4 => ?_))
  refine AW.iconst dX11_wordsSavedBy_19 ?_
  refine AW.ist3 dX11_wordsSavedBy_20 (by decide) ?_
  refine AW.iconst dX11_wordsSavedBy_21 ?_
  refine AW.ist4 dX11_wordsSavedBy_22 (by decide) ?_
  have el : lvS S.1 who v = lvN kn (kn 4) := by
    rw [X5]
    exact (lvN_congr X4).symm
  exact L_saved HM h1 h2 hv.2 hd hq (s_h S.1) 0 h4 _ _ (by omega) (L3.fr F4 g9 (fun a ha => by unfold PF; omega)) (X3.fr F4 (by omega) (fun a ha => by unfold PF at ha ⊢; omega)) ⟨a, kn, by rw [el]; exact X1, X2, X3', el⟩ ((F3.mono (fun a => Or.inl)).trans (F4.mono (fun a => fun q => Or.inr (Or.inr q)))) ⟨by show _ ≤ (0 : Int); omega, by show (0 : Int) ≤ _; omega⟩
theorem C_saves (H : CS h S) (hd : 7 ≤ d) (hq : ∀ r S' h', (r, S') = o_saves S who x → CS h' S' → Fr h h' PC → Q (some (.inl r)) h') : MW d 0 0 mX11_saves [.inr 16, .inl who, .inl x] h Q := by
  obtain ⟨nw, tr, ik, sd, at', HM, HL, HS⟩ := id H
  obtain ⟨k1, g16, h9, k2, k3, k4, k5, k6, k7, k8, k10, k11, ok⟩ := id HM
  have gn := k4.1
  have g16' := g16
  unfold CO at g16'
  have o := ok.1.1
  have o2 := ok.1.2.1
  show AW d 0 0 mX11_saves Q 0 [some (.inr 16), some (.inl who), some (.inl x), none, none] [] h
  refine AW.aload_n dX11_saves_0 rfl ?_
  refine AW.iload_n dX11_saves_1 rfl ?_
  refine AW.cI2 (d' := d - 1) (cX11_151 rfl) okX11_noListener dX11_saves_2 (by repeat (first | assumption | exact hset_eq _ _ _ | refine (hset_ne _ _ (by omega)).trans ?_)) (by omega) (C_noLis (by assumption) (by assumption) (by omega) (by omega) (fun c2 => ?_) (fun c2 c2b => ?_))
  · refine AW.ifeq_f (tgt := 14) dX11_saves_5 (by decide) (by decide) ?_
    refine AW.aload_n dX11_saves_8 rfl ?_
    refine AW.iconst dX11_saves_9 ?_
    refine AW.cI2 (d' := d - 1) (cX11_176 rfl) okX11_refusedFarOff dX11_saves_10 (by repeat (first | assumption | exact hset_eq _ _ _ | refine (hset_ne _ _ (by omega)).trans ?_)) (by omega) (C_far (by assumption) (by decide) (by decide) (by omega) (fun h10 hC hF => ?_))
    refine AW.ireturn dX11_saves_13 rfl ?_
    first
      | exact hq 1000000001 (rf S 1) _ (by unfold o_saves; rw [if_pos (by omega)]) hC hF
      | exact hq 1000000004 (rf S 4) _ (by unfold o_saves; rw [if_neg (by omega), if_pos (by omega)]) hC hF
      | exact hq 1000000006 (rf S 6) _ (by unfold o_saves; rw [if_neg (by omega), if_neg (by omega), if_pos (by omega)]) hC hF
  · refine AW.ifeq_t (tgt := 14) dX11_saves_5 (by decide) rfl ?_
    refine AW.iload_n dX11_saves_14 rfl ?_
    refine AW.ifge (tgt := 24) dX11_saves_15 (by decide) (fun c15 => ?_) (fun c15 => ?_)
    · refine AW.iload_n dX11_saves_24 rfl ?_
      refine AW.sipush dX11_saves_25 ?_
      refine AW.if_icmple (tgt := 38) dX11_saves_28 (by decide) (fun c28 => ?_) (fun c28 => ?_)
      · have hbb := bW_b (who := who) (by omega) (by omega)
        refine AW.aload_n dX11_saves_38 rfl ?_
        refine AW.iload_n dX11_saves_39 rfl ?_
        refine AW.cI2 (d' := d - 1) (cX11_169 rfl) okX11_fewestFor dX11_saves_40 (by repeat (first | assumption | exact hset_eq _ _ _ | refine (hset_ne _ _ (by omega)).trans ?_)) (by omega) (C_fewestFor HM HL HS (by omega) (by omega) (by omega) (fun h2 L2 X2 F2 => ?_))
        obtain ⟨vs, hv⟩ := X2.o
        have g9 := Nat.le_trans h9 F2.1
        refine AW.ast3 dX11_saves_43 (by decide) ?_
        refine AW.aload_n dX11_saves_44 rfl ?_
        refine AW.iload_n dX11_saves_45 rfl ?_
        refine AW.cI2 (d' := d - 1) (cX11_173 rfl) okX3_wordsFor dX11_saves_46 (by repeat (first | assumption | exact hset_eq _ _ _ | refine (hset_ne _ _ (by omega)).trans ?_)) (by omega) (C_words8 ok.1 (by omega) (by decide) ⟨hbb.1, hbb.2.1⟩ g9 (by omega) ⟨by omega, by omega⟩ X2 (fun h3 X3 F3 => ?_))
        have F := F2.trans (F3.mono (fun a => Or.inr))
        have L3 := L2.fr F3 g9 (fun a ha => by unfold PF; omega)
        obtain ⟨u1, u2⟩ := fw_end HM HS (by omega) (by omega) L3.r X3.v F
        have HM3 := HM.fr F (fun a ha => by unfold PL PF at ha; unfold PS; omega)
        have Y3 : FewV h3 79 := HS.2.1.fr F (by omega) (fun a ha => by unfold PL PF at *; omega)
        have n16 := HM3.2.1
        unfold CO at n16
        have s1 := shS_b (who := who) (more := -9) ok.1 (by omega) (by decide) x
        have sm := sv_bd (v := x) ok.1 (show who < s_n S.1 by omega) (by omega) (s_h S.1)
        refine AW.ist4 dX11_saves_49 (by decide) ?_
        refine AW.iload dX11_saves_51 rfl ?_
        refine AW.bipush dX11_saves_53 ?_
        refine AW.if_icmpne (tgt := 63) dX11_saves_55 (by decide) (fun c55 => ?_) (fun c55 => ?_)
        · refine AW.aload_n dX11_saves_63 rfl ?_
          refine AW.iload_n dX11_saves_64 rfl ?_
          refine AW.aload_n dX11_saves_65 rfl ?_
          refine AW.cI3 (d' := d - 1) (cX11_185 rfl) okX11_wordsSavedBy dX11_saves_66 (by repeat (first | assumption | exact hset_eq _ _ _ | refine (hset_ne _ _ (by omega)).trans ?_)) (by omega) (C_savedBy HM3 (by omega) (by omega) ⟨by omega, by omega⟩ (by omega) L3 X3 Y3 (fun h4 L4 X4 Y4 F4 => ?_))
          have FF := (F.mono (fun a ha => (show PV who a from ha.elim Or.inl (fun q => Or.inr (Or.inl q))))).trans F4
          refine AW.iload dX11_saves_69 rfl ?_
          refine AW.isubR dX11_saves_71 (by unfold RI; omega) ?_
          refine AW.iconst dX11_saves_72 ?_
          refine AW.isubR dX11_saves_73 (by unfold RI; omega) ?_
          refine AW.ireturn dX11_saves_74 rfl ?_
          refine hq _ S h4 (by unfold o_saves; rw [if_neg (by omega), if_neg (by omega), if_neg (by omega), if_neg (by omega)]) ⟨nw, tr, ik, sd, at', HM.fr FF (fun a ha => by unfold PV PL PF at ha; unfold PS; omega), L4, HS.few2 FF h9 (by omega) (by omega) X4.v Y4⟩ (FF.mono (fun a ha => by unfold PV PL PF at ha; unfold PC; omega))
        · refine AW.bipush dX11_saves_58 ?_
          refine AW.goto (tgt := 74) dX11_saves_60 (by decide) ?_
          refine AW.ireturn dX11_saves_74 rfl ?_
          exact hq (-9) S h3 (by unfold o_saves; rw [if_neg (by omega), if_neg (by omega), if_neg (by omega), if_pos (by omega)]) u1 u2
      · refine AW.aload_n dX11_saves_31 rfl ?_
        refine AW.bipush dX11_saves_32 ?_
        refine AW.cI2 (d' := d - 1) (cX11_176 rfl) okX11_refusedFarOff dX11_saves_34 (by repeat (first | assumption | exact hset_eq _ _ _ | refine (hset_ne _ _ (by omega)).trans ?_)) (by omega) (C_far (by assumption) (by decide) (by decide) (by omega) (fun h34 hC hF => ?_))
        refine AW.ireturn dX11_saves_37 rfl ?_
        first
          | exact hq 1000000001 (rf S 1) _ (by unfold o_saves; rw [if_pos (by omega)]) hC hF
          | exact hq 1000000004 (rf S 4) _ (by unfold o_saves; rw [if_neg (by omega), if_pos (by omega)]) hC hF
          | exact hq 1000000006 (rf S 6) _ (by unfold o_saves; rw [if_neg (by omega), if_neg (by omega), if_pos (by omega)]) hC hF
    · refine AW.aload_n dX11_saves_18 rfl ?_
      refine AW.iconst dX11_saves_19 ?_
      refine AW.cI2 (d' := d - 1) (cX11_176 rfl) okX11_refusedFarOff dX11_saves_20 (by repeat (first | assumption | exact hset_eq _ _ _ | refine (hset_ne _ _ (by omega)).trans ?_)) (by omega) (C_far (by assumption) (by decide) (by decide) (by omega) (fun h20 hC hF => ?_))
      refine AW.ireturn dX11_saves_23 rfl ?_
      first
        | exact hq 1000000001 (rf S 1) _ (by unfold o_saves; rw [if_pos (by omega)]) hC hF
        | exact hq 1000000004 (rf S 4) _ (by unfold o_saves; rw [if_neg (by omega), if_pos (by omega)]) hC hF
        | exact hq 1000000006 (rf S 6) _ (by unfold o_saves; rw [if_neg (by omega), if_neg (by omega), if_pos (by omega)]) hC hF
end Cls15

