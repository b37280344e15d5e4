section Cls4
variable {d : Nat} {Q : Option AV → AH → Prop} {h h' : AH} {nw tr b : Nat} {ik sd at' tc : Int} {S S' : ST} {P : Nat → Prop} {s : SC} {x who k g more : Int} {nm : Nat → Int}
theorem LisA.congr {nm' : Nat → Int} (H : LisA h k g nm more) (e : ∀ i, i < 4 → nm i = nm' i) : LisA h k g nm' more := by
  obtain ⟨a, f, f2, h1, h2, h3, h4, h5⟩ := H
  exact ⟨a, f, f2, h1, h2, h3, fun i hi => (h4 i hi).trans (e i hi), h5⟩
theorem bc15 : ∀ i : Nat, i < 4 → a_and (a_shr 15 (i : Int)) 1 = 1 := by decide +kernel
theorem C_listenAs (HM : CM h nw tr ik sd at' S) (HL : LisR h) (hd : 1 ≤ d) (h1 : -1 ≤ who) (h2 : who < s_n S.1)
    (hq : ∀ h', LisA h' (kkS S.1 who) (ggS S.1 who) (nmS S.1 who) (-9) → Fr h h' PL → Q none h') : MW d 0 0 mX11_listenAs [.inr 16, .inl who] h Q := by
  obtain ⟨k1, g16, h9, k2, k3, k4, k5, k6, k7, k8, k10, k11, ok⟩ := id HM
  obtain ⟨gn, ⟨sts, q1, q2, q3, q4⟩, ⟨fl, q5, q6⟩, q7, ⟨fc, q8, q9⟩, q10, q11⟩ := id k4
  have g16' := g16
  unfold CO at g16'
  have o := ok.1.1
  obtain ⟨aL, fL, fL2, l73, -⟩ := id HL
  have hnw : 16 ≤ nw + 4 ∧ nw + 4 < 73 := by omega
  by_cases hw : who < 0
  · have hS : StA h 72 0 0 := ⟨k10, Or.inl rfl, by omega, ⟨by decide, by decide⟩, by decide, by decide⟩
    have ek : kkS S.1 who = 0 := if_pos hw
    have eg : ggS S.1 who = 0 := if_pos hw
    rw [ek, eg] at hq
    have fin : ∀ h', LisA h' 0 0 (bcF fc 15) (-9) → Fr h h' PL → Q none h' := fun h' q F => hq h' (q.congr (fun i hi => by
      unfold bcF nmS
      rw [if_pos (bc15 i hi), if_pos (Or.inl hw)]
      exact q9 i hi)) F
    show AW d 0 0 mX11_listenAs Q 0 [some (.inr 16), some (.inl who)] [] h
    refine AW.aload_n dX11_listenAs_0 rfl ?_
    refine AW.iload_n dX11_listenAs_1 rfl ?_
    refine AW.cI2 (d' := d - 1) (cX11_108 rfl) okX11_noStranger dX11_listenAs_2 (by repeat (first | assumption | exact hset_eq _ _ _ | refine (hset_ne _ _ (by omega)).trans ?_)) (by omega) (C_noStr g16 gn (fun c => ?_) (fun c cb => absurd c (by omega)))
    refine AW.ifeq_f (tgt := 31) dX11_listenAs_5 (by decide) (by decide) ?_
    refine AW.aload_n dX11_listenAs_8 rfl ?_
    refine AW.getf dX11_listenAs_9 gX11_56 (by repeat (first | assumption | exact hset_eq _ _ _ | refine (hset_ne _ _ (by omega)).trans ?_)) rfl ?_
    refine AW.aload_n dX11_listenAs_12 rfl ?_
    refine AW.getf dX11_listenAs_13 gX11_49 (by repeat (first | assumption | exact hset_eq _ _ _ | refine (hset_ne _ _ (by omega)).trans ?_)) rfl ?_
    refine AW.aload_n dX11_listenAs_16 rfl ?_
    refine AW.getf dX11_listenAs_17 gX11_19 (by repeat (first | assumption | exact hset_eq _ _ _ | refine (hset_ne _ _ (by omega)).trans ?_)) rfl ?_
    refine AW.getf dX11_listenAs_20 gX11_132 (by repeat (first | assumption | exact hset_eq _ _ _ | refine (hset_ne _ _ (by omega)).trans ?_)) rfl ?_
    refine AW.bipush dX11_listenAs_23 ?_
    refine AW.cI4 (d' := d - 1) (cX11_240 rfl) okX6_become dX11_listenAs_25 (by repeat (first | assumption | exact hset_eq _ _ _ | refine (hset_ne _ _ (by omega)).trans ?_)) (by omega) (W_become h9 HL hS q8 hnw (fun h3 H3 F3 => ?_))
    refine AW.goto (tgt := 63) dX11_listenAs_28 (by decide) ?_
    refine AW.vreturn dX11_listenAs_63 rfl ?_
    exact fin h3 H3 F3
  · obtain ⟨a, r1, r2, r3⟩ := q4 who.toNat (by omega)
    have ek : kkS S.1 who = s_k S.1 who.toNat := if_neg hw
    have eg : ggS S.1 who = s_g S.1 who.toNat := if_neg hw
    rw [ek, eg] at hq
    have el := q6 who.toNat (by omega)
    have fin : ∀ h', LisA h' (s_k S.1 who.toNat) (s_g S.1 who.toNat) (bcF fc (fl who.toNat)) (-9) → Fr h h' PL → Q none h' := fun h' q F => hq h' (q.congr (fun i hi => by
      unfold bcF nmS
      rw [el]
      by_cases z : a_and (a_shr (s_l S.1 who.toNat) (i : Int)) 1 = 1
      · rw [if_pos z, if_pos (Or.inr z)]; exact q9 i hi
      · rw [if_neg z, if_neg (fun y => y.elim hw z)])) F
    show AW d 0 0 mX11_listenAs Q 0 [some (.inr 16), some (.inl who)] [] h
    refine AW.aload_n dX11_listenAs_0 rfl ?_
    refine AW.iload_n dX11_listenAs_1 rfl ?_
    refine AW.cI2 (d' := d - 1) (cX11_108 rfl) okX11_noStranger dX11_listenAs_2 (by repeat (first | assumption | exact hset_eq _ _ _ | refine (hset_ne _ _ (by omega)).trans ?_)) (by omega) (C_noStr g16 gn (fun c => absurd c (by omega)) (fun c cb => ?_))
    refine AW.ifeq_t (tgt := 31) dX11_listenAs_5 (by decide) rfl ?_
    refine AW.aload_n dX11_listenAs_31 rfl ?_
    refine AW.getf dX11_listenAs_32 gX11_56 (by repeat (first | assumption | exact hset_eq _ _ _ | refine (hset_ne _ _ (by omega)).trans ?_)) rfl ?_
    refine AW.aload_n dX11_listenAs_35 rfl ?_
    refine AW.getf dX11_listenAs_36 gX11_19 (by repeat (first | assumption | exact hset_eq _ _ _ | refine (hset_ne _ _ (by omega)).trans ?_)) rfl ?_
    refine AW.getf dX11_listenAs_39 gX11_112 (by repeat (first | assumption | exact hset_eq _ _ _ | refine (hset_ne _ _ (by omega)).trans ?_)) rfl ?_
    refine AW.iload_n dX11_listenAs_42 rfl ?_
    refine AW.aaload dX11_listenAs_43 (by repeat (first | assumption | exact hset_eq _ _ _ | refine (hset_ne _ _ (by omega)).trans ?_)) (by decide) (by omega) r1 ?_
    refine AW.aload_n dX11_listenAs_44 rfl ?_
    refine AW.getf dX11_listenAs_45 gX11_19 (by repeat (first | assumption | exact hset_eq _ _ _ | refine (hset_ne _ _ (by omega)).trans ?_)) rfl ?_
    refine AW.getf dX11_listenAs_48 gX11_132 (by repeat (first | assumption | exact hset_eq _ _ _ | refine (hset_ne _ _ (by omega)).trans ?_)) rfl ?_
    refine AW.aload_n dX11_listenAs_51 rfl ?_
    refine AW.getf dX11_listenAs_52 gX11_19 (by repeat (first | assumption | exact hset_eq _ _ _ | refine (hset_ne _ _ (by omega)).trans ?_)) rfl ?_
    refine AW.getf dX11_listenAs_55 gX11_122 (by repeat (first | assumption | exact hset_eq _ _ _ | refine (hset_ne _ _ (by omega)).trans ?_)) rfl ?_
    refine AW.iload_n dX11_listenAs_58 rfl ?_
    refine AW.iaload dX11_listenAs_59 (by repeat (first | assumption | exact hset_eq _ _ _ | refine (hset_ne _ _ (by omega)).trans ?_)) (by omega) (by omega) ?_
    refine AW.cI4 (d' := d - 1) (cX11_240 rfl) okX6_become dX11_listenAs_60 (by repeat (first | assumption | exact hset_eq _ _ _ | refine (hset_ne _ _ (by omega)).trans ?_)) (by omega) (W_become h9 HL r3 q8 hnw (fun h3 H3 F3 => ?_))
    refine AW.vreturn dX11_listenAs_63 rfl ?_
    exact fin h3 H3 F3
theorem nmOK_S (ok : scOK s) : nmOK (nmS s who) := fun i hi => by
  rcases nmS_b (who := who) ok hi with q | q
  · exact Or.inl q
  · exact Or.inr q.1
theorem sayAt {l : List Nat} {i : Nat} (b : Nat) (hi : i < 6) : ([.inr (b + 5), .inr (b + 7), .inr (b + 9), .inr (b + 11), .inr (b + 13), .inr (b + 15)] : List AV)[i]? = some (.inr (b + 5 + 2 * i)) := by
  have : i = 0 ∨ i = 1 ∨ i = 2 ∨ i = 3 ∨ i = 4 ∨ i = 5 := by omega
  rcases this with rfl | rfl | rfl | rfl | rfl | rfl <;> rfl
theorem C_meaning (HM : CM h nw tr ik sd at' S) (HL : LisA h k g nm more) (hn : nmOK nm) (hd : 5 ≤ d) (h0 : 0 ≤ x) (hx : x < s_h S.1)
    (hq : ∀ h', LisA h' k g nm more → Fr h h' P76 → Q (some (.inl (concF k g (lfK nm) (s_w S.1 x.toNat)))) h') : MW d 0 0 mX11_meaningOf [.inr 16, .inl x] h Q := by
  obtain ⟨k1, g16, h9, k2, k3, k4, k5, k6, k7, k8, k10, k11, ok⟩ := id HM
  obtain ⟨gn, q1, q2, q7, q8, q10, q11⟩ := id k4
  unfold CO at g16
  have o := ok.1.2.1
  have hs := q11 x.toNat (by omega)
  have hw := (ok.1.2.2.2.2 x.toNat (by omega)).1
  have e := sayAt (l := []) (i := x.toNat) nw (by omega)
  obtain ⟨aL, fL, fL2, l73, -⟩ := id HL
  show AW d 0 0 mX11_meaningOf Q 0 [some (.inr 16), some (.inl x)] [] h
  refine AW.aload_n dX11_meaningOf_0 rfl ?_
  refine AW.getf dX11_meaningOf_1 gX11_56 (by repeat (first | assumption | exact hset_eq _ _ _ | refine (hset_ne _ _ (by omega)).trans ?_)) rfl ?_
  refine AW.aload_n dX11_meaningOf_4 rfl ?_
  refine AW.getf dX11_meaningOf_5 gX11_19 (by repeat (first | assumption | exact hset_eq _ _ _ | refine (hset_ne _ _ (by omega)).trans ?_)) rfl ?_
  refine AW.getf dX11_meaningOf_8 gX11_138 (by repeat (first | assumption | exact hset_eq _ _ _ | refine (hset_ne _ _ (by omega)).trans ?_)) rfl ?_
  refine AW.iload_n dX11_meaningOf_11 rfl ?_
  refine AW.aaload dX11_meaningOf_12 (by repeat (first | assumption | exact hset_eq _ _ _ | refine (hset_ne _ _ (by omega)).trans ?_)) (by decide) (by omega) e ?_
  refine AW.cI2 (d' := d - 1) (cX11_189 rfl) okX6_meaningOf dX11_meaningOf_13 (by repeat (first | assumption | exact hset_eq _ _ _ | refine (hset_ne _ _ (by omega)).trans ?_)) (by omega) (W_meaningOf h9 k2.2.2.1 HL hn hs (by omega) (by omega) (by omega) hw (fun h2 H2 F2 => ?_))
  refine AW.ireturn dX11_meaningOf_16 rfl ?_
  exact hq h2 H2 F2
theorem PL_PS {a : Nat} (h : PL a) : PS a := by unfold PL at h; unfold PS; omega
theorem P76_PL {a : Nat} (h : P76 a) : PL a := by unfold P76 at h; unfold PL; omega
theorem PL_PC {a : Nat} (h : PL a) : PC a := by unfold PL at h; unfold PC; omega
/-- after listening -/
theorem CS.lis (HM : CM h nw tr ik sd at' S) (HS : SCR h) (HL : LisR h') (F : Fr h h' PL) : CS h' S :=
  ⟨nw, tr, ik, sd, at', HM.fr F (fun a ha => PL_PS ha), HL, HS.fr F HM.2.2.1 (fun a ha => by unfold PL; omega)⟩
theorem C_concludes (H : CS h S) (hd : 6 ≤ d) (hq : ∀ r S' h', (r, S') = o_concludes S who x → CS h' S' → Fr h h' PC → Q (some (.inl r)) h') : MW d 0 0 mX11_concludes [.inr 16, .inl who, .inl x] h Q := by
  obtain ⟨nw, tr, ik, sd, at', HM, HL, HS⟩ := id H
  obtain ⟨k1, g16, h9, k2, k3, k4, k5, k6, k7, k8, k10, k11, ok⟩ := id HM
  have gn := k4.1
  have g16' := g16
  unfold CO at g16'
  show AW d 0 0 mX11_concludes Q 0 [some (.inr 16), some (.inl who), some (.inl x)] [] h
  refine AW.aload_n dX11_concludes_0 rfl ?_
  refine AW.iload_n dX11_concludes_1 rfl ?_
  refine AW.cI2 (d' := d - 1) (cX11_151 rfl) okX11_noListener dX11_concludes_2 (by repeat (first | assumption | exact hset_eq _ _ _ | refine (hset_ne _ _ (by omega)).trans ?_)) (by omega) (C_noLis (by assumption) (by assumption) (by omega) (by omega) (fun c2 => ?_) (fun c2 c2b => ?_))
  · refine AW.ifne_t (tgt := 16) dX11_concludes_5 (by decide) (by decide) ?_
    refine AW.aload_n dX11_concludes_16 rfl ?_
    refine AW.iconst dX11_concludes_17 ?_
    refine AW.cI2 (d' := d - 1) (cX11_84 rfl) okX11_refused dX11_concludes_18 (by repeat (first | assumption | exact hset_eq _ _ _ | refine (hset_ne _ _ (by omega)).trans ?_)) (by omega) (C_refused (by assumption) (by decide) (by decide) (fun h18 hC hF => ?_))
    refine AW.ireturn dX11_concludes_21 rfl ?_
    exact hq (-1) (rf S 1) _ (by unfold o_concludes; rw [if_pos (by omega)]) hC hF
  · refine AW.ifne_f (tgt := 16) dX11_concludes_5 (by decide) rfl ?_
    refine AW.aload_n dX11_concludes_8 rfl ?_
    refine AW.iload_n dX11_concludes_9 rfl ?_
    refine AW.cI2 (d' := d - 1) (cX11_135 rfl) okX11_noScholar dX11_concludes_10 (by repeat (first | assumption | exact hset_eq _ _ _ | refine (hset_ne _ _ (by omega)).trans ?_)) (by omega) (C_noSch (by assumption) (by assumption) (fun c10 => ?_) (fun c10 c10b => ?_))
    · refine AW.ifeq_f (tgt := 22) dX11_concludes_13 (by decide) (by decide) ?_
      refine AW.aload_n dX11_concludes_16 rfl ?_
      refine AW.iconst dX11_concludes_17 ?_
      refine AW.cI2 (d' := d - 1) (cX11_84 rfl) okX11_refused dX11_concludes_18 (by repeat (first | assumption | exact hset_eq _ _ _ | refine (hset_ne _ _ (by omega)).trans ?_)) (by omega) (C_refused (by assumption) (by decide) (by decide) (fun h18 hC hF => ?_))
      refine AW.ireturn dX11_concludes_21 rfl ?_
      exact hq (-1) (rf S 1) _ (by unfold o_concludes; rw [if_pos (by omega)]) hC hF
    · refine AW.ifeq_t (tgt := 22) dX11_concludes_13 (by decide) rfl ?_
      refine AW.aload_n dX11_concludes_22 rfl ?_
      refine AW.iload_n dX11_concludes_23 rfl ?_
      refine AW.cI2 (d' := d - 1) (cX11_154 rfl) okX11_listenAs dX11_concludes_24 (by repeat (first | assumption | exact hset_eq _ _ _ | refine (hset_ne _ _ (by omega)).trans ?_)) (by omega) (C_listenAs HM HL (by omega) (by omega) (by omega) (fun h2 L2 F2 => ?_))
      have HM2 := HM.fr F2 (fun a ha => PL_PS ha)
      have g2 := HM2.2.1
      unfold CO at g2
      refine AW.aload_n dX11_concludes_27 rfl ?_
      refine AW.iload_n dX11_concludes_28 rfl ?_
      refine AW.cI2 (d' := d - 1) (cX11_157 rfl) okX11_meaningOf dX11_concludes_29 (by repeat (first | assumption | exact hset_eq _ _ _ | refine (hset_ne _ _ (by omega)).trans ?_)) (by omega) (C_meaning HM2 L2 (nmOK_S ok.1) (by omega) (by omega) (by omega) (fun h3 L3 F3 => ?_))
      refine AW.ireturn dX11_concludes_32 rfl ?_
      have F := F2.trans (F3.mono (fun a => P76_PL))
      exact hq _ S h3 (by unfold o_concludes; rw [if_neg (by omega)]; rfl) (CS.lis HM HS L3.r F) (F.mono (fun a => PL_PC))
end Cls4

