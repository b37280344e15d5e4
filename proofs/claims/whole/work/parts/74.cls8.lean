section Cls8
variable {d : Nat} {Q : Option AV → AH → Prop} {h h' : AH} {nw tr b : Nat} {ik sd at' tc : Int} {S S' : ST} {P : Nat → Prop} {s : SC} {x y z who k g more : Int} {nm : Nat → Int}
def P77 (a : Nat) : Prop := PL a ∨ a = 77
theorem P77_PS {a : Nat} (h : P77 a) : PS a := by unfold P77 PL at h; unfold PS; omega
theorem P77_PC {a : Nat} (h : P77 a) : PC a := by unfold P77 PL at h; unfold PC; omega
theorem SCR.fr77 {f : Nat → Int} (F : Fr h h' P77) (h9 : 120 ≤ h.1) (h77 : h'.2 77 = .inr (6, f)) (H : SCR h) : SCR h' := by
  obtain ⟨-, h2, h3, h4⟩ := H
  exact ⟨⟨f, h77⟩, h2.fr F (by omega) (fun x hx => by unfold PF at hx; unfold P77 PL; omega), fun i hi => (h3 i hi).fr F (by omega) (fun x hx => by unfold PF at hx; unfold P77 PL; omega), h4.fr F (by omega) (by unfold P77 PL; omega)⟩
theorem L_all (HM : CM h nw tr ik sd at' S) (hd : 6 ≤ d) (h2 : who < s_n S.1)
    (hq : ∀ h' f, LisR h' → h'.2 77 = .inr (6, f) → (∀ j, j < s_h S.1 → f j = cnS S.1 who (s_w S.1 j)) → Fr h h' P77 → Q none h') :
    ∀ (r i : Nat) (f : Nat → Int) (h' : AH), i + r = s_h S.1 → LisA h' (kkS S.1 who) (ggS S.1 who) (nmS S.1 who) (-9) → h'.2 77 = .inr (6, f) → (∀ j, j < i → f j = cnS S.1 who (s_w S.1 j)) → Fr h h' P77 →
      AW d 0 0 mX11_concludeAllAs Q 7 [some (.inr 16), some (.inl who), some (.inl (i : Int))] [] h' := by
  have ok := HM.2.2.2.2.2.2.2.2.2.2.2.2
  have o := ok.1.2.1
  intro r
  induction r with
  | zero =>
    intro i f h' hi L h77 hf F
    have HM' := HM.fr F (fun a => P77_PS)
    have g16 := HM'.2.1
    unfold CO at g16
    have gn := HM'.2.2.2.2.2.1.1
    refine AW.iload_n dX11_concludeAllAs_7 rfl ?_
    refine AW.aload_n dX11_concludeAllAs_8 rfl ?_
    refine AW.getf dX11_concludeAllAs_9 gX11_19 (by repeat (first | assumption | exact hset_eq _ _ _ | refine (hset_ne _ _ (by omega)).trans ?_)) rfl ?_
    refine AW.getf dX11_concludeAllAs_12 gX11_148 (by repeat (first | assumption | exact hset_eq _ _ _ | refine (hset_ne _ _ (by omega)).trans ?_)) rfl ?_
    refine AW.if_icmpge (tgt := 35) dX11_concludeAllAs_15 (by decide) (fun c15 => ?_) (fun c15 => absurd c15 (by omega))
    refine AW.vreturn dX11_concludeAllAs_35 rfl ?_
    exact hq h' f L.r h77 (fun j hj => hf j (by omega)) F
  | succ r ih =>
    intro i f h' hi L h77 hf F
    have HM' := HM.fr F (fun a => P77_PS)
    have g16 := HM'.2.1
    unfold CO at g16
    have gn := HM'.2.2.2.2.2.1.1
    have ei : ((i : Int)).toNat = i := by omega
    refine AW.iload_n dX11_concludeAllAs_7 rfl ?_
    refine AW.aload_n dX11_concludeAllAs_8 rfl ?_
    refine AW.getf dX11_concludeAllAs_9 gX11_19 (by repeat (first | assumption | exact hset_eq _ _ _ | refine (hset_ne _ _ (by omega)).trans ?_)) rfl ?_
    refine AW.getf dX11_concludeAllAs_12 gX11_148 (by repeat (first | assumption | exact hset_eq _ _ _ | refine (hset_ne _ _ (by omega)).trans ?_)) rfl ?_
    refine AW.if_icmpge (tgt := 35) dX11_concludeAllAs_15 (by decide) (fun c15 => absurd c15 (by omega)) (fun c15 => ?_)
    refine AW.aload_n dX11_concludeAllAs_18 rfl ?_
    refine AW.getf dX11_concludeAllAs_19 gX11_60 (by repeat (first | assumption | exact hset_eq _ _ _ | refine (hset_ne _ _ (by omega)).trans ?_)) rfl ?_
    refine AW.iload_n dX11_concludeAllAs_22 rfl ?_
    refine AW.aload_n dX11_concludeAllAs_23 rfl ?_
    refine AW.iload_n dX11_concludeAllAs_24 rfl ?_
    refine AW.cI2 (d' := d - 1) (cX11_157 rfl) okX11_meaningOf dX11_concludeAllAs_25 (by repeat (first | assumption | exact hset_eq _ _ _ | refine (hset_ne _ _ (by omega)).trans ?_)) (by omega) (C_meaning HM' L (nmOK_S ok.1) (by omega) (by omega) (by omega) (fun h3 L3 F3 => ?_))
    rw [ei]
    have F3' : Fr h' h3 P77 := F3.mono (fun a q => Or.inl (P76_PL q))
    have k77 : h3.2 77 = .inr (6, f) := (F3.2 77 (by have := HM'.2.2.1; omega) (by unfold P76; decide)).trans h77
    refine AW.iastore dX11_concludeAllAs_28 (by omega) (by repeat (first | assumption | exact hset_eq _ _ _ | refine (hset_ne _ _ (by omega)).trans ?_)) (by omega) (by omega) ?_
    refine AW.inc2 dX11_concludeAllAs_29 (by decide) (by unfold RI; omega) ?_
    refine AW.goto (tgt := 7) dX11_concludeAllAs_32 (by decide) ?_
    rw [ei]
    have F4 : Fr h3 (hset h3 77 (.inr (6, updI f i (concF (kkS S.1 who) (ggS S.1 who) (lfK (nmS S.1 who)) (s_w S.1 i))))) P77 := Fr.set (Or.inr rfl)
    have F5 : Fr h3 (hset h3 77 (.inr (6, updI f i (concF (kkS S.1 who) (ggS S.1 who) (lfK (nmS S.1 who)) (s_w S.1 i))))) (fun a => a = 77) := Fr.set rfl
    refine ih (i + 1) _ _ (by omega) (L3.fr F5 (by have := HM'.2.2.1; have := F3.1; omega) (fun a ha => by omega)) (hset_eq _ _ _) (fun j hj => ?_) ((F.trans F3').trans F4)
    by_cases q : j = i
    · rw [q, updI_eq]; rfl
    · rw [updI_ne _ _ q]; exact hf j (by omega)
theorem C_all (HM : CM h nw tr ik sd at' S) (HL : LisR h) (HS : SCR h) (hd : 6 ≤ d) (h1 : -1 ≤ who) (h2 : who < s_n S.1)
    (hq : ∀ h' f, LisR h' → h'.2 77 = .inr (6, f) → (∀ j, j < s_h S.1 → f j = cnS S.1 who (s_w S.1 j)) → Fr h h' P77 → Q none h') : MW d 0 0 mX11_concludeAllAs [.inr 16, .inl who] h Q := by
  have g16 := HM.2.1
  unfold CO at g16
  obtain ⟨⟨f, h77⟩, -⟩ := HS
  show AW d 0 0 mX11_concludeAllAs Q 0 [some (.inr 16), some (.inl who), none] [] h
  refine AW.aload_n dX11_concludeAllAs_0 rfl ?_
  refine AW.iload_n dX11_concludeAllAs_1 rfl ?_
  refine AW.cI2 (d' := d - 1) (cX11_154 rfl) okX11_listenAs dX11_concludeAllAs_2 (by repeat (first | assumption | exact hset_eq _ _ _ | refine (hset_ne _ _ (by omega)).trans ?_)) (by omega) (C_listenAs HM HL (by omega) h1 h2 (fun h3 L3 F3 => ?_))
  refine AW.iconst dX11_concludeAllAs_5 ?_
  refine AW.ist2 dX11_concludeAllAs_6 (by decide) ?_
  exact L_all HM hd h2 hq (s_h S.1) 0 f h3 (by omega) L3 ((F3.2 77 (by have := HM.2.2.1; omega) (by unfold PL; decide)).trans h77) (fun j hj => by omega) (F3.mono (fun a q => Or.inl q))
theorem C_beats {f : Nat → Int} {i j : Nat} (HM : CM h nw tr ik sd at' S) (h77 : h.2 77 = .inr (6, f)) (hf : ∀ j, j < s_h S.1 → f j = cnS S.1 who (s_w S.1 j)) (hi : i < s_h S.1) (hj : j < s_h S.1) (hq1 : btS S.1 who i j → Q (some (.inl 1)) h) (hq0 : ¬ btS S.1 who i j → Q (some (.inl 0)) h) : MW d 0 0 mX11_beats [.inr 16, .inl (i : Int), .inl (j : Int)] h Q := by
  obtain ⟨k1, g16, h9, k2, k3, k4, k5, k6, k7, k8, k10, k11, ok⟩ := id HM
  obtain ⟨gn, -, -, q7, -, q10, q11⟩ := id k4
  unfold CO at g16
  have o := ok.1.2.1
  obtain ⟨fi, s1, s2, s3, -⟩ := q11 i hi
  obtain ⟨fj, t1, t2, t3, -⟩ := q11 j hj
  have ei : ((i : Int)).toNat = i := by omega
  have ej : ((j : Int)).toNat = j := by omega
  have e1 : ([.inr (nw + 5), .inr (nw + 7), .inr (nw + 9), .inr (nw + 11), .inr (nw + 13), .inr (nw + 15)] : List AV)[((i : Int)).toNat]? = some (.inr (nw + 5 + 2 * i)) := by rw [ei]; exact sayAt (l := []) nw (by omega)
  have e2 : ([.inr (nw + 5), .inr (nw + 7), .inr (nw + 9), .inr (nw + 11), .inr (nw + 13), .inr (nw + 15)] : List AV)[((j : Int)).toNat]? = some (.inr (nw + 5 + 2 * j)) := by rw [ej]; exact sayAt (l := []) nw (by omega)
  have f1 := hf i hi
  have f2 := hf j hj
  unfold btS at hq1 hq0
  show AW d 0 0 mX11_beats Q 0 [some (.inr 16), some (.inl (i : Int)), some (.inl (j : Int))] [] h
  refine AW.aload_n dX11_beats_0 rfl ?_
  refine AW.getf dX11_beats_1 gX11_19 (by repeat (first | assumption | exact hset_eq _ _ _ | refine (hset_ne _ _ (by omega)).trans ?_)) rfl ?_
  refine AW.getf dX11_beats_4 gX11_138 (by repeat (first | assumption | exact hset_eq _ _ _ | refine (hset_ne _ _ (by omega)).trans ?_)) rfl ?_
  refine AW.iload_n dX11_beats_7 rfl ?_
  refine AW.aaload dX11_beats_8 (by repeat (first | assumption | exact hset_eq _ _ _ | refine (hset_ne _ _ (by omega)).trans ?_)) (by decide) (by omega) e1 ?_
  refine AW.getf dX11_beats_9 gX11_142 (by repeat (first | assumption | exact hset_eq _ _ _ | refine (hset_ne _ _ (by omega)).trans ?_)) rfl ?_
  refine AW.aload_n dX11_beats_12 rfl ?_
  refine AW.getf dX11_beats_13 gX11_19 (by repeat (first | assumption | exact hset_eq _ _ _ | refine (hset_ne _ _ (by omega)).trans ?_)) rfl ?_
  refine AW.getf dX11_beats_16 gX11_138 (by repeat (first | assumption | exact hset_eq _ _ _ | refine (hset_ne _ _ (by omega)).trans ?_)) rfl ?_
  refine AW.iload_n dX11_beats_19 rfl ?_
  refine AW.aaload dX11_beats_20 (by repeat (first | assumption | exact hset_eq _ _ _ | refine (hset_ne _ _ (by omega)).trans ?_)) (by decide) (by omega) e2 ?_
  refine AW.getf dX11_beats_21 gX11_142 (by repeat (first | assumption | exact hset_eq _ _ _ | refine (hset_ne _ _ (by omega)).trans ?_)) rfl ?_
  refine AW.if_icmpge (tgt := 46) dX11_beats_24 (by decide) (fun c24 => ?_) (fun c24 => ?_)
  · refine AW.iconst dX11_beats_46 ?_
    refine AW.zreturn dX11_beats_47 rfl (Or.inl rfl) ?_
    rw [ei, ej, f1, f2] at *
    first
      | exact hq1 ⟨by omega, by assumption⟩
      | exact hq0 (fun q => by omega)
      | exact hq0 (fun q => absurd q.2 (by assumption))
  · refine AW.aload_n dX11_beats_27 rfl ?_
    refine AW.getf dX11_beats_28 gX11_60 (by repeat (first | assumption | exact hset_eq _ _ _ | refine (hset_ne _ _ (by omega)).trans ?_)) rfl ?_
    refine AW.iload_n dX11_beats_31 rfl ?_
    refine AW.iaload dX11_beats_32 (by repeat (first | assumption | exact hset_eq _ _ _ | refine (hset_ne _ _ (by omega)).trans ?_)) (by omega) (by omega) ?_
    refine AW.aload_n dX11_beats_33 rfl ?_
    refine AW.getf dX11_beats_34 gX11_60 (by repeat (first | assumption | exact hset_eq _ _ _ | refine (hset_ne _ _ (by omega)).trans ?_)) rfl ?_
    refine AW.iload_n dX11_beats_37 rfl ?_
    refine AW.iaload dX11_beats_38 (by repeat (first | assumption | exact hset_eq _ _ _ | refine (hset_ne _ _ (by omega)).trans ?_)) (by omega) (by omega) ?_
    refine AW.if_icmpne (tgt := 46) dX11_beats_39 (by decide) (fun c39 => ?_) (fun c39 => ?_)
    · refine AW.iconst dX11_beats_46 ?_
      refine AW.zreturn dX11_beats_47 rfl (Or.inl rfl) ?_
      rw [ei, ej, f1, f2] at *
      first
        | exact hq1 ⟨by omega, by assumption⟩
        | exact hq0 (fun q => by omega)
        | exact hq0 (fun q => absurd q.2 (by assumption))
    · refine AW.iconst dX11_beats_42 ?_
      refine AW.goto (tgt := 47) dX11_beats_43 (by decide) ?_
      refine AW.zreturn dX11_beats_47 rfl (Or.inr rfl) ?_
      rw [ei, ej, f1, f2] at *
      first
        | exact hq1 ⟨by omega, by assumption⟩
        | exact hq0 (fun q => by omega)
        | exact hq0 (fun q => absurd q.2 (by assumption))
theorem L_cwon {f : Nat → Int} {i : Nat} (HM : CM h nw tr ik sd at' S) (h77 : h.2 77 = .inr (6, f)) (hf : ∀ j, j < s_h S.1 → f j = cnS S.1 who (s_w S.1 j)) (hi : i < s_h S.1) (hd : 1 ≤ d)
    (hq : Q (some (.inl (sumN (s_h S.1) (fun j => iv (btS S.1 who i j) 1)))) h) :
    ∀ (r j : Nat), j + r = s_h S.1 → AW d 0 0 mX11_won Q 32 [some (.inr 16), some (.inl who), some (.inl (i : Int)), some (.inl (sumN j (fun j => iv (btS S.1 who i j) 1))), some (.inl (j : Int))] [] h := by
  have g16 := HM.2.1
  unfold CO at g16
  have gn := HM.2.2.2.2.2.1.1
  have ok := HM.2.2.2.2.2.2.2.2.2.2.2.2
  have o := ok.1.2.1
  intro r
  induction r with
  | zero =>
    intro j hj
    rw [show j = s_h S.1 by omega]
    refine AW.iload dX11_won_32 rfl ?_
    refine AW.aload_n dX11_won_34 rfl ?_
    refine AW.getf dX11_won_35 gX11_19 (by repeat (first | assumption | exact hset_eq _ _ _ | refine (hset_ne _ _ (by omega)).trans ?_)) rfl ?_
    refine AW.getf dX11_won_38 gX11_148 (by repeat (first | assumption | exact hset_eq _ _ _ | refine (hset_ne _ _ (by omega)).trans ?_)) rfl ?_
    refine AW.if_icmpge (tgt := 63) dX11_won_41 (by decide) (fun c41 => ?_) (fun c41 => absurd c41 (by omega))
    refine AW.iload_n dX11_won_63 rfl ?_
    refine AW.ireturn dX11_won_64 rfl ?_
    exact hq
  | succ r ih =>
    intro j hj
    have nx := ih (j + 1) (by omega)
    rw [sumN_succ] at nx
    have hb := sumN_iv j (fun j => btS S.1 who i j)
    refine AW.iload dX11_won_32 rfl ?_
    refine AW.aload_n dX11_won_34 rfl ?_
    refine AW.getf dX11_won_35 gX11_19 (by repeat (first | assumption | exact hset_eq _ _ _ | refine (hset_ne _ _ (by omega)).trans ?_)) rfl ?_
    refine AW.getf dX11_won_38 gX11_148 (by repeat (first | assumption | exact hset_eq _ _ _ | refine (hset_ne _ _ (by omega)).trans ?_)) rfl ?_
    refine AW.if_icmpge (tgt := 63) dX11_won_41 (by decide) (fun c41 => absurd c41 (by omega)) (fun c41 => ?_)
    refine AW.aload_n dX11_won_44 rfl ?_
    refine AW.iload_n dX11_won_45 rfl ?_
    refine AW.iload dX11_won_46 rfl ?_
    refine AW.cI3 (d' := d - 1) (cX11_163 rfl) okX11_beats dX11_won_48 (by repeat (first | assumption | exact hset_eq _ _ _ | refine (hset_ne _ _ (by omega)).trans ?_)) (by omega) (C_beats HM h77 hf hi (by omega) (fun c => ?_) (fun c => ?_))
    · refine AW.ifeq_f (tgt := 57) dX11_won_51 (by decide) (by decide) ?_
      refine AW.inc3 dX11_won_54 (by decide) (by unfold RI; omega) ?_
      refine AW.inc4 dX11_won_57 (by decide) (by unfold RI; omega) ?_
      refine AW.goto (tgt := 32) dX11_won_60 (by decide) ?_
      first
        | (rw [iv_pos c] at nx; exact nx)
        | (rw [iv_neg c, Int.add_zero] at nx; exact nx)
    · refine AW.ifeq_t (tgt := 57) dX11_won_51 (by decide) rfl ?_
      refine AW.inc4 dX11_won_57 (by decide) (by unfold RI; omega) ?_
      refine AW.goto (tgt := 32) dX11_won_60 (by decide) ?_
      first
        | (rw [iv_pos c] at nx; exact nx)
        | (rw [iv_neg c, Int.add_zero] at nx; exact nx)
theorem C_won (H : CS h S) (hd : 7 ≤ d) (hq : ∀ r S' h', (r, S') = o_won S who x → CS h' S' → Fr h h' PC → Q (some (.inl r)) h') : MW d 0 0 mX11_won [.inr 16, .inl who, .inl x] h Q := by
  obtain ⟨nw, tr, ik, sd, at', HM, HL, HS⟩ := id H
  obtain ⟨k1, g16, h9, k2, k3, k4, k5, k6, k7, k8, k10, k11, ok⟩ := id HM
  have gn := k4.1
  have g16' := g16
  unfold CO at g16'
  show AW d 0 0 mX11_won Q 0 [some (.inr 16), some (.inl who), some (.inl x), none, none] [] h
  refine AW.aload_n dX11_won_0 rfl ?_
  refine AW.iload_n dX11_won_1 rfl ?_
  refine AW.cI2 (d' := d - 1) (cX11_151 rfl) okX11_noListener dX11_won_2 (by repeat (first | assumption | exact hset_eq _ _ _ | refine (hset_ne _ _ (by omega)).trans ?_)) (by omega) (C_noLis (by assumption) (by assumption) (by omega) (by omega) (fun c2 => ?_) (fun c2 c2b => ?_))
  · refine AW.ifne_t (tgt := 16) dX11_won_5 (by decide) (by decide) ?_
    refine AW.aload_n dX11_won_16 rfl ?_
    refine AW.iconst dX11_won_17 ?_
    refine AW.cI2 (d' := d - 1) (cX11_84 rfl) okX11_refused dX11_won_18 (by repeat (first | assumption | exact hset_eq _ _ _ | refine (hset_ne _ _ (by omega)).trans ?_)) (by omega) (C_refused (by assumption) (by decide) (by decide) (fun h18 hC hF => ?_))
    refine AW.ireturn dX11_won_21 rfl ?_
    exact hq (-1) (rf S 1) _ (by unfold o_won; rw [if_pos (by omega)]) hC hF
  · refine AW.ifne_f (tgt := 16) dX11_won_5 (by decide) rfl ?_
    refine AW.aload_n dX11_won_8 rfl ?_
    refine AW.iload_n dX11_won_9 rfl ?_
    refine AW.cI2 (d' := d - 1) (cX11_135 rfl) okX11_noScholar dX11_won_10 (by repeat (first | assumption | exact hset_eq _ _ _ | refine (hset_ne _ _ (by omega)).trans ?_)) (by omega) (C_noSch (by assumption) (by assumption) (fun c10 => ?_) (fun c10 c10b => ?_))
    · refine AW.ifeq_f (tgt := 22) dX11_won_13 (by decide) (by decide) ?_
      refine AW.aload_n dX11_won_16 rfl ?_
      refine AW.iconst dX11_won_17 ?_
      refine AW.cI2 (d' := d - 1) (cX11_84 rfl) okX11_refused dX11_won_18 (by repeat (first | assumption | exact hset_eq _ _ _ | refine (hset_ne _ _ (by omega)).trans ?_)) (by omega) (C_refused (by assumption) (by decide) (by decide) (fun h18 hC hF => ?_))
      refine AW.ireturn dX11_won_21 rfl ?_
      exact hq (-1) (rf S 1) _ (by unfold o_won; rw [if_pos (by omega)]) hC hF
    · refine AW.ifeq_t (tgt := 22) dX11_won_13 (by decide) rfl ?_
      have ex : x = ((x.toNat : Nat) : Int) := by omega
      refine AW.aload_n dX11_won_22 rfl ?_
      refine AW.iload_n dX11_won_23 rfl ?_
      refine AW.cI2 (d' := d - 1) (cX11_160 rfl) okX11_concludeAllAs dX11_won_24 (by repeat (first | assumption | exact hset_eq _ _ _ | refine (hset_ne _ _ (by omega)).trans ?_)) (by omega) (C_all HM HL HS (by omega) (by omega) (by omega) (fun h3 f3 L3 e77 hf F3 => ?_))
      refine AW.iconst dX11_won_27 ?_
      refine AW.ist3 dX11_won_28 (by decide) ?_
      refine AW.iconst dX11_won_29 ?_
      refine AW.ist4 dX11_won_30 (by decide) ?_
      rw [ex]
      refine L_cwon (HM.fr F3 (fun a => P77_PS)) e77 hf (by omega) (by omega) ?_ (s_h S.1) 0 (by omega)
      exact hq _ S h3 (by unfold o_won; rw [if_neg (by omega)]) ⟨nw, tr, ik, sd, at', HM.fr F3 (fun a => P77_PS), L3, HS.fr77 F3 h9 e77⟩ (F3.mono (fun a => P77_PC))
end Cls8

