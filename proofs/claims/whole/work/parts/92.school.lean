section School
variable {d bc bs : Nat} {Q : Option AV → AH → Prop} {h h' : AH} {nw tr p q pe : Nat} {x y z k g v ik sd b at' : Int} {s s' : SC} {S : ST} {P : Nat → Prop} {ws : List Nat} {L : List Int} {sm : SM} {full : List SM}
theorem V_rewind (H : LetA h L x) (hq : ∀ h', LetA h' L ((0 : Nat) : Int) → Fr h h' P17 → Q none h') : MW d 0 0 mX5_rewind [.inr 17] h Q := by
  obtain ⟨g17, -⟩ := id H
  show AW d 0 0 mX5_rewind Q 0 [some (.inr 17)] [] h
  refine AW.aload_n dX5_rewind_0 rfl ?_
  refine AW.iconst dX5_rewind_1 ?_
  refine AW.putf dX5_rewind_2 pX5_19 (by repeat (first | assumption | exact hset_eq _ _ _ | refine (hset_ne _ _ (by omega)).trans ?_)) trivial ?_
  refine AW.vreturn dX5_rewind_5 rfl ?_
  exact hq _ H.up (Fr.set rfl)
theorem V_clear (H : LetA h L x) (hq : ∀ h', LetA h' [] 0 → Fr h h' P17 → Q none h') : MW d 0 0 mX5_clear [.inr 17] h Q := by
  obtain ⟨g17, f, g18, -⟩ := id H
  show AW d 0 0 mX5_clear Q 0 [some (.inr 17)] [] h
  refine AW.aload_n dX5_clear_0 rfl ?_
  refine AW.iconst dX5_clear_1 ?_
  refine AW.putf dX5_clear_2 pX5_15 (by repeat (first | assumption | exact hset_eq _ _ _ | refine (hset_ne _ _ (by omega)).trans ?_)) trivial ?_
  refine AW.aload_n dX5_clear_5 rfl ?_
  refine AW.iconst dX5_clear_6 ?_
  refine AW.putf dX5_clear_7 pX5_19 (by repeat (first | assumption | exact hset_eq _ _ _ | refine (hset_ne _ _ (by omega)).trans ?_)) trivial ?_
  refine AW.vreturn dX5_clear_10 rfl ?_
  exact hq _ ⟨hset_eq _ _ _, f, (hset_ne _ _ (by decide)).trans ((hset_ne _ _ (by decide)).trans g18), fun i x hx => by simp at hx⟩ (Fr.trans (Fr.set (P := P17) rfl) (Fr.set (P := P17) rfl))
theorem V_place (H : LetA h L x) (hq : Q (some (.inl x)) h) : MW d 0 0 mX5_place [.inr 17] h Q := by
  obtain ⟨g17, -⟩ := id H
  show AW d 0 0 mX5_place Q 0 [some (.inr 17)] [] h
  refine AW.aload_n dX5_place_0 rfl ?_
  refine AW.getf dX5_place_1 gX5_19 (by repeat (first | assumption | exact hset_eq _ _ _ | refine (hset_ne _ _ (by omega)).trans ?_)) rfl ?_
  refine AW.ireturn dX5_place_4 rfl ?_
  exact hq
theorem allP_len : ∀ (f p : Nat), (allP L f p).2.2.length ≤ f := by
  intro f
  induction f with
  | zero => intro p; rw [allP]; exact Nat.le_refl _
  | succ f ih =>
    intro p
    rw [allP_s]
    split
    · split
      · exact Nat.succ_le_succ (Nat.zero_le _)
      · exact Nat.succ_le_succ (ih _)
    · exact Nat.zero_le _
theorem allP_pl : ∀ (f p : Nat), p ≤ L.length → (allP L f p).2.1 ≤ L.length := by
  intro f
  induction f with
  | zero => intro p hp; rw [allP]; exact hp
  | succ f ih =>
    intro p hp
    have := stP_pl hp
    rw [allP_s]
    split
    · split
      · exact this
      · exact ih _ this
    · exact this
noncomputable def tlF (s : SC) (l : List SM) : Int × SC := match trF s l with
  | (some p, _) => (-2000 - (p : Int), s)
  | (none, s') => ((l.length : Int), s')
theorem TT.cm (T : TT h nw tr ik sd S s p) : CM h nw tr ik sd (p : Int) S := T.1
theorem LC_tellAll (HM0 : CM h nw tr ik sd at' S) (hd : 7 ≤ d) (hfl : full.length ≤ 80)
    (hq : ∀ h' nw' tr' at'', CM h' nw' tr' ik sd at'' ((tlF S.1 full).2, S.2) → LisR h' → SCR h' → Fr h h' PC → Q (some (.inl (tlF S.1 full).1)) h') :
    ∀ (rest : List SM) (f i p : Nat) (s : SC) (h1 : AH) (a2 : Option AV), TT h1 nw tr ik sd S s p → Fr h h1 (PT tr) → ((p < S.2.2.1.length ∧ rest = (allP S.2.2.1 f p).2.2 ∧ (allP S.2.2.1 f p).1 = true ∧ S.2.2.1.length - p ≤ f) ∨ (S.2.2.1.length ≤ p ∧ rest = [])) → trF S.1 full = trF s rest → full.length = i + rest.length →
      AW d rest.length rest.length mX11_tellAll Q 20 [some (.inr 16), some (.inl (i : Int)), a2] [] h1 := by
  have k1 := HM0.1
  intro rest
  induction rest with
  | nil =>
    intro f i p s h1 a2 T F hc ht hn
    obtain ⟨HM, hs, ok', hL, HS⟩ := id T
    obtain ⟨-, g16, h9, k2, k3, k4, k5, k6, k7, k8, k10, k11, ok⟩ := id HM
    have g16' := g16
    unfold CO at g16'
    have g17 := k3.1
    have hpL : S.2.2.1.length ≤ p := by
      rcases hc with ⟨c0, c1, c2, c3⟩ | ⟨c0, -⟩
      · exfalso
        obtain ⟨f, rfl⟩ : ∃ f', f = f' + 1 := ⟨f - 1, by omega⟩
        rw [allP_s] at c1 c2
        by_cases e : (stP S.2.2.1 p).1 = true
        · rw [if_pos e] at c1
          split at c1 <;> cases c1
        · rw [if_neg e] at c2
          cases c2
      · exact c0
    rw [List.length_nil, Nat.add_zero] at hn
    have et : tlF S.1 full = ((i : Int), s) := by
      unfold tlF
      rw [ht, hn]
      rfl
    rw [et] at hq
    show AW d 0 0 mX11_tellAll Q 20 _ _ _
    refine AW.aload_n dX11_tellAll_20 rfl ?_
    refine AW.getf dX11_tellAll_21 gX11_10 (by repeat (first | assumption | exact hset_eq _ _ _ | refine (hset_ne _ _ (by omega)).trans ?_)) rfl ?_
    refine AW.cI1 (d' := d - 1) (cX11_268 rfl) okX5_haveMore dX11_tellAll_24 (by repeat (first | assumption | exact hset_eq _ _ _ | refine (hset_ne _ _ (by omega)).trans ?_)) (by omega) (V_more k3 (fun c => absurd c (by omega)) (fun c => ?_))
    refine AW.ifeq_t (tgt := 63) dX11_tellAll_27 (by decide) rfl ?_
    refine AW.aload_n dX11_tellAll_63 rfl ?_
    refine AW.getf dX11_tellAll_64 gX11_19 (by repeat (first | assumption | exact hset_eq _ _ _ | refine (hset_ne _ _ (by omega)).trans ?_)) rfl ?_
    refine AW.ast2 dX11_tellAll_67 (by decide) ?_
    refine AW.aload_n dX11_tellAll_68 rfl ?_
    refine AW.aload_n dX11_tellAll_69 rfl ?_
    refine AW.getf dX11_tellAll_70 gX11_23 (by repeat (first | assumption | exact hset_eq _ _ _ | refine (hset_ne _ _ (by omega)).trans ?_)) rfl ?_
    refine AW.putf dX11_tellAll_73 pX11_19 (by repeat (first | assumption | exact hset_eq _ _ _ | refine (hset_ne _ _ (by omega)).trans ?_)) trivial ?_
    refine AW.aload_n dX11_tellAll_76 rfl ?_
    refine AW.aload_n dX11_tellAll_77 rfl ?_
    refine AW.putf dX11_tellAll_78 pX11_23 (by repeat (first | assumption | exact hset_eq _ _ _ | refine (hset_ne _ _ (by omega)).trans ?_)) trivial ?_
    refine AW.iload_n dX11_tellAll_81 rfl ?_
    refine AW.ireturn dX11_tellAll_82 rfl ?_
    have F2 : Fr h1 (hset (hset h1 16 (.inl (11 + 1, [.inr 17, .inr tr, .inr tr, .inr 53, .inl ik, .inr 70, .inl (S.2.2.2.1.length : Int), .inr 71, .inr 72, .inr 73, .inr 77, .inr 78, .inr 79, .inr 84, .inl sd]))) 16 (.inl (11 + 1, [.inr 17, .inr tr, .inr nw, .inr 53, .inl ik, .inr 70, .inl (S.2.2.2.1.length : Int), .inr 71, .inr 72, .inr 73, .inr 77, .inr 78, .inr 79, .inr 84, .inl sd]))) (fun a => a = 16) := Fr.trans (Fr.set (P := fun a => a = 16) rfl) (Fr.set (P := fun a => a = 16) rfl)
    refine hq _ tr nw (p : Int) (HM.re F2 (fun a ha => Or.inl ha) (by omega) (hset_eq _ _ _) (k3.fr F2 h9 ⟨by omega, by omega⟩) (hs.fr F2 (by omega) (fun a ha => by omega) ok'.2.1) ⟨S.1, ok.1, k4.fr F2 (by omega) (fun a ha => by omega) ok.1.2.1⟩ (KP.fr F2 h9 (fun a ha => by omega) ok.2.1 k6) ok' ok.2.1) (hL.fr F2 h9 (fun a ha => by omega)) (HS.fr F2 h9 (fun a ha => by omega)) ((F.mono (fun a ha => by unfold PT PQ PL PB at ha; unfold PC; omega)).trans (F2.mono (fun a ha => by unfold PC; omega)))
  | cons sm t ih =>
    intro f i p s h1 a2 T F hc ht hn
    obtain ⟨HM, hs, ok', hL, HS⟩ := id T
    obtain ⟨-, g16, h9, k2, k3, k4, k5, k6, k7, k8, k10, k11, ok⟩ := id HM
    have g16' := g16
    unfold CO at g16'
    have g17 := k3.1
    rw [List.length_cons] at hn
    have hL80 := ok.2.2.1
    obtain ⟨c0, c1, c2, c3⟩ : p < S.2.2.1.length ∧ sm :: t = (allP S.2.2.1 f p).2.2 ∧ (allP S.2.2.1 f p).1 = true ∧ S.2.2.1.length - p ≤ f := by
      rcases hc with c | ⟨-, c⟩
      · exact c
      · cases c
    obtain ⟨f, rfl⟩ : ∃ f', f = f' + 1 := ⟨f - 1, by omega⟩
    rw [allP_s] at c1 c2
    have e : (stP S.2.2.1 p).1 = true := by
      refine Classical.byContradiction (fun e => ?_)
      rw [if_neg e] at c2
      cases c2
    rw [if_pos e] at c1 c2
    have sok := stP_ok e
    obtain ⟨q, sm', est⟩ : ∃ q sm', stP S.2.2.1 p = (true, q, sm') := ⟨(stP S.2.2.1 p).2.1, (stP S.2.2.1 p).2.2, by rw [← e]⟩
    rw [est] at c1 c2 sok
    obtain ⟨-, -, epl, hpq, hqL⟩ := sok
    have epl : sm'.2.1 = p := epl
    have hpq : p + 3 ≤ q := hpq
    have esm : sm = sm' := by
      by_cases z : S.2.2.1.length ≤ q
      · rw [if_pos z] at c1; cases c1; rfl
      · rw [if_neg z] at c1; cases c1; rfl
    have hnext : (q < S.2.2.1.length ∧ t = (allP S.2.2.1 f q).2.2 ∧ (allP S.2.2.1 f q).1 = true ∧ S.2.2.1.length - q ≤ f) ∨ (S.2.2.1.length ≤ q ∧ t = []) := by
      by_cases z : S.2.2.1.length ≤ q
      · rw [if_pos z] at c1; cases c1; exact Or.inr ⟨z, rfl⟩
      · rw [if_neg z] at c1 c2
        have c1' : sm :: t = sm' :: (allP S.2.2.1 f q).2.2 := c1
        injection c1' with u1 u2
        exact Or.inl ⟨by omega, u2, c2, by omega⟩
    rw [trF_c] at ht
    show AW d (t.length + 1) (t.length + 1) mX11_tellAll Q 20 _ _ _
    refine AW.aload_n dX11_tellAll_20 rfl ?_
    refine AW.getf dX11_tellAll_21 gX11_10 (by repeat (first | assumption | exact hset_eq _ _ _ | refine (hset_ne _ _ (by omega)).trans ?_)) rfl ?_
    refine AW.cI1 (d' := d - 1) (cX11_268 rfl) okX5_haveMore dX11_tellAll_24 (by repeat (first | assumption | exact hset_eq _ _ _ | refine (hset_ne _ _ (by omega)).trans ?_)) (by omega) (V_more k3 (fun c => ?_) (fun c => absurd c (by omega)))
    refine AW.ifeq_f (tgt := 63) dX11_tellAll_27 (by decide) (by decide) ?_
    refine AW.iload_n dX11_tellAll_30 rfl ?_
    refine AW.bipush dX11_tellAll_31 ?_
    refine AW.if_icmpge (tgt := 63) dX11_tellAll_33 (by decide) (fun c33 => absurd c33 (by omega)) (fun c33 => ?_)
    refine AW.aload_n dX11_tellAll_36 rfl ?_
    refine AW.getf dX11_tellAll_37 gX11_10 (by repeat (first | assumption | exact hset_eq _ _ _ | refine (hset_ne _ _ (by omega)).trans ?_)) rfl ?_
    refine AW.cI1 (d' := d - 1) (cX11_102 rfl) okX5_place dX11_tellAll_40 (by repeat (first | assumption | exact hset_eq _ _ _ | refine (hset_ne _ _ (by omega)).trans ?_)) (by omega) (V_place k3 ?_)
    refine AW.ist2 dX11_tellAll_43 (by decide) ?_
    refine AW.aload_n dX11_tellAll_44 rfl ?_
    refine AW.kI1 (d' := d - 1) 1 1 (cX11_271 rfl) okX11_tellStatement dX11_tellAll_45 g16' (by omega) (bc'' := t.length) (bs'' := t.length) (Nat.add_comm _ _) (Nat.add_comm _ _) (V_tell T est (by omega) (fun ec h2 p2 T2 F2 => ?_) (fun s2 ec h2 T2 F2 => ?_))
    · rw [← esm] at ec
      rw [ec] at ht
      have et : tlF S.1 full = (-2000 - (p : Int), S.1) := by
        unfold tlF
        rw [ht, esm]
        show (-2000 - ((sm'.2.1 : Nat) : Int), S.1) = _
        rw [epl]
      rw [et] at hq
      refine AW.ifne (tgt := 57) dX11_tellAll_48 (by decide) (fun c48 => absurd rfl c48) (fun c48 => ?_)
      refine AW.sipush dX11_tellAll_51 ?_
      refine AW.iload_n dX11_tellAll_54 rfl ?_
      refine AW.isubR dX11_tellAll_55 (by unfold RI; omega) ?_
      refine AW.ireturn dX11_tellAll_56 rfl ?_
      exact hq h2 nw tr (p2 : Int) T2.1 T2.2.2.2.1 T2.2.2.2.2 ((F.trans F2).mono (fun a ha => by unfold PT PQ PL PB at ha; unfold PC; omega))
    · rw [← esm] at ec
      rw [ec] at ht
      refine AW.ifne (tgt := 57) dX11_tellAll_48 (by decide) (fun c48 => ?_) (fun c48 => absurd c48 (by decide))
      refine AW.inc1 dX11_tellAll_57 (by decide) (by unfold RI; omega) ?_
      refine AW.goto (tgt := 20) dX11_tellAll_60 (by decide) ?_
      exact ih f (i + 1) q s2 h2 _ T2 (F.trans F2) hnext ht (by omega)
theorem V_tellAll (HM : CM h nw tr ik sd at' S) (HL : LisR h) (HS : SCR h) (hal : (allP S.2.2.1 80 0).1 = true) (hne : 0 < S.2.2.1.length) (hd : 7 ≤ d)
    (hq : ∀ h' nw' tr' at'', CM h' nw' tr' ik sd at'' ((tlF S.1 (allP S.2.2.1 80 0).2.2).2, S.2) → LisR h' → SCR h' → Fr h h' PC → Q (some (.inl (tlF S.1 (allP S.2.2.1 80 0).2.2).1)) h') : MW d (allP S.2.2.1 80 0).2.2.length (allP S.2.2.1 80 0).2.2.length mX11_tellAll [.inr 16] h Q := by
  obtain ⟨k1, g16, h9, k2, k3, k4, k5, k6, k7, k8, k10, k11, ok⟩ := id HM
  have g16' := g16
  unfold CO at g16'
  have hL80 := ok.2.2.1
  obtain ⟨vt, gt⟩ := k5.o
  show AW d (allP S.2.2.1 80 0).2.2.length (allP S.2.2.1 80 0).2.2.length mX11_tellAll Q 0 [some (.inr 16), none, none] [] h
  refine AW.aload_n dX11_tellAll_0 rfl ?_
  refine AW.getf dX11_tellAll_1 gX11_23 (by repeat (first | assumption | exact hset_eq _ _ _ | refine (hset_ne _ _ (by omega)).trans ?_)) rfl ?_
  refine AW.aload_n dX11_tellAll_4 rfl ?_
  refine AW.getf dX11_tellAll_5 gX11_19 (by repeat (first | assumption | exact hset_eq _ _ _ | refine (hset_ne _ _ (by omega)).trans ?_)) rfl ?_
  refine AW.cI2 (d' := d - 1) (cX11_224 rfl) okX8_copy dX11_tellAll_8 (by repeat (first | assumption | exact hset_eq _ _ _ | refine (hset_ne _ _ (by omega)).trans ?_)) (by omega) (W_schCopy (by omega) (by omega) (by omega) h9 (by omega) ok.1 k5 k4 (fun h2 A2 F2 => ?_))
  have F21 := F2.1
  have k32 := k3.fr F2 h9 ⟨by unfold PQ; omega, by unfold PQ; omega⟩
  have g162 := CO.fr F2 h9 (by unfold PQ; omega) g16
  have g162' := g162
  unfold CO at g162'
  have g172 := k32.1
  refine AW.aload_n dX11_tellAll_11 rfl ?_
  refine AW.getf dX11_tellAll_12 gX11_10 (by repeat (first | assumption | exact hset_eq _ _ _ | refine (hset_ne _ _ (by omega)).trans ?_)) rfl ?_
  refine AW.cI1 (d' := d - 1) (cX11_265 rfl) okX5_rewind dX11_tellAll_15 (by repeat (first | assumption | exact hset_eq _ _ _ | refine (hset_ne _ _ (by omega)).trans ?_)) (by omega) (V_rewind k32 (fun h3 H3 F3 => ?_))
  refine AW.iconst dX11_tellAll_18 ?_
  refine AW.ist1 dX11_tellAll_19 (by decide) ?_
  have FF : Fr h h3 (PT tr) := (F2.mono (fun a ha => Or.inr (Or.inl ha))).trans (F3.mono (fun a ha => Or.inl ha))
  have T3 : TT h3 nw tr ik sd S S.1 0 := by
    refine ⟨HM.re FF (fun a ha => by unfold PT PQ PL PB at ha; unfold PS; omega) k1 (CO.fr FF h9 (by unfold PT PQ PL PB; omega) g16) H3 (k4.fr FF (by omega) (fun a ha => by unfold PT PQ PL PB; omega) ok.1.2.1) ⟨S.1, ok.1, A2.fr F3 (by omega) (fun a ha => by unfold P17; omega) ok.1.2.1⟩ (KP.fr FF h9 (fun a ha => by unfold PT PQ PL PB; omega) ok.2.1 k6) ok.1 ok.2.1, A2.fr F3 (by omega) (fun a ha => by unfold P17; omega) ok.1.2.1, ok.1, ?_, ?_⟩
    · exact (HL.fr F2 h9 (fun a ha => by unfold PQ; omega)).fr F3 (by omega) (fun a ha => by unfold P17; omega)
    · exact (HS.fr F2 h9 (fun a ha => by unfold PQ; omega)).fr F3 (by omega) (fun a ha => by unfold P17; omega)
  exact LC_tellAll HM hd (allP_len 80 0) hq (allP S.2.2.1 80 0).2.2 80 0 0 S.1 h3 _ T3 FF (Or.inl ⟨hne, rfl, hal, by omega⟩) rfl (by omega)
theorem C_school (H : CS h S) (hd : 8 ≤ d) (hq : ∀ r S' h', (r, S') = o_school S → CS h' S' → Fr h h' PC → Q (some (.inl r)) h') : MW d 80 80 mX11_school [.inr 16] h Q := by
  obtain ⟨nw, tr, ik, sd, at', HM, HL, HS⟩ := id H
  obtain ⟨k1, g16, h9, k2, k3, k4, k5, k6, k7, k8, k10, k11, ok⟩ := id HM
  have g16' := g16
  unfold CO at g16'
  have hL80 := ok.2.2.1
  have g17 := k3.1
  have hln := allP_len (L := S.2.2.1) 80 0
  have fin : ∀ (cb sb : Nat) (h1 : AH) (nw' tr' : Nat) (at2 : Int) (s2 : SC) (r : Int), CM h1 nw' tr' ik sd at2 (s2, S.2) → LisR h1 → SCR h1 → Fr h h1 PC → (r, ((s2, S.2.1, [], S.2.2.2) : ST)) = o_school S → AW d cb sb mX11_school Q 28 [some (.inr 16), none] [.inl r] h1 := by
    intro cb sb h1 nw' tr' at2 s2 r HM1 HL1 HS1 F1 er
    obtain ⟨-, q16, q9, q2, q3, q4, q5, q6, q7, q8, q10, q11, qk⟩ := id HM1
    have q16' := q16
    unfold CO at q16'
    have q17 := q3.1
    refine AW.ist1 dX11_school_28 (by decide) ?_
    refine AW.aload_n dX11_school_29 rfl ?_
    refine AW.getf dX11_school_30 gX11_10 (by repeat (first | assumption | exact hset_eq _ _ _ | refine (hset_ne _ _ (by omega)).trans ?_)) rfl ?_
    refine AW.cI1 (d' := d - 1) (cX11_105 rfl) okX5_clear dX11_school_33 (by repeat (first | assumption | exact hset_eq _ _ _ | refine (hset_ne _ _ (by omega)).trans ?_)) (by omega) (V_clear q3 (fun h2 H2 F2 => ?_))
    refine AW.iload_n dX11_school_36 rfl ?_
    refine AW.ireturn dX11_school_37 rfl ?_
    have F21 := F2.1
    refine hq r (s2, S.2.1, [], S.2.2.2) h2 er ⟨nw', tr', ik, sd, 0, ?_, HL1.fr F2 q9 (fun a ha => by unfold P17; omega), HS1.fr F2 q9 (fun a ha => by unfold P17; omega)⟩ (F1.trans (F2.mono (fun a ha => by unfold P17 at ha; unfold PC; omega)))
    obtain ⟨f7, u1, u2⟩ := q7
    obtain ⟨f8, v1, v2⟩ := q8
    exact HM1.st F2 (fun a ha => Or.inr (Or.inl ha)) rfl rfl (CO.fr F2 q9 (by unfold P17; omega) q16) H2 ⟨f7, (F2.2 70 (by omega) (by unfold P17; omega)).trans u1, u2⟩ ⟨f8, (F2.2 71 (by omega) (by unfold P17; omega)).trans v1, v2⟩ ⟨qk.1, qk.2.1, Nat.zero_le _, fun x hx => by simp at hx, qk.2.2.2.2⟩
  show AW d 80 80 mX11_school Q 0 [some (.inr 16), none] [] h
  refine AW.aload_n dX11_school_0 rfl ?_
  refine AW.getf dX11_school_1 gX11_10 (by repeat (first | assumption | exact hset_eq _ _ _ | refine (hset_ne _ _ (by omega)).trans ?_)) rfl ?_
  refine AW.cI1 (d' := d - 1) (cX11_95 rfl) okX5_areWellFormed dX11_school_4 (by repeat (first | assumption | exact hset_eq _ _ _ | refine (hset_ne _ _ (by omega)).trans ?_)) (by omega) (V_wf hL80 k3 (by omega) (fun h2 c H2 F2 => ?_) (fun h2 c H2 F2 => ?_))
  · refine AW.ifeq_f (tgt := 17) dX11_school_7 (by decide) (by decide) ?_
    have F21 := F2.1
    have FC : Fr h h2 PC := F2.mono (fun a ha => by unfold P17 at ha; unfold PC; omega)
    obtain ⟨f7, u1, u2⟩ := k7
    obtain ⟨f8, v1, v2⟩ := k8
    have HM2 := HM.st F2 (fun a ha => Or.inr (Or.inl ha)) rfl rfl (CO.fr F2 h9 (by unfold P17; omega) g16) H2 ⟨f7, (F2.2 70 (by omega) (by unfold P17; omega)).trans u1, u2⟩ ⟨f8, (F2.2 71 (by omega) (by unfold P17; omega)).trans v1, v2⟩ ok
    have m16 := HM2.2.1
    unfold CO at m16
    have hne : 0 < S.2.2.1.length := by
      refine Nat.pos_of_ne_zero (fun e => ?_)
      have e2 : S.2.2.1 = [] := List.length_eq_zero_iff.mp e
      rw [e2, allP_s, if_neg] at c
      · cases c
      · rw [stP_n (by unfold isLt; rw [show ltr [] 0 = -1 from rfl]; omega)]
        decide
    refine AW.aload_n dX11_school_10 rfl ?_
    refine AW.kI1 (d' := d - 1) (allP S.2.2.1 80 0).2.2.length (allP S.2.2.1 80 0).2.2.length (cX11_98 rfl) okX11_tellAll dX11_school_11 m16 (by omega) (bc'' := 80 - (allP S.2.2.1 80 0).2.2.length) (bs'' := 80 - (allP S.2.2.1 80 0).2.2.length) (by omega) (by omega) (V_tellAll HM2 (HL.fr F2 h9 (fun a ha => by unfold P17; omega)) (HS.fr F2 h9 (fun a ha => by unfold P17; omega)) c hne (by omega) (fun h3 nw' tr' at2 HM3 HL3 HS3 F3 => ?_))
    refine AW.goto (tgt := 28) dX11_school_14 (by decide) ?_
    refine fin _ _ h3 nw' tr' at2 _ _ HM3 HL3 HS3 (FC.trans F3) ?_
    unfold o_school tlF
    rw [if_pos c]
    generalize trF S.1 (allP S.2.2.1 80 0).2.2 = T
    obtain ⟨o, s3⟩ := T
    cases o <;> rfl
  · refine AW.ifeq_t (tgt := 17) dX11_school_7 (by decide) rfl ?_
    have F21 := F2.1
    have FC : Fr h h2 PC := F2.mono (fun a ha => by unfold P17 at ha; unfold PC; omega)
    obtain ⟨f7, u1, u2⟩ := k7
    obtain ⟨f8, v1, v2⟩ := k8
    have HM2 := HM.st F2 (fun a ha => Or.inr (Or.inl ha)) rfl rfl (CO.fr F2 h9 (by unfold P17; omega) g16) H2 ⟨f7, (F2.2 70 (by omega) (by unfold P17; omega)).trans u1, u2⟩ ⟨f8, (F2.2 71 (by omega) (by unfold P17; omega)).trans v1, v2⟩ ok
    have m16 := HM2.2.1
    unfold CO at m16
    have m17 := H2.1
    have hpl := allP_pl (L := S.2.2.1) 80 0 (Nat.zero_le _)
    refine AW.sipush dX11_school_17 ?_
    refine AW.aload_n dX11_school_20 rfl ?_
    refine AW.getf dX11_school_21 gX11_10 (by repeat (first | assumption | exact hset_eq _ _ _ | refine (hset_ne _ _ (by omega)).trans ?_)) rfl ?_
    refine AW.cI1 (d' := d - 1) (cX11_102 rfl) okX5_place dX11_school_24 (by repeat (first | assumption | exact hset_eq _ _ _ | refine (hset_ne _ _ (by omega)).trans ?_)) (by omega) (V_place H2 ?_)
    refine AW.isubR dX11_school_27 (by unfold RI; omega) ?_
    refine fin _ _ h2 nw tr _ S.1 _ HM2 (HL.fr F2 h9 (fun a ha => by unfold P17; omega)) (HS.fr F2 h9 (fun a ha => by unfold P17; omega)) FC ?_
    unfold o_school
    rw [if_neg (by rw [c]; decide)]
end School

