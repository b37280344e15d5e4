section Tell
variable {d bc bs : Nat} {Q : Option AV → AH → Prop} {h h' : AH} {nw tr p q pe : Nat} {x y z k g v ik sd b : Int} {s s' : SC} {S : ST} {P : Nat → Prop} {ws : List Nat} {L : List Int} {sm : SM}
theorem bad_ne {p q : Nat} {sm : SM} (h : badP p = (true, q, sm)) : False := by
  have := congrArg Prod.fst h
  cases this
theorem end_i {p q : Nat} {sm sm' : SM} (h : endP L p sm' = (true, q, sm)) : ltr L p = 59 ∧ q = p + 1 ∧ sm = sm' := by
  by_cases e : ltr L p = 59
  · rw [endP_y e] at h
    cases h
    exact ⟨e, rfl, rfl⟩
  · rw [endP_n e] at h
    exact (bad_ne h).elim
theorem stI_115 (e : ltr L p = 115) (h : stP L p = (true, q, sm)) : (48 ≤ ltr L (p + 1) ∧ ltr L (p + 1) ≤ 57) ∧ (48 ≤ ltr L (p + 2) ∧ ltr L (p + 2) ≤ 57) ∧ ltr L (p + 3) = 59 ∧ q = p + 4 ∧ sm = (115, p, ltr L (p + 1) - 48, ltr L (p + 2) - 48, []) := by
  rw [stP_115 e] at h
  by_cases A : 48 ≤ ltr L (p + 1) ∧ ltr L (p + 1) ≤ 57
  · rw [if_neg (not_not_intro A)] at h
    by_cases B : 48 ≤ ltr L (p + 2) ∧ ltr L (p + 2) ≤ 57
    · rw [if_neg (not_not_intro B)] at h
      obtain ⟨h1, h2, h3⟩ := end_i h
      exact ⟨A, B, h1, h2, h3⟩
    · rw [if_pos B] at h; exact (bad_ne h).elim
  · rw [if_pos A] at h; exact (bad_ne h).elim
theorem stI_108 (e : ltr L p = 108) (h : stP L p = (true, q, sm)) : (48 ≤ ltr L (p + 1) ∧ ltr L (p + 1) ≤ 57) ∧ (65 ≤ ltr L (p + 2) ∧ ltr L (p + 2) ≤ 68) ∧ ltr L (p + 3) = 59 ∧ q = p + 4 ∧ sm = (108, p, ltr L (p + 1) - 48, ltr L (p + 2) - 65, []) := by
  rw [stP_108 e] at h
  by_cases A : 48 ≤ ltr L (p + 1) ∧ ltr L (p + 1) ≤ 57
  · rw [if_neg (not_not_intro A)] at h
    by_cases B : 65 ≤ ltr L (p + 2) ∧ ltr L (p + 2) ≤ 68
    · rw [if_neg (not_not_intro B)] at h
      obtain ⟨h1, h2, h3⟩ := end_i h
      exact ⟨A, B, h1, h2, h3⟩
    · rw [if_pos B] at h; exact (bad_ne h).elim
  · rw [if_pos A] at h; exact (bad_ne h).elim
theorem stI_104 (e : ltr L p = 104) (h : stP L p = (true, q, sm)) : (sayP L 20 1 (p + 1)).1 = true ∧ q = (sayP L 20 1 (p + 1)).2.1 + 1 ∧ sm = (104, p, 0, 0, (sayP L 20 1 (p + 1)).2.2) := by
  rw [stP_104 e] at h
  by_cases A : (sayP L 20 1 (p + 1)).1 = true
  · rw [if_pos A] at h
    obtain ⟨h1, h2, h3⟩ := end_i h
    exact ⟨A, h2, h3⟩
  · rw [if_neg A] at h; exact (bad_ne h).elim
theorem stI_99 (e : ltr L p = 99) (h : stP L p = (true, q, sm)) : (65 ≤ ltr L (p + 1) ∧ ltr L (p + 1) ≤ 68) ∧ (sayP L 20 1 (p + 2)).1 = true ∧ q = (sayP L 20 1 (p + 2)).2.1 + 1 ∧ sm = (99, p, ltr L (p + 1) - 65, 0, (sayP L 20 1 (p + 2)).2.2) := by
  rw [stP_99 e] at h
  by_cases B : 65 ≤ ltr L (p + 1) ∧ ltr L (p + 1) ≤ 68
  · rw [if_neg (not_not_intro B)] at h
    by_cases A : (sayP L 20 1 (p + 2)).1 = true
    · rw [if_pos A] at h
      obtain ⟨h1, h2, h3⟩ := end_i h
      exact ⟨B, A, h2, h3⟩
    · rw [if_neg A] at h; exact (bad_ne h).elim
  · rw [if_pos B] at h; exact (bad_ne h).elim
def PT (tr a : Nat) : Prop := a = 17 ∨ PQ tr a ∨ PL a ∨ PB 84 a
/-- while a school is tried -/
def TT (h : AH) (nw tr : Nat) (ik sd : Int) (S : ST) (s : SC) (p : Nat) : Prop := CM h nw tr ik sd (p : Int) S ∧ SchA h tr s ∧ scOK s ∧ LisR h ∧ SCR h
theorem TT.mv (F : Fr h h' (PT tr)) (T : TT h nw tr ik sd S s p) (hl : LetA h' S.2.2.1 (q : Int)) (hs : SchA h' tr s') (ok' : scOK s') (hL : LisR h') (hY : SyR h' 84) : TT h' nw tr ik sd S s' q := by
  obtain ⟨HM, -, -, -, HS⟩ := T
  obtain ⟨k1, g16, h9, k2, k3, k4, k5, k6, k7, k8, k10, k11, ok⟩ := id HM
  have F1 := F.1
  refine ⟨HM.re F (fun a ha => by unfold PT PQ PL PB at ha; unfold PS; omega) k1 (CO.fr F h9 (by unfold PT PQ PL PB; omega) g16) hl (k4.fr F (by omega) (fun a ha => by unfold PT PQ PL PB; omega) ok.1.2.1) ⟨s', ok', hs⟩ (KP.fr F h9 (fun a ha => by unfold PT PQ PL PB; omega) ok.2.1 k6) ok.1 ok.2.1, hs, ok', hL, ?_⟩
  obtain ⟨⟨f7, t7⟩, t2, t3, -⟩ := HS
  exact ⟨⟨f7, (F.2 77 (by omega) (by unfold PT PQ PL PB; omega)).trans t7⟩, t2.fr F (by omega) (fun a ha => by unfold PF at ha; unfold PT PQ PL PB; omega), fun i hi => (t3 i hi).fr F (by omega) (fun a ha => by unfold PF at ha; unfold PT PQ PL PB; omega), hY⟩
theorem TT.let (F : Fr h h' P17) (T : TT h nw tr ik sd S s p) (hl : LetA h' S.2.2.1 (q : Int)) : TT h' nw tr ik sd S s q := by
  obtain ⟨HM, hs, ok', hL, HS⟩ := id T
  have h9 := HM.2.2.1
  have k1 := HM.1
  exact T.mv (F.mono (fun a ha => Or.inl ha)) hl (hs.fr F (by omega) (fun a ha => by unfold P17; omega) ok'.2.1) ok' (hL.fr F h9 (fun a ha => by unfold P17; omega)) (HS.2.2.2.fr F (by omega) ⟨by unfold P17; omega, by unfold P17; omega⟩)
theorem LC_tellEnd {a2 a3 a4 a5 : Option AV} (T : TT h nw tr ik sd S s pe) (hb : b = 0 ∨ b = 1) (hp : pe ≤ 1000) (hd : 2 ≤ d) (hq : ∀ h', TT h' nw tr ik sd S s (pe + 1) → Fr h h' (PT tr) → Q (some (.inl b)) h') : AW d bc bs mX11_tellStatement Q 185 [some (.inr 16), some (.inl b), a2, a3, a4, a5] [] h := by
  obtain ⟨HM, hs, ok', hL, HS⟩ := id T
  obtain ⟨k1, g16, h9, k2, k3, k4, k5, k6, k7, k8, k10, k11, ok⟩ := id HM
  unfold CO at g16
  have g17 := k3.1
  refine AW.aload_n dX11_tellStatement_185 rfl ?_
  refine AW.getf dX11_tellStatement_186 gX11_10 (by repeat (first | assumption | exact hset_eq _ _ _ | refine (hset_ne _ _ (by omega)).trans ?_)) rfl ?_
  refine AW.cI1 (d' := d - 1) (cX11_274 rfl) okX5_next dX11_tellStatement_189 (by repeat (first | assumption | exact hset_eq _ _ _ | refine (hset_ne _ _ (by omega)).trans ?_)) (by omega) (V_next ok.2.2.1 hp k3 (by omega) (fun h2 H2 F2 => ?_))
  refine AW.pop dX11_tellStatement_192 ?_
  refine AW.iload_n dX11_tellStatement_193 rfl ?_
  refine AW.zreturn dX11_tellStatement_194 rfl (by assumption) ?_
  exact hq h2 (T.let F2 H2) (F2.mono (fun a ha => Or.inl ha))
theorem V_tell (T : TT h nw tr ik sd S s p) (hst : stP S.2.2.1 p = (true, q, sm)) (hd : 6 ≤ d)
    (hq0 : cmS s sm = none → ∀ h' p', TT h' nw tr ik sd S s p' → Fr h h' (PT tr) → Q (some (.inl 0)) h') (hq1 : ∀ s', cmS s sm = some s' → ∀ h', TT h' nw tr ik sd S s' q → Fr h h' (PT tr) → Q (some (.inl 1)) h') : MW d 1 1 mX11_tellStatement [.inr 16] h Q := by
  obtain ⟨HM, hs, ok', hL, HS⟩ := id T
  obtain ⟨k1, g16, h9, k2, k3, k4, k5, k6, k7, k8, k10, k11, ok⟩ := id HM
  have g16' := g16
  unfold CO at g16'
  have g17 := k3.1
  have hlt : isLt (ltr S.2.2.1 p) := by
    refine Classical.byContradiction (fun c => ?_)
    rw [stP_n c] at hst
    exact bad_ne hst
  have hsk := stP_ok (L := S.2.2.1) (p := p) (by rw [hst])
  rw [hst] at hsk
  obtain ⟨smok, -, -, hpq, hqL⟩ := hsk
  have hpq : p + 3 ≤ q := hpq
  have hqL : q ≤ S.2.2.1.length := hqL
  have hL80 := ok.2.2.1
  have hLb := ok.2.2.2.1
  have hp80 : p + 3 ≤ 80 := by omega
  show AW d 1 1 mX11_tellStatement Q 0 [some (.inr 16), none, none, none, none, none] [] h
  refine AW.aload_n dX11_tellStatement_0 rfl ?_
  refine AW.getf dX11_tellStatement_1 gX11_10 (by repeat (first | assumption | exact hset_eq _ _ _ | refine (hset_ne _ _ (by omega)).trans ?_)) rfl ?_
  refine AW.cI1 (d' := d - 1) (cX11_274 rfl) okX5_next dX11_tellStatement_4 (by repeat (first | assumption | exact hset_eq _ _ _ | refine (hset_ne _ _ (by omega)).trans ?_)) (by omega) (V_next hL80 (by omega) k3 (by omega) (fun h1 H1 F1 => ?_))
  refine AW.lk dX11_tellStatement_7 (by decide) 159 (by decide) (List.forall_mem_cons.mpr ⟨fun c7 => ?_, (List.forall_mem_cons.mpr ⟨fun c7 => ?_, (List.forall_mem_cons.mpr ⟨fun c7 => ?_, (fun q hq => nomatch hq)⟩)⟩)⟩) (fun c7 => ?_)
  · dsimp only at c7
    show AW _ _ _ _ _ 95 _ _ _
    have T1 := T.let F1 H1
    have G1 : Fr h h1 (PT tr) := F1.mono (fun a ha => Or.inl ha)
    obtain ⟨B, A, eq, esm⟩ := stI_99 c7 hst
    have eq' : q = (sayP S.2.2.1 20 1 (p + 1 + 1)).2.1 + 1 := eq
    have m16 := T1.1.2.1
    unfold CO at m16
    have n17 := H1.1
    have g91 := T1.1.2.2.1
    refine AW.aload_n dX11_tellStatement_95 rfl ?_
    refine AW.getf dX11_tellStatement_96 gX11_10 (by repeat (first | assumption | exact hset_eq _ _ _ | refine (hset_ne _ _ (by omega)).trans ?_)) rfl ?_
    refine AW.cI1 (d' := d - 1) (cX11_290 rfl) okX5_nextName dX11_tellStatement_99 (by repeat (first | assumption | exact hset_eq _ _ _ | refine (hset_ne _ _ (by omega)).trans ?_)) (by omega) (V_nextName hL80 hLb (by omega) H1 (by omega) (fun h2 H2 F2 => ?_))
    have T2 := T1.let F2 H2
    have m162 := T2.1.2.1
    unfold CO at m162
    have n172 := H2.1
    have g92 := T2.1.2.2.1
    refine AW.ist4 dX11_tellStatement_102 (by decide) ?_
    refine AW.aload_n dX11_tellStatement_104 rfl ?_
    refine AW.getf dX11_tellStatement_105 gX11_10 (by repeat (first | assumption | exact hset_eq _ _ _ | refine (hset_ne _ _ (by omega)).trans ?_)) rfl ?_
    refine AW.aload_n dX11_tellStatement_108 rfl ?_
    refine AW.getf dX11_tellStatement_109 gX11_77 (by repeat (first | assumption | exact hset_eq _ _ _ | refine (hset_ne _ _ (by omega)).trans ?_)) rfl ?_
    refine AW.cI2 (d' := d - 1) (cX11_283 rfl) okX5_readSaying dX11_tellStatement_112 (by repeat (first | assumption | exact hset_eq _ _ _ | refine (hset_ne _ _ (by omega)).trans ?_)) (by omega) (V_readSaying hL80 g92 (by omega) H2 T2.2.2.2.2.2.2.2 A (by omega) (fun h3 H3 Y3 F3 => ?_))
    have G3 : Fr h2 h3 (PT tr) := F3.mono (fun a ha => by unfold P178 at ha; unfold PT PB; omega)
    have T3 := T2.mv G3 H3 (T2.2.1.fr F3 (by omega) (fun a ha => by unfold P178; omega) ok'.2.1) ok' (T2.2.2.2.1.fr F3 g92 (fun a ha => by unfold P178; omega)) Y3.r
    have m163 := T3.1.2.1
    unfold CO at m163
    have g93 := T3.1.2.2.1
    obtain ⟨gt, -, -, -, ⟨fc, c8, c9⟩, -⟩ := id T3.2.1
    have k103 := T3.1.2.2.2.2.2.2.2.2.2.2.1
    have hS : StA h3 72 0 0 := ⟨k103, Or.inl rfl, by omega, ⟨by decide, by decide⟩, by decide, by decide⟩
    have hL3 := T3.2.2.2.1
    obtain ⟨aL, fL, fL2, l73, -⟩ := id hL3
    refine AW.aload_n dX11_tellStatement_115 rfl ?_
    refine AW.getf dX11_tellStatement_116 gX11_56 (by repeat (first | assumption | exact hset_eq _ _ _ | refine (hset_ne _ _ (by omega)).trans ?_)) rfl ?_
    refine AW.aload_n dX11_tellStatement_119 rfl ?_
    refine AW.getf dX11_tellStatement_120 gX11_49 (by repeat (first | assumption | exact hset_eq _ _ _ | refine (hset_ne _ _ (by omega)).trans ?_)) rfl ?_
    refine AW.aload_n dX11_tellStatement_123 rfl ?_
    refine AW.getf dX11_tellStatement_124 gX11_23 (by repeat (first | assumption | exact hset_eq _ _ _ | refine (hset_ne _ _ (by omega)).trans ?_)) rfl ?_
    refine AW.getf dX11_tellStatement_127 gX11_132 (by repeat (first | assumption | exact hset_eq _ _ _ | refine (hset_ne _ _ (by omega)).trans ?_)) rfl ?_
    refine AW.bipush dX11_tellStatement_130 ?_
    refine AW.cI4 (d' := d - 1) (cX11_240 rfl) okX6_become dX11_tellStatement_132 (by repeat (first | assumption | exact hset_eq _ _ _ | refine (hset_ne _ _ (by omega)).trans ?_)) (by omega) (W_become g93 hL3 hS c8 (by omega) (fun h4 L4 F4 => ?_))
    have L4' : LisA h4 (kkS s (-1)) (ggS s (-1)) (nmS s (-1)) (-9) := L4.congr (fun i hi => by
      unfold bcF nmS
      rw [if_pos (bc15 i hi), if_pos (Or.inl (by decide))]
      exact c9 i hi)
    have Y4 := Y3.fr F4 (by omega) ⟨by unfold PL; omega, by unfold PL; omega⟩
    have G4 : Fr h3 h4 (PT tr) := F4.mono (fun a ha => Or.inr (Or.inr (Or.inl ha)))
    have T4 := T3.mv G4 (H3.fr F4 (by omega) ⟨by unfold PL; omega, by unfold PL; omega⟩) (T3.2.1.fr F4 (by omega) (fun a ha => by unfold PL; omega) ok'.2.1) ok' L4.r Y4.r
    have m164 := T4.1.2.1
    unfold CO at m164
    have g94 := T4.1.2.2.1
    have s4 := T4.1.2.2.2.1.2.2.1
    obtain ⟨aL2, fL3, fL4, l732, -⟩ := id L4'
    have hh := (sayP_ok 20 1 (p + 2) A).1
    refine AW.aload_n dX11_tellStatement_135 rfl ?_
    refine AW.getf dX11_tellStatement_136 gX11_23 (by repeat (first | assumption | exact hset_eq _ _ _ | refine (hset_ne _ _ (by omega)).trans ?_)) rfl ?_
    refine AW.iload dX11_tellStatement_139 rfl ?_
    refine AW.aload_n dX11_tellStatement_141 rfl ?_
    refine AW.getf dX11_tellStatement_142 gX11_56 (by repeat (first | assumption | exact hset_eq _ _ _ | refine (hset_ne _ _ (by omega)).trans ?_)) rfl ?_
    refine AW.aload_n dX11_tellStatement_145 rfl ?_
    refine AW.getf dX11_tellStatement_146 gX11_77 (by repeat (first | assumption | exact hset_eq _ _ _ | refine (hset_ne _ _ (by omega)).trans ?_)) rfl ?_
    refine AW.cI2 (d' := d - 1) (cX11_189 rfl) okX6_meaningOf dX11_tellStatement_149 (by repeat (first | assumption | exact hset_eq _ _ _ | refine (hset_ne _ _ (by omega)).trans ?_)) (by omega) (W_meaningOf g94 s4 L4' (nmOK_S ok') Y4 (by omega) (by omega) (by omega) hh (fun h5 L5 F5 => ?_))
    have G5 : Fr h4 h5 (PT tr) := F5.mono (fun a ha => Or.inr (Or.inr (Or.inl (P76_PL ha))))
    have T5 := T4.mv G5 ((H3.fr F4 (by omega) ⟨by unfold PL; omega, by unfold PL; omega⟩).fr F5 (by omega) ⟨by unfold P76; omega, by unfold P76; omega⟩) (T4.2.1.fr F5 (by omega) (fun a ha => by unfold P76; omega) ok'.2.1) ok' L5.r (Y4.r.fr F5 (by omega) ⟨by unfold P76; omega, by unfold P76; omega⟩)
    have gt5 := T5.2.1.1
    have ec : cmS s sm = some (sc_c s (updI (s_c s) (ltr S.2.2.1 (p + 1) - 65).toNat (cnS s (-1) (sayP S.2.2.1 20 1 (p + 2)).2.2))) := by rw [esm]; rfl
    show AW _ _ _ _ _ _ _ [.inl (cnS s (-1) (sayP S.2.2.1 20 1 (p + 2)).2.2), _, _] _
    refine AW.cI3 (d' := d - 1) (cX11_293 rfl) okX8_coinName dX11_tellStatement_152 (by repeat (first | assumption | exact hset_eq _ _ _ | refine (hset_ne _ _ (by omega)).trans ?_)) (by omega) (V_coinName T5.2.1 ok' (by omega) (by omega) (by omega) (by omega) (fun h6 S6 F6 => ?_))
    refine AW.ist1 dX11_tellStatement_155 (by decide) ?_
    refine AW.goto (tgt := 185) dX11_tellStatement_156 (by decide) ?_
    have g95 := T5.1.2.2.1
    have H5 := T5.1.2.2.2.2.1
    have T6 := T5.mv (F6.mono (fun a ha => Or.inr (Or.inl ha))) (H5.fr F6 (by omega) ⟨by unfold PQ; omega, by unfold PQ; omega⟩) S6 (cmS_ok ok' smok ec) (T5.2.2.2.1.fr F6 (by omega) (fun a ha => by unfold PQ; omega)) (T5.2.2.2.2.2.2.2.fr F6 (by omega) ⟨by unfold PQ; omega, by unfold PQ; omega⟩)
    have G2 : Fr h1 h2 (PT tr) := F2.mono (fun a ha => Or.inl ha)
    exact LC_tellEnd T6 (Or.inr rfl) (by omega) (by omega) (fun h7 T7 F7 => hq1 _ ec h7 (by rw [eq]; exact T7) (((((G1.trans G2).trans (G3.trans G4)).trans G5).trans (F6.mono (fun a ha => Or.inr (Or.inl ha)))).trans F7))
  · dsimp only at c7
    show AW _ _ _ _ _ 69 _ _ _
    have T1 := T.let F1 H1
    have G1 : Fr h h1 (PT tr) := F1.mono (fun a ha => Or.inl ha)
    obtain ⟨A, eq, esm⟩ := stI_104 c7 hst
    have m16 := T1.1.2.1
    unfold CO at m16
    have n17 := H1.1
    have g91 := T1.1.2.2.1
    refine AW.aload_n dX11_tellStatement_69 rfl ?_
    refine AW.getf dX11_tellStatement_70 gX11_10 (by repeat (first | assumption | exact hset_eq _ _ _ | refine (hset_ne _ _ (by omega)).trans ?_)) rfl ?_
    refine AW.aload_n dX11_tellStatement_73 rfl ?_
    refine AW.getf dX11_tellStatement_74 gX11_77 (by repeat (first | assumption | exact hset_eq _ _ _ | refine (hset_ne _ _ (by omega)).trans ?_)) rfl ?_
    refine AW.cI2 (d' := d - 1) (cX11_283 rfl) okX5_readSaying dX11_tellStatement_77 (by repeat (first | assumption | exact hset_eq _ _ _ | refine (hset_ne _ _ (by omega)).trans ?_)) (by omega) (V_readSaying hL80 g91 (by omega) H1 T1.2.2.2.2.2.2.2 A (by omega) (fun h2 H2 Y2 F2 => ?_))
    have G2 : Fr h1 h2 (PT tr) := F2.mono (fun a ha => by unfold P178 at ha; unfold PT PB; omega)
    have T2 := T1.mv G2 H2 (T1.2.1.fr F2 (by omega) (fun a ha => by unfold P178; omega) ok'.2.1) ok' (T1.2.2.2.1.fr F2 g91 (fun a ha => by unfold P178; omega)) Y2.r
    have m162 := T2.1.2.1
    unfold CO at m162
    have gt := T2.2.1.1
    have g92 := T2.1.2.2.1
    have ec : cmS s sm = if s_h s = 6 then none else some (s_n s, s_k s, s_g s, s_l s, s_h s + 1, (fun i => if i = s_h s then (sayP S.2.2.1 20 1 (p + 1)).2.2 else s_w s i), s_c s) := by rw [esm]; rfl
    refine AW.aload_n dX11_tellStatement_80 rfl ?_
    refine AW.getf dX11_tellStatement_81 gX11_23 (by repeat (first | assumption | exact hset_eq _ _ _ | refine (hset_ne _ _ (by omega)).trans ?_)) rfl ?_
    refine AW.aload_n dX11_tellStatement_84 rfl ?_
    refine AW.getf dX11_tellStatement_85 gX11_77 (by repeat (first | assumption | exact hset_eq _ _ _ | refine (hset_ne _ _ (by omega)).trans ?_)) rfl ?_
    refine AW.cI2 (d' := d - 1) (cX11_286 rfl) okX8_addScholar dX11_tellStatement_88 (by repeat (first | assumption | exact hset_eq _ _ _ | refine (hset_ne _ _ (by omega)).trans ?_)) (by omega) (V_addScholar T2.2.1 ok' (by omega) g92 Y2 (by omega) (fun c => ?_) (fun c h4 S4 F4 => ?_))
    · refine AW.ist1 dX11_tellStatement_91 (by decide) ?_
      refine AW.goto (tgt := 185) dX11_tellStatement_92 (by decide) ?_
      first
        | (rw [if_pos c] at ec
           exact LC_tellEnd T2 (Or.inl rfl) (by omega) (by omega) (fun h5 T5 F5 => hq0 ec h5 _ T5 ((G1.trans G2).trans F5)))
        | (rw [if_neg c] at ec
           have T4 := T2.mv (F4.mono (fun a ha => Or.inr (Or.inl ha))) (H2.fr F4 (by omega) ⟨by unfold PQ; omega, by unfold PQ; omega⟩) S4 (cmS_ok ok' smok ec) (T2.2.2.2.1.fr F4 (by omega) (fun a ha => by unfold PQ; omega)) (T2.2.2.2.2.2.2.2.fr F4 (by omega) ⟨by unfold PQ; omega, by unfold PQ; omega⟩)
           exact LC_tellEnd T4 (Or.inr rfl) (by omega) (by omega) (fun h5 T5 F5 => hq1 _ ec h5 (by rw [eq]; exact T5) (((G1.trans G2).trans (F4.mono (fun a ha => Or.inr (Or.inl ha)))).trans F5)))
    · refine AW.ist1 dX11_tellStatement_91 (by decide) ?_
      refine AW.goto (tgt := 185) dX11_tellStatement_92 (by decide) ?_
      first
        | (rw [if_pos c] at ec
           exact LC_tellEnd T2 (Or.inl rfl) (by omega) (by omega) (fun h5 T5 F5 => hq0 ec h5 _ T5 ((G1.trans G2).trans F5)))
        | (rw [if_neg c] at ec
           have T4 := T2.mv (F4.mono (fun a ha => Or.inr (Or.inl ha))) (H2.fr F4 (by omega) ⟨by unfold PQ; omega, by unfold PQ; omega⟩) S4 (cmS_ok ok' smok ec) (T2.2.2.2.1.fr F4 (by omega) (fun a ha => by unfold PQ; omega)) (T2.2.2.2.2.2.2.2.fr F4 (by omega) ⟨by unfold PQ; omega, by unfold PQ; omega⟩)
           exact LC_tellEnd T4 (Or.inr rfl) (by omega) (by omega) (fun h5 T5 F5 => hq1 _ ec h5 (by rw [eq]; exact T5) (((G1.trans G2).trans (F4.mono (fun a ha => Or.inr (Or.inl ha)))).trans F5)))
  · dsimp only at c7
    show AW _ _ _ _ _ 40 _ _ _
    have T1 := T.let F1 H1
    have G1 : Fr h h1 (PT tr) := F1.mono (fun a ha => Or.inl ha)
    obtain ⟨A, B, e59, eq, esm⟩ := stI_115 c7 hst
    have B' : 48 ≤ ltr S.2.2.1 (p + 1 + 1) ∧ ltr S.2.2.1 (p + 1 + 1) ≤ 57 := B
    have m16 := T1.1.2.1
    unfold CO at m16
    have n17 := H1.1
    refine AW.aload_n dX11_tellStatement_40 rfl ?_
    refine AW.getf dX11_tellStatement_41 gX11_10 (by repeat (first | assumption | exact hset_eq _ _ _ | refine (hset_ne _ _ (by omega)).trans ?_)) rfl ?_
    refine AW.cI1 (d' := d - 1) (cX11_277 rfl) okX5_nextDigit dX11_tellStatement_44 (by repeat (first | assumption | exact hset_eq _ _ _ | refine (hset_ne _ _ (by omega)).trans ?_)) (by omega) (V_nextDigit hL80 hLb (by omega) H1 (by omega) (fun h2 H2 F2 => ?_))
    have T2 := T1.let F2 H2
    have m162 := T2.1.2.1
    unfold CO at m162
    have n172 := H2.1
    refine AW.ist2 dX11_tellStatement_47 (by decide) ?_
    refine AW.aload_n dX11_tellStatement_48 rfl ?_
    refine AW.getf dX11_tellStatement_49 gX11_10 (by repeat (first | assumption | exact hset_eq _ _ _ | refine (hset_ne _ _ (by omega)).trans ?_)) rfl ?_
    refine AW.cI1 (d' := d - 1) (cX11_277 rfl) okX5_nextDigit dX11_tellStatement_52 (by repeat (first | assumption | exact hset_eq _ _ _ | refine (hset_ne _ _ (by omega)).trans ?_)) (by omega) (V_nextDigit hL80 hLb (by omega) H2 (by omega) (fun h3 H3 F3 => ?_))
    have T3 := T2.let F3 H3
    have m163 := T3.1.2.1
    unfold CO at m163
    have g93 := T3.1.2.2.1
    have gt := T3.2.1.1
    have G3 : Fr h h3 (PT tr) := G1.trans ((F2.mono (fun a ha => Or.inl ha)).trans (F3.mono (fun a ha => Or.inl ha)))
    have ec : cmS s sm = if 5 < ltr S.2.2.1 (p + 1) - 48 ∨ s_n s = 5 then none else some (s_n s + 1, updI (s_k s) (s_n s) (ltr S.2.2.1 (p + 1) - 48), updI (s_g s) (s_n s) (ltr S.2.2.1 (p + 2) - 48), updI (s_l s) (s_n s) 0, s.2.2.2.2) := by rw [esm]; rfl
    refine AW.ist3 dX11_tellStatement_55 (by decide) ?_
    refine AW.aload_n dX11_tellStatement_56 rfl ?_
    refine AW.getf dX11_tellStatement_57 gX11_23 (by repeat (first | assumption | exact hset_eq _ _ _ | refine (hset_ne _ _ (by omega)).trans ?_)) rfl ?_
    refine AW.iload_n dX11_tellStatement_60 rfl ?_
    refine AW.iload_n dX11_tellStatement_61 rfl ?_
    refine AW.kI3 (d' := d - 1) 1 1 (cX11_280 rfl) okX8_addStranger dX11_tellStatement_62 gt (by omega) (bc'' := 0) (bs'' := 0) rfl rfl (V_addStranger T3.2.1 ok' (by omega) g93 (by omega) (by omega) (by omega) (by omega) (by omega) (fun c h4 S4 F4 => ?_) (fun c h4 S4 F4 => ?_))
    · rw [if_pos c] at ec
      have T4 := T3.mv (F4.mono (fun a ha => Or.inr (Or.inl ha))) (H3.fr F4 (by omega) ⟨by unfold PQ; omega, by unfold PQ; omega⟩) S4 ok' (T3.2.2.2.1.fr F4 (by omega) (fun a ha => by unfold PQ; omega)) (T3.2.2.2.2.2.2.2.fr F4 (by omega) ⟨by unfold PQ; omega, by unfold PQ; omega⟩)
      refine AW.ist1 dX11_tellStatement_65 (by decide) ?_
      refine AW.goto (tgt := 185) dX11_tellStatement_66 (by decide) ?_
      exact LC_tellEnd T4 (Or.inl rfl) (by omega) (by omega) (fun h5 T5 F5 => hq0 ec h5 _ T5 ((G3.trans (F4.mono (fun a ha => Or.inr (Or.inl ha)))).trans F5))
    · rw [if_neg c] at ec
      have T4 := T3.mv (F4.mono (fun a ha => Or.inr (Or.inl ha))) (H3.fr F4 (by omega) ⟨by unfold PQ; omega, by unfold PQ; omega⟩) S4 (cmS_ok ok' smok ec) (T3.2.2.2.1.fr F4 (by omega) (fun a ha => by unfold PQ; omega)) (T3.2.2.2.2.2.2.2.fr F4 (by omega) ⟨by unfold PQ; omega, by unfold PQ; omega⟩)
      refine AW.ist1 dX11_tellStatement_65 (by decide) ?_
      refine AW.goto (tgt := 185) dX11_tellStatement_66 (by decide) ?_
      exact LC_tellEnd T4 (Or.inr rfl) (by omega) (by omega) (fun h5 T5 F5 => hq1 _ ec h5 (by rw [eq]; exact T5) ((G3.trans (F4.mono (fun a ha => Or.inr (Or.inl ha)))).trans F5))
  · dsimp only [lkall] at c7
    have T1 := T.let F1 H1
    have G1 : Fr h h1 (PT tr) := F1.mono (fun a ha => Or.inl ha)
    have e108 : ltr S.2.2.1 p = 108 := by unfold isLt at hlt; omega
    obtain ⟨A, B, e59, eq, esm⟩ := stI_108 e108 hst
    have B' : 65 ≤ ltr S.2.2.1 (p + 1 + 1) ∧ ltr S.2.2.1 (p + 1 + 1) ≤ 68 := B
    have m16 := T1.1.2.1
    unfold CO at m16
    have n17 := H1.1
    refine AW.aload_n dX11_tellStatement_159 rfl ?_
    refine AW.getf dX11_tellStatement_160 gX11_10 (by repeat (first | assumption | exact hset_eq _ _ _ | refine (hset_ne _ _ (by omega)).trans ?_)) rfl ?_
    refine AW.cI1 (d' := d - 1) (cX11_277 rfl) okX5_nextDigit dX11_tellStatement_163 (by repeat (first | assumption | exact hset_eq _ _ _ | refine (hset_ne _ _ (by omega)).trans ?_)) (by omega) (V_nextDigit hL80 hLb (by omega) H1 (by omega) (fun h2 H2 F2 => ?_))
    have T2 := T1.let F2 H2
    have m162 := T2.1.2.1
    unfold CO at m162
    have n172 := H2.1
    refine AW.ist5 dX11_tellStatement_166 (by decide) ?_
    refine AW.aload_n dX11_tellStatement_168 rfl ?_
    refine AW.getf dX11_tellStatement_169 gX11_23 (by repeat (first | assumption | exact hset_eq _ _ _ | refine (hset_ne _ _ (by omega)).trans ?_)) rfl ?_
    refine AW.iload dX11_tellStatement_172 rfl ?_
    refine AW.aload_n dX11_tellStatement_174 rfl ?_
    refine AW.getf dX11_tellStatement_175 gX11_10 (by repeat (first | assumption | exact hset_eq _ _ _ | refine (hset_ne _ _ (by omega)).trans ?_)) rfl ?_
    refine AW.cI1 (d' := d - 1) (cX11_290 rfl) okX5_nextName dX11_tellStatement_178 (by repeat (first | assumption | exact hset_eq _ _ _ | refine (hset_ne _ _ (by omega)).trans ?_)) (by omega) (V_nextName hL80 hLb (by omega) H2 (by omega) (fun h3 H3 F3 => ?_))
    have T3 := T2.let F3 H3
    have gt := T3.2.1.1
    have g93 := T3.1.2.2.1
    have G3 : Fr h h3 (PT tr) := G1.trans ((F2.mono (fun a ha => Or.inl ha)).trans (F3.mono (fun a ha => Or.inl ha)))
    have ec : cmS s sm = if ¬ (ltr S.2.2.1 (p + 1) - 48) < s_n s then none else some (sc_l s (updI (s_l s) (ltr S.2.2.1 (p + 1) - 48).toNat (a_xor (s_l s (ltr S.2.2.1 (p + 1) - 48).toNat) (a_shl 1 (ltr S.2.2.1 (p + 2) - 65))))) := by rw [esm]; rfl
    refine AW.cI3 (d' := d - 1) (cX11_128 rfl) okX8_turnLearnt dX11_tellStatement_181 (by repeat (first | assumption | exact hset_eq _ _ _ | refine (hset_ne _ _ (by omega)).trans ?_)) (by omega) (V_turn T3.2.1 ok' (by omega) (by omega) (by omega) (by omega) (by omega) (fun c => ?_) (fun c h4 S4 F4 => ?_))
    · refine AW.ist1 dX11_tellStatement_184 (by decide) ?_
      first
        | (rw [if_pos c] at ec
           exact LC_tellEnd T3 (Or.inl rfl) (by omega) (by omega) (fun h5 T5 F5 => hq0 ec h5 _ T5 (G3.trans F5)))
        | (rw [if_neg (not_not_intro c)] at ec
           have T4 := T3.mv (F4.mono (fun a ha => Or.inr (Or.inl ha))) (H3.fr F4 (by omega) ⟨by unfold PQ; omega, by unfold PQ; omega⟩) S4 (cmS_ok ok' smok ec) (T3.2.2.2.1.fr F4 (by omega) (fun a ha => by unfold PQ; omega)) (T3.2.2.2.2.2.2.2.fr F4 (by omega) ⟨by unfold PQ; omega, by unfold PQ; omega⟩)
           exact LC_tellEnd T4 (Or.inr rfl) (by omega) (by omega) (fun h5 T5 F5 => hq1 _ ec h5 (by rw [eq]; exact T5) ((G3.trans (F4.mono (fun a ha => Or.inr (Or.inl ha)))).trans F5)))
    · refine AW.ist1 dX11_tellStatement_184 (by decide) ?_
      first
        | (rw [if_pos c] at ec
           exact LC_tellEnd T3 (Or.inl rfl) (by omega) (by omega) (fun h5 T5 F5 => hq0 ec h5 _ T5 (G3.trans F5)))
        | (rw [if_neg (not_not_intro c)] at ec
           have T4 := T3.mv (F4.mono (fun a ha => Or.inr (Or.inl ha))) (H3.fr F4 (by omega) ⟨by unfold PQ; omega, by unfold PQ; omega⟩) S4 (cmS_ok ok' smok ec) (T3.2.2.2.1.fr F4 (by omega) (fun a ha => by unfold PQ; omega)) (T3.2.2.2.2.2.2.2.fr F4 (by omega) ⟨by unfold PQ; omega, by unfold PQ; omega⟩)
           exact LC_tellEnd T4 (Or.inr rfl) (by omega) (by omega) (fun h5 T5 F5 => hq1 _ ec h5 (by rw [eq]; exact T5) ((G3.trans (F4.mono (fun a ha => Or.inr (Or.inl ha)))).trans F5)))
end Tell

