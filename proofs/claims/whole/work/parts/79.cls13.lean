section Cls13
variable {d : Nat} {Q : Option AV → AH → Prop} {h h' : AH} {nw tr b : Nat} {ik sd at' tc : Int} {S S' : ST} {P : Nat → Prop} {s : SC} {x y z who k g more : Int} {nm : Nat → Int}
def bW (who : Int) : Nat := if who < 0 then 111 else 86 + 5 * who.toNat
/-- the fewest words of one to whom now are known -/
def FewS (h : AH) (b : Nat) (s : SC) (who more : Int) : Prop := ∃ (a : Nat) (kn : Nat → Int), FWv h b a kn (kkS s who) (ggS s who) (lvS s who more) ∧ StA h a (kkS s who) (ggS s who) ∧ knOK kn ∧ lvS s who more = lvN kn (kn 4)
theorem FewS.v (H : FewS h b s who more) : FewV h b := by
  obtain ⟨a, kn, h1, h2, h3, h4⟩ := H
  rw [h4] at h1
  exact Or.inr ⟨a, kn, _, _, h1, h2, h3⟩
theorem FewS.fr (F : Fr h h' P) (hb : b + 5 ≤ 16 + h.1) (hp : ∀ x, PF b x ∨ x = 72 ∨ 136 ≤ x → ¬ P x) (H : FewS h b s who more) : FewS h' b s who more := by
  obtain ⟨a, kn, h1, h2, h3, h4⟩ := H
  exact ⟨a, kn, h1.fr F hb (fun x hx => hp x (Or.inl hx)), h2.fr F (fun x hx => hp x (Or.inr hx)), h3, h4⟩
theorem LVok_S (ok : scOK s) (h2 : who < s_n s) (hm : more ≤ 255) : LVok (kkS s who) (ggS s who) (lvS s who more) := ⟨(kkS_b ok h2).2, fun x hx => lvS_in8 ok hm hx, fun n x hr => BTS ok h2 hm hr⟩
theorem bW_b (h1 : -1 ≤ who) (h2 : who < 5) : 79 ≤ bW who ∧ bW who + 5 ≤ 116 ∧ 86 ≤ bW who := by
  unfold bW
  split <;> omega
def PW (a : Nat) : Prop := PL a ∨ (79 ≤ a ∧ a < 116 ∧ a ≠ 84 ∧ a ≠ 85)
theorem PW_PS {a : Nat} (h : PW a) : PS a := by unfold PW PL at h; unfold PS; omega
theorem PW_PC {a : Nat} (h : PW a) : PC a := by unfold PW PL at h; unfold PC; omega
/-- after the fewest words at b have been asked -/
theorem SCR.few (F : Fr h h' (fun a => PL a ∨ PF b a)) (h9 : 120 ≤ h.1) (hb : b = 79 ∨ ∃ i, i < 6 ∧ b = 86 + 5 * i) (hF : FewV h' b) (H : SCR h) : SCR h' := by
  obtain ⟨⟨f, h1⟩, h2, h3, h4⟩ := H
  refine ⟨⟨f, (F.2 77 (by omega) (by unfold PL PF; rcases hb with q | ⟨i, q1, q2⟩ <;> omega)).trans h1⟩, ?_, fun i hi => ?_, h4.fr F (by omega) ⟨by unfold PL PF; rcases hb with q | ⟨i, q1, q2⟩ <;> omega, by unfold PL PF; rcases hb with q | ⟨i, q1, q2⟩ <;> omega⟩⟩
  · by_cases z : b = 79
    · rw [z] at hF; exact hF
    · exact h2.fr F (by omega) (fun x hx => by unfold PF at hx; unfold PL PF; rcases hb with q | ⟨i, q1, q2⟩ <;> omega)
  · by_cases z : b = 86 + 5 * i
    · rw [z] at hF; exact hF
    · exact (h3 i hi).fr F (by omega) (fun x hx => by unfold PF at hx; unfold PL PF; rcases hb with q | ⟨i, q1, q2⟩ <;> omega)
theorem fewAt {i : Nat} (hi : i < 6) : ([.inr 86, .inr 91, .inr 96, .inr 101, .inr 106, .inr 111] : List AV)[i]? = some (.inr (86 + 5 * i)) := by
  have : i = 0 ∨ i = 1 ∨ i = 2 ∨ i = 3 ∨ i = 4 ∨ i = 5 := by omega
  rcases this with rfl | rfl | rfl | rfl | rfl | rfl <;> rfl
theorem C_fewestFor (HM : CM h nw tr ik sd at' S) (HL : LisR h) (HS : SCR h) (hd : 6 ≤ d) (h1 : -1 ≤ who) (h2 : who < s_n S.1)
    (hq : ∀ h', LisA h' (kkS S.1 who) (ggS S.1 who) (nmS S.1 who) (-9) → FewS h' (bW who) S.1 who (-9) → Fr h h' (fun a => PL a ∨ PF (bW who) a) → Q (some (.inr (bW who))) h') : MW d 0 0 mX11_fewestFor [.inr 16, .inl who] h Q := by
  obtain ⟨k1, g16, h9, k2, k3, k4, k5, k6, k7, k8, k10, k11, ok⟩ := id HM
  have g16' := g16
  unfold CO at g16'
  have o := ok.1.1
  show AW d 0 0 mX11_fewestFor Q 0 [some (.inr 16), some (.inl who), none] [] h
  refine AW.aload_n dX11_fewestFor_0 rfl ?_
  refine AW.iload_n dX11_fewestFor_1 rfl ?_
  refine AW.cI2 (d' := d - 1) (cX11_154 rfl) okX11_listenAs dX11_fewestFor_2 (by repeat (first | assumption | exact hset_eq _ _ _ | refine (hset_ne _ _ (by omega)).trans ?_)) (by omega) (C_listenAs HM HL (by omega) h1 h2 (fun h3 L3 F3 => ?_))
  have HM3 := HM.fr F3 (fun a => PL_PS)
  obtain ⟨-, q16, q9, q2, -, q4, -, -, -, -, -, q11, -⟩ := id HM3
  have q16' := q16
  unfold CO at q16'
  have qn := q4.1
  have hbb := bW_b (who := who) h1 (by omega)
  have fin : ∀ i : Nat, i < 6 → bW who = 86 + 5 * i → AW d 0 0 mX11_fewestFor Q 23 [some (.inr 16), some (.inl who), none] [.inr (86 + 5 * i)] h3 := by
    intro i hi eb
    have HS3 := HS.fr F3 h9 (fun a ha => by unfold PL; omega)
    have hF := HS3.2.2.1 i hi
    obtain ⟨a0, kn0, W0, FD0, ST0, c0, L0, lg0, X⟩ := hF.x
    obtain ⟨x0, -⟩ := id X
    obtain ⟨aL, fL, fL2, l73, -⟩ := id L3
    rw [eb] at hq
    refine AW.ast2 dX11_fewestFor_23 (by decide) ?_
    refine AW.aload_n dX11_fewestFor_24 rfl ?_
    refine AW.aload_n dX11_fewestFor_25 rfl ?_
    refine AW.getf dX11_fewestFor_26 gX11_56 (by repeat (first | assumption | exact hset_eq _ _ _ | refine (hset_ne _ _ (by omega)).trans ?_)) rfl ?_
    refine AW.cI2 (d' := d - 1) (cX11_244 rfl) okX3_turnTo dX11_fewestFor_29 (by repeat (first | assumption | exact hset_eq _ _ _ | refine (hset_ne _ _ (by omega)).trans ?_)) (by omega) (W_turnTo hF L3 (by omega) q9 q2.2.2.1 (by omega) (fun j hj => nmS_b ok.1 hj) (Or.inl rfl) (fun h4 a kn X1 X2 X3 X4 X5 F4 => ?_))
    refine AW.aload_n dX11_fewestFor_32 rfl ?_
    refine AW.areturn dX11_fewestFor_33 rfl ?_
    have el : lvS S.1 who (-9) = lvN kn (kn 4) := by
      rw [X5]
      exact (lvN_congr X4).symm
    refine hq h4 (L3.fr F4 q9 (fun a ha => by unfold PF; omega)) ⟨a, kn, by rw [el]; exact X1, X2, X3, el⟩ ((F3.mono (fun a => Or.inl)).trans (F4.mono (fun a => Or.inr)))
  by_cases hw : who < 0
  · have eb : bW who = 86 + 5 * 5 := if_pos hw
    refine AW.aload_n dX11_fewestFor_5 rfl ?_
    refine AW.getf dX11_fewestFor_6 gX11_65 (by repeat (first | assumption | exact hset_eq _ _ _ | refine (hset_ne _ _ (by omega)).trans ?_)) rfl ?_
    refine AW.aload_n dX11_fewestFor_9 rfl ?_
    refine AW.iload_n dX11_fewestFor_10 rfl ?_
    refine AW.cI2 (d' := d - 1) (cX11_108 rfl) okX11_noStranger dX11_fewestFor_11 (by repeat (first | assumption | exact hset_eq _ _ _ | refine (hset_ne _ _ (by omega)).trans ?_)) (by omega) (C_noStr q16 qn (fun c => ?_) (fun c cb => absurd c (by omega)))
    refine AW.ifeq_f (tgt := 21) dX11_fewestFor_14 (by decide) (by decide) ?_
    refine AW.iconst dX11_fewestFor_17 ?_
    refine AW.goto (tgt := 22) dX11_fewestFor_18 (by decide) ?_
    refine AW.aaload dX11_fewestFor_22 (by repeat (first | assumption | exact hset_eq _ _ _ | refine (hset_ne _ _ (by omega)).trans ?_)) (by decide) (by omega) (fewAt (i := 5) (by decide)) ?_
    exact fin 5 (by decide) eb
  · have eb : bW who = 86 + 5 * who.toNat := if_neg hw
    refine AW.aload_n dX11_fewestFor_5 rfl ?_
    refine AW.getf dX11_fewestFor_6 gX11_65 (by repeat (first | assumption | exact hset_eq _ _ _ | refine (hset_ne _ _ (by omega)).trans ?_)) rfl ?_
    refine AW.aload_n dX11_fewestFor_9 rfl ?_
    refine AW.iload_n dX11_fewestFor_10 rfl ?_
    refine AW.cI2 (d' := d - 1) (cX11_108 rfl) okX11_noStranger dX11_fewestFor_11 (by repeat (first | assumption | exact hset_eq _ _ _ | refine (hset_ne _ _ (by omega)).trans ?_)) (by omega) (C_noStr q16 qn (fun c => absurd c (by omega)) (fun c cb => ?_))
    refine AW.ifeq_t (tgt := 21) dX11_fewestFor_14 (by decide) rfl ?_
    refine AW.iload_n dX11_fewestFor_21 rfl ?_
    refine AW.aaload dX11_fewestFor_22 (by repeat (first | assumption | exact hset_eq _ _ _ | refine (hset_ne _ _ (by omega)).trans ?_)) (by decide) (by omega) (fewAt (i := who.toNat) (by omega)) ?_
    exact fin who.toNat (by omega) eb
theorem bW_or (h1 : -1 ≤ who) (h2 : who < 5) : bW who = 79 ∨ ∃ i, i < 6 ∧ bW who = 86 + 5 * i := by
  refine Or.inr ?_
  by_cases hw : who < 0
  · exact ⟨5, by decide, if_pos hw⟩
  · exact ⟨who.toNat, by omega, if_neg hw⟩
/-- how many words -/
theorem C_words {x : Nat} (ok : scOK s) (h2 : who < s_n s) (hm : more ≤ 255) (hb : 79 ≤ b ∧ b + 5 ≤ 116) (h9 : 120 ≤ h.1) (hd : 5 ≤ d) (hx : x < 256) (H : FewS h b s who more)
    (hq : ∀ h', FewS h' b s who more → Fr h h' (PF b) → Q (some (.inl (shS s who more (x : Int)))) h') : MW d 0 0 mX3_wordsFor [.inr b, .inl (x : Int)] h Q := by
  obtain ⟨a, kn, h1, hS, h3, h4⟩ := H
  exact W_wordsFor (LVok_S ok h2 hm) hb h9 hS hd hx h1 (fun h' X F => hq h' ⟨a, kn, X, hS.fr F (fun a ha => by unfold PF; omega), h3, h4⟩ F)
theorem FewS.o (H : FewS h b s who more) : ∃ vs, h.2 b = .inl (4, vs) := by
  obtain ⟨a, kn, ⟨W, FD, ST, cnt, L, lg, X, -⟩, -⟩ := H
  exact ⟨_, X.1⟩
theorem C_shortest (H : CS h S) (hd : 7 ≤ d) (hq : ∀ r S' h', (r, S') = o_shortest S who x → CS h' S' → Fr h h' PC → Q (some (.inl r)) h') : MW d 0 0 mX11_shortest [.inr 16, .inl who, .inl x] h Q := by
  obtain ⟨nw, tr, ik, sd, at', HM, HL, HS⟩ := id H
  obtain ⟨k1, g16, h9, k2, k3, k4, k5, k6, k7, k8, k10, k11, ok⟩ := id HM
  have gn := k4.1
  have g16' := g16
  unfold CO at g16'
  have o := ok.1.1
  show AW d 0 0 mX11_shortest Q 0 [some (.inr 16), some (.inl who), some (.inl x)] [] h
  refine AW.aload_n dX11_shortest_0 rfl ?_
  refine AW.iload_n dX11_shortest_1 rfl ?_
  refine AW.cI2 (d' := d - 1) (cX11_151 rfl) okX11_noListener dX11_shortest_2 (by repeat (first | assumption | exact hset_eq _ _ _ | refine (hset_ne _ _ (by omega)).trans ?_)) (by omega) (C_noLis (by assumption) (by assumption) (by omega) (by omega) (fun c2 => ?_) (fun c2 c2b => ?_))
  · refine AW.ifeq_f (tgt := 14) dX11_shortest_5 (by decide) (by decide) ?_
    refine AW.aload_n dX11_shortest_8 rfl ?_
    refine AW.iconst dX11_shortest_9 ?_
    refine AW.cI2 (d' := d - 1) (cX11_84 rfl) okX11_refused dX11_shortest_10 (by repeat (first | assumption | exact hset_eq _ _ _ | refine (hset_ne _ _ (by omega)).trans ?_)) (by omega) (C_refused (by assumption) (by decide) (by decide) (fun h10 hC hF => ?_))
    refine AW.ireturn dX11_shortest_13 rfl ?_
    first
      | exact hq (-1) (rf S 1) _ (by unfold o_shortest; rw [if_pos (by omega)]) hC hF
      | exact hq (-4) (rf S 4) _ (by unfold o_shortest; rw [if_neg (by omega), if_pos (by omega)]) hC hF
      | exact hq (-6) (rf S 6) _ (by unfold o_shortest; rw [if_neg (by omega), if_neg (by omega), if_pos (by omega)]) hC hF
  · refine AW.ifeq_t (tgt := 14) dX11_shortest_5 (by decide) rfl ?_
    refine AW.iload_n dX11_shortest_14 rfl ?_
    refine AW.ifge (tgt := 24) dX11_shortest_15 (by decide) (fun c15 => ?_) (fun c15 => ?_)
    · refine AW.iload_n dX11_shortest_24 rfl ?_
      refine AW.sipush dX11_shortest_25 ?_
      refine AW.if_icmple (tgt := 38) dX11_shortest_28 (by decide) (fun c28 => ?_) (fun c28 => ?_)
      · have ex : x = ((x.toNat : Nat) : Int) := by omega
        have hbb := bW_b (who := who) (by omega) (by omega)
        refine AW.aload_n dX11_shortest_38 rfl ?_
        refine AW.iload_n dX11_shortest_39 rfl ?_
        refine AW.cI2 (d' := d - 1) (cX11_169 rfl) okX11_fewestFor dX11_shortest_40 (by repeat (first | assumption | exact hset_eq _ _ _ | refine (hset_ne _ _ (by omega)).trans ?_)) (by omega) (C_fewestFor HM HL HS (by omega) (by omega) (by omega) (fun h2 L2 X2 F2 => ?_))
        obtain ⟨vs, hv⟩ := X2.o
        rw [ex]
        refine AW.iload_n dX11_shortest_43 rfl ?_
        refine AW.cI2 (d' := d - 1) (cX11_173 rfl) okX3_wordsFor dX11_shortest_44 (by repeat (first | assumption | exact hset_eq _ _ _ | refine (hset_ne _ _ (by omega)).trans ?_)) (by omega) (C_words ok.1 (by omega) (by decide) ⟨hbb.1, hbb.2.1⟩ (Nat.le_trans h9 F2.1) (by omega) (by omega) X2 (fun h3 X3 F3 => ?_))
        refine AW.ireturn dX11_shortest_47 rfl ?_
        have F := F2.trans (F3.mono (fun a => Or.inr))
        have hp : ∀ a, (PL a ∨ PF (bW who) a) → PS a := fun a ha => by unfold PL PF at ha; unfold PS; omega
        exact hq _ S h3 (by unfold o_shortest; rw [if_neg (by omega), if_neg (by omega), if_neg (by omega), ← ex]) ⟨nw, tr, ik, sd, at', HM.fr F hp, (L2.fr F3 (Nat.le_trans h9 F2.1) (fun a ha => by unfold PF; omega)).r, HS.few F h9 (bW_or (by omega) (by omega)) X3.v⟩ (F.mono (fun a ha => by unfold PL PF at ha; unfold PC; omega))
      · refine AW.aload_n dX11_shortest_31 rfl ?_
        refine AW.bipush dX11_shortest_32 ?_
        refine AW.cI2 (d' := d - 1) (cX11_84 rfl) okX11_refused dX11_shortest_34 (by repeat (first | assumption | exact hset_eq _ _ _ | refine (hset_ne _ _ (by omega)).trans ?_)) (by omega) (C_refused (by assumption) (by decide) (by decide) (fun h34 hC hF => ?_))
        refine AW.ireturn dX11_shortest_37 rfl ?_
        first
          | exact hq (-1) (rf S 1) _ (by unfold o_shortest; rw [if_pos (by omega)]) hC hF
          | exact hq (-4) (rf S 4) _ (by unfold o_shortest; rw [if_neg (by omega), if_pos (by omega)]) hC hF
          | exact hq (-6) (rf S 6) _ (by unfold o_shortest; rw [if_neg (by omega), if_neg (by omega), if_pos (by omega)]) hC hF
    · refine AW.aload_n dX11_shortest_18 rfl ?_
      refine AW.iconst dX11_shortest_19 ?_
      refine AW.cI2 (d' := d - 1) (cX11_84 rfl) okX11_refused dX11_shortest_20 (by repeat (first | assumption | exact hset_eq _ _ _ | refine (hset_ne _ _ (by omega)).trans ?_)) (by omega) (C_refused (by assumption) (by decide) (by decide) (fun h20 hC hF => ?_))
      refine AW.ireturn dX11_shortest_23 rfl ?_
      first
        | exact hq (-1) (rf S 1) _ (by unfold o_shortest; rw [if_pos (by omega)]) hC hF
        | exact hq (-4) (rf S 4) _ (by unfold o_shortest; rw [if_neg (by omega), if_pos (by omega)]) hC hF
        | exact hq (-6) (rf S 6) _ (by unfold o_shortest; rw [if_neg (by omega), if_neg (by omega), if_pos (by omega)]) hC hF
end Cls13

