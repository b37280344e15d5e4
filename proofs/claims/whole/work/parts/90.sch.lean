section Sch
variable {d bc bs : Nat} {Q : Option AV → AH → Prop} {h h' : AH} {a b : Nat} {x y z k g v : Int} {s : SC} {P : Nat → Prop} {ws : List Nat}
theorem SchA.ns {sts : List AV} {f : Nat → Int} (H : SchA h b s) (ok : scOK s) (hb : 16 ≤ b ∧ b + 17 ≤ 72) (e1 : h.2 (b + 1) = .inl (33, sts)) (e2 : h.2 (b + 2) = .inr (5, f)) (hS : StA h a k g) (ha : 136 ≤ a) (hn : s_n s < 5) :
    SchA (hset (hset (hset h (b + 1) (.inl (32 + 1, sts.set (s_n s) (.inr a)))) (b + 2) (.inr (5, updI f (s_n s) 0))) b (.inl (8 + 1, [.inr (b + 1), .inr (b + 2), .inl ((s_n s : Int) + 1), .inr (b + 3), .inl (s_h s : Int), .inr (b + 4)]))) b (s_n s + 1, updI (s_k s) (s_n s) k, updI (s_g s) (s_n s) g, updI (s_l s) (s_n s) 0, s.2.2.2.2) := by
  have oh := ok.2.1
  obtain ⟨h1, ⟨sts0, h2, h3, h4, h5⟩, ⟨f0, h6, h7⟩, h8, ⟨fc, h9, h10⟩, h11, h12⟩ := H
  have es : sts0 = sts := by rw [h2] at e1; cases e1; rfl
  have ef : f0 = f := by rw [h6] at e2; cases e2; rfl
  subst es ef
  have F : Fr h (hset (hset (hset h (b + 1) (.inl (32 + 1, sts0.set (s_n s) (.inr a)))) (b + 2) (.inr (5, updI f0 (s_n s) 0))) b (.inl (8 + 1, [.inr (b + 1), .inr (b + 2), .inl ((s_n s : Int) + 1), .inr (b + 3), .inl (s_h s : Int), .inr (b + 4)]))) (fun a => b ≤ a ∧ a < b + 3) := ((Fr.set (by omega)).trans (Fr.set (by omega))).trans (Fr.set (by omega))
  have fe : ∀ {n : Nat} {u v : Int} (p : Nat → Int), n = s_n s → updI p (s_n s) u n = u := fun p e => by rw [e, updI_eq]
  refine ⟨hset_eq _ _ _, ⟨sts0.set (s_n s) (.inr a), (hset_ne _ _ (by omega)).trans ((hset_ne _ _ (by omega)).trans (hset_eq _ _ _)), by rw [List.length_set]; exact h3, fun i hi => ?_, fun i hi => ?_⟩, ⟨updI f0 (s_n s) 0, (hset_ne _ _ (by omega)).trans (hset_eq _ _ _), fun i hi => ?_⟩, ?_, ⟨fc, ?_, h10⟩, fun i hi => ?_, fun i hi => ?_⟩
  · rw [List.getElem?_set]
    by_cases q : s_n s = i
    · rw [if_pos q, if_pos (by omega)]; exact ⟨a, rfl⟩
    · rw [if_neg q]; exact h4 i hi
  · have hi' : i < s_n s + 1 := hi
    show ∃ a', _ ∧ _ ∧ StA _ a' (updI (s_k s) (s_n s) k i) (updI (s_g s) (s_n s) g i)
    rw [List.getElem?_set]
    by_cases q : s_n s = i
    · rw [if_pos q, if_pos (by omega), ← q, updI_eq, updI_eq]
      exact ⟨a, rfl, ha, hS.fr F (fun a ha => by omega)⟩
    · rw [if_neg q, updI_ne _ _ (fun z => q z.symm), updI_ne _ _ (fun z => q z.symm)]
      obtain ⟨a', u1, u2, u3⟩ := h5 i (by omega)
      exact ⟨a', u1, u2, u3.fr F (fun a ha => by omega)⟩
  · have hi' : i < s_n s + 1 := hi
    show _ = updI (s_l s) (s_n s) 0 i
    by_cases q : i = s_n s
    · rw [q, updI_eq, updI_eq]
    · rw [updI_ne _ _ q, updI_ne _ _ q]; exact h7 i (by omega)
  · exact (hset_ne _ _ (by omega)).trans ((hset_ne _ _ (by omega)).trans ((hset_ne _ _ (by omega)).trans h8))
  · exact (hset_ne _ _ (by omega)).trans ((hset_ne _ _ (by omega)).trans ((hset_ne _ _ (by omega)).trans h9))
  · obtain ⟨n0, f1, w1, w2⟩ := h11 i hi
    exact ⟨n0, f1, (hset_ne _ _ (by omega)).trans ((hset_ne _ _ (by omega)).trans ((hset_ne _ _ (by omega)).trans w1)), (hset_ne _ _ (by omega)).trans ((hset_ne _ _ (by omega)).trans ((hset_ne _ _ (by omega)).trans w2))⟩
  · have hi' : i < s_h s := hi
    obtain ⟨f1, w1, w2, w3⟩ := h12 i hi'
    exact ⟨f1, (hset_ne _ _ (by omega)).trans ((hset_ne _ _ (by omega)).trans ((hset_ne _ _ (by omega)).trans w1)), (hset_ne _ _ (by omega)).trans ((hset_ne _ _ (by omega)).trans ((hset_ne _ _ (by omega)).trans w2)), w3⟩
theorem V_addStranger (H : SchA h b s) (ok : scOK s) (hb : 16 ≤ b ∧ b + 17 ≤ 72) (h9 : 120 ≤ h.1) (k0 : 0 ≤ k) (k9 : k ≤ 9) (g0 : 0 ≤ g) (g9 : g ≤ 9) (hd : 5 ≤ d)
    (hq0 : (5 < k ∨ s_n s = 5) → ∀ h', SchA h' b s → Fr h h' (PQ b) → Q (some (.inl 0)) h') (hq1 : ¬ (5 < k ∨ s_n s = 5) → ∀ h', SchA h' b (s_n s + 1, updI (s_k s) (s_n s) k, updI (s_g s) (s_n s) g, updI (s_l s) (s_n s) 0, s.2.2.2.2) → Fr h h' (PQ b) → Q (some (.inl 1)) h') : MW d 1 1 mX8_addStranger [.inr b, .inl k, .inl g] h Q := by
  have o := ok.1
  have z0 : (0 : Int) = 0 ∨ (0 : Int) = 1 := Or.inl rfl
  have z1 : (1 : Int) = 0 ∨ (1 : Int) = 1 := Or.inr rfl
  have gb := H.1
  show AW d 1 1 mX8_addStranger Q 0 [some (.inr b), some (.inl k), some (.inl g), none] [] h
  refine AW.iload_n dX8_addStranger_0 rfl ?_
  refine AW.iload_n dX8_addStranger_1 rfl ?_
  refine AW.kS2 (d' := d - 1) 1 1 (cX8_48 rfl) okX10_ofKind dX8_addStranger_2 (by omega) (bc'' := 0) (bs'' := 0) rfl rfl (V_ofKind h9 k0 k9 g0 g9 (by omega) (fun k5 h1 S1 F1 => ?_) (fun k5 => ?_))
  · have F11 := F1.1
    have H1 := H.fr F1 (by omega) (fun a _ q => q) ok.2.1
    obtain ⟨gb1, ⟨sts, e1, e2, e3, e4⟩, ⟨f, e5, e6⟩, -⟩ := id H1
    obtain ⟨u, us, v1, v2, v3⟩ := S1.cst
    refine AW.ast3 dX8_addStranger_5 (by decide) ?_
    refine AW.aload_n dX8_addStranger_6 rfl ?_
    refine AW.ifnull (tgt := 18) dX8_addStranger_7 (by decide) (fun c => absurd c (by omega)) (fun c => ?_)
    refine AW.aload_n dX8_addStranger_10 rfl ?_
    refine AW.getf dX8_addStranger_11 gX8_21 (by repeat (first | assumption | exact hset_eq _ _ _ | refine (hset_ne _ _ (by omega)).trans ?_)) rfl ?_
    refine AW.iconst dX8_addStranger_14 ?_
    refine AW.if_icmplt (tgt := 20) dX8_addStranger_15 (by decide) (fun c15 => ?_) (fun c15 => ?_)
    · refine AW.aload_n dX8_addStranger_20 rfl ?_
      refine AW.getf dX8_addStranger_21 gX8_11 (by repeat (first | assumption | exact hset_eq _ _ _ | refine (hset_ne _ _ (by omega)).trans ?_)) rfl ?_
      refine AW.aload_n dX8_addStranger_24 rfl ?_
      refine AW.getf dX8_addStranger_25 gX8_21 (by repeat (first | assumption | exact hset_eq _ _ _ | refine (hset_ne _ _ (by omega)).trans ?_)) rfl ?_
      refine AW.aload_n dX8_addStranger_28 rfl ?_
      refine AW.aastore dX8_addStranger_29 e1 (by decide) v1 v2 v3 (by omega) (by omega) ?_
      refine AW.aload_n dX8_addStranger_30 rfl ?_
      refine AW.getf dX8_addStranger_31 gX8_17 (by repeat (first | assumption | exact hset_eq _ _ _ | refine (hset_ne _ _ (by omega)).trans ?_)) rfl ?_
      refine AW.aload_n dX8_addStranger_34 rfl ?_
      refine AW.getf dX8_addStranger_35 gX8_21 (by repeat (first | assumption | exact hset_eq _ _ _ | refine (hset_ne _ _ (by omega)).trans ?_)) rfl ?_
      refine AW.iconst dX8_addStranger_38 ?_
      refine AW.iastore dX8_addStranger_39 (by omega) (by repeat (first | assumption | exact hset_eq _ _ _ | refine (hset_ne _ _ (by omega)).trans ?_)) (by omega) (by omega) ?_
      refine AW.aload_n dX8_addStranger_40 rfl ?_
      refine AW.dup dX8_addStranger_41 ?_
      refine AW.getf dX8_addStranger_42 gX8_21 (by repeat (first | assumption | exact hset_eq _ _ _ | refine (hset_ne _ _ (by omega)).trans ?_)) rfl ?_
      refine AW.iconst dX8_addStranger_45 ?_
      refine AW.iaddR dX8_addStranger_46 (by unfold RI; omega) ?_
      refine AW.putf dX8_addStranger_47 pX8_21 (by repeat (first | assumption | exact hset_eq _ _ _ | refine (hset_ne _ _ (by omega)).trans ?_)) trivial ?_
      refine AW.iconst dX8_addStranger_50 ?_
      refine AW.zreturn dX8_addStranger_51 rfl (Or.inr rfl) ?_
      rw [show ((s_n s : Int)).toNat = s_n s by omega]
      refine hq1 (by omega) _ (H1.ns ok hb e1 e5 S1 (by omega) (by omega)) ((F1.mono (fun a q => q.elim)).trans (((Fr.set ?_).trans (Fr.set ?_)).trans (Fr.set ?_)))
      · unfold PQ; omega
      · unfold PQ; omega
      · unfold PQ; omega
    · refine AW.iconst dX8_addStranger_18 ?_
      refine AW.zreturn dX8_addStranger_19 rfl (Or.inl rfl) ?_
      exact hq0 (Or.inr (by omega)) h1 H1 (F1.mono (fun a q => q.elim))
  · skip
    refine AW.ast3 dX8_addStranger_5 (by decide) ?_
    refine AW.aload_n dX8_addStranger_6 rfl ?_
    refine AW.ifnull (tgt := 18) dX8_addStranger_7 (by decide) (fun c => ?_) (fun c => absurd rfl c)
    refine AW.iconst dX8_addStranger_18 ?_
    refine AW.zreturn dX8_addStranger_19 rfl (Or.inl rfl) ?_
    exact hq0 (Or.inl k5) h H Fr.rfl'
theorem V_addScholar (H : SchA h b s) (ok : scOK s) (hb : 16 ≤ b ∧ b + 17 ≤ 72) (h9 : 120 ≤ h.1) (Y : SyA h 84 ws) (hd : 3 ≤ d)
    (hq0 : s_h s = 6 → Q (some (.inl 0)) h) (hq1 : ¬ s_h s = 6 → ∀ h', SchA h' b (s_n s, s_k s, s_g s, s_l s, s_h s + 1, (fun i => if i = s_h s then ws else s_w s i), s_c s) → Fr h h' (PQ b) → Q (some (.inl 1)) h') : MW d 0 0 mX8_addScholar [.inr b, .inr 84] h Q := by
  have o := ok.2.1
  have z0 : (0 : Int) = 0 ∨ (0 : Int) = 1 := Or.inl rfl
  have z1 : (1 : Int) = 0 ∨ (1 : Int) = 1 := Or.inr rfl
  obtain ⟨h1, ⟨sts0, h2, hsl, h4, h5⟩, ⟨f0, h6, h7⟩, h8, ⟨fc, h9', h10⟩, h11, h12⟩ := id H
  show AW d 0 0 mX8_addScholar Q 0 [some (.inr b), some (.inr 84)] [] h
  refine AW.aload_n dX8_addScholar_0 rfl ?_
  refine AW.getf dX8_addScholar_1 gX8_31 (by repeat (first | assumption | exact hset_eq _ _ _ | refine (hset_ne _ _ (by omega)).trans ?_)) rfl ?_
  refine AW.bipush dX8_addScholar_4 ?_
  refine AW.if_icmplt (tgt := 11) dX8_addScholar_6 (by decide) (fun c6 => ?_) (fun c6 => ?_)
  · have hs6 : s_h s < 6 := by omega
    have q1 : ([.inr (b + 5), .inr (b + 7), .inr (b + 9), .inr (b + 11), .inr (b + 13), .inr (b + 15)] : List AV)[((s_h s : Int)).toNat]? = _ := sayAt (l := []) b (by omega)
    rw [show ((s_h s : Int)).toNat = s_h s by omega] at q1
    have hy := h11 (s_h s) hs6
    obtain ⟨n0, f1, y1, y2⟩ := id hy
    refine AW.aload_n dX8_addScholar_11 rfl ?_
    refine AW.getf dX8_addScholar_12 gX8_27 (by repeat (first | assumption | exact hset_eq _ _ _ | refine (hset_ne _ _ (by omega)).trans ?_)) rfl ?_
    refine AW.aload_n dX8_addScholar_15 rfl ?_
    refine AW.getf dX8_addScholar_16 gX8_31 (by repeat (first | assumption | exact hset_eq _ _ _ | refine (hset_ne _ _ (by omega)).trans ?_)) rfl ?_
    refine AW.aaload dX8_addScholar_19 (by repeat (first | assumption | exact hset_eq _ _ _ | refine (hset_ne _ _ (by omega)).trans ?_)) (by decide) (by omega) q1 ?_
    refine AW.aload_n dX8_addScholar_20 rfl ?_
    refine AW.cI2 (d' := d - 1) (cX8_44 rfl) okX7_copy dX8_addScholar_21 (by repeat (first | assumption | exact hset_eq _ _ _ | refine (hset_ne _ _ (by omega)).trans ?_)) (by omega) (W_copy (by omega) (by omega) (by omega) (by omega) hy Y (fun h3 Y3 F3 => ?_))
    have F31 := F3.1
    have H3 := H
    have k1 := (F3.2 b (by omega) (by unfold PB; omega)).trans h1
    refine AW.aload_n dX8_addScholar_24 rfl ?_
    refine AW.dup dX8_addScholar_25 ?_
    refine AW.getf dX8_addScholar_26 gX8_31 (by repeat (first | assumption | exact hset_eq _ _ _ | refine (hset_ne _ _ (by omega)).trans ?_)) rfl ?_
    refine AW.iconst dX8_addScholar_29 ?_
    refine AW.iaddR dX8_addScholar_30 (by unfold RI; omega) ?_
    refine AW.putf dX8_addScholar_31 pX8_31 (by repeat (first | assumption | exact hset_eq _ _ _ | refine (hset_ne _ _ (by omega)).trans ?_)) trivial ?_
    refine AW.iconst dX8_addScholar_34 ?_
    refine AW.zreturn dX8_addScholar_35 rfl (Or.inr rfl) ?_
    have F4 : Fr h3 (hset h3 b (.inl (8 + 1, [.inr (b + 1), .inr (b + 2), .inl (s_n s : Int), .inr (b + 3), .inl ((s_h s : Int) + 1), .inr (b + 4)]))) (fun a => a = b) := Fr.set rfl
    have FF : Fr h (hset h3 b (.inl (8 + 1, [.inr (b + 1), .inr (b + 2), .inl (s_n s : Int), .inr (b + 3), .inl ((s_h s : Int) + 1), .inr (b + 4)]))) (fun a => a = b ∨ PB (b + 5 + 2 * s_h s) a) := (F3.mono (fun a => Or.inr)).trans (F4.mono (fun a => Or.inl))
    refine hq1 (by omega) _ ⟨hset_eq _ _ _, ⟨sts0, (FF.2 _ (by omega) (by unfold PB; omega)).trans h2, hsl, h4, fun i hi => ?_⟩, ⟨f0, (FF.2 _ (by omega) (by unfold PB; omega)).trans h6, h7⟩, (FF.2 _ (by omega) (by unfold PB; omega)).trans h8, ⟨fc, (FF.2 _ (by omega) (by unfold PB; omega)).trans h9', h10⟩, fun i hi => ?_, fun i hi => ?_⟩ (FF.mono (fun a ha => by unfold PB at ha; unfold PQ; omega))
    · obtain ⟨a', u1, u2, u3⟩ := h5 i hi
      exact ⟨a', u1, u2, u3.fr FF (fun a ha => by unfold PB; omega)⟩
    · by_cases q : i = s_h s
      · rw [q]; exact Y3.r.fr F4 (by omega) ⟨by omega, by omega⟩
      · exact (h11 i hi).fr FF (by omega) ⟨by unfold PB; omega, by unfold PB; omega⟩
    · have hi' : i < s_h s + 1 := hi
      show SyA _ _ (if i = s_h s then ws else s_w s i)
      by_cases q : i = s_h s
      · rw [if_pos q, q]; exact Y3.fr F4 (by omega) ⟨by omega, by omega⟩
      · rw [if_neg q]; exact (h12 i (by omega)).fr FF (by omega) ⟨by unfold PB; omega, by unfold PB; omega⟩
  · refine AW.iconst dX8_addScholar_9 ?_
    refine AW.zreturn dX8_addScholar_10 rfl (Or.inl rfl) ?_
    exact hq0 (by omega)
theorem V_coinName (H : SchA h b s) (ok : scOK s) (hb : 16 ≤ b ∧ b + 17 ≤ 72) (x0 : 0 ≤ x) (x4 : x < 4) (hd : 1 ≤ d)
    (hq1 : ∀ h', SchA h' b (sc_c s (updI (s_c s) x.toNat v)) → Fr h h' (PQ b) → Q (some (.inl 1)) h') : MW d 0 0 mX8_coinName [.inr b, .inl x, .inl v] h Q := by
  have z1 : (1 : Int) = 0 ∨ (1 : Int) = 1 := Or.inr rfl
  obtain ⟨h1, -, -, -, ⟨fc, h9', h10⟩, -⟩ := id H
  show AW d 0 0 mX8_coinName Q 0 [some (.inr b), some (.inl x), some (.inl v)] [] h
  refine AW.iload_n dX8_coinName_0 rfl ?_
  refine AW.cS1 (d' := d - 1) (cX8_52 rfl) okX11_noName dX8_coinName_1 (by omega) (W_noName (fun c => absurd c (by omega)) (fun c c' => ?_))
  refine AW.ifeq_t (tgt := 9) dX8_coinName_4 (by decide) rfl ?_
  refine AW.aload_n dX8_coinName_9 rfl ?_
  refine AW.getf dX8_coinName_10 gX8_34 (by repeat (first | assumption | exact hset_eq _ _ _ | refine (hset_ne _ _ (by omega)).trans ?_)) rfl ?_
  refine AW.iload_n dX8_coinName_13 rfl ?_
  refine AW.iload_n dX8_coinName_14 rfl ?_
  refine AW.iastore dX8_coinName_15 (by omega) (by repeat (first | assumption | exact hset_eq _ _ _ | refine (hset_ne _ _ (by omega)).trans ?_)) (by omega) (by omega) ?_
  refine AW.iconst dX8_coinName_16 ?_
  refine AW.zreturn dX8_coinName_17 rfl (Or.inr rfl) ?_
  refine hq1 _ (H.c hb ok.2.1 (fun i hi => ?_)) (Fr.set (by unfold PQ; omega))
  by_cases q : i = x.toNat
  · rw [q, updI_eq, updI_eq]
  · rw [updI_ne _ _ q, updI_ne _ _ q]; exact h10 i hi
theorem V_turn (H : SchA h b s) (ok : scOK s) (hb : 16 ≤ b ∧ b + 17 ≤ 72) (x0 : 0 ≤ x) (y0 : 0 ≤ y) (y4 : y < 4) (hd : 1 ≤ d)
    (hq0 : ¬ x < s_n s → Q (some (.inl 0)) h) (hq1 : x < s_n s → ∀ h', SchA h' b (sc_l s (updI (s_l s) x.toNat (a_xor (s_l s x.toNat) (a_shl 1 y)))) → Fr h h' (PQ b) → Q (some (.inl 1)) h') : MW d 0 0 mX8_turnLearnt [.inr b, .inl x, .inl y] h Q := by
  obtain ⟨h1, -, ⟨f, h6, h7⟩, -⟩ := id H
  refine W_turnLearnt hb.1 h1 h6 ok.1 hd (fun c => hq0 (by omega)) (fun c => hq1 c.1.2 _ (H.l hb ok.2.1 (fun i hi => ?_)) (Fr.set (by unfold PQ; omega)))
  by_cases q : i = x.toNat
  · rw [q, updI_eq, updI_eq, h7 _ (by omega)]
  · rw [updI_ne _ _ q, updI_ne _ _ q]; exact h7 i hi
end Sch

