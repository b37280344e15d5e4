section Cls17
variable {d bc bs : Nat} {Q : Option AV → AH → Prop} {h h' : AH} {nw tr a b c : Nat} {ik sd at' tc : Int} {S S' : ST} {P : Nat → Prop} {s s' : SC} {x y z who k g more v j : Int} {nm : Nat → Int} {vs : List AV}
theorem kTag_c (k : Int) : ∃ u, kTag k = u + 1 ∧ u < 32 ∧ a_cast 32 u = true := by
  unfold kTag
  split
  · exact ⟨10, rfl, by decide, rfl⟩
  split
  · exact ⟨4, rfl, by decide, rfl⟩
  split
  · exact ⟨1, rfl, by decide, rfl⟩
  split
  · exact ⟨0, rfl, by decide, rfl⟩
  split
  · exact ⟨9, rfl, by decide, rfl⟩
  · exact ⟨2, rfl, by decide, rfl⟩
theorem StA.cst (H : StA h a k g) : ∃ u us, h.2 a = .inl (u + 1, us) ∧ u < 32 ∧ a_cast 32 u = true := by
  obtain ⟨u, e, h1, h2⟩ := kTag_c k
  have := H.1
  rw [e] at this
  exact ⟨u, _, this, h1, h2⟩
def PQ (b a : Nat) : Prop := b ≤ a ∧ a < b + 17
/-- what has been copied of the strangers -/
def I1 (h : AH) (b : Nat) (s : SC) (stc : List AV) (m : Int) (n : Nat) (h1 : AH) : Prop := h1.2 b = .inl (9, [.inr (b + 1), .inr (b + 2), .inl (s_n s : Int), .inr (b + 3), .inl m, .inr (b + 4)]) ∧
  (∃ sts : List AV, h1.2 (b + 1) = .inl (33, sts) ∧ sts.length = 5 ∧ (∀ i, i < 5 → ∃ a, sts[i]? = some (.inr a)) ∧ ∀ i, i < n → sts[i]? = stc[i]?) ∧
  (∃ f : Nat → Int, h1.2 (b + 2) = .inr (5, f) ∧ ∀ i, i < n → f i = s_l s i) ∧ Fr h h1 (fun a => b ≤ a ∧ a < b + 3)
theorem LC_copy1 {stc : List AV} {fc : Nat → Int} {m : Int} (hbc : b + 17 ≤ c ∨ c + 17 ≤ b) (hb : 16 ≤ b ∧ b + 17 ≤ 72) (hc : 16 ≤ c ∧ c + 17 ≤ 72) (h9 : 120 ≤ h.1)
    (c0 : h.2 c = .inl (9, [.inr (c + 1), .inr (c + 2), .inl (s_n s : Int), .inr (c + 3), .inl (s_h s : Int), .inr (c + 4)])) (c1 : h.2 (c + 1) = .inl (33, stc)) (c2 : h.2 (c + 2) = .inr (5, fc)) (ok : scOK s) (hst : ∀ i, i < s_n s → ∃ a, stc[i]? = some (.inr a) ∧ 136 ≤ a ∧ StA h a (s_k s i) (s_g s i)) (hfc : ∀ i, i < s_n s → fc i = s_l s i)
    (hq : ∀ h1 z, I1 h b s stc m (s_n s) h1 → AW d bc bs mX8_copy Q 48 [some (.inr b), some (.inr c), z] [] h1) :
    ∀ (r n : Nat) (h1 : AH), n + r = s_n s → I1 h b s stc m n h1 → AW d bc bs mX8_copy Q 10 [some (.inr b), some (.inr c), some (.inl (n : Int))] [] h1 := by
  have o := ok.1
  intro r
  induction r with
  | zero =>
    intro n h1 hn H
    obtain ⟨e0, -⟩ := id H
    obtain rfl : n = s_n s := by omega
    refine AW.iload_n dX8_copy_10 rfl ?_
    refine AW.aload_n dX8_copy_11 rfl ?_
    refine AW.getf dX8_copy_12 gX8_21 (by repeat (first | assumption | exact hset_eq _ _ _ | refine (hset_ne _ _ (by omega)).trans ?_)) rfl ?_
    refine AW.if_icmpge (tgt := 48) dX8_copy_15 (by decide) (fun c15 => ?_) (fun c15 => absurd c15 (by omega))
    exact hq h1 _ H
  | succ r ih =>
    intro n h1 hn H
    obtain ⟨e0, ⟨sts, e1, e2, e3, e4⟩, ⟨f, e5, e6⟩, F⟩ := id H
    have d0 := (F.2 c (by omega) (by omega)).trans c0
    have d1 := (F.2 (c + 1) (by omega) (by omega)).trans c1
    have d2 := (F.2 (c + 2) (by omega) (by omega)).trans c2
    obtain ⟨a, p1, p2, p3⟩ := hst n (by omega)
    have p4 := p3.fr F (fun a ha => by omega)
    obtain ⟨u, us, v1, v2, v3⟩ := p4.cst
    refine AW.iload_n dX8_copy_10 rfl ?_
    refine AW.aload_n dX8_copy_11 rfl ?_
    refine AW.getf dX8_copy_12 gX8_21 (by repeat (first | assumption | exact hset_eq _ _ _ | refine (hset_ne _ _ (by omega)).trans ?_)) rfl ?_
    refine AW.if_icmpge (tgt := 48) dX8_copy_15 (by decide) (fun c15 => absurd c15 (by omega)) (fun c15 => ?_)
    refine AW.aload_n dX8_copy_18 rfl ?_
    refine AW.getf dX8_copy_19 gX8_11 (by repeat (first | assumption | exact hset_eq _ _ _ | refine (hset_ne _ _ (by omega)).trans ?_)) rfl ?_
    refine AW.iload_n dX8_copy_22 rfl ?_
    refine AW.aload_n dX8_copy_23 rfl ?_
    refine AW.getf dX8_copy_24 gX8_11 (by repeat (first | assumption | exact hset_eq _ _ _ | refine (hset_ne _ _ (by omega)).trans ?_)) rfl ?_
    refine AW.iload_n dX8_copy_27 rfl ?_
    refine AW.aaload dX8_copy_28 (by repeat (first | assumption | exact hset_eq _ _ _ | refine (hset_ne _ _ (by omega)).trans ?_)) (by decide) (by omega) p1 ?_
    refine AW.aastore dX8_copy_29 e1 (by decide) v1 v2 v3 (by omega) (by omega) ?_
    rw [show ((n : Int)).toNat = n by omega]
    have F2 : Fr h1 (hset h1 (b + 1) (.inl (32 + 1, sts.set n (.inr a)))) (fun a => b ≤ a ∧ a < b + 3) := Fr.set (by omega)
    have k1 : (hset h1 (b + 1) (.inl (32 + 1, sts.set n (.inr a)))).2 (b + 1) = .inl (33, sts.set n (.inr a)) := hset_eq _ _ _
    have k0 : (hset h1 (b + 1) (.inl (32 + 1, sts.set n (.inr a)))).2 b = _ := (hset_ne _ _ (by omega)).trans e0
    have k5 : (hset h1 (b + 1) (.inl (32 + 1, sts.set n (.inr a)))).2 (b + 2) = _ := (hset_ne _ _ (by omega)).trans e5
    have l0 : (hset h1 (b + 1) (.inl (32 + 1, sts.set n (.inr a)))).2 c = _ := (hset_ne _ _ (by omega)).trans d0
    have l2 : (hset h1 (b + 1) (.inl (32 + 1, sts.set n (.inr a)))).2 (c + 2) = _ := (hset_ne _ _ (by omega)).trans d2
    generalize hset h1 (b + 1) (.inl (32 + 1, sts.set n (.inr a))) = h2 at F2 k1 k0 k5 l0 l2 ⊢
    refine AW.aload_n dX8_copy_30 rfl ?_
    refine AW.getf dX8_copy_31 gX8_17 (by repeat (first | assumption | exact hset_eq _ _ _ | refine (hset_ne _ _ (by omega)).trans ?_)) rfl ?_
    refine AW.iload_n dX8_copy_34 rfl ?_
    refine AW.aload_n dX8_copy_35 rfl ?_
    refine AW.getf dX8_copy_36 gX8_17 (by repeat (first | assumption | exact hset_eq _ _ _ | refine (hset_ne _ _ (by omega)).trans ?_)) rfl ?_
    refine AW.iload_n dX8_copy_39 rfl ?_
    refine AW.iaload dX8_copy_40 (by repeat (first | assumption | exact hset_eq _ _ _ | refine (hset_ne _ _ (by omega)).trans ?_)) (by omega) (by omega) ?_
    refine AW.iastore dX8_copy_41 (by omega) (by repeat (first | assumption | exact hset_eq _ _ _ | refine (hset_ne _ _ (by omega)).trans ?_)) (by omega) (by omega) ?_
    refine AW.inc2 dX8_copy_42 (by decide) (by unfold RI; omega) ?_
    refine AW.goto (tgt := 10) dX8_copy_45 (by decide) ?_
    refine ih (n + 1) _ (by omega) ⟨(hset_ne _ _ (by omega)).trans k0, ⟨sts.set n (.inr a), (hset_ne _ _ (by omega)).trans k1, by rw [List.length_set]; exact e2, fun i hi => ?_, fun i hi => ?_⟩, ⟨_, hset_eq _ _ _, fun i hi => ?_⟩, (F.trans F2).trans (Fr.set (by omega))⟩
    · rw [List.getElem?_set]
      by_cases q : n = i
      · rw [if_pos q, if_pos (by omega)]; exact ⟨a, rfl⟩
      · rw [if_neg q]; exact e3 i hi
    · rw [List.getElem?_set]
      by_cases q : n = i
      · rw [if_pos q, if_pos (by omega), ← q]; exact p1.symm
      · rw [if_neg q]; exact e4 i (by omega)
    · rw [show ((n : Int)).toNat = n by omega]
      by_cases q : i = n
      · rw [q, updI_eq]; exact hfc n (by omega)
      · rw [updI_ne _ _ q]; exact e6 i (by omega)
/-- what has been copied of the sayings -/
def I2 (h : AH) (b : Nat) (s : SC) (n : Nat) (h1 : AH) : Prop := (∀ i, i < 6 → SyR h1 (b + 5 + 2 * i)) ∧ (∀ i, i < n → SyA h1 (b + 5 + 2 * i) (s_w s i)) ∧ Fr h h1 (fun a => b + 5 ≤ a ∧ a < b + 17)
theorem LC_copy2 {v : AV} (hbc : b + 17 ≤ c ∨ c + 17 ≤ b) (hb : 16 ≤ b ∧ b + 17 ≤ 72) (hc : 16 ≤ c ∧ c + 17 ≤ 72) (h9 : 120 ≤ h.1) (hd : 3 ≤ d) (b0 : h.2 b = .inl (9, [.inr (b + 1), .inr (b + 2), .inl (s_n s : Int), .inr (b + 3), .inl (s_h s : Int), .inr (b + 4)])) (b3 : h.2 (b + 3) = .inl (34, [.inr (b + 5), .inr (b + 7), .inr (b + 9), .inr (b + 11), .inr (b + 13), .inr (b + 15)]))
    (c0 : h.2 c = .inl (9, [.inr (c + 1), .inr (c + 2), .inl (s_n s : Int), .inr (c + 3), .inl (s_h s : Int), .inr (c + 4)])) (c3 : h.2 (c + 3) = .inl (34, [.inr (c + 5), .inr (c + 7), .inr (c + 9), .inr (c + 11), .inr (c + 13), .inr (c + 15)])) (ok : scOK s) (hs : ∀ i, i < s_h s → SyA h (c + 5 + 2 * i) (s_w s i))
    (hq : ∀ h1 z, I2 h b s (s_h s) h1 → AW d 0 0 mX8_copy Q 87 [some (.inr b), some (.inr c), z] [] h1) :
    ∀ (r n : Nat) (h1 : AH), n + r = s_h s → I2 h b s n h1 → AW d 0 0 mX8_copy Q 58 [some (.inr b), some (.inr c), some (.inl (n : Int))] [] h1 := by
  have o := ok.2.1
  intro r
  induction r with
  | zero =>
    intro n h1 hn H
    have d0 := (H.2.2.2 b (by omega) (by omega)).trans b0
    obtain rfl : n = s_h s := by omega
    refine AW.iload_n dX8_copy_58 rfl ?_
    refine AW.aload_n dX8_copy_59 rfl ?_
    refine AW.getf dX8_copy_60 gX8_31 (by repeat (first | assumption | exact hset_eq _ _ _ | refine (hset_ne _ _ (by omega)).trans ?_)) rfl ?_
    refine AW.if_icmpge (tgt := 87) dX8_copy_63 (by decide) (fun c63 => ?_) (fun c63 => absurd c63 (by omega))
    exact hq h1 _ H
  | succ r ih =>
    intro n h1 hn H
    obtain ⟨e1, e2, F⟩ := id H
    have d0 := (F.2 b (by omega) (by omega)).trans b0
    have d3 := (F.2 (b + 3) (by omega) (by omega)).trans b3
    have p0 := (F.2 c (by omega) (by omega)).trans c0
    have p3 := (F.2 (c + 3) (by omega) (by omega)).trans c3
    have F1 := F.1
    have hsc := (hs n (by omega)).fr F (by omega) ⟨by omega, by omega⟩
    have hsb := e1 n (by omega)
    have q1 : ([.inr (b + 5), .inr (b + 7), .inr (b + 9), .inr (b + 11), .inr (b + 13), .inr (b + 15)] : List AV)[((n : Int)).toNat]? = _ := sayAt (l := []) b (by omega)
    have q2 : ([.inr (c + 5), .inr (c + 7), .inr (c + 9), .inr (c + 11), .inr (c + 13), .inr (c + 15)] : List AV)[((n : Int)).toNat]? = _ := sayAt (l := []) c (by omega)
    rw [show ((n : Int)).toNat = n by omega] at q1 q2
    obtain ⟨n0, f0, sy1, sy2⟩ := id hsb
    refine AW.iload_n dX8_copy_58 rfl ?_
    refine AW.aload_n dX8_copy_59 rfl ?_
    refine AW.getf dX8_copy_60 gX8_31 (by repeat (first | assumption | exact hset_eq _ _ _ | refine (hset_ne _ _ (by omega)).trans ?_)) rfl ?_
    refine AW.if_icmpge (tgt := 87) dX8_copy_63 (by decide) (fun c63 => absurd c63 (by omega)) (fun c63 => ?_)
    refine AW.aload_n dX8_copy_66 rfl ?_
    refine AW.getf dX8_copy_67 gX8_27 (by repeat (first | assumption | exact hset_eq _ _ _ | refine (hset_ne _ _ (by omega)).trans ?_)) rfl ?_
    refine AW.iload_n dX8_copy_70 rfl ?_
    refine AW.aaload dX8_copy_71 (by repeat (first | assumption | exact hset_eq _ _ _ | refine (hset_ne _ _ (by omega)).trans ?_)) (by decide) (by omega) q1 ?_
    refine AW.aload_n dX8_copy_72 rfl ?_
    refine AW.getf dX8_copy_73 gX8_27 (by repeat (first | assumption | exact hset_eq _ _ _ | refine (hset_ne _ _ (by omega)).trans ?_)) rfl ?_
    refine AW.iload_n dX8_copy_76 rfl ?_
    refine AW.aaload dX8_copy_77 (by repeat (first | assumption | exact hset_eq _ _ _ | refine (hset_ne _ _ (by omega)).trans ?_)) (by decide) (by omega) q2 ?_
    refine AW.cI2 (d' := d - 1) (cX8_44 rfl) okX7_copy dX8_copy_78 (by repeat (first | assumption | exact hset_eq _ _ _ | refine (hset_ne _ _ (by omega)).trans ?_)) (by omega) (W_copy (by omega) (by omega) (by omega) (by omega) hsb hsc (fun h4 Y4 F4 => ?_))
    refine AW.inc2 dX8_copy_81 (by decide) (by unfold RI; omega) ?_
    refine AW.goto (tgt := 58) dX8_copy_84 (by decide) ?_
    have F5 := F.trans (F4.mono (fun a ha => by unfold PB at ha; omega))
    refine ih (n + 1) h4 (by omega) ⟨fun i hi => ?_, fun i hi => ?_, F5⟩
    · by_cases q : i = n
      · rw [q]; exact Y4.r
      · exact (e1 i hi).fr F4 (by omega) ⟨by unfold PB; omega, by unfold PB; omega⟩
    · by_cases q : i = n
      · rw [q]; exact Y4
      · exact (e2 i (by omega)).fr F4 (by omega) ⟨by unfold PB; omega, by unfold PB; omega⟩
theorem LC_copy3 {fc : Nat → Int} {e f : Nat → Int} (hbc : b + 17 ≤ c ∨ c + 17 ≤ b) (hb : 16 ≤ b ∧ b + 17 ≤ 72) (hc : 16 ≤ c ∧ c + 17 ≤ 72) {B0 C0 : List AV} (b0 : h.2 b = .inl (9, B0)) (b4 : B0[5]? = some (.inr (b + 4))) (c0 : h.2 c = .inl (9, C0)) (c4 : C0[5]? = some (.inr (c + 4))) (c5 : h.2 (c + 4) = .inr (4, fc)) (h9 : 120 ≤ h.1)
    (hq : ∀ h1 f, h1.2 (b + 4) = .inr (4, f) → (∀ i, i < 4 → f i = fc i) → Fr h h1 (fun a => a = b + 4) → Q none h1) :
    ∀ (r n : Nat) (h1 : AH) (f : Nat → Int), n + r = 4 → h1.2 (b + 4) = .inr (4, f) → (∀ i, i < n → f i = fc i) → Fr h h1 (fun a => a = b + 4) → AW d 0 0 mX8_copy Q 89 [some (.inr b), some (.inr c), some (.inl (n : Int))] [] h1 := by
  intro r
  induction r with
  | zero =>
    intro n h1 f hn e1 e2 F
    obtain rfl : n = 4 := by omega
    refine AW.iload_n dX8_copy_89 rfl ?_
    refine AW.iconst dX8_copy_90 ?_
    refine AW.if_icmpge (tgt := 112) dX8_copy_91 (by decide) (fun c91 => ?_) (fun c91 => absurd c91 (by decide))
    refine AW.vreturn dX8_copy_112 rfl ?_
    exact hq h1 f e1 e2 F
  | succ r ih =>
    intro n h1 f hn e1 e2 F
    have d0 := (F.2 b (by omega) (by omega)).trans b0
    have p0 := (F.2 c (by omega) (by omega)).trans c0
    have p5 := (F.2 (c + 4) (by omega) (by omega)).trans c5
    refine AW.iload_n dX8_copy_89 rfl ?_
    refine AW.iconst dX8_copy_90 ?_
    refine AW.if_icmpge (tgt := 112) dX8_copy_91 (by decide) (fun c91 => absurd c91 (by omega)) (fun c91 => ?_)
    refine AW.aload_n dX8_copy_94 rfl ?_
    refine AW.getf dX8_copy_95 gX8_34 (by repeat (first | assumption | exact hset_eq _ _ _ | refine (hset_ne _ _ (by omega)).trans ?_)) b4 ?_
    refine AW.iload_n dX8_copy_98 rfl ?_
    refine AW.aload_n dX8_copy_99 rfl ?_
    refine AW.getf dX8_copy_100 gX8_34 (by repeat (first | assumption | exact hset_eq _ _ _ | refine (hset_ne _ _ (by omega)).trans ?_)) c4 ?_
    refine AW.iload_n dX8_copy_103 rfl ?_
    refine AW.iaload dX8_copy_104 (by repeat (first | assumption | exact hset_eq _ _ _ | refine (hset_ne _ _ (by omega)).trans ?_)) (by omega) (by omega) ?_
    refine AW.iastore dX8_copy_105 (by omega) (by repeat (first | assumption | exact hset_eq _ _ _ | refine (hset_ne _ _ (by omega)).trans ?_)) (by omega) (by omega) ?_
    refine AW.inc2 dX8_copy_106 (by decide) (by unfold RI; omega) ?_
    refine AW.goto (tgt := 89) dX8_copy_109 (by decide) ?_
    refine ih (n + 1) _ _ (by omega) (hset_eq _ _ _) (fun i hi => ?_) (F.trans (Fr.set rfl))
    rw [show ((n : Int)).toNat = n by omega]
    by_cases q : i = n
    · rw [q, updI_eq]
    · rw [updI_ne _ _ q]; exact e2 i (by omega)
theorem W_schCopy (hbc : b + 17 ≤ c ∨ c + 17 ≤ b) (hb : 16 ≤ b ∧ b + 17 ≤ 72) (hc : 16 ≤ c ∧ c + 17 ≤ 72) (h9 : 120 ≤ h.1) (hd : 3 ≤ d) (ok : scOK s) (HB : SchV h b) (HC : SchA h c s)
    (hq : ∀ h', SchA h' b s → Fr h h' (PQ b) → Q none h') : MW d 0 0 mX8_copy [.inr b, .inr c] h Q := by
  have oh := ok.2.1
  obtain ⟨s0, ok0, B0, ⟨stb, B1, B2, B3, -⟩, ⟨fb, B5, -⟩, B6, ⟨fb2, B7, -⟩, B9, -⟩ := HB
  obtain ⟨C0, ⟨stc, C1, C2, C3, C4⟩, ⟨fc, C5, C5'⟩, C6, ⟨fc2, C7, C8⟩, C9, C10⟩ := id HC
  show AW d 0 0 mX8_copy Q 0 [some (.inr b), some (.inr c), none] [] h
  refine AW.aload_n dX8_copy_0 rfl ?_
  refine AW.aload_n dX8_copy_1 rfl ?_
  refine AW.getf dX8_copy_2 gX8_21 (by repeat (first | assumption | exact hset_eq _ _ _ | refine (hset_ne _ _ (by omega)).trans ?_)) rfl ?_
  refine AW.putf dX8_copy_5 pX8_21 (by repeat (first | assumption | exact hset_eq _ _ _ | refine (hset_ne _ _ (by omega)).trans ?_)) trivial ?_
  refine AW.iconst dX8_copy_8 ?_
  refine AW.ist2 dX8_copy_9 (by decide) ?_
  refine LC_copy1 (m := (s_h s0 : Int)) hbc hb hc h9 C0 C1 C5 ok C4 C5' (fun h1 z X1 => ?_) (s_n s) 0 _ (by omega) ⟨hset_eq _ _ _, ⟨stb, (hset_ne _ _ (by omega)).trans B1, B2, B3, fun i hi => by omega⟩, ⟨fb, (hset_ne _ _ (by omega)).trans B5, fun i hi => by omega⟩, Fr.set (by omega)⟩
  obtain ⟨e0, ⟨sts, e1, e2, e3, e4⟩, ⟨f, e5, e6⟩, F⟩ := X1
  have d0 := (F.2 c (by omega) (by omega)).trans C0
  have F1 := F.1
  refine AW.aload_n dX8_copy_48 rfl ?_
  refine AW.aload_n dX8_copy_49 rfl ?_
  refine AW.getf dX8_copy_50 gX8_31 (by repeat (first | assumption | exact hset_eq _ _ _ | refine (hset_ne _ _ (by omega)).trans ?_)) rfl ?_
  refine AW.putf dX8_copy_53 pX8_31 (by repeat (first | assumption | exact hset_eq _ _ _ | refine (hset_ne _ _ (by omega)).trans ?_)) trivial ?_
  have F2 : Fr h1 (hset h1 b (.inl (9, [.inr (b + 1), .inr (b + 2), .inl (s_n s : Int), .inr (b + 3), .inl (s_h s : Int), .inr (b + 4)]))) (fun a => b ≤ a ∧ a < b + 3) := Fr.set (by omega)
  have k0 : (hset h1 b (.inl (9, [.inr (b + 1), .inr (b + 2), .inl (s_n s : Int), .inr (b + 3), .inl (s_h s : Int), .inr (b + 4)]))).2 b = _ := hset_eq _ _ _
  have k1 : (hset h1 b (.inl (9, [.inr (b + 1), .inr (b + 2), .inl (s_n s : Int), .inr (b + 3), .inl (s_h s : Int), .inr (b + 4)]))).2 (b + 1) = _ := (hset_ne _ _ (by omega)).trans e1
  have k2 : (hset h1 b (.inl (9, [.inr (b + 1), .inr (b + 2), .inl (s_n s : Int), .inr (b + 3), .inl (s_h s : Int), .inr (b + 4)]))).2 (b + 2) = _ := (hset_ne _ _ (by omega)).trans e5
  show AW _ _ _ _ _ _ _ _ (hset h1 b (.inl (9, [.inr (b + 1), .inr (b + 2), .inl (s_n s : Int), .inr (b + 3), .inl (s_h s : Int), .inr (b + 4)])))
  generalize hset h1 b (.inl (9, [.inr (b + 1), .inr (b + 2), .inl (s_n s : Int), .inr (b + 3), .inl (s_h s : Int), .inr (b + 4)])) = h2 at F2 k0 k1 k2 ⊢
  have F3 := F.trans F2
  have F31 := F3.1
  have p0 := (F3.2 c (by omega) (by omega)).trans C0
  have p6 := (F3.2 (c + 3) (by omega) (by omega)).trans C6
  have k3 := (F3.2 (b + 3) (by omega) (by omega)).trans B6
  refine AW.iconst dX8_copy_56 ?_
  refine AW.ist2 dX8_copy_57 (by decide) ?_
  refine LC_copy2 (v := .inl 0) hbc hb hc (by omega) hd k0 k3 p0 p6 ok (fun i hi => (C10 i hi).fr F3 (by omega) ⟨by omega, by omega⟩) (fun h3 z X3 => ?_) (s_h s) 0 h2 (by omega) ⟨fun i hi => (B9 i hi).fr F3 (by omega) ⟨by omega, by omega⟩, fun i hi => by omega, Fr.rfl'⟩
  obtain ⟨y1, y2, F4⟩ := X3
  have F41 := F4.1
  have b4 := (F4.2 (b + 4) (by omega) (by omega)).trans ((F3.2 (b + 4) (by omega) (by omega)).trans B7)
  have c4 := (F4.2 (c + 4) (by omega) (by omega)).trans ((F3.2 (c + 4) (by omega) (by omega)).trans C7)
  have b0 := (F4.2 b (by omega) (by omega)).trans k0
  have c0 := (F4.2 c (by omega) (by omega)).trans p0
  refine AW.iconst dX8_copy_87 ?_
  refine AW.ist2 dX8_copy_88 (by decide) ?_
  refine LC_copy3 (f := fb2) (e := fb2) hbc hb hc b0 rfl c0 rfl c4 (by omega) (fun h5 f5 x1 x2 F5 => ?_) 4 0 h3 fb2 (by omega) b4 (fun i hi => by omega) Fr.rfl'
  have FT := (F3.mono (P2 := PQ b) (fun a ha => by unfold PQ; omega)).trans ((F4.mono (P2 := PQ b) (fun a ha => by unfold PQ; omega)).trans (F5.mono (P2 := PQ b) (fun a ha => by unfold PQ; omega)))
  refine hq h5 ⟨(F5.2 b (by omega) (by omega)).trans b0, ⟨sts, (F5.2 (b + 1) (by omega) (by omega)).trans ((F4.2 (b + 1) (by omega) (by omega)).trans k1), e2, e3, fun i hi => ?_⟩, ⟨f, (F5.2 (b + 2) (by omega) (by omega)).trans ((F4.2 (b + 2) (by omega) (by omega)).trans k2), e6⟩, (F5.2 (b + 3) (by omega) (by omega)).trans ((F4.2 (b + 3) (by omega) (by omega)).trans k3), ⟨f5, x1, fun i hi => (x2 i hi).trans (C8 i hi)⟩, fun i hi => (y1 i hi).fr F5 (by omega) ⟨by omega, by omega⟩, fun i hi => (y2 i hi).fr F5 (by have := ok.2.1; omega) ⟨by omega, by omega⟩⟩ FT
  obtain ⟨a, z1, z2, z3⟩ := C4 i hi
  exact ⟨a, (e4 i hi).trans z1, z2, z3.fr FT (fun a ha => by unfold PQ; omega)⟩
theorem CM.re {s' : SC} {o' : Option SC} {nw' tr' : Nat} {ik' sd' at'' : Int} (F : Fr h h' P) (hp : ∀ a, P a → a = 16 ∨ a = 17 ∨ (19 ≤ a ∧ a < 70) ∨ PS a) (H : CM h nw tr ik sd at' S) (hn : (nw' = 19 ∧ tr' = 36) ∨ (nw' = 36 ∧ tr' = 19)) (hco : CO h' nw' tr' ik' (S.2.2.2.1.length : Int) sd') (hl : LetA h' S.2.2.1 at'') (hs : SchA h' nw' s') (ht : SchV h' tr') (hk : KP h' ik' o') (ok1 : scOK s') (ok2 : ∀ s, o' = some s → scOK s) : CM h' nw' tr' ik' sd' at'' (s', o', S.2.2) := by
  obtain ⟨h1, h2, h3, ⟨s1, s2, s3, s4⟩, h4, h5, h6, h7, ⟨f1, h8, h8b⟩, ⟨f2, h9, h9b⟩, h10, h11, ok⟩ := H
  have e : ∀ a, (a < 16 ∨ (70 ≤ a ∧ a < 73) ∨ a = 78) → h'.2 a = h.2 a := fun a ha => F.2 a (by omega) (fun q => by have := hp a q; unfold PS at this; omega)
  exact ⟨hn, hco, by have := F.1; omega, ⟨(e 2 (by omega)).trans s1, (e 3 (by omega)).trans s2, (e 4 (by omega)).trans s3, (e 5 (by omega)).trans s4⟩, hl, hs, ht, hk, ⟨f1, (e 70 (by omega)).trans h8, h8b⟩, ⟨f2, (e 71 (by omega)).trans h9, h9b⟩, (e 72 (by omega)).trans h10, (e 78 (by omega)).trans h11, ⟨ok1, ok2, ok.2.2⟩⟩
theorem KP.sv {o : Option SC} (ho : ∀ s, o = some s → scOK s) (H : KP h ik o) : SchV h 53 := by
  cases o with
  | none => exact H.2
  | some s => exact ⟨s, ho s rfl, H.2⟩
theorem SchV.o (H : SchV h b) : ∃ vs, h.2 b = .inl (9, vs) := by
  obtain ⟨s, -, q, -⟩ := H
  exact ⟨_, q⟩
theorem C_image (H : CS h S) (hd : 4 ≤ d) (hq : ∀ r S' h', (r, S') = o_image S → CS h' S' → Fr h h' PC → Q (some (.inl r)) h') : MW d 0 0 mX11_image [.inr 16] h Q := by
  obtain ⟨nw, tr, ik, sd, at', HM, HL, HS⟩ := id H
  obtain ⟨k1, g16, h9, k2, k3, k4, k5, k6, k7, k8, k10, k11, ok⟩ := id HM
  have gn := k4.1
  have g16' := g16
  unfold CO at g16'
  have v53 := KP.sv ok.2.1 k6
  obtain ⟨v5, g53⟩ := v53.o
  show AW d 0 0 mX11_image Q 0 [some (.inr 16)] [] h
  refine AW.aload_n dX11_image_0 rfl ?_
  refine AW.getf dX11_image_1 gX11_26 (by repeat (first | assumption | exact hset_eq _ _ _ | refine (hset_ne _ _ (by omega)).trans ?_)) rfl ?_
  refine AW.aload_n dX11_image_4 rfl ?_
  refine AW.getf dX11_image_5 gX11_19 (by repeat (first | assumption | exact hset_eq _ _ _ | refine (hset_ne _ _ (by omega)).trans ?_)) rfl ?_
  refine AW.cI2 (d' := d - 1) (cX11_224 rfl) okX8_copy dX11_image_8 (by repeat (first | assumption | exact hset_eq _ _ _ | refine (hset_ne _ _ (by omega)).trans ?_)) (by omega) (W_schCopy (by omega) (by omega) (by omega) h9 (by omega) ok.1 v53 k4 (fun h2 A2 F2 => ?_))
  have F1 := F2.1
  have e16 := (F2.2 16 (by omega) (by unfold PQ; omega)).trans g16'
  have en := (F2.2 nw (by omega) (by unfold PQ; omega)).trans gn
  refine AW.aload_n dX11_image_11 rfl ?_
  refine AW.iconst dX11_image_12 ?_
  refine AW.putf dX11_image_13 pX11_29 (by repeat (first | assumption | exact hset_eq _ _ _ | refine (hset_ne _ _ (by omega)).trans ?_)) (Or.inr rfl) ?_
  refine AW.aload_n dX11_image_16 rfl ?_
  refine AW.getf dX11_image_17 gX11_19 (by repeat (first | assumption | exact hset_eq _ _ _ | refine (hset_ne _ _ (by omega)).trans ?_)) rfl ?_
  refine AW.getf dX11_image_20 gX11_148 (by repeat (first | assumption | exact hset_eq _ _ _ | refine (hset_ne _ _ (by omega)).trans ?_)) rfl ?_
  refine AW.ireturn dX11_image_23 rfl ?_
  have FT : Fr h2 _ (fun a => a = 16) := Fr.set (c := .inl (12, [.inr 17, .inr nw, .inr tr, .inr 53, .inl 1, .inr 70, .inl (S.2.2.2.1.length : Int), .inr 71, .inr 72, .inr 73, .inr 77, .inr 78, .inr 79, .inr 84, .inl sd])) rfl
  have FA : Fr h _ (fun a => PQ 53 a ∨ a = 16) := (F2.mono (fun a => Or.inl)).trans (FT.mono (fun a => Or.inr))
  have FP := FA.mono (P2 := PC) (fun a ha => by unfold PQ at ha; unfold PC; omega)
  refine hq _ (S.1, some S.1, S.2.2) _ rfl ⟨nw, tr, 1, sd, at', HM.re FA (fun a ha => by unfold PQ at ha; omega) k1 (hset_eq _ _ _) (k3.fr FA h9 ⟨by unfold PQ; omega, by unfold PQ; omega⟩) (k4.fr FA (by omega) (fun a ha => by unfold PQ; omega) ok.1.2.1) (k5.fr FA (by omega) (fun a ha => by unfold PQ; omega)) ⟨rfl, A2.fr FT (by omega) (fun a ha => by omega) ok.1.2.1⟩ ok.1 (fun s e => by cases e; exact ok.1), HL.fr FA h9 (fun a ha => by unfold PQ; omega), HS.fr FA h9 (fun a ha => by unfold PQ; omega)⟩ FP
theorem C_restore (H : CS h S) (hd : 4 ≤ d) (hq : ∀ r S' h', (r, S') = o_restore S → CS h' S' → Fr h h' PC → Q (some (.inl r)) h') : MW d 0 0 mX11_restore [.inr 16] h Q := by
  obtain ⟨nw, tr, ik, sd, at', HM, HL, HS⟩ := id H
  obtain ⟨k1, g16, h9, k2, k3, k4, k5, k6, k7, k8, k10, k11, ok⟩ := id HM
  have gn := k4.1
  have g16' := g16
  unfold CO at g16'
  unfold o_restore at hq
  cases e : S.2.1 with
  | none =>
    rw [e] at k6 hq
    have hik := k6.1
    show AW d 0 0 mX11_restore Q 0 [some (.inr 16)] [] h
    refine AW.aload_n dX11_restore_0 rfl ?_
    refine AW.getf dX11_restore_1 gX11_29 (by repeat (first | assumption | exact hset_eq _ _ _ | refine (hset_ne _ _ (by omega)).trans ?_)) rfl ?_
    refine AW.ifne (tgt := 13) dX11_restore_4 (by decide) (fun c4 => absurd hik c4) (fun c4 => ?_)
    refine AW.aload_n dX11_restore_7 rfl ?_
    refine AW.iconst dX11_restore_8 ?_
    refine AW.cI2 (d' := d - 1) (cX11_84 rfl) okX11_refused dX11_restore_9 (by repeat (first | assumption | exact hset_eq _ _ _ | refine (hset_ne _ _ (by omega)).trans ?_)) (by omega) (C_refused (by assumption) (by decide) (by decide) (fun h9 hC hF => ?_))
    refine AW.ireturn dX11_restore_12 rfl ?_
    exact hq (-3) (rf S 3) _ rfl hC hF
  | some s =>
    have oks := ok.2.1 s e
    have k6' := k6
    rw [e] at k6' hq
    have hik := k6'.1
    have KA := k6'.2
    have g53 := KA.1
    show AW d 0 0 mX11_restore Q 0 [some (.inr 16)] [] h
    refine AW.aload_n dX11_restore_0 rfl ?_
    refine AW.getf dX11_restore_1 gX11_29 (by repeat (first | assumption | exact hset_eq _ _ _ | refine (hset_ne _ _ (by omega)).trans ?_)) rfl ?_
    refine AW.ifne (tgt := 13) dX11_restore_4 (by decide) (fun c4 => ?_) (fun c4 => absurd c4 (by omega))
    refine AW.aload_n dX11_restore_13 rfl ?_
    refine AW.getf dX11_restore_14 gX11_19 (by repeat (first | assumption | exact hset_eq _ _ _ | refine (hset_ne _ _ (by omega)).trans ?_)) rfl ?_
    refine AW.aload_n dX11_restore_17 rfl ?_
    refine AW.getf dX11_restore_18 gX11_26 (by repeat (first | assumption | exact hset_eq _ _ _ | refine (hset_ne _ _ (by omega)).trans ?_)) rfl ?_
    refine AW.cI2 (d' := d - 1) (cX11_224 rfl) okX8_copy dX11_restore_21 (by repeat (first | assumption | exact hset_eq _ _ _ | refine (hset_ne _ _ (by omega)).trans ?_)) (by omega) (W_schCopy (by omega) (by omega) (by omega) h9 (by omega) oks ⟨S.1, ok.1, k4⟩ KA (fun h2 A2 F2 => ?_))
    have F1 := F2.1
    have e16 := (F2.2 16 (by omega) (by unfold PQ; omega)).trans g16'
    have en := A2.1
    have FP := F2.mono (P2 := PC) (fun a ha => by unfold PQ at ha; unfold PC; omega)
    refine AW.aload_n dX11_restore_24 rfl ?_
    refine AW.getf dX11_restore_25 gX11_19 (by repeat (first | assumption | exact hset_eq _ _ _ | refine (hset_ne _ _ (by omega)).trans ?_)) rfl ?_
    refine AW.getf dX11_restore_28 gX11_148 (by repeat (first | assumption | exact hset_eq _ _ _ | refine (hset_ne _ _ (by omega)).trans ?_)) rfl ?_
    refine AW.ireturn dX11_restore_31 rfl ?_
    refine hq _ (s, some s, S.2.2) _ rfl ⟨nw, tr, ik, sd, at', HM.re F2 (fun a ha => by unfold PQ at ha; omega) k1 e16 (k3.fr F2 h9 ⟨by unfold PQ; omega, by unfold PQ; omega⟩) A2 (k5.fr F2 (by omega) (fun a ha => by unfold PQ; omega)) ⟨hik, KA.fr F2 (by omega) (fun a ha => by unfold PQ; omega) oks.2.1⟩ oks (fun s1 e1 => by cases e1; exact oks), HL.fr F2 h9 (fun a ha => by unfold PQ; omega), HS.fr F2 h9 (fun a ha => by unfold PQ; omega)⟩ FP
end Cls17

