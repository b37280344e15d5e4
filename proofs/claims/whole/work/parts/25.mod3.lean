section Mod3
variable {d : Nat} {Q : Option AV → AH → Prop} {h h0 : AH} {m : Nat → Int} {A : Nat → Nat → Int} {who x y : Int} {s : SC}
def T3 (m m' : Nat → Int) (A A' : Nat → Nat → Int) : Prop := (∀ k, k ≠ 24 → m' k = m k) ∧ ∀ k, k ≠ 131 → k ≠ 132 → A' k = A k
theorem T3.rfl' : T3 m m A A := ⟨fun _ _ => rfl, fun _ _ _ => rfl⟩
theorem T3.trans {m' m2 : Nat → Int} {A' A2 : Nat → Nat → Int} (h1 : T3 m m' A A') (h2 : T3 m' m2 A' A2) : T3 m m2 A A2 := ⟨fun k hk => (h2.1 k hk).trans (h1.1 k hk), fun k g1 g2 => (h2.2 k g1 g2).trans (h1.2 k g1 g2)⟩
theorem T3.sq {m' : Nat → Int} {A' : Nat → Nat → Int} (h : T3 m m' A A') : SQ m m' A A' := ⟨⟨h.1 7 (by decide), h.1 8 (by decide), h.1 15 (by decide), h.1 19 (by decide), h.1 31 (by decide)⟩, h.2 117 (by decide) (by decide), h.2 118 (by decide) (by decide), h.2 119 (by decide) (by decide), h.2 120 (by decide) (by decide), h.2 121 (by decide) (by decide), h.2 122 (by decide) (by decide), h.2 123 (by decide) (by decide), h.2 124 (by decide) (by decide), h.2 130 (by decide) (by decide), h.2 135 (by decide) (by decide)⟩
theorem updI_ne' (f : Nat → Int) (i : Nat) (x : Int) {k : Nat} (h : k ≠ i) : updI f i x k = f k := if_neg h
theorem L_lays {ws : List Nat} {hh : Nat} (h6 : hh < 6) (h24 : m 24 = (ws.length : Int)) (hl : ws.length ≤ 20) (hw : ∀ j w : Nat, ws[j]? = some w → A 123 (20 * hh + j) = (w : Int))
    (hq : ∀ h' A', MR h0 h' m A' → (∀ k, k ≠ 131 → A' k = A k) → (∀ j w : Nat, ws[j]? = some w → A' 131 j = (w : Int)) → Q none h') :
    ∀ (r i : Nat) (h : AH) (B : Nat → Nat → Int), i + r = ws.length → MR h0 h m B → (∀ k, k ≠ 131 → B k = A k) → (∀ j w : Nat, j < i → ws[j]? = some w → B 131 j = (w : Int)) →
      AW d 0 0 mX12_laysSaying Q 12 [some (.inr 116), some (.inl (hh : Int)), some (.inl (i : Int))] [] h := by
  intro r
  induction r with
  | zero =>
    intro i h B hi hM hB hT
    obtain ⟨g116, -⟩ := id hM
    refine AW.iload_n dX12_laysSaying_12 rfl ?_
    refine AW.aload_n dX12_laysSaying_13 rfl ?_
    refine AW.getf dX12_laysSaying_14 gX12_118 (by repeat (first | assumption | exact hset_eq _ _ _ | refine (hset_ne _ _ (by omega)).trans ?_)) rfl ?_
    refine AW.if_icmpge (tgt := 43) dX12_laysSaying_17 (by decide) (fun c17 => ?_) (fun c17 => absurd c17 (by omega))
    refine AW.vreturn dX12_laysSaying_43 rfl ?_
    exact hq h B hM hB (fun j w hj => hT j w (by have := (List.getElem?_eq_some_iff.mp hj).1; omega) hj)
  | succ r ih =>
    intro i h B hi hM hB hT
    obtain ⟨g116, g117, g118, g119, g120, g121, g122, g123, g124, g125, g126, g127, g128, g129, g130, g131, -⟩ := id hM
    refine AW.iload_n dX12_laysSaying_12 rfl ?_
    refine AW.aload_n dX12_laysSaying_13 rfl ?_
    refine AW.getf dX12_laysSaying_14 gX12_118 (by repeat (first | assumption | exact hset_eq _ _ _ | refine (hset_ne _ _ (by omega)).trans ?_)) rfl ?_
    refine AW.if_icmpge (tgt := 43) dX12_laysSaying_17 (by decide) (fun c17 => absurd c17 (by omega)) (fun c17 => ?_)
    refine AW.aload_n dX12_laysSaying_20 rfl ?_
    refine AW.getf dX12_laysSaying_21 gX12_52 (by repeat (first | assumption | exact hset_eq _ _ _ | refine (hset_ne _ _ (by omega)).trans ?_)) rfl ?_
    refine AW.iload_n dX12_laysSaying_24 rfl ?_
    refine AW.aload_n dX12_laysSaying_25 rfl ?_
    refine AW.getf dX12_laysSaying_26 gX12_28 (by repeat (first | assumption | exact hset_eq _ _ _ | refine (hset_ne _ _ (by omega)).trans ?_)) rfl ?_
    refine AW.bipush dX12_laysSaying_29 ?_
    refine AW.iload_n dX12_laysSaying_31 rfl ?_
    refine AW.imulR dX12_laysSaying_32 (by unfold RI; omega) ?_
    refine AW.iload_n dX12_laysSaying_33 rfl ?_
    refine AW.iaddR dX12_laysSaying_34 (by unfold RI; omega) ?_
    refine AW.iaload dX12_laysSaying_35 (by repeat (first | assumption | exact hset_eq _ _ _ | refine (hset_ne _ _ (by omega)).trans ?_)) (by omega) (by omega) ?_
    refine AW.iastore dX12_laysSaying_36 (by omega) (by repeat (first | assumption | exact hset_eq _ _ _ | refine (hset_ne _ _ (by omega)).trans ?_)) (by omega) (by omega) ?_
    refine AW.inc2 dX12_laysSaying_37 (by decide) (by unfold RI; omega) ?_
    refine AW.goto (tgt := 12) dX12_laysSaying_40 (by decide) ?_
    refine ih (i + 1) _ _ (by omega) (MR.s131 hM) (fun k hk => by rw [updA_ne _ _ hk]; exact hB k hk) (fun j w hj hw2 => ?_)
    rw [updA_eq]
    unfold updI
    split
    · rename_i e
      rw [hB 123 (by decide), show (20 * (hh : Int) + (i : Int)).toNat = 20 * hh + i by omega]
      rw [show j = i by omega] at hw2
      exact hw i w hw2
    · exact hT j w (by omega) hw2
theorem W_laysSaying {hh : Nat} (hM : MR h0 h m A) (hS : MSC m A s) (ok : scOK s) (hh6 : hh < s_h s)
    (hq : ∀ h' m' A', MR h0 h' m' A' → (∀ k, k ≠ 24 → m' k = m k) → (∀ k, k ≠ 131 → A' k = A k) → m' 24 = ((s_w s hh).length : Int) → (∀ j w : Nat, (s_w s hh)[j]? = some w → A' 131 j = (w : Int)) → Q none h') : MW d 0 0 mX12_laysSaying [.inr 116, .inl (hh : Int)] h Q := by
  obtain ⟨g116, g117, g118, g119, g120, g121, g122, -⟩ := id hM
  have h6 : hh < 6 := Nat.lt_of_lt_of_le hh6 ok.2.1
  have hlen := hS.2.2.2.2.1 hh hh6
  have h20 := (ok.2.2.2.2 hh hh6).2
  show AW d 0 0 mX12_laysSaying Q 0 [some (.inr 116), some (.inl (hh : Int)), none] [] h
  refine AW.aload_n dX12_laysSaying_0 rfl ?_
  refine AW.aload_n dX12_laysSaying_1 rfl ?_
  refine AW.getf dX12_laysSaying_2 gX12_25 (by repeat (first | assumption | exact hset_eq _ _ _ | refine (hset_ne _ _ (by omega)).trans ?_)) rfl ?_
  refine AW.iload_n dX12_laysSaying_5 rfl ?_
  refine AW.iaload dX12_laysSaying_6 (by repeat (first | assumption | exact hset_eq _ _ _ | refine (hset_ne _ _ (by omega)).trans ?_)) (by omega) (by omega) ?_
  refine AW.putf dX12_laysSaying_7 pX12_118 (by repeat (first | assumption | exact hset_eq _ _ _ | refine (hset_ne _ _ (by omega)).trans ?_)) trivial ?_
  refine AW.iconst dX12_laysSaying_10 ?_
  refine AW.ist2 dX12_laysSaying_11 (by decide) ?_
  refine L_lays (m := updI m 24 ((s_w s hh).length : Int)) (ws := s_w s hh) (A := A) h6 rfl h20 (fun j w hj => hS.2.2.2.2.2 hh hh6 j w hj) (fun h' A' q1 q2 q3 => hq h' _ A' q1 (fun k hk => updI_ne' _ _ _ hk) q2 rfl q3) (s_w s hh).length 0 _ A (by omega) ?_ (fun _ _ => rfl) (fun j w hj => absurd hj (Nat.not_lt_zero _))
  rw [show ((hh : Int)).toNat = hh by omega, hlen]
  exact MR.p rfl hM
theorem nm_lf (hS : MSC m A s) (ok : scOK s) (h1 : -1 ≤ who) (h2 : who < s_n s) : kkM A who = kkS s who ∧ ggM A who = ggS s who ∧ ∀ w, w < 7 → lfM A who w = lfK (nmS s who) w := by
  obtain ⟨g1, g2, g3, g4, -⟩ := hS
  refine ⟨?_, ?_, fun w hw => ?_⟩
  · unfold kkM kkS
    split
    · rfl
    · exact (g3 _ (by omega)).1
  · unfold ggM ggS
    split
    · rfl
    · exact (g3 _ (by omega)).2.1
  · unfold lfM lfK
    by_cases w0 : w = 0
    · rw [if_pos w0, if_pos w0]
    rw [if_neg w0, if_neg w0]
    by_cases w1 : w = 1
    · rw [if_pos w1, if_pos w1]
    rw [if_neg w1, if_neg w1]
    by_cases w2 : w = 2
    · rw [if_pos w2, if_pos w2]
    rw [if_neg w2, if_neg w2]
    have hc := ok.2.2.2.1 (w - 3) (by omega)
    unfold nmM nmS lbM
    rw [g4 (w - 3) (by omega)]
    by_cases hw0 : who < 0
    · rw [if_pos hw0, if_pos (Or.inl hw0)]
      have h15 : ∀ n : Nat, n < 4 → a_and (a_shr 15 n) 1 = 1 := by decide
      have h15' := h15 (w - 3) (by omega)
      by_cases hn : s_c s (w - 3) < 0
      · rw [if_pos hn, if_neg (fun q => by have := q.2; omega)]
      · rw [if_neg hn, if_pos ⟨h15', by omega⟩]
    · rw [if_neg hw0, (g3 who.toNat (by omega)).2.2]
      by_cases hb : a_and (a_shr (s_l s who.toNat) ((w - 3 : Nat) : Int)) 1 = 1
      · rw [if_pos (show who < 0 ∨ a_and (a_shr (s_l s who.toNat) ((w - 3 : Nat) : Int)) 1 = 1 from Or.inr hb)]
        by_cases hn : s_c s (w - 3) < 0
        · rw [if_pos hn, if_neg (fun q => by have := q.2; omega)]
        · rw [if_neg hn, if_pos ⟨hb, by omega⟩]
      · rw [if_neg (fun q => hb q.1), if_neg (show ¬ (who < 0 ∨ a_and (a_shr (s_l s who.toNat) ((w - 3 : Nat) : Int)) 1 = 1) from fun q => q.elim hw0 hb), if_pos (by decide)]
theorem W_concludedFrom {hh : Nat} (hM : MR h0 h m A) (hS : MSC m A s) (ok : scOK s) (hd : 4 ≤ d) (h1 : -1 ≤ who) (h2 : who < s_n s) (hh6 : hh < s_h s)
    (hq : ∀ h' m' A', MR h0 h' m' A' → T3 m m' A A' → Q (some (.inl (cnS s who (s_w s hh)))) h') : MW d 0 0 mX12_concludedFrom [.inr 116, .inl who, .inl (hh : Int)] h Q := by
  obtain ⟨g116, -⟩ := id hM
  have hn5 := ok.1
  show AW d 0 0 mX12_concludedFrom Q 0 [some (.inr 116), some (.inl who), some (.inl (hh : Int))] [] h
  refine AW.aload_n dX12_concludedFrom_0 rfl ?_
  refine AW.iload_n dX12_concludedFrom_1 rfl ?_
  refine AW.cI2 (d' := d - 1) (cX12_183 rfl) okX12_laysSaying dX12_concludedFrom_2 (by repeat (first | assumption | exact hset_eq _ _ _ | refine (hset_ne _ _ (by omega)).trans ?_)) (by omega) (W_laysSaying hM hS ok hh6 (fun h1 m1 A1 hM1 q1 q2 q3 q4 => ?_))
  obtain ⟨k116, -⟩ := id hM1
  have hS1 : MSC m1 A1 s := hS.sq ⟨⟨q1 7 (by decide), q1 8 (by decide), q1 15 (by decide), q1 19 (by decide), q1 31 (by decide)⟩, q2 117 (by decide), q2 118 (by decide), q2 119 (by decide), q2 120 (by decide), q2 121 (by decide), q2 122 (by decide), q2 123 (by decide), q2 124 (by decide), q2 130 (by decide), q2 135 (by decide)⟩
  obtain ⟨e1, e2, e3⟩ := nm_lf hS1 ok (who := who) (by assumption) h2
  refine AW.aload_n dX12_concludedFrom_5 rfl ?_
  refine AW.iload_n dX12_concludedFrom_6 rfl ?_
  refine AW.cI2 (d' := d - 1) (cX12_125 rfl) okX12_concluded dX12_concludedFrom_7 (by repeat (first | assumption | exact hset_eq _ _ _ | refine (hset_ne _ _ (by omega)).trans ?_)) (by omega) (W_concluded hM1 (by omega) (by omega) q4 q3 (ok.2.2.2.2 hh hh6).1 (ok.2.2.2.2 hh hh6).2 (fun h2 B hM2 hB => ?_))
  refine AW.ireturn dX12_concludedFrom_10 rfl ?_
  rw [e1, e2, concF_congr e3]
  exact hq h2 m1 B hM2 ⟨q1, fun k g1 g2 => by rw [hB k g2, q2 k g1]⟩
end Mod3

