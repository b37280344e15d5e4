section Cls19
variable {d bc bs : Nat} {Q : Option AV → AH → Prop} {h h' : AH} {nw tr a b c : Nat} {ik sd at' tc : Int} {S S' : ST} {P : Nat → Prop} {s s' : SC} {x y z who k g more v : Int} {nm : Nat → Int} {ws : List Nat}
theorem drP_b {i : Nat} {p : Int × Int} {m : Int} (h0 : 0 ≤ p.1) (h1 : p.1 ≤ m) (h2 : 0 ≤ p.2) (h3 : p.2 ≤ 20) (n : Nat) : (0 ≤ (drP s who x ws i n p).1 ∧ (drP s who x ws i n p).1 ≤ m + n) ∧ 0 ≤ (drP s who x ws i n p).2 ∧ (drP s who x ws i n p).2 ≤ 20 := by
  induction n with
  | zero => exact ⟨⟨h0, by show p.1 ≤ m + (0 : Int); omega⟩, h2, h3⟩
  | succ n ih =>
    have := drS_b (s := s) (who := who) (due := x) (c := cdP ws i n) ih.1.1 ih.1.2 ih.2.1 ih.2.2
    refine ⟨⟨this.1.1, ?_⟩, this.2⟩
    have e := this.1.2
    show (drS s who x (cdP ws i n) (drP s who x ws i n p)).1 ≤ _
    omega
/-- one place -/
theorem LC_dr1 {i n w : Nat} {due : Int} {p0 : Int × Int} {m : Int} {a1 a3 : Option AV} (HM : CM h nw tr ik sd at' S) (h1 : -1 ≤ who) (h2 : who < s_n S.1) (hi : i < s_h S.1) (hj : (s_w S.1 i)[n]? = some w) (hd : 6 ≤ d) (hm : m ≤ 1000) (p1 : 0 ≤ p0.1) (p2 : p0.1 ≤ m) (p3 : 0 ≤ p0.2) (p4 : p0.2 ≤ 20)
    (hq : ∀ h1 z1 z2, LisA h1 (kkS S.1 who) (ggS S.1 who) (nmS S.1 who) (-9) → SyR h1 84 → Fr h h1 PH → AW d 0 0 mX11_drops Q 162 [some (.inr 16), a1, some (.inl (i : Int)), a3, some (.inr (nw + 5 + 2 * i)), some (.inl due), some (.inl (drP S.1 who due (s_w S.1 i) n (ptW w) p0).1), some (.inl (drP S.1 who due (s_w S.1 i) n (ptW w) p0).2), some (.inl (n : Int)), z1, z2] [] h1) :
    ∀ (r k : Nat) (h1 : AH), k + r = ptW w → LisA h1 (kkS S.1 who) (ggS S.1 who) (nmS S.1 who) (-9) → SyR h1 84 → Fr h h1 PH →
      AW d 0 0 mX11_drops Q 103 [some (.inr 16), a1, some (.inl (i : Int)), a3, some (.inr (nw + 5 + 2 * i)), some (.inl due), some (.inl (drP S.1 who due (s_w S.1 i) n k p0).1), some (.inl (drP S.1 who due (s_w S.1 i) n k p0).2), some (.inl (n : Int)), some (.inl (ptW w : Int)), some (.inl (k : Int))] [] h1 := by
  have ok := HM.2.2.2.2.2.2.2.2.2.2.2.2
  have o := ok.1.1
  have o2 := ok.1.2.1
  have h9 := HM.2.2.1
  have k1 := HM.1
  have hh := (ok.1.2.2.2.2 i hi).1
  have pw := ptW_le w
  intro r
  induction r with
  | zero =>
    intro k h1 hk L Y F
    obtain rfl : k = ptW w := by omega
    refine AW.iload dX11_drops_103 rfl ?_
    refine AW.iload dX11_drops_105 rfl ?_
    refine AW.if_icmpge (tgt := 162) dX11_drops_107 (by decide) (fun c107 => ?_) (fun c107 => absurd c107 (by omega))
    exact hq h1 _ _ L Y F
  | succ r ih =>
    intro k h1 hk L Y F
    have HM1 := HM.fr F (fun a ha => by unfold PH PL PB at ha; unfold PS; omega)
    obtain ⟨-, n16, g9, -⟩ := id HM1
    unfold CO at n16
    have hs1 := HM1.2.2.2.2.2.1.2.2.2.2.2.2 i hi
    obtain ⟨n0, f0, sy1, sy2⟩ := id Y
    have hb := drP_b (s := S.1) (who := who) (x := due) (ws := s_w S.1 i) (i := n) p1 p2 p3 p4 k
    refine AW.iload dX11_drops_103 rfl ?_
    refine AW.iload dX11_drops_105 rfl ?_
    refine AW.if_icmpge (tgt := 162) dX11_drops_107 (by decide) (fun c107 => absurd c107 (by omega)) (fun c107 => ?_)
    refine AW.aload_n dX11_drops_110 rfl ?_
    refine AW.getf dX11_drops_111 gX11_77 (by repeat (first | assumption | exact hset_eq _ _ _ | refine (hset_ne _ _ (by omega)).trans ?_)) rfl ?_
    refine AW.aload dX11_drops_114 rfl ?_
    refine AW.iload dX11_drops_116 rfl ?_
    refine AW.iload dX11_drops_118 rfl ?_
    refine AW.cI4 (d' := d - 1) (cX11_195 rfl) okX7_copyWithPartAlone dX11_drops_120 (by repeat (first | assumption | exact hset_eq _ _ _ | refine (hset_ne _ _ (by omega)).trans ?_)) (by omega) (V_alone (by omega) (by omega) (by omega) (by omega) Y hs1 hj (by omega) (fun h4 Y4 F4 => ?_))
    have F5 := F.trans (F4.mono (fun a => Or.inr))
    have HM5 := HM.fr F5 (fun a ha => by unfold PH PL PB at ha; unfold PS; omega)
    obtain ⟨-, m16, m9, m2, -⟩ := id HM5
    unfold CO at m16
    have L4 := L.fr F4 g9 (fun a ha => by unfold PB; omega)
    obtain ⟨aL, fL, fL2, l73, -⟩ := id L4
    refine AW.aload_n dX11_drops_123 rfl ?_
    refine AW.getf dX11_drops_124 gX11_56 (by repeat (first | assumption | exact hset_eq _ _ _ | refine (hset_ne _ _ (by omega)).trans ?_)) rfl ?_
    refine AW.aload_n dX11_drops_127 rfl ?_
    refine AW.getf dX11_drops_128 gX11_77 (by repeat (first | assumption | exact hset_eq _ _ _ | refine (hset_ne _ _ (by omega)).trans ?_)) rfl ?_
    refine AW.cI2 (d' := d - 1) (cX11_189 rfl) okX6_meaningOf dX11_drops_131 (by repeat (first | assumption | exact hset_eq _ _ _ | refine (hset_ne _ _ (by omega)).trans ?_)) (by omega) (W_meaningOf m9 m2.2.2.1 L4 (nmOK_S ok.1) Y4 (by omega) (by omega) (by omega) (cdP_ok hh hj (by omega)) (fun h6 L6 F6 => ?_))
    have FF := F5.trans (F6.mono (fun a ha => Or.inl (P76_PL ha)))
    have HM6 := HM.fr FF (fun a ha => by unfold PH PL PB at ha; unfold PS; omega)
    have l16 := HM6.2.1
    unfold CO at l16
    have Y6 := Y4.fr F6 (by omega) ⟨by unfold P76; omega, by unfold P76; omega⟩
    obtain ⟨f6, t1, t2, t3, -⟩ := id Y6
    have nx := ih (k + 1)
    show AW _ _ _ _ _ _ _ [.inl (cnS S.1 who (cdP (s_w S.1 i) n k))] _
    by_cases hv : cnS S.1 who (cdP (s_w S.1 i) n k) = due
    · have e : drP S.1 who due (s_w S.1 i) n (k + 1) p0 = ((drP S.1 who due (s_w S.1 i) n k p0).1 + 1, if ((cdP (s_w S.1 i) n k).length : Int) < (drP S.1 who due (s_w S.1 i) n k p0).2 then ((cdP (s_w S.1 i) n k).length : Int) else (drP S.1 who due (s_w S.1 i) n k p0).2) := if_pos hv
      rw [e] at nx
      refine AW.iload dX11_drops_134 rfl ?_
      refine AW.if_icmpne (tgt := 156) dX11_drops_136 (by decide) (fun c136 => absurd hv c136) (fun c136 => ?_)
      refine AW.inc6 dX11_drops_139 (by decide) (by unfold RI; omega) ?_
      refine AW.iload dX11_drops_142 rfl ?_
      refine AW.aload_n dX11_drops_144 rfl ?_
      refine AW.getf dX11_drops_145 gX11_77 (by repeat (first | assumption | exact hset_eq _ _ _ | refine (hset_ne _ _ (by omega)).trans ?_)) rfl ?_
      refine AW.getf dX11_drops_148 gX11_142 (by repeat (first | assumption | exact hset_eq _ _ _ | refine (hset_ne _ _ (by omega)).trans ?_)) rfl ?_
      refine AW.mmin dX11_drops_151 oX11_199 (by omega) (Nat.le_of_ble_eq_true rfl) ?_
      refine AW.ist7 dX11_drops_154 (by decide) ?_
      refine AW.inc10 dX11_drops_156 (by decide) (by unfold RI; omega) ?_
      refine AW.goto (tgt := 103) dX11_drops_159 (by decide) ?_
      exact nx h6 (by omega) L6 Y6.r FF
    · have e : drP S.1 who due (s_w S.1 i) n (k + 1) p0 = drP S.1 who due (s_w S.1 i) n k p0 := if_neg hv
      rw [e] at nx
      refine AW.iload dX11_drops_134 rfl ?_
      refine AW.if_icmpne (tgt := 156) dX11_drops_136 (by decide) (fun c136 => ?_) (fun c136 => absurd c136 hv)
      refine AW.inc10 dX11_drops_156 (by decide) (by unfold RI; omega) ?_
      refine AW.goto (tgt := 103) dX11_drops_159 (by decide) ?_
      exact nx h6 (by omega) L6 Y6.r FF
theorem LC_dr2 {i : Nat} {due what : Int} {a1 : Option AV} (HM : CM h nw tr ik sd at' S) (hw1 : -1 ≤ who) (h2 : who < s_n S.1) (hi : i < s_h S.1) (hd : 6 ≤ d)
    (hq : ∀ h', LisR h' → SyR h' 84 → Fr h h' PH → Q (some (.inl (if what = 0 then (drN S.1 who due (s_w S.1 i) (s_w S.1 i).length).1 else (drN S.1 who due (s_w S.1 i) (s_w S.1 i).length).2))) h') :
    ∀ (r n : Nat) (h1 : AH) (z1 z2 : Option AV), n + r = (s_w S.1 i).length → LisA h1 (kkS S.1 who) (ggS S.1 who) (nmS S.1 who) (-9) → SyR h1 84 → Fr h h1 PH →
      AW d 0 0 mX11_drops Q 77 [some (.inr 16), a1, some (.inl (i : Int)), some (.inl what), some (.inr (nw + 5 + 2 * i)), some (.inl due), some (.inl (drN S.1 who due (s_w S.1 i) n).1), some (.inl (drN S.1 who due (s_w S.1 i) n).2), some (.inl (n : Int)), z1, z2] [] h1 := by
  have ok := HM.2.2.2.2.2.2.2.2.2.2.2.2
  have o := ok.1.1
  have o2 := ok.1.2.1
  have h9 := HM.2.2.1
  have h20 := (ok.1.2.2.2.2 i hi).2
  intro r
  induction r with
  | zero =>
    intro n h1 z1 z2 hn L Y F
    have HM1 := HM.fr F (fun a ha => by unfold PH PL PB at ha; unfold PS; omega)
    obtain ⟨fs, y1, y2, y3, y4, y5⟩ := HM1.2.2.2.2.2.1.2.2.2.2.2.2 i hi
    obtain rfl : n = (s_w S.1 i).length := by omega
    have fin : ∀ v, (if what = 0 then (drN S.1 who due (s_w S.1 i) (s_w S.1 i).length).1 else (drN S.1 who due (s_w S.1 i) (s_w S.1 i).length).2) = v → Q (some (.inl v)) h1 := fun v hv => hv ▸ hq h1 L.r Y F
    refine AW.iload dX11_drops_77 rfl ?_
    refine AW.aload dX11_drops_79 rfl ?_
    refine AW.getf dX11_drops_81 gX11_142 (by repeat (first | assumption | exact hset_eq _ _ _ | refine (hset_ne _ _ (by omega)).trans ?_)) rfl ?_
    refine AW.if_icmpge (tgt := 168) dX11_drops_84 (by decide) (fun c84 => ?_) (fun c84 => absurd c84 (by omega))
    refine AW.iload_n dX11_drops_168 rfl ?_
    refine AW.ifne (tgt := 177) dX11_drops_169 (by decide) (fun c169 => ?_) (fun c169 => ?_)
    · refine AW.iload dX11_drops_177 rfl ?_
      refine AW.ireturn dX11_drops_179 rfl ?_
      first
        | exact fin _ (if_pos (by omega))
        | exact fin _ (if_neg (by omega))
    · refine AW.iload dX11_drops_172 rfl ?_
      refine AW.goto (tgt := 179) dX11_drops_174 (by decide) ?_
      refine AW.ireturn dX11_drops_179 rfl ?_
      first
        | exact fin _ (if_pos (by omega))
        | exact fin _ (if_neg (by omega))
  | succ r ih =>
    intro n h1 z1 z2 hn L Y F
    have HM1 := HM.fr F (fun a ha => by unfold PH PL PB at ha; unfold PS; omega)
    obtain ⟨fs, y1, y2, y3, y4, y5⟩ := HM1.2.2.2.2.2.1.2.2.2.2.2.2 i hi
    have hl : n < (s_w S.1 i).length := by omega
    have hg := List.getElem?_eq_getElem hl
    generalize (s_w S.1 i)[n] = w at hg
    have ef := y5 _ _ hg
    have hw := y4 _ (List.mem_of_getElem? hg)
    have nx := ih (n + 1)
    have eN : drN S.1 who due (s_w S.1 i) (n + 1) = drP S.1 who due (s_w S.1 i) n (ptW w) (drN S.1 who due (s_w S.1 i) n) := (drP_at hg _).symm
    rw [eN] at nx
    have hb := drN_b (s := S.1) (who := who) (due := due) h20 n
    refine AW.iload dX11_drops_77 rfl ?_
    refine AW.aload dX11_drops_79 rfl ?_
    refine AW.getf dX11_drops_81 gX11_142 (by repeat (first | assumption | exact hset_eq _ _ _ | refine (hset_ne _ _ (by omega)).trans ?_)) rfl ?_
    refine AW.if_icmpge (tgt := 168) dX11_drops_84 (by decide) (fun c84 => absurd c84 (by omega)) (fun c84 => ?_)
    refine AW.aload dX11_drops_87 rfl ?_
    refine AW.getf dX11_drops_89 gX11_145 (by repeat (first | assumption | exact hset_eq _ _ _ | refine (hset_ne _ _ (by omega)).trans ?_)) rfl ?_
    refine AW.iload dX11_drops_92 rfl ?_
    refine AW.iaload dX11_drops_94 (by repeat (first | assumption | exact hset_eq _ _ _ | refine (hset_ne _ _ (by omega)).trans ?_)) (by omega) (by omega) ?_
    refine AW.cS1 (d' := d - 1) (cX11_192 rfl) okX7_partsOf dX11_drops_95 (by omega) (W_partsOf ?_)
    rw [show ((n : Int)).toNat = n by omega, ef, ptL_LETT hw]
    refine AW.ist9 dX11_drops_98 (by decide) ?_
    refine AW.iconst dX11_drops_100 ?_
    refine AW.ist10 dX11_drops_101 (by decide) ?_
    refine LC_dr1 (p0 := drN S.1 who due (s_w S.1 i) n) (m := 2 * (n : Int)) HM1 hw1 h2 hi hg hd (by omega) hb.1.1 hb.1.2 hb.2.1 hb.2.2 (fun h4 z3 z4 L4 Y4 F4 => ?_) (ptW w) 0 h1 (by omega) L Y Fr.rfl'
    refine AW.inc8 dX11_drops_162 (by decide) (by unfold RI; omega) ?_
    refine AW.goto (tgt := 77) dX11_drops_165 (by decide) ?_
    exact nx h4 _ _ (by omega) L4 Y4 (F.trans F4)
theorem C_drops (H : CS h S) (hd : 6 ≤ d) (hq : ∀ r S' h', (r, S') = o_drops S who x y → CS h' S' → Fr h h' PC → Q (some (.inl r)) h') : MW d 0 0 mX11_drops [.inr 16, .inl who, .inl x, .inl y] h Q := by
  obtain ⟨nw, tr, ik, sd, at', HM, HL, HS⟩ := id H
  obtain ⟨k1, g16, h9, k2, k3, k4, k5, k6, k7, k8, k10, k11, ok⟩ := id HM
  have gn := k4.1
  have g16' := g16
  unfold CO at g16'
  have o := ok.1.1
  have o2 := ok.1.2.1
  have go : -1 ≤ who → who < s_n S.1 → 0 ≤ x → x < s_h S.1 → (y = 0 ∨ y = 1) → AW d 0 0 mX11_drops Q 37 [some (.inr 16), some (.inl who), some (.inl x), some (.inl y), none, none, none, none, none, none, none] [] h := by
    intro w1 w2 w3 w4 w5
    have e := sayAt (l := []) (i := x.toNat) nw (by omega)
    have hh := (ok.1.2.2.2.2 x.toNat (by omega)).1
    refine AW.aload_n dX11_drops_37 rfl ?_
    refine AW.iload_n dX11_drops_38 rfl ?_
    refine AW.cI2 (d' := d - 1) (cX11_154 rfl) okX11_listenAs dX11_drops_39 (by repeat (first | assumption | exact hset_eq _ _ _ | refine (hset_ne _ _ (by omega)).trans ?_)) (by omega) (C_listenAs HM HL (by omega) w1 w2 (fun h3 L3 F3 => ?_))
    have HM3 := HM.fr F3 (fun a => PL_PS)
    obtain ⟨-, m16, m9, m2, -, m4, -⟩ := id HM3
    unfold CO at m16
    have mn := m4.1
    have q8 := m4.2.2.2.1
    have hs3 := m4.2.2.2.2.2.2 x.toNat (by omega)
    obtain ⟨f3, z1, z2, z3, z4, z5⟩ := id hs3
    have SY := (HS.fr F3 h9 (fun a ha => by unfold PL; omega)).2.2.2
    obtain ⟨aL, fL, fL2, l73, -⟩ := id L3
    refine AW.aload_n dX11_drops_42 rfl ?_
    refine AW.getf dX11_drops_43 gX11_19 (by repeat (first | assumption | exact hset_eq _ _ _ | refine (hset_ne _ _ (by omega)).trans ?_)) rfl ?_
    refine AW.getf dX11_drops_46 gX11_138 (by repeat (first | assumption | exact hset_eq _ _ _ | refine (hset_ne _ _ (by omega)).trans ?_)) rfl ?_
    refine AW.iload_n dX11_drops_49 rfl ?_
    refine AW.aaload dX11_drops_50 (by repeat (first | assumption | exact hset_eq _ _ _ | refine (hset_ne _ _ (by omega)).trans ?_)) (by decide) (by omega) e ?_
    refine AW.ast4 dX11_drops_51 (by decide) ?_
    refine AW.aload_n dX11_drops_53 rfl ?_
    refine AW.getf dX11_drops_54 gX11_56 (by repeat (first | assumption | exact hset_eq _ _ _ | refine (hset_ne _ _ (by omega)).trans ?_)) rfl ?_
    refine AW.aload dX11_drops_57 rfl ?_
    refine AW.cI2 (d' := d - 1) (cX11_189 rfl) okX6_meaningOf dX11_drops_59 (by repeat (first | assumption | exact hset_eq _ _ _ | refine (hset_ne _ _ (by omega)).trans ?_)) (by omega) (W_meaningOf m9 m2.2.2.1 L3 (nmOK_S ok.1) hs3 (by omega) (by omega) (by omega) hh (fun h6 L6 F6 => ?_))
    have hs6 := hs3.fr F6 (by omega) ⟨by unfold P76; omega, by unfold P76; omega⟩
    obtain ⟨f6, y1, y2, y3, y4, y5⟩ := id hs6
    refine AW.ist5 dX11_drops_62 (by decide) ?_
    refine AW.iconst dX11_drops_64 ?_
    refine AW.ist6 dX11_drops_65 (by decide) ?_
    refine AW.aload dX11_drops_67 rfl ?_
    refine AW.getf dX11_drops_69 gX11_142 (by repeat (first | assumption | exact hset_eq _ _ _ | refine (hset_ne _ _ (by omega)).trans ?_)) rfl ?_
    refine AW.ist7 dX11_drops_72 (by decide) ?_
    refine AW.iconst dX11_drops_74 ?_
    refine AW.ist8 dX11_drops_75 (by decide) ?_
    have ex : x = ((x.toNat : Nat) : Int) := by omega
    have FF : Fr h h6 PH := (F3.mono (fun a => Or.inl)).trans (F6.mono (fun a ha => Or.inl (P76_PL ha)))
    have key := LC_dr2 (Q := Q) (d := d) (what := y) (due := cnS S.1 who (s_w S.1 x.toNat)) (a1 := some (.inl who)) HM w1 w2 (show x.toNat < s_h S.1 by omega) hd (fun h5 L5 Y5 F5 => by
      refine hq _ S h5 (by
        unfold o_drops
        by_cases hy : y = 0
        · rw [if_pos hy, if_neg (by omega), if_neg (by omega), if_pos hy]
        · rw [if_neg hy, if_neg (by omega), if_neg (by omega), if_neg hy]) ⟨nw, tr, ik, sd, at', HM.fr F5 (fun a ha => by unfold PH PL PB at ha; unfold PS; omega), L5, ?_⟩ (F5.mono (fun a ha => by unfold PH PL PB at ha; unfold PC; omega))
      obtain ⟨⟨f7, t7⟩, t2, t3, -⟩ := HS
      exact ⟨⟨f7, (F5.2 77 (by omega) (by unfold PH PL PB; omega)).trans t7⟩, t2.fr F5 (by omega) (fun a ha => by unfold PF at ha; unfold PH PL PB; omega), fun i hi => (t3 i hi).fr F5 (by omega) (fun a ha => by unfold PF at ha; unfold PH PL PB; omega), Y5⟩) (s_w S.1 x.toNat).length 0 h6 none none (by omega) L6 (SY.fr F6 (by omega) ⟨by unfold P76; omega, by unfold P76; omega⟩) FF
    rw [← ex] at key
    exact key
  show AW d 0 0 mX11_drops Q 0 [some (.inr 16), some (.inl who), some (.inl x), some (.inl y), none, none, none, none, none, none, none] [] h
  refine AW.aload_n dX11_drops_0 rfl ?_
  refine AW.iload_n dX11_drops_1 rfl ?_
  refine AW.cI2 (d' := d - 1) (cX11_151 rfl) okX11_noListener dX11_drops_2 (by repeat (first | assumption | exact hset_eq _ _ _ | refine (hset_ne _ _ (by omega)).trans ?_)) (by omega) (C_noLis (by assumption) (by assumption) (by omega) (by omega) (fun c2 => ?_) (fun c2 c2b => ?_))
  · refine AW.ifne_t (tgt := 16) dX11_drops_5 (by decide) (by decide) ?_
    refine AW.aload_n dX11_drops_16 rfl ?_
    refine AW.iconst dX11_drops_17 ?_
    refine AW.cI2 (d' := d - 1) (cX11_84 rfl) okX11_refused dX11_drops_18 (by repeat (first | assumption | exact hset_eq _ _ _ | refine (hset_ne _ _ (by omega)).trans ?_)) (by omega) (C_refused (by assumption) (by decide) (by decide) (fun h18 hC hF => ?_))
    refine AW.ireturn dX11_drops_21 rfl ?_
    first
      | exact hq (-1) (rf S 1) _ (by unfold o_drops; rw [if_pos (by omega)]) hC hF
      | exact hq (-2) (rf S 2) _ (by unfold o_drops; rw [if_neg (by omega), if_pos (by omega)]) hC hF
  · refine AW.ifne_f (tgt := 16) dX11_drops_5 (by decide) rfl ?_
    refine AW.aload_n dX11_drops_8 rfl ?_
    refine AW.iload_n dX11_drops_9 rfl ?_
    refine AW.cI2 (d' := d - 1) (cX11_135 rfl) okX11_noScholar dX11_drops_10 (by repeat (first | assumption | exact hset_eq _ _ _ | refine (hset_ne _ _ (by omega)).trans ?_)) (by omega) (C_noSch (by assumption) (by assumption) (fun c10 => ?_) (fun c10 c10b => ?_))
    · refine AW.ifeq_f (tgt := 22) dX11_drops_13 (by decide) (by decide) ?_
      refine AW.aload_n dX11_drops_16 rfl ?_
      refine AW.iconst dX11_drops_17 ?_
      refine AW.cI2 (d' := d - 1) (cX11_84 rfl) okX11_refused dX11_drops_18 (by repeat (first | assumption | exact hset_eq _ _ _ | refine (hset_ne _ _ (by omega)).trans ?_)) (by omega) (C_refused (by assumption) (by decide) (by decide) (fun h18 hC hF => ?_))
      refine AW.ireturn dX11_drops_21 rfl ?_
      first
        | exact hq (-1) (rf S 1) _ (by unfold o_drops; rw [if_pos (by omega)]) hC hF
        | exact hq (-2) (rf S 2) _ (by unfold o_drops; rw [if_neg (by omega), if_pos (by omega)]) hC hF
    · refine AW.ifeq_t (tgt := 22) dX11_drops_13 (by decide) rfl ?_
      refine AW.iload_n dX11_drops_22 rfl ?_
      refine AW.ifeq (tgt := 37) dX11_drops_23 (by decide) (fun c23 => ?_) (fun c23 => ?_)
      · exact go (by omega) (by omega) (by omega) (by omega) (by omega)
      · refine AW.iload_n dX11_drops_26 rfl ?_
        refine AW.iconst dX11_drops_27 ?_
        refine AW.if_icmpeq (tgt := 37) dX11_drops_28 (by decide) (fun c28 => ?_) (fun c28 => ?_)
        · exact go (by omega) (by omega) (by omega) (by omega) (by omega)
        · refine AW.aload_n dX11_drops_31 rfl ?_
          refine AW.iconst dX11_drops_32 ?_
          refine AW.cI2 (d' := d - 1) (cX11_84 rfl) okX11_refused dX11_drops_33 (by repeat (first | assumption | exact hset_eq _ _ _ | refine (hset_ne _ _ (by omega)).trans ?_)) (by omega) (C_refused (by assumption) (by decide) (by decide) (fun h33 hC hF => ?_))
          refine AW.ireturn dX11_drops_36 rfl ?_
          first
            | exact hq (-1) (rf S 1) _ (by unfold o_drops; rw [if_pos (by omega)]) hC hF
            | exact hq (-2) (rf S 2) _ (by unfold o_drops; rw [if_neg (by omega), if_pos (by omega)]) hC hF
end Cls19

