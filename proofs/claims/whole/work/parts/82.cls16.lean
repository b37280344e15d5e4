section Cls16
variable {d : Nat} {Q : Option AV → AH → Prop} {h h' : AH} {nw tr b : Nat} {ik sd at' tc : Int} {S S' : ST} {P : Nat → Prop} {s : SC} {x y z who k g more v : Int} {nm : Nat → Int}
theorem SyA.put {f : Nat → Int} {ws : List Nat} {j w : Nat} (e : h.2 (b + 1) = .inr (20, f)) (H : SyA h b ws) (hj : j < ws.length) (hw : w ≤ 9) : SyA (hset h (b + 1) (.inr (20, updI f j (LETT w)))) b (ws.set j w) := by
  obtain ⟨f0, h1, h2, h3, h4, h5⟩ := H
  have ef : f = f0 := by
    rw [h2] at e
    cases e
    rfl
  subst ef
  refine ⟨updI f j (LETT w), ?_, hset_eq _ _ _, by rw [List.length_set]; exact h3, ?_, fun i u hi => ?_⟩
  · rw [hset_ne _ _ (by omega), List.length_set]
    exact h1
  · intro u hu
    rcases List.mem_or_eq_of_mem_set hu with q | q
    · exact h4 u q
    · rw [q]; exact hw
  · rw [List.getElem?_set] at hi
    by_cases q : j = i
    · subst q
      rw [if_pos rfl, if_pos hj] at hi
      cases hi
      exact updI_eq _ _ _
    · rw [if_neg q] at hi
      rw [updI_ne _ _ (fun z => q z.symm)]
      exact h5 i u hi
theorem ptW_alike : ∀ a : Nat, a ≤ 9 → ∀ w : Nat, w ≤ 9 → (ptW w = ptW a ↔ alike a w) := by
  intro a ha w hw
  unfold alike
  have : ∀ a : Nat, a ≤ 9 → ∀ w : Nat, w ≤ 9 → (ptW w = ptW a ↔ if a < 7 then w < 7 else if a = 7 then w = 7 else 7 < w) := by decide
  exact this a ha w hw
def PH (a : Nat) : Prop := PL a ∨ PB 84 a
theorem rowL {w : Nat} : rowOf [112, 113, 114, 65, 66, 67, 68, 110, 97, 111] w = LETT w := rfl
theorem LC_heard {i j a : Nat} (HM : CM h nw tr ik sd at' S) (h1 : -1 ≤ who) (h2 : who < s_n S.1) (hi : i < s_h S.1) (hj : (s_w S.1 i)[j]? = some a) (hd : 6 ≤ d)
    (hq : ∀ h', LisR h' → SyR h' 84 → Fr h h' PH → Q (some (.inl (sumN 10 (hdF S.1 who (s_w S.1 i) j v)))) h') :
    ∀ (r n : Nat) (h1 : AH) (w0 : Nat), n + r = 10 → LisA h1 (kkS S.1 who) (ggS S.1 who) (nmS S.1 who) (-9) → w0 ≤ 9 → alike a w0 → SyA h1 84 ((s_w S.1 i).set j w0) → Fr h h1 PH →
      AW d 0 0 mX11_heard Q 104 [some (.inr 16), some (.inl who), some (.inl (i : Int)), some (.inl (j : Int)), some (.inl v), some (.inr (nw + 5 + 2 * i)), some (.inl (ptW a : Int)), some (.inl (sumN n (hdF S.1 who (s_w S.1 i) j v))), some (.inl (n : Int))] [] h1 := by
  have ok := HM.2.2.2.2.2.2.2.2.2.2.2.2
  have o := ok.1.1
  have o2 := ok.1.2.1
  have h9 := HM.2.2.1
  have hsy := HM.2.2.2.2.2.1.2.2.2.2.2.2 i hi
  obtain ⟨fs, y1, y2, y3, y4, y5⟩ := id hsy
  have ha9 : a ≤ 9 := y4 a (List.mem_of_getElem? hj)
  have hjl : j < (s_w S.1 i).length := (List.getElem?_eq_some_iff.mp hj).1
  have hgd : (s_w S.1 i).getD j 0 = a := by rw [List.getD_eq_getElem?_getD, hj]; rfl
  have hh := (ok.1.2.2.2.2 i hi).1
  intro r
  induction r with
  | zero =>
    intro n h1 w0 hn L hw ha Y F
    have HM1 := HM.fr F (fun a ha => by unfold PH PL PB at ha; unfold PS; omega)
    obtain ⟨-, n16, -, ⟨s2, -⟩, -⟩ := id HM1
    unfold CO at n16
    obtain rfl : n = 10 := by omega
    refine AW.iload dX11_heard_104 rfl ?_
    refine AW.gets dX11_heard_106 sX11_209 ?_
    refine AW.alen dX11_heard_109 (by repeat (first | assumption | exact hset_eq _ _ _ | refine (hset_ne _ _ (by omega)).trans ?_)) (by omega) ?_
    refine AW.if_icmpge (tgt := 177) dX11_heard_110 (by decide) (fun c110 => ?_) (fun c110 => absurd c110 (by decide))
    refine AW.iload dX11_heard_177 rfl ?_
    refine AW.ireturn dX11_heard_179 rfl ?_
    exact hq h1 L.r (by obtain ⟨f, q1, q2, -⟩ := Y; exact ⟨_, f, q1, q2⟩) F
  | succ r ih =>
    intro n h1 w0 hn L hw ha Y F
    have HM1 := HM.fr F (fun a ha => by unfold PH PL PB at ha; unfold PS; omega)
    obtain ⟨-, n16, g9, ⟨s2, -⟩, -⟩ := id HM1
    unfold CO at n16
    obtain ⟨f, t1, t2, t3⟩ := id Y
    have sb := sumN_hd S.1 who (s_w S.1 i) j v n
    have nx := ih (n + 1)
    rw [sumN_succ] at nx
    obtain ⟨N, eN⟩ : ∃ N : Nat, sumN n (hdF S.1 who (s_w S.1 i) j v) = (N : Int) := ⟨(sumN n (hdF S.1 who (s_w S.1 i) j v)).toNat, by omega⟩
    have hN : N < 2 ^ n := by have := sb.2; rw [eN] at this; exact Int.ofNat_lt.mp this
    have hN2 : N < 1024 := Nat.lt_of_lt_of_le hN (Nat.pow_le_pow_right (by decide) (by omega) : 2 ^ n ≤ 2 ^ 10)
    refine AW.iload dX11_heard_104 rfl ?_
    refine AW.gets dX11_heard_106 sX11_209 ?_
    refine AW.alen dX11_heard_109 (by repeat (first | assumption | exact hset_eq _ _ _ | refine (hset_ne _ _ (by omega)).trans ?_)) (by omega) ?_
    refine AW.if_icmpge (tgt := 177) dX11_heard_110 (by decide) (fun c110 => absurd c110 (by omega)) (fun c110 => ?_)
    refine AW.gets dX11_heard_113 sX11_209 ?_
    refine AW.iload dX11_heard_116 rfl ?_
    refine AW.iaload dX11_heard_118 (by repeat (first | assumption | exact hset_eq _ _ _ | refine (hset_ne _ _ (by omega)).trans ?_)) (by omega) (by omega) ?_
    refine AW.cS1 (d' := d - 1) (cX11_192 rfl) okX7_partsOf dX11_heard_119 (by omega) (W_partsOf ?_)
    have e1 : ptL (rowOf [112, 113, 114, 65, 66, 67, 68, 110, 97, 111] ((n : Int)).toNat) = (ptW n : Int) := by
      rw [show ((n : Int)).toNat = n by omega, rowL]
      exact ptL_LETT (by omega)
    rw [e1]
    have eo : a_or (N : Int) (a_shl 1 (n : Int)) = (N : Int) + ((2 ^ n : Nat) : Int) := or_bit n (by omega) N hN
    have eo0 : a_or (N : Int) 0 = (N : Int) := or_0 N hN2
    by_cases hal : alike a n
    · have ep : (ptW n : Int) = (ptW a : Int) := by rw [(ptW_alike a ha9 n (by omega)).mpr hal]
      refine AW.iload dX11_heard_122 rfl ?_
      refine AW.if_icmpne (tgt := 171) dX11_heard_124 (by decide) (fun c124 => absurd ep c124) (fun c124 => ?_)
      refine AW.aload_n dX11_heard_127 rfl ?_
      refine AW.getf dX11_heard_128 gX11_77 (by repeat (first | assumption | exact hset_eq _ _ _ | refine (hset_ne _ _ (by omega)).trans ?_)) rfl ?_
      refine AW.getf dX11_heard_131 gX11_145 (by repeat (first | assumption | exact hset_eq _ _ _ | refine (hset_ne _ _ (by omega)).trans ?_)) rfl ?_
      refine AW.iload_n dX11_heard_134 rfl ?_
      refine AW.gets dX11_heard_135 sX11_209 ?_
      refine AW.iload dX11_heard_138 rfl ?_
      refine AW.iaload dX11_heard_140 (by repeat (first | assumption | exact hset_eq _ _ _ | refine (hset_ne _ _ (by omega)).trans ?_)) (by omega) (by omega) ?_
      refine AW.iastore dX11_heard_141 (by omega) (by repeat (first | assumption | exact hset_eq _ _ _ | refine (hset_ne _ _ (by omega)).trans ?_)) (by omega) (by omega) ?_
      have er : rowOf [112, 113, 114, 65, 66, 67, 68, 110, 97, 111] ((n : Int)).toNat = LETT n := by rw [show ((n : Int)).toNat = n by omega]; rfl
      rw [er, show ((j : Int)).toNat = j by omega]
      have Y2 := Y.put (j := j) (w := n) t2 (by rw [List.length_set]; exact hjl) (by omega)
      rw [List.set_set] at Y2
      have F2b : Fr h1 (hset h1 (84 + 1) (.inr (20, updI f j (LETT n)))) (PB 84) := Fr.set (Or.inr rfl)
      show AW _ _ _ _ _ _ _ _ (hset h1 (84 + 1) (.inr (20, updI f j (LETT n))))
      generalize hset h1 (84 + 1) (.inr (20, updI f j (LETT n))) = h3 at Y2 F2b ⊢
      have F2 : Fr h1 h3 PH := F2b.mono (fun a => Or.inr)
      have HM3 := HM1.fr F2 (fun a ha => by unfold PH PL PB at ha; unfold PS; omega)
      obtain ⟨-, m16, m9, m2, -⟩ := id HM3
      unfold CO at m16
      have L3 := L.fr F2b g9 (fun a ha => by unfold PB; omega)
      obtain ⟨aL, fL, fL2, l73, -⟩ := id L3
      rw [eN]
      rw [eN] at nx
      refine AW.iload dX11_heard_142 rfl ?_
      refine AW.aload_n dX11_heard_144 rfl ?_
      refine AW.getf dX11_heard_145 gX11_56 (by repeat (first | assumption | exact hset_eq _ _ _ | refine (hset_ne _ _ (by omega)).trans ?_)) rfl ?_
      refine AW.aload_n dX11_heard_148 rfl ?_
      refine AW.getf dX11_heard_149 gX11_77 (by repeat (first | assumption | exact hset_eq _ _ _ | refine (hset_ne _ _ (by omega)).trans ?_)) rfl ?_
      refine AW.cI2 (d' := d - 1) (cX11_189 rfl) okX6_meaningOf dX11_heard_152 (by repeat (first | assumption | exact hset_eq _ _ _ | refine (hset_ne _ _ (by omega)).trans ?_)) (by omega) (W_meaningOf m9 m2.2.2.1 L3 (nmOK_S ok.1) Y2 (by omega) (by omega) (by omega) (hgt_set hh hj hal (by omega)) (fun h4 L4 F4 => ?_))
      have FF := (F.trans F2).trans (F4.mono (fun a ha => Or.inl (P76_PL ha)))
      have Y4 := Y2.fr F4 (by omega) ⟨by unfold P76; omega, by unfold P76; omega⟩
      by_cases hv : cnS S.1 who ((s_w S.1 i).set j n) = v
      · have e : hdF S.1 who (s_w S.1 i) j v n = ((2 ^ n : Nat) : Int) := by unfold hdF iv; rw [hgd]; exact if_pos ⟨hal, hv⟩
        rw [e] at nx
        refine AW.iload dX11_heard_155 rfl ?_
        refine AW.if_icmpne (tgt := 167) dX11_heard_157 (by decide) (fun c157 => absurd hv c157) (fun c157 => ?_)
        refine AW.iconst dX11_heard_160 ?_
        refine AW.iload dX11_heard_161 rfl ?_
        refine AW.ishl dX11_heard_163 ?_
        refine AW.goto (tgt := 168) dX11_heard_164 (by decide) ?_
        refine AW.ior dX11_heard_168 ?_
        refine AW.ist7 dX11_heard_169 (by decide) ?_
        refine AW.inc8 dX11_heard_171 (by decide) (by unfold RI; omega) ?_
        refine AW.goto (tgt := 104) dX11_heard_174 (by decide) ?_
        rw [eo]
        exact nx h4 n (by omega) L4 (by omega) hal Y4 FF
      · have e : hdF S.1 who (s_w S.1 i) j v n = 0 := by unfold hdF iv; rw [hgd]; exact if_neg (fun q => hv q.2)
        rw [e, Int.add_zero] at nx
        refine AW.iload dX11_heard_155 rfl ?_
        refine AW.if_icmpne (tgt := 167) dX11_heard_157 (by decide) (fun c157 => ?_) (fun c157 => absurd c157 hv)
        refine AW.iconst dX11_heard_167 ?_
        refine AW.ior dX11_heard_168 ?_
        refine AW.ist7 dX11_heard_169 (by decide) ?_
        refine AW.inc8 dX11_heard_171 (by decide) (by unfold RI; omega) ?_
        refine AW.goto (tgt := 104) dX11_heard_174 (by decide) ?_
        rw [eo0]
        exact nx h4 n (by omega) L4 (by omega) hal Y4 FF
    · have ep : ¬ (ptW n : Int) = (ptW a : Int) := fun q => hal ((ptW_alike a ha9 n (by omega)).mp (by omega))
      have e : hdF S.1 who (s_w S.1 i) j v n = 0 := by unfold hdF iv; rw [hgd]; exact if_neg (fun q => hal q.1)
      rw [e, Int.add_zero] at nx
      refine AW.iload dX11_heard_122 rfl ?_
      refine AW.if_icmpne (tgt := 171) dX11_heard_124 (by decide) (fun c124 => ?_) (fun c124 => absurd c124 ep)
      refine AW.inc8 dX11_heard_171 (by decide) (by unfold RI; omega) ?_
      refine AW.goto (tgt := 104) dX11_heard_174 (by decide) ?_
      exact nx h1 w0 (by omega) L hw ha Y F
theorem C_heard (H : CS h S) (hd : 6 ≤ d) (hq : ∀ r S' h', (r, S') = o_heard S who x y v → CS h' S' → Fr h h' PC → Q (some (.inl r)) h') : MW d 0 0 mX11_heard [.inr 16, .inl who, .inl x, .inl y, .inl v] h Q := by
  obtain ⟨nw, tr, ik, sd, at', HM, HL, HS⟩ := id H
  obtain ⟨k1, g16, h9, k2, k3, k4, k5, k6, k7, k8, k10, k11, ok⟩ := id HM
  have gn := k4.1
  have g16' := g16
  unfold CO at g16'
  have o := ok.1.1
  have o2 := ok.1.2.1
  have q8 := k4.2.2.2.1
  have go : -1 ≤ who → who < s_n S.1 → 0 ≤ x → x < s_h S.1 → 0 ≤ y → 0 ≤ v → AW d 0 0 mX11_heard Q 37 [some (.inr 16), some (.inl who), some (.inl x), some (.inl y), some (.inl v), none, none, none, none] [] h := by
    intro w1 w2 w3 w4 w5 w6
    have e := sayAt (l := []) (i := x.toNat) nw (by omega)
    have hs := k4.2.2.2.2.2.2 x.toNat (by omega)
    obtain ⟨fs, y1, y2, y3, y4, y5⟩ := id hs
    have go2 : y < (s_w S.1 x.toNat).length → v ≤ 255 → AW d 0 0 mX11_heard Q 72 [some (.inr 16), some (.inl who), some (.inl x), some (.inl y), some (.inl v), some (.inr (nw + 5 + 2 * x.toNat)), none, none, none] [] h := by
      intro w7 w8
      have hj : (s_w S.1 x.toNat)[y.toNat]? = some ((s_w S.1 x.toNat)[y.toNat]'(by omega)) := List.getElem?_eq_getElem _
      generalize (s_w S.1 x.toNat)[y.toNat]'(by omega) = a at hj
      have ea := y5 _ _ hj
      have ha9 : a ≤ 9 := y4 a (List.mem_of_getElem? hj)
      refine AW.aload_n dX11_heard_72 rfl ?_
      refine AW.iload_n dX11_heard_73 rfl ?_
      refine AW.cI2 (d' := d - 1) (cX11_154 rfl) okX11_listenAs dX11_heard_74 (by repeat (first | assumption | exact hset_eq _ _ _ | refine (hset_ne _ _ (by omega)).trans ?_)) (by omega) (C_listenAs HM HL (by omega) w1 w2 (fun h3 L3 F3 => ?_))
      have HM3 := HM.fr F3 (fun a => PL_PS)
      obtain ⟨-, m16, m9, m2, -⟩ := id HM3
      unfold CO at m16
      have hs3 := HM3.2.2.2.2.2.1.2.2.2.2.2.2 x.toNat (by omega)
      obtain ⟨f3, z1, z2, z3, z4, z5⟩ := id hs3
      have ea3 := z5 _ _ hj
      have SY := (HS.fr F3 h9 (fun a ha => by unfold PL; omega)).2.2.2
      obtain ⟨n0, f0, sy1, sy2⟩ := id SY
      refine AW.aload dX11_heard_77 rfl ?_
      refine AW.getf dX11_heard_79 gX11_145 (by repeat (first | assumption | exact hset_eq _ _ _ | refine (hset_ne _ _ (by omega)).trans ?_)) rfl ?_
      refine AW.iload_n dX11_heard_82 rfl ?_
      refine AW.iaload dX11_heard_83 (by repeat (first | assumption | exact hset_eq _ _ _ | refine (hset_ne _ _ (by omega)).trans ?_)) (by omega) (by omega) ?_
      refine AW.cS1 (d' := d - 1) (cX11_192 rfl) okX7_partsOf dX11_heard_84 (by omega) (W_partsOf ?_)
      rw [ea3, ptL_LETT ha9]
      refine AW.ist6 dX11_heard_87 (by decide) ?_
      refine AW.aload_n dX11_heard_89 rfl ?_
      refine AW.getf dX11_heard_90 gX11_77 (by repeat (first | assumption | exact hset_eq _ _ _ | refine (hset_ne _ _ (by omega)).trans ?_)) rfl ?_
      refine AW.aload dX11_heard_93 rfl ?_
      refine AW.cI2 (d' := d - 1) (cX11_205 rfl) okX7_copy dX11_heard_95 (by repeat (first | assumption | exact hset_eq _ _ _ | refine (hset_ne _ _ (by omega)).trans ?_)) (by omega) (W_copy (by omega) (by omega) (by omega) (by omega) SY hs3 (fun h4 Y4 F4 => ?_))
      refine AW.iconst dX11_heard_98 ?_
      refine AW.ist7 dX11_heard_99 (by decide) ?_
      refine AW.iconst dX11_heard_101 ?_
      refine AW.ist8 dX11_heard_102 (by decide) ?_
      have ex : x = ((x.toNat : Nat) : Int) := by omega
      have ey : y = ((y.toNat : Nat) : Int) := by omega
      have FF : Fr h h4 PH := (F3.mono (fun a => Or.inl)).trans (F4.mono (fun a => Or.inr))
      have key := LC_heard (Q := Q) (d := d) (v := v) HM w1 w2 (show x.toNat < s_h S.1 by omega) hj hd (fun h5 L5 Y5 F5 => by
        refine hq _ S h5 (by unfold o_heard; rw [if_neg (by omega), if_neg (by omega), if_neg (by omega)]) ⟨nw, tr, ik, sd, at', HM.fr F5 (fun a ha => by unfold PH PL PB at ha; unfold PS; omega), L5, ?_⟩ (F5.mono (fun a ha => by unfold PH PL PB at ha; unfold PC; omega))
        obtain ⟨⟨f7, t7⟩, t2, t3, -⟩ := HS
        exact ⟨⟨f7, (F5.2 77 (by omega) (by unfold PH PL PB; omega)).trans t7⟩, t2.fr F5 (by omega) (fun a ha => by unfold PF at ha; unfold PH PL PB; omega), fun i hi => (t3 i hi).fr F5 (by omega) (fun a ha => by unfold PF at ha; unfold PH PL PB; omega), Y5⟩) 10 0 h4 a (by omega) (L3.fr F4 m9 (fun a ha => by unfold PB; omega)) ha9 ((ptW_alike a ha9 a ha9).mp rfl) (by
          have : (s_w S.1 x.toNat).set y.toNat a = s_w S.1 x.toNat := by
            have hl := (List.getElem?_eq_some_iff.mp hj)
            obtain ⟨l1, l2⟩ := hl
            rw [← l2]
            exact List.set_getElem_self l1
          rw [this]; exact Y4) FF
      rw [← ex, ← ey] at key
      exact key
    refine AW.aload_n dX11_heard_37 rfl ?_
    refine AW.getf dX11_heard_38 gX11_19 (by repeat (first | assumption | exact hset_eq _ _ _ | refine (hset_ne _ _ (by omega)).trans ?_)) rfl ?_
    refine AW.getf dX11_heard_41 gX11_138 (by repeat (first | assumption | exact hset_eq _ _ _ | refine (hset_ne _ _ (by omega)).trans ?_)) rfl ?_
    refine AW.iload_n dX11_heard_44 rfl ?_
    refine AW.aaload dX11_heard_45 (by repeat (first | assumption | exact hset_eq _ _ _ | refine (hset_ne _ _ (by omega)).trans ?_)) (by decide) (by omega) e ?_
    refine AW.ast5 dX11_heard_46 (by decide) ?_
    refine AW.iload_n dX11_heard_48 rfl ?_
    refine AW.aload dX11_heard_49 rfl ?_
    refine AW.getf dX11_heard_51 gX11_142 (by repeat (first | assumption | exact hset_eq _ _ _ | refine (hset_ne _ _ (by omega)).trans ?_)) rfl ?_
    refine AW.if_icmpge (tgt := 65) dX11_heard_54 (by decide) (fun c54 => ?_) (fun c54 => ?_)
    · refine AW.aload_n dX11_heard_65 rfl ?_
      refine AW.bipush dX11_heard_66 ?_
      refine AW.cI2 (d' := d - 1) (cX11_84 rfl) okX11_refused dX11_heard_68 (by repeat (first | assumption | exact hset_eq _ _ _ | refine (hset_ne _ _ (by omega)).trans ?_)) (by omega) (C_refused (by assumption) (by decide) (by decide) (fun h68 hC hF => ?_))
      refine AW.ireturn dX11_heard_71 rfl ?_
      exact hq (-6) (rf S 6) _ (by unfold o_heard; rw [if_neg (by omega), if_neg (by omega), if_pos (by omega)]) hC hF
    · refine AW.iload dX11_heard_57 rfl ?_
      refine AW.sipush dX11_heard_59 ?_
      refine AW.if_icmple (tgt := 72) dX11_heard_62 (by decide) (fun c62 => ?_) (fun c62 => ?_)
      · exact go2 (by omega) (by omega)
      · refine AW.aload_n dX11_heard_65 rfl ?_
        refine AW.bipush dX11_heard_66 ?_
        refine AW.cI2 (d' := d - 1) (cX11_84 rfl) okX11_refused dX11_heard_68 (by repeat (first | assumption | exact hset_eq _ _ _ | refine (hset_ne _ _ (by omega)).trans ?_)) (by omega) (C_refused (by assumption) (by decide) (by decide) (fun h68 hC hF => ?_))
        refine AW.ireturn dX11_heard_71 rfl ?_
        exact hq (-6) (rf S 6) _ (by unfold o_heard; rw [if_neg (by omega), if_neg (by omega), if_pos (by omega)]) hC hF
  show AW d 0 0 mX11_heard Q 0 [some (.inr 16), some (.inl who), some (.inl x), some (.inl y), some (.inl v), none, none, none, none] [] h
  refine AW.aload_n dX11_heard_0 rfl ?_
  refine AW.iload_n dX11_heard_1 rfl ?_
  refine AW.cI2 (d' := d - 1) (cX11_151 rfl) okX11_noListener dX11_heard_2 (by repeat (first | assumption | exact hset_eq _ _ _ | refine (hset_ne _ _ (by omega)).trans ?_)) (by omega) (C_noLis (by assumption) (by assumption) (by omega) (by omega) (fun c2 => ?_) (fun c2 c2b => ?_))
  · refine AW.ifne_t (tgt := 16) dX11_heard_5 (by decide) (by decide) ?_
    refine AW.aload_n dX11_heard_16 rfl ?_
    refine AW.iconst dX11_heard_17 ?_
    refine AW.cI2 (d' := d - 1) (cX11_84 rfl) okX11_refused dX11_heard_18 (by repeat (first | assumption | exact hset_eq _ _ _ | refine (hset_ne _ _ (by omega)).trans ?_)) (by omega) (C_refused (by assumption) (by decide) (by decide) (fun h18 hC hF => ?_))
    refine AW.ireturn dX11_heard_21 rfl ?_
    first
      | exact hq (-1) (rf S 1) _ (by unfold o_heard; rw [if_pos (by omega)]) hC hF
      | exact hq (-4) (rf S 4) _ (by unfold o_heard; rw [if_neg (by omega), if_pos (by omega)]) hC hF
  · refine AW.ifne_f (tgt := 16) dX11_heard_5 (by decide) rfl ?_
    refine AW.aload_n dX11_heard_8 rfl ?_
    refine AW.iload_n dX11_heard_9 rfl ?_
    refine AW.cI2 (d' := d - 1) (cX11_135 rfl) okX11_noScholar dX11_heard_10 (by repeat (first | assumption | exact hset_eq _ _ _ | refine (hset_ne _ _ (by omega)).trans ?_)) (by omega) (C_noSch (by assumption) (by assumption) (fun c10 => ?_) (fun c10 c10b => ?_))
    · refine AW.ifeq_f (tgt := 22) dX11_heard_13 (by decide) (by decide) ?_
      refine AW.aload_n dX11_heard_16 rfl ?_
      refine AW.iconst dX11_heard_17 ?_
      refine AW.cI2 (d' := d - 1) (cX11_84 rfl) okX11_refused dX11_heard_18 (by repeat (first | assumption | exact hset_eq _ _ _ | refine (hset_ne _ _ (by omega)).trans ?_)) (by omega) (C_refused (by assumption) (by decide) (by decide) (fun h18 hC hF => ?_))
      refine AW.ireturn dX11_heard_21 rfl ?_
      first
        | exact hq (-1) (rf S 1) _ (by unfold o_heard; rw [if_pos (by omega)]) hC hF
        | exact hq (-4) (rf S 4) _ (by unfold o_heard; rw [if_neg (by omega), if_pos (by omega)]) hC hF
    · refine AW.ifeq_t (tgt := 22) dX11_heard_13 (by decide) rfl ?_
      refine AW.iload_n dX11_heard_22 rfl ?_
      refine AW.iflt (tgt := 31) dX11_heard_23 (by decide) (fun c23 => ?_) (fun c23 => ?_)
      · refine AW.aload_n dX11_heard_31 rfl ?_
        refine AW.iconst dX11_heard_32 ?_
        refine AW.cI2 (d' := d - 1) (cX11_84 rfl) okX11_refused dX11_heard_33 (by repeat (first | assumption | exact hset_eq _ _ _ | refine (hset_ne _ _ (by omega)).trans ?_)) (by omega) (C_refused (by assumption) (by decide) (by decide) (fun h33 hC hF => ?_))
        refine AW.ireturn dX11_heard_36 rfl ?_
        first
          | exact hq (-1) (rf S 1) _ (by unfold o_heard; rw [if_pos (by omega)]) hC hF
          | exact hq (-4) (rf S 4) _ (by unfold o_heard; rw [if_neg (by omega), if_pos (by omega)]) hC hF
      · refine AW.iload dX11_heard_26 rfl ?_
        refine AW.ifge (tgt := 37) dX11_heard_28 (by decide) (fun c28 => ?_) (fun c28 => ?_)
        · exact go (by omega) (by omega) (by omega) (by omega) (by omega) (by omega)
        · refine AW.aload_n dX11_heard_31 rfl ?_
          refine AW.iconst dX11_heard_32 ?_
          refine AW.cI2 (d' := d - 1) (cX11_84 rfl) okX11_refused dX11_heard_33 (by repeat (first | assumption | exact hset_eq _ _ _ | refine (hset_ne _ _ (by omega)).trans ?_)) (by omega) (C_refused (by assumption) (by decide) (by decide) (fun h33 hC hF => ?_))
          refine AW.ireturn dX11_heard_36 rfl ?_
          first
            | exact hq (-1) (rf S 1) _ (by unfold o_heard; rw [if_pos (by omega)]) hC hF
            | exact hq (-4) (rf S 4) _ (by unfold o_heard; rw [if_neg (by omega), if_pos (by omega)]) hC hF
end Cls16

