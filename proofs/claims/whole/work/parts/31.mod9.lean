section Mod9
variable {d : Nat} {Q : Option AV → AH → Prop} {h h0 : AH} {m : Nat → Int} {A : Nat → Nat → Int} {who x y z v : Int} {S : ST} {s : SC}
theorem set_get {ws : List Nat} {j u w i x : Nat} (h : ((ws.set j u).set j w)[i]? = some x) : (i = j ∧ x = w) ∨ (i ≠ j ∧ (ws.set j u)[i]? = some x) := by
  by_cases e : i = j
  · subst e
    have hl := (List.getElem?_eq_some_iff.mp h).1
    rw [List.getElem?_set_self (by simpa using hl)] at h
    cases h
    exact Or.inl ⟨rfl, rfl⟩
  · rw [List.getElem?_set_ne (Ne.symm e)] at h
    exact Or.inr ⟨e, h⟩
theorem L_heard {ws : List Nat} {j a : Nat} {a2 a5 : Option AV} (ok : scOK s) (hd : 5 ≤ d) (h1 : -1 ≤ who) (h2 : who < s_n s) (wf : hgt ws = some 1) (wl : ws.length ≤ 20) (hja : ws[j]? = some a)
    (hq : ∀ h' m' A', MR h0 h' m' A' → T3 m m' A A' → Q (some (.inl (sumN 10 (hdF s who ws j v)))) h') :
    ∀ (r w u : Nat) (h : AH) (m' : Nat → Int) (A' : Nat → Nat → Int), w + r = 10 → MR h0 h m' A' → MSC m' A' s → T3 m m' A A' → m' 24 = (ws.length : Int) → (∀ (i x : Nat), (ws.set j u)[i]? = some x → A' 131 i = (x : Int)) →
      AW d 0 0 mX12_heard Q 93 [some (.inr 116), some (.inl who), a2, some (.inl (j : Int)), some (.inl v), a5, some (.inl (a : Int)), some (.inl (sumN w (hdF s who ws j v))), some (.inl (w : Int))] [] h := by
  have hjl := (List.getElem?_eq_some_iff.mp hja).1
  have ega : ws.getD j 0 = a := by rw [List.getD_eq_getElem?_getD, hja]; rfl
  have hn5 := ok.1
  intro r
  induction r with
  | zero =>
    intro w u h m' A' hw hM hS hT h24 hW
    have hw2 : w = 10 := by omega
    subst hw2
    refine AW.iload dX12_heard_93 rfl ?_
    refine AW.bipush dX12_heard_95 ?_
    refine AW.if_icmpge (tgt := 150) dX12_heard_97 (by decide) (fun c97 => ?_) (fun c97 => absurd c97 (by decide))
    refine AW.iload dX12_heard_150 rfl ?_
    refine AW.ireturn dX12_heard_152 rfl ?_
    exact hq h m' A' hM hT
  | succ r ih =>
    intro w u h m' A' hw hM hS hT h24 hW
    obtain ⟨g116, g117, g118, g119, g120, g121, g122, g123, g124, g125, g126, g127, g128, g129, g130, g131, -⟩ := id hM
    have hb := sumN_hd s who ws j v w
    have hb2 : sumN w (hdF s who ws j v) < 1024 := by
      have : 2 ^ w ≤ 2 ^ 9 := Nat.pow_le_pow_right (by decide) (by omega)
      omega
    have eb : sumN w (hdF s who ws j v) = (((sumN w (hdF s who ws j v)).toNat : Nat) : Int) := by omega
    have e2 := sumN_succ w (hdF s who ws j v)
    refine AW.iload dX12_heard_93 rfl ?_
    refine AW.bipush dX12_heard_95 ?_
    refine AW.if_icmpge (tgt := 150) dX12_heard_97 (by decide) (fun c97 => absurd c97 (by omega)) (fun c97 => ?_)
    refine AW.iload dX12_heard_100 rfl ?_
    refine AW.iload dX12_heard_102 rfl ?_
    refine AW.cS2 (d' := d - 1) (cX12_239 rfl) okX12_isAlike dX12_heard_104 (by omega) (W_isAlike (fun hal => ?_) (fun hal => ?_))
    · refine AW.ifne_t (tgt := 113) dX12_heard_107 (by decide) (by decide) ?_
      refine AW.aload_n dX12_heard_113 rfl ?_
      refine AW.getf dX12_heard_114 gX12_52 (by repeat (first | assumption | exact hset_eq _ _ _ | refine (hset_ne _ _ (by omega)).trans ?_)) rfl ?_
      refine AW.iload_n dX12_heard_117 rfl ?_
      refine AW.iload dX12_heard_118 rfl ?_
      refine AW.iastore dX12_heard_120 (by omega) (by repeat (first | assumption | exact hset_eq _ _ _ | refine (hset_ne _ _ (by omega)).trans ?_)) (by omega) (by omega) ?_
      have hM2 := MR.s131 (f := updI (A' 131) ((j : Int)).toNat (w : Int)) hM
      generalize hset h 131 (.inr (24, updI (A' 131) ((j : Int)).toNat (w : Int))) = hh at hM2
      have hS2 : MSC m' (updA A' 131 (updI (A' 131) ((j : Int)).toNat (w : Int))) s := hS
      have hW2 : ∀ (i x : Nat), (ws.set j w)[i]? = some x → updA A' 131 (updI (A' 131) ((j : Int)).toNat (w : Int)) 131 i = (x : Int) := by
        intro i x hx
        rw [updA_eq]
        have hx2 : ((ws.set j u).set j w)[i]? = some x := by rw [List.set_set]; exact hx
        rcases set_get hx2 with ⟨e1, e3⟩ | ⟨e1, e3⟩
        · subst e1; subst e3
          rw [show ((i : Int)).toNat = i by omega, updI_eq]
        · rw [updI_ne _ _ (by omega)]
          exact hW i x e3
      have wf2 := hgt_set wf hja hal (show w ≤ 9 by omega)
      have hT2 : T3 m m' A (updA A' 131 (updI (A' 131) ((j : Int)).toNat (w : Int))) := ⟨hT.1, fun k k1 k2 => by rw [updA_ne _ _ k1]; exact hT.2 k k1 k2⟩
      obtain ⟨k116, -⟩ := id hM2
      obtain ⟨c1, c2, c3⟩ := nm_lf hS2 ok h1 h2
      refine AW.iload dX12_heard_121 rfl ?_
      refine AW.aload_n dX12_heard_123 rfl ?_
      refine AW.iload_n dX12_heard_124 rfl ?_
      refine AW.cI2 (d' := d - 1) (cX12_125 rfl) okX12_concluded dX12_heard_125 (by repeat (first | assumption | exact hset_eq _ _ _ | refine (hset_ne _ _ (by omega)).trans ?_)) (by omega) (W_concluded (ws := ws.set j w) hM2 (by omega) (by omega) hW2 (by rw [List.length_set]; exact h24) wf2 (by rw [List.length_set]; exact wl) (fun h3 B hM3 hB => ?_))
      rw [c1, c2, concF_congr c3]
      have hn : ∀ W : Int, W = sumN (w + 1) (hdF s who ws j v) → AW d 0 0 mX12_heard Q 93 [some (.inr 116), some (.inl who), a2, some (.inl (j : Int)), some (.inl v), a5, some (.inl (a : Int)), some (.inl W), some (.inl ((w : Int) + 1))] [] h3 := by
        intro W hWe
        rw [hWe]
        exact ih (w + 1) w h3 m' B (by omega) hM3 (hS2.sq ⟨⟨rfl, rfl, rfl, rfl, rfl⟩, hB 117 (by decide), hB 118 (by decide), hB 119 (by decide), hB 120 (by decide), hB 121 (by decide), hB 122 (by decide), hB 123 (by decide), hB 124 (by decide), hB 130 (by decide), hB 135 (by decide)⟩) ⟨hT2.1, fun k k1 k2 => by rw [hB k k2]; exact hT2.2 k k1 k2⟩ h24 (fun i x hx => by rw [hB 131 (by decide)]; exact hW2 i x hx)
      refine AW.iload dX12_heard_128 rfl ?_
      refine AW.if_icmpne (tgt := 140) dX12_heard_130 (by decide) (fun c130 => ?_) (fun c130 => ?_)
      · refine AW.iconst dX12_heard_140 ?_
        refine AW.ior dX12_heard_141 ?_
        refine AW.ist7 dX12_heard_142 (by decide) ?_
        refine AW.inc8 dX12_heard_144 (by decide) (by unfold RI; omega) ?_
        refine AW.goto (tgt := 93) dX12_heard_147 (by decide) ?_
        refine hn _ ?_
        first
          | (rw [e2, show hdF s who ws j v w = ((2 ^ w : Nat) : Int) from iv_pos ⟨by rw [ega]; exact hal, c130⟩, eb, or_bit w (by omega) _ (by omega)]; done)
          | (rw [e2, show hdF s who ws j v w = 0 from iv_neg (fun q => c130 q.2), eb, or_0 _ (by omega), Int.add_zero])
      · refine AW.iconst dX12_heard_133 ?_
        refine AW.iload dX12_heard_134 rfl ?_
        refine AW.ishl dX12_heard_136 ?_
        refine AW.goto (tgt := 141) dX12_heard_137 (by decide) ?_
        refine AW.ior dX12_heard_141 ?_
        refine AW.ist7 dX12_heard_142 (by decide) ?_
        refine AW.inc8 dX12_heard_144 (by decide) (by unfold RI; omega) ?_
        refine AW.goto (tgt := 93) dX12_heard_147 (by decide) ?_
        refine hn _ ?_
        first
          | (rw [e2, show hdF s who ws j v w = ((2 ^ w : Nat) : Int) from iv_pos ⟨by rw [ega]; exact hal, c130⟩, eb, or_bit w (by omega) _ (by omega)]; done)
          | (rw [e2, show hdF s who ws j v w = 0 from iv_neg (fun q => c130 q.2), eb, or_0 _ (by omega), Int.add_zero])
    · refine AW.ifne_f (tgt := 113) dX12_heard_107 (by decide) rfl ?_
      refine AW.goto (tgt := 144) dX12_heard_110 (by decide) ?_
      refine AW.inc8 dX12_heard_144 (by decide) (by unfold RI; omega) ?_
      refine AW.goto (tgt := 93) dX12_heard_147 (by decide) ?_
      have e1 := ih (w + 1) u h m' A' (by omega) hM hS hT h24 hW
      rw [e2, show hdF s who ws j v w = 0 from iv_neg (fun q => hal (by rw [← ega]; exact q.1)), Int.add_zero] at e1
      exact e1
theorem W_heard (hM : MS h0 h S) (hd : 5 ≤ d) (hq : ∀ r S' h', (r, S') = o_heard S who x y z → MS h0 h' S' → Q (some (.inl r)) h') : MW d 0 0 mX12_heard [.inr 116, .inl who, .inl x, .inl y, .inl z] h Q := by
  obtain ⟨m, A, hM, hP, ok⟩ := hM
  obtain ⟨g116, g117, g118, g119, g120, g121, g122, -⟩ := id hM
  obtain ⟨⟨q1, q2, q3, q4, q5, q6⟩, p2⟩ := id hP
  have h6 := ok.1.2.1
  have hlen : 0 ≤ x → x < s_h S.1 → A 122 x.toNat = ((s_w S.1 x.toNat).length : Int) := fun a b => q5 x.toNat (by omega)
  show AW d 0 0 mX12_heard Q 0 [some (.inr 116), some (.inl who), some (.inl x), some (.inl y), some (.inl z), none, none, none, none] [] h
  refine AW.aload_n dX12_heard_0 rfl ?_
  refine AW.iload_n dX12_heard_1 rfl ?_
  refine AW.cI2 (d' := d - 1) (cX12_195 rfl) okX12_isWho dX12_heard_2 (by repeat (first | assumption | exact hset_eq _ _ _ | refine (hset_ne _ _ (by omega)).trans ?_)) (by omega) (W_isWho (by assumption) (fun c2 c2b => ?_) (fun c2 => ?_))
  · refine AW.ifeq_f (tgt := 16) dX12_heard_5 (by decide) (by decide) ?_
    refine AW.aload_n dX12_heard_8 rfl ?_
    refine AW.iload_n dX12_heard_9 rfl ?_
    refine AW.cI2 (d' := d - 1) (cX12_189 rfl) okX12_isScholar dX12_heard_10 (by repeat (first | assumption | exact hset_eq _ _ _ | refine (hset_ne _ _ (by omega)).trans ?_)) (by omega) (W_isScholar (by assumption) (fun c10 c10b => ?_) (fun c10 => ?_))
    · refine AW.ifne_t (tgt := 22) dX12_heard_13 (by decide) (by decide) ?_
      refine AW.iload_n dX12_heard_22 rfl ?_
      refine AW.iflt (tgt := 31) dX12_heard_23 (by decide) (fun c23 => ?_) (fun c23 => ?_)
      · refine AW.bipush dX12_heard_31 ?_
        refine AW.goto (tgt := 60) dX12_heard_33 (by decide) ?_
        refine AW.ist5 dX12_heard_60 (by decide) ?_
        refine AW.iload dX12_heard_62 rfl ?_
        refine AW.ifeq_f (tgt := 74) dX12_heard_64 (by decide) (by decide) ?_
        refine AW.aload_n dX12_heard_67 rfl ?_
        refine AW.iload dX12_heard_68 rfl ?_
        refine AW.cI2 (d' := d - 1) (cX12_82 rfl) okX12_no dX12_heard_70 (by repeat (first | assumption | exact hset_eq _ _ _ | refine (hset_ne _ _ (by omega)).trans ?_)) (by omega) (W_no (by assumption) (by decide) (by decide) (fun h70 hM => ?_))
        refine AW.ireturn dX12_heard_73 rfl ?_
        first
          | exact hq (-1) (rf S 1) _ (by unfold o_heard; rw [if_pos (by omega)]) (ms_rf hM hP ok)
          | exact hq (-4) (rf S 4) _ (by unfold o_heard; rw [if_neg (by omega), if_pos (by omega)]) (ms_rf hM hP ok)
          | (rw [hlen (by omega) (by omega)] at c43; exact hq (-6) (rf S 6) _ (by unfold o_heard; rw [if_neg (by omega), if_neg (by omega), if_pos (by omega)]) (ms_rf hM hP ok))
      · refine AW.iload dX12_heard_26 rfl ?_
        refine AW.ifge (tgt := 36) dX12_heard_28 (by decide) (fun c28 => ?_) (fun c28 => ?_)
        · refine AW.iload_n dX12_heard_36 rfl ?_
          refine AW.aload_n dX12_heard_37 rfl ?_
          refine AW.getf dX12_heard_38 gX12_25 (by repeat (first | assumption | exact hset_eq _ _ _ | refine (hset_ne _ _ (by omega)).trans ?_)) rfl ?_
          refine AW.iload_n dX12_heard_41 rfl ?_
          refine AW.iaload dX12_heard_42 (by repeat (first | assumption | exact hset_eq _ _ _ | refine (hset_ne _ _ (by omega)).trans ?_)) (by omega) (by omega) ?_
          refine AW.if_icmpge (tgt := 54) dX12_heard_43 (by decide) (fun c43 => ?_) (fun c43 => ?_)
          · refine AW.bipush dX12_heard_54 ?_
            refine AW.goto (tgt := 60) dX12_heard_56 (by decide) ?_
            refine AW.ist5 dX12_heard_60 (by decide) ?_
            refine AW.iload dX12_heard_62 rfl ?_
            refine AW.ifeq_f (tgt := 74) dX12_heard_64 (by decide) (by decide) ?_
            refine AW.aload_n dX12_heard_67 rfl ?_
            refine AW.iload dX12_heard_68 rfl ?_
            refine AW.cI2 (d' := d - 1) (cX12_82 rfl) okX12_no dX12_heard_70 (by repeat (first | assumption | exact hset_eq _ _ _ | refine (hset_ne _ _ (by omega)).trans ?_)) (by omega) (W_no (by assumption) (by decide) (by decide) (fun h70 hM => ?_))
            refine AW.ireturn dX12_heard_73 rfl ?_
            first
              | exact hq (-1) (rf S 1) _ (by unfold o_heard; rw [if_pos (by omega)]) (ms_rf hM hP ok)
              | exact hq (-4) (rf S 4) _ (by unfold o_heard; rw [if_neg (by omega), if_pos (by omega)]) (ms_rf hM hP ok)
              | (rw [hlen (by omega) (by omega)] at c43; exact hq (-6) (rf S 6) _ (by unfold o_heard; rw [if_neg (by omega), if_neg (by omega), if_pos (by omega)]) (ms_rf hM hP ok))
          · refine AW.iload dX12_heard_46 rfl ?_
            refine AW.sipush dX12_heard_48 ?_
            refine AW.if_icmple (tgt := 59) dX12_heard_51 (by decide) (fun c51 => ?_) (fun c51 => ?_)
            · refine AW.iconst dX12_heard_59 ?_
              refine AW.ist5 dX12_heard_60 (by decide) ?_
              refine AW.iload dX12_heard_62 rfl ?_
              refine AW.ifeq_t (tgt := 74) dX12_heard_64 (by decide) rfl ?_
              rw [hlen (by omega) (by omega)] at c43
              have ex : x = ((x.toNat : Nat) : Int) := by omega
              have ey : y = ((y.toNat : Nat) : Int) := by omega
              have hjl : y.toNat < (s_w S.1 x.toNat).length := by omega
              have hja := List.getElem?_eq_getElem hjl
              have hfin := hq (sumN 10 (hdF S.1 who (s_w S.1 x.toNat) y.toNat z)) S
              have hop : (sumN 10 (hdF S.1 who (s_w S.1 x.toNat) y.toNat z), S) = o_heard S who x y z := (by unfold o_heard; rw [if_neg (by omega), if_neg (by omega), if_neg (by omega)])
              have hx6 : x.toNat < s_h S.1 := by omega
              have hwk := ok.1.2.2.2.2 x.toNat hx6
              rw [ex, ey]
              refine AW.aload_n dX12_heard_74 rfl ?_
              refine AW.iload_n dX12_heard_75 rfl ?_
              refine AW.cI2 (d' := d - 1) (cX12_183 rfl) okX12_laysSaying dX12_heard_76 (by repeat (first | assumption | exact hset_eq _ _ _ | refine (hset_ne _ _ (by omega)).trans ?_)) (by omega) (W_laysSaying hM hP.1 ok.1 hx6 (fun h1 m1 A1 hM1 r1 r2 r3 r4 => ?_))
              have ht3 : T3 m m1 A A1 := ⟨r1, fun k k1 _ => r2 k k1⟩
              obtain ⟨k116, k117, k118, k119, k120, k121, k122, k123, k124, k125, k126, k127, k128, k129, k130, k131, -⟩ := id hM1
              have h20 := hwk.2
              refine AW.aload_n dX12_heard_79 rfl ?_
              refine AW.getf dX12_heard_80 gX12_52 (by repeat (first | assumption | exact hset_eq _ _ _ | refine (hset_ne _ _ (by omega)).trans ?_)) rfl ?_
              refine AW.iload_n dX12_heard_83 rfl ?_
              refine AW.iaload dX12_heard_84 (by repeat (first | assumption | exact hset_eq _ _ _ | refine (hset_ne _ _ (by omega)).trans ?_)) (by omega) (by omega) ?_
              rw [show (((y.toNat : Nat) : Int)).toNat = y.toNat by omega, r4 y.toNat _ hja]
              refine AW.ist6 dX12_heard_85 (by decide) ?_
              refine AW.iconst dX12_heard_87 ?_
              refine AW.ist7 dX12_heard_88 (by decide) ?_
              refine AW.iconst dX12_heard_90 ?_
              refine AW.ist8 dX12_heard_91 (by decide) ?_
              exact L_heard (m := m) (A := A) (s := S.1) ok.1 hd (by omega) (by omega) hwk.1 hwk.2 hja (fun h' m' A' hM' hT => hfin _ hop (ms_sq hM' hT.sq hP ok)) 10 0 ((s_w S.1 x.toNat)[y.toNat]) h1 m1 A1 rfl hM1 (hP.1.sq ht3.sq) ht3 r3 (fun i w hw => r4 i w (by rw [List.set_getElem_self] at hw; exact hw))
            · refine AW.bipush dX12_heard_54 ?_
              refine AW.goto (tgt := 60) dX12_heard_56 (by decide) ?_
              refine AW.ist5 dX12_heard_60 (by decide) ?_
              refine AW.iload dX12_heard_62 rfl ?_
              refine AW.ifeq_f (tgt := 74) dX12_heard_64 (by decide) (by decide) ?_
              refine AW.aload_n dX12_heard_67 rfl ?_
              refine AW.iload dX12_heard_68 rfl ?_
              refine AW.cI2 (d' := d - 1) (cX12_82 rfl) okX12_no dX12_heard_70 (by repeat (first | assumption | exact hset_eq _ _ _ | refine (hset_ne _ _ (by omega)).trans ?_)) (by omega) (W_no (by assumption) (by decide) (by decide) (fun h70 hM => ?_))
              refine AW.ireturn dX12_heard_73 rfl ?_
              first
                | exact hq (-1) (rf S 1) _ (by unfold o_heard; rw [if_pos (by omega)]) (ms_rf hM hP ok)
                | exact hq (-4) (rf S 4) _ (by unfold o_heard; rw [if_neg (by omega), if_pos (by omega)]) (ms_rf hM hP ok)
                | (rw [hlen (by omega) (by omega)] at c43; exact hq (-6) (rf S 6) _ (by unfold o_heard; rw [if_neg (by omega), if_neg (by omega), if_pos (by omega)]) (ms_rf hM hP ok))
        · refine AW.bipush dX12_heard_31 ?_
          refine AW.goto (tgt := 60) dX12_heard_33 (by decide) ?_
          refine AW.ist5 dX12_heard_60 (by decide) ?_
          refine AW.iload dX12_heard_62 rfl ?_
          refine AW.ifeq_f (tgt := 74) dX12_heard_64 (by decide) (by decide) ?_
          refine AW.aload_n dX12_heard_67 rfl ?_
          refine AW.iload dX12_heard_68 rfl ?_
          refine AW.cI2 (d' := d - 1) (cX12_82 rfl) okX12_no dX12_heard_70 (by repeat (first | assumption | exact hset_eq _ _ _ | refine (hset_ne _ _ (by omega)).trans ?_)) (by omega) (W_no (by assumption) (by decide) (by decide) (fun h70 hM => ?_))
          refine AW.ireturn dX12_heard_73 rfl ?_
          first
            | exact hq (-1) (rf S 1) _ (by unfold o_heard; rw [if_pos (by omega)]) (ms_rf hM hP ok)
            | exact hq (-4) (rf S 4) _ (by unfold o_heard; rw [if_neg (by omega), if_pos (by omega)]) (ms_rf hM hP ok)
            | (rw [hlen (by omega) (by omega)] at c43; exact hq (-6) (rf S 6) _ (by unfold o_heard; rw [if_neg (by omega), if_neg (by omega), if_pos (by omega)]) (ms_rf hM hP ok))
    · refine AW.ifne_f (tgt := 22) dX12_heard_13 (by decide) rfl ?_
      refine AW.aload_n dX12_heard_16 rfl ?_
      refine AW.iconst dX12_heard_17 ?_
      refine AW.cI2 (d' := d - 1) (cX12_82 rfl) okX12_no dX12_heard_18 (by repeat (first | assumption | exact hset_eq _ _ _ | refine (hset_ne _ _ (by omega)).trans ?_)) (by omega) (W_no (by assumption) (by decide) (by decide) (fun h18 hM => ?_))
      refine AW.ireturn dX12_heard_21 rfl ?_
      first
        | exact hq (-1) (rf S 1) _ (by unfold o_heard; rw [if_pos (by omega)]) (ms_rf hM hP ok)
        | exact hq (-4) (rf S 4) _ (by unfold o_heard; rw [if_neg (by omega), if_pos (by omega)]) (ms_rf hM hP ok)
        | (rw [hlen (by omega) (by omega)] at c43; exact hq (-6) (rf S 6) _ (by unfold o_heard; rw [if_neg (by omega), if_neg (by omega), if_pos (by omega)]) (ms_rf hM hP ok))
  · refine AW.ifeq_t (tgt := 16) dX12_heard_5 (by decide) rfl ?_
    refine AW.aload_n dX12_heard_16 rfl ?_
    refine AW.iconst dX12_heard_17 ?_
    refine AW.cI2 (d' := d - 1) (cX12_82 rfl) okX12_no dX12_heard_18 (by repeat (first | assumption | exact hset_eq _ _ _ | refine (hset_ne _ _ (by omega)).trans ?_)) (by omega) (W_no (by assumption) (by decide) (by decide) (fun h18 hM => ?_))
    refine AW.ireturn dX12_heard_21 rfl ?_
    first
      | exact hq (-1) (rf S 1) _ (by unfold o_heard; rw [if_pos (by omega)]) (ms_rf hM hP ok)
      | exact hq (-4) (rf S 4) _ (by unfold o_heard; rw [if_neg (by omega), if_pos (by omega)]) (ms_rf hM hP ok)
      | (rw [hlen (by omega) (by omega)] at c43; exact hq (-6) (rf S 6) _ (by unfold o_heard; rw [if_neg (by omega), if_neg (by omega), if_pos (by omega)]) (ms_rf hM hP ok))
end Mod9

