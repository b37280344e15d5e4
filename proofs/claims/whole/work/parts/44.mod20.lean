section Mod20
variable {d : Nat} {Q : Option AV → AH → Prop} {h h0 : AH} {m : Nat → Int} {A : Nat → Nat → Int} {who x y z v : Int} {S : ST} {s : SC}
theorem sdN_s (s : SC) (v z : Int) (n : Nat) : sdN s v z (n + 1) = ((sdN s v z n).1 + ((drw 3 (sdN s v z n).2.2).1.length : Int), (sdN s v z n).2.1 + iv (cnS s (-1) (drw 3 (sdN s v z n).2.2).1 = v) 1, (drw 3 (sdN s v z n).2.2).2) := by rw [sdN]
theorem TD.sq {m' : Nat → Int} {A' : Nat → Nat → Int} (h : TD m m' A A') : SQ m m' A A' := ⟨⟨h.1 7 (by decide) (by decide), h.1 8 (by decide) (by decide), h.1 15 (by decide) (by decide), h.1 19 (by decide) (by decide), h.1 31 (by decide) (by decide)⟩, h.2 117 (by decide) (by decide), h.2 118 (by decide) (by decide), h.2 119 (by decide) (by decide), h.2 120 (by decide) (by decide), h.2 121 (by decide) (by decide), h.2 122 (by decide) (by decide), h.2 123 (by decide) (by decide), h.2 124 (by decide) (by decide), h.2 130 (by decide) (by decide), h.2 135 (by decide) (by decide)⟩
theorem L_seeds {n : Nat} {what zz : Int} {a5 : Option AV} (hn : n ≤ 20) (hd : 4 ≤ d) (ok : scOK s) (hS : MSC m A s)
    (hq : ∀ h' m' A', MR h0 h' m' A' → SQ m m' A A' → Q (some (.inl (if what = 0 then (sdN s v zz n).1 else (sdN s v zz n).2.1))) h') :
    ∀ (r i : Nat) (h : AH) (m' : Nat → Int) (A' : Nat → Nat → Int), i + r = n → MR h0 h m' A' → SQ m m' A A' → m' 32 = (sdN s v zz i).2.2 →
      AW d 0 0 mX12_seeds Q 80 [some (.inr 116), some (.inl (n : Int)), some (.inl zz), some (.inl v), some (.inl what), a5, some (.inl (sdN s v zz i).1), some (.inl (sdN s v zz i).2.1), some (.inl (i : Int))] [] h := by
  intro r
  induction r with
  | zero =>
    intro i h m' A' hi hM hT h32
    obtain ⟨g116, -⟩ := id hM
    rw [show i = n by omega]
    refine AW.iload dX12_seeds_80 rfl ?_
    refine AW.iload_n dX12_seeds_82 rfl ?_
    refine AW.if_icmpge (tgt := 124) dX12_seeds_83 (by decide) (fun c83 => ?_) (fun c83 => absurd c83 (by omega))
    refine AW.iload dX12_seeds_124 rfl ?_
    refine AW.ifne (tgt := 134) dX12_seeds_126 (by decide) (fun c126 => ?_) (fun c126 => ?_)
    · refine AW.iload dX12_seeds_134 rfl ?_
      refine AW.ireturn dX12_seeds_136 rfl ?_
      first
        | (have q2 := hq h m' A' hM hT; rw [if_pos (by omega)] at q2; exact q2)
        | (have q2 := hq h m' A' hM hT; rw [if_neg (by omega)] at q2; exact q2)
    · refine AW.iload dX12_seeds_129 rfl ?_
      refine AW.goto (tgt := 136) dX12_seeds_131 (by decide) ?_
      refine AW.ireturn dX12_seeds_136 rfl ?_
      first
        | (have q2 := hq h m' A' hM hT; rw [if_pos (by omega)] at q2; exact q2)
        | (have q2 := hq h m' A' hM hT; rw [if_neg (by omega)] at q2; exact q2)
  | succ r ih =>
    intro i h m' A' hi hM hT h32
    have hb := sdN_b s v zz i
    have hl := drw_len 3 (sdN s v zz i).2.2
    have hh := drw_hgt 3 (sdN s v zz i).2.2 [] 0 rfl
    rw [List.append_nil] at hh
    have nx := ih (i + 1)
    rw [sdN_s] at nx
    obtain ⟨g0, -⟩ := id hM
    refine AW.iload dX12_seeds_80 rfl ?_
    refine AW.iload_n dX12_seeds_82 rfl ?_
    refine AW.if_icmpge (tgt := 124) dX12_seeds_83 (by decide) (fun c83 => absurd c83 (by omega)) (fun c83 => ?_)
    refine AW.aload_n dX12_seeds_86 rfl ?_
    refine AW.cI1 (d' := d - 1) (cX12_257 rfl) okX12_draws dX12_seeds_87 (by repeat (first | assumption | exact hset_eq _ _ _ | refine (hset_ne _ _ (by omega)).trans ?_)) (by omega) (W_draws hM (by omega) (fun h1 m1 A1 hM1 hT1 e32 e24 hc => ?_))
    rw [h32] at e32 e24 hc
    generalize sdN s v zz i = D at *
    generalize drw 3 D.2.2 = E at *
    have hT2 : SQ m m1 A A1 := hT.trans hT1.sq
    have hS1 := hS.sq hT2
    obtain ⟨c1, c2, c3⟩ := nm_lf (who := -1) hS1 ok (by omega) (by omega)
    obtain ⟨g116, -⟩ := id hM1
    have h5 := ok.1
    refine AW.iload dX12_seeds_90 rfl ?_
    refine AW.aload_n dX12_seeds_92 rfl ?_
    refine AW.getf dX12_seeds_93 gX12_118 (by repeat (first | assumption | exact hset_eq _ _ _ | refine (hset_ne _ _ (by omega)).trans ?_)) rfl ?_
    refine AW.iaddR dX12_seeds_96 (by unfold RI; omega) ?_
    refine AW.ist6 dX12_seeds_97 (by decide) ?_
    refine AW.iload dX12_seeds_99 rfl ?_
    refine AW.aload_n dX12_seeds_101 rfl ?_
    refine AW.iconst dX12_seeds_102 ?_
    refine AW.cI2 (d' := d - 1) (cX12_125 rfl) okX12_concluded dX12_seeds_103 (by repeat (first | assumption | exact hset_eq _ _ _ | refine (hset_ne _ _ (by omega)).trans ?_)) (by omega) (W_concluded (ws := E.1) hM1 (by omega) (by omega) hc e24 hh (by omega) (fun h3 B hM3 hB => ?_))
    rw [c1, c2, concF_congr c3]
    have ecn : cnS s (-1) E.1 = concF (kkS s (-1)) (ggS s (-1)) (lfK (nmS s (-1))) E.1 := rfl
    rw [← ecn]
    have hT3 : SQ m1 m1 A1 B := (show T5 m1 m1 A1 B from ⟨fun _ _ _ _ => rfl, fun k _ k2 => hB k k2⟩).sq
    have fin := nx h3 m1 B (by omega) hM3 (hT2.trans hT3) e32
    rw [e24]
    refine AW.iload_n dX12_seeds_106 rfl ?_
    refine AW.if_icmpne (tgt := 114) dX12_seeds_107 (by decide) (fun c107 => ?_) (fun c107 => ?_)
    · refine AW.iconst dX12_seeds_114 ?_
      refine AW.iaddR dX12_seeds_115 (by unfold RI; omega) ?_
      refine AW.ist7 dX12_seeds_116 (by decide) ?_
      refine AW.inc8 dX12_seeds_118 (by decide) (by unfold RI; omega) ?_
      refine AW.goto (tgt := 80) dX12_seeds_121 (by decide) ?_
      first
        | (rw [iv_pos (by assumption)] at fin; exact fin)
        | (rw [iv_neg (by assumption)] at fin; exact fin)
    · refine AW.iconst dX12_seeds_110 ?_
      refine AW.goto (tgt := 115) dX12_seeds_111 (by decide) ?_
      refine AW.iaddR dX12_seeds_115 (by unfold RI; omega) ?_
      refine AW.ist7 dX12_seeds_116 (by decide) ?_
      refine AW.inc8 dX12_seeds_118 (by decide) (by unfold RI; omega) ?_
      refine AW.goto (tgt := 80) dX12_seeds_121 (by decide) ?_
      first
        | (rw [iv_pos (by assumption)] at fin; exact fin)
        | (rw [iv_neg (by assumption)] at fin; exact fin)
theorem W_seeds {n what : Int} (hM : MS h0 h S) (hd : 5 ≤ d) (hq : ∀ r S' h', (r, S') = o_seeds S n z v what → MS h0 h' S' → Q (some (.inl r)) h') : MW d 0 0 mX12_seeds [.inr 116, .inl n, .inl z, .inl v, .inl what] h Q := by
  obtain ⟨m, A, hR, hP, ok⟩ := id hM
  obtain ⟨g116, -⟩ := id hR
  show AW d 0 0 mX12_seeds Q 0 [some (.inr 116), some (.inl n), some (.inl z), some (.inl v), some (.inl what), none, none, none, none] [] h
  refine AW.iload_n dX12_seeds_0 rfl ?_
  refine AW.iconst dX12_seeds_1 ?_
  refine AW.if_icmplt (tgt := 9) dX12_seeds_2 (by decide) (fun c2 => ?_) (fun c2 => ?_)
  · refine AW.bipush dX12_seeds_9 ?_
    refine AW.goto (tgt := 33) dX12_seeds_11 (by decide) ?_
    refine AW.ist5 dX12_seeds_33 (by decide) ?_
    refine AW.iload dX12_seeds_35 rfl ?_
    refine AW.ifne_t (tgt := 54) dX12_seeds_37 (by decide) (by decide) ?_
    refine AW.iload dX12_seeds_54 rfl ?_
    refine AW.ifeq_f (tgt := 66) dX12_seeds_56 (by decide) (by decide) ?_
    refine AW.aload_n dX12_seeds_59 rfl ?_
    refine AW.iload dX12_seeds_60 rfl ?_
    refine AW.cI2 (d' := d - 1) (cX12_82 rfl) okX12_no dX12_seeds_62 (by repeat (first | assumption | exact hset_eq _ _ _ | refine (hset_ne _ _ (by omega)).trans ?_)) (by omega) (W_no (by assumption) (by decide) (by decide) (fun h62 hM => ?_))
    refine AW.ireturn dX12_seeds_65 rfl ?_
    first | exact hq (-4) (rf S 4) _ (by unfold o_seeds; rw [if_pos (by omega)]) (ms_rf hM hP ok) | exact hq (-6) (rf S 6) _ (by unfold o_seeds; rw [if_neg (by omega), if_pos (by omega)]) (ms_rf hM hP ok) | exact hq (-2) (rf S 2) _ (by unfold o_seeds; rw [if_neg (by omega), if_neg (by omega), if_pos (by omega)]) (ms_rf hM hP ok)
  · refine AW.iload_n dX12_seeds_5 rfl ?_
    refine AW.ifge (tgt := 14) dX12_seeds_6 (by decide) (fun c6 => ?_) (fun c6 => ?_)
    · refine AW.iload_n dX12_seeds_14 rfl ?_
      refine AW.bipush dX12_seeds_15 ?_
      refine AW.if_icmpgt (tgt := 27) dX12_seeds_17 (by decide) (fun c17 => ?_) (fun c17 => ?_)
      · refine AW.bipush dX12_seeds_27 ?_
        refine AW.goto (tgt := 33) dX12_seeds_29 (by decide) ?_
        refine AW.ist5 dX12_seeds_33 (by decide) ?_
        refine AW.iload dX12_seeds_35 rfl ?_
        refine AW.ifne_t (tgt := 54) dX12_seeds_37 (by decide) (by decide) ?_
        refine AW.iload dX12_seeds_54 rfl ?_
        refine AW.ifeq_f (tgt := 66) dX12_seeds_56 (by decide) (by decide) ?_
        refine AW.aload_n dX12_seeds_59 rfl ?_
        refine AW.iload dX12_seeds_60 rfl ?_
        refine AW.cI2 (d' := d - 1) (cX12_82 rfl) okX12_no dX12_seeds_62 (by repeat (first | assumption | exact hset_eq _ _ _ | refine (hset_ne _ _ (by omega)).trans ?_)) (by omega) (W_no (by assumption) (by decide) (by decide) (fun h62 hM => ?_))
        refine AW.ireturn dX12_seeds_65 rfl ?_
        first | exact hq (-4) (rf S 4) _ (by unfold o_seeds; rw [if_pos (by omega)]) (ms_rf hM hP ok) | exact hq (-6) (rf S 6) _ (by unfold o_seeds; rw [if_neg (by omega), if_pos (by omega)]) (ms_rf hM hP ok) | exact hq (-2) (rf S 2) _ (by unfold o_seeds; rw [if_neg (by omega), if_neg (by omega), if_pos (by omega)]) (ms_rf hM hP ok)
      · refine AW.iload_n dX12_seeds_20 rfl ?_
        refine AW.sipush dX12_seeds_21 ?_
        refine AW.if_icmple (tgt := 32) dX12_seeds_24 (by decide) (fun c24 => ?_) (fun c24 => ?_)
        · refine AW.iconst dX12_seeds_32 ?_
          refine AW.ist5 dX12_seeds_33 (by decide) ?_
          refine AW.iload dX12_seeds_35 rfl ?_
          refine AW.ifne_f (tgt := 54) dX12_seeds_37 (by decide) rfl ?_
          refine AW.iload dX12_seeds_40 rfl ?_
          refine AW.iconst dX12_seeds_42 ?_
          refine AW.iconst dX12_seeds_43 ?_
          refine AW.cS3 (d' := d - 1) (cX12_89 rfl) okX12_isIn dX12_seeds_44 (by omega) (W_isIn (fun c44 c44b => ?_) (fun c44 => ?_))
          · refine AW.ifne_t (tgt := 54) dX12_seeds_47 (by decide) (by decide) ?_
            refine AW.iload dX12_seeds_54 rfl ?_
            refine AW.ifeq_t (tgt := 66) dX12_seeds_56 (by decide) rfl ?_
            refine AW.aload_n dX12_seeds_66 rfl ?_
            refine AW.iload_n dX12_seeds_67 rfl ?_
            refine AW.putf dX12_seeds_68 pX12_248 (by repeat (first | assumption | exact hset_eq _ _ _ | refine (hset_ne _ _ (by omega)).trans ?_)) trivial ?_
            refine AW.iconst dX12_seeds_71 ?_
            refine AW.ist6 dX12_seeds_72 (by decide) ?_
            refine AW.iconst dX12_seeds_74 ?_
            refine AW.ist7 dX12_seeds_75 (by decide) ?_
            refine AW.iconst dX12_seeds_77 ?_
            refine AW.ist8 dX12_seeds_78 (by decide) ?_
            have en : n = ((n.toNat : Nat) : Int) := by omega
            rw [en]
            refine L_seeds (s := S.1) (by omega) (by omega) ok.1 hP.1 (fun h' m' A' hM' hT' => ?_) n.toNat 0 _ (updI m 32 z) A (by omega) (MR.p (mol_p32 m _) hR) (TD.sq ⟨fun k k1 k2 => updI_ne _ _ k2, fun _ _ _ => rfl⟩) (updI_eq _ _ _)
            by_cases e : what = 0
            · rw [if_pos e]
              exact hq _ S _ (by unfold o_seeds; rw [if_neg (by omega), if_neg (by omega), if_neg (by omega), if_pos (by omega)]) (ms_sq hM' hT' hP ok)
            · rw [if_neg e]
              exact hq _ S _ (by unfold o_seeds; rw [if_neg (by omega), if_neg (by omega), if_neg (by omega), if_neg (by omega)]) (ms_sq hM' hT' hP ok)
          · refine AW.ifne_f (tgt := 54) dX12_seeds_47 (by decide) rfl ?_
            refine AW.bipush dX12_seeds_50 ?_
            refine AW.ist5 dX12_seeds_52 (by decide) ?_
            refine AW.iload dX12_seeds_54 rfl ?_
            refine AW.ifeq_f (tgt := 66) dX12_seeds_56 (by decide) (by decide) ?_
            refine AW.aload_n dX12_seeds_59 rfl ?_
            refine AW.iload dX12_seeds_60 rfl ?_
            refine AW.cI2 (d' := d - 1) (cX12_82 rfl) okX12_no dX12_seeds_62 (by repeat (first | assumption | exact hset_eq _ _ _ | refine (hset_ne _ _ (by omega)).trans ?_)) (by omega) (W_no (by assumption) (by decide) (by decide) (fun h62 hM => ?_))
            refine AW.ireturn dX12_seeds_65 rfl ?_
            first | exact hq (-4) (rf S 4) _ (by unfold o_seeds; rw [if_pos (by omega)]) (ms_rf hM hP ok) | exact hq (-6) (rf S 6) _ (by unfold o_seeds; rw [if_neg (by omega), if_pos (by omega)]) (ms_rf hM hP ok) | exact hq (-2) (rf S 2) _ (by unfold o_seeds; rw [if_neg (by omega), if_neg (by omega), if_pos (by omega)]) (ms_rf hM hP ok)
        · refine AW.bipush dX12_seeds_27 ?_
          refine AW.goto (tgt := 33) dX12_seeds_29 (by decide) ?_
          refine AW.ist5 dX12_seeds_33 (by decide) ?_
          refine AW.iload dX12_seeds_35 rfl ?_
          refine AW.ifne_t (tgt := 54) dX12_seeds_37 (by decide) (by decide) ?_
          refine AW.iload dX12_seeds_54 rfl ?_
          refine AW.ifeq_f (tgt := 66) dX12_seeds_56 (by decide) (by decide) ?_
          refine AW.aload_n dX12_seeds_59 rfl ?_
          refine AW.iload dX12_seeds_60 rfl ?_
          refine AW.cI2 (d' := d - 1) (cX12_82 rfl) okX12_no dX12_seeds_62 (by repeat (first | assumption | exact hset_eq _ _ _ | refine (hset_ne _ _ (by omega)).trans ?_)) (by omega) (W_no (by assumption) (by decide) (by decide) (fun h62 hM => ?_))
          refine AW.ireturn dX12_seeds_65 rfl ?_
          first | exact hq (-4) (rf S 4) _ (by unfold o_seeds; rw [if_pos (by omega)]) (ms_rf hM hP ok) | exact hq (-6) (rf S 6) _ (by unfold o_seeds; rw [if_neg (by omega), if_pos (by omega)]) (ms_rf hM hP ok) | exact hq (-2) (rf S 2) _ (by unfold o_seeds; rw [if_neg (by omega), if_neg (by omega), if_pos (by omega)]) (ms_rf hM hP ok)
    · refine AW.bipush dX12_seeds_9 ?_
      refine AW.goto (tgt := 33) dX12_seeds_11 (by decide) ?_
      refine AW.ist5 dX12_seeds_33 (by decide) ?_
      refine AW.iload dX12_seeds_35 rfl ?_
      refine AW.ifne_t (tgt := 54) dX12_seeds_37 (by decide) (by decide) ?_
      refine AW.iload dX12_seeds_54 rfl ?_
      refine AW.ifeq_f (tgt := 66) dX12_seeds_56 (by decide) (by decide) ?_
      refine AW.aload_n dX12_seeds_59 rfl ?_
      refine AW.iload dX12_seeds_60 rfl ?_
      refine AW.cI2 (d' := d - 1) (cX12_82 rfl) okX12_no dX12_seeds_62 (by repeat (first | assumption | exact hset_eq _ _ _ | refine (hset_ne _ _ (by omega)).trans ?_)) (by omega) (W_no (by assumption) (by decide) (by decide) (fun h62 hM => ?_))
      refine AW.ireturn dX12_seeds_65 rfl ?_
      first | exact hq (-4) (rf S 4) _ (by unfold o_seeds; rw [if_pos (by omega)]) (ms_rf hM hP ok) | exact hq (-6) (rf S 6) _ (by unfold o_seeds; rw [if_neg (by omega), if_pos (by omega)]) (ms_rf hM hP ok) | exact hq (-2) (rf S 2) _ (by unfold o_seeds; rw [if_neg (by omega), if_neg (by omega), if_pos (by omega)]) (ms_rf hM hP ok)
end Mod20

