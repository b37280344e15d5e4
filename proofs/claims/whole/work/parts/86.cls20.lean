section Cls20
variable {d bc bs : Nat} {Q : Option AV → AH → Prop} {h h' : AH} {nw tr a b c : Nat} {ik sd at' tc : Int} {S S' : ST} {P : Nat → Prop} {s s' : SC} {x y z who k g more v : Int} {nm : Nat → Int} {ws : List Nat}
theorem C_drawBelow {n : Int} (g16 : CO h nw tr ik tc sd) (hn : 0 < n) (hn6 : n ≤ 6) (hq : ∀ h' v, CO h' nw tr ik tc (lcg sd) → Fr h h' (fun a => a = 16) → v = dv (lcg sd) n → Q (some (.inl v)) h') : MW d 0 0 mX11_drawBelow [.inr 16, .inl n] h Q := by
  have nz : ¬ Int32.ofInt n = 0 := by
    intro q
    have q2 := congrArg Int32.toInt q
    rw [ri_back ⟨by omega, by omega⟩] at q2
    exact absurd q2 (by show n ≠ 0; omega)
  simp only [lcg_eq, dv_eq] at hq
  unfold CO at g16
  show AW d 0 0 mX11_drawBelow Q 0 [some (.inr 16), some (.inl n)] [] h
  refine AW.aload_n dX11_drawBelow_0 rfl ?_
  refine AW.aload_n dX11_drawBelow_1 rfl ?_
  refine AW.getf dX11_drawBelow_2 gX11_81 (by repeat (first | assumption | exact hset_eq _ _ _ | refine (hset_ne _ _ (by omega)).trans ?_)) rfl ?_
  refine AW.ldcw (n := 1103515245) dX11_drawBelow_5 kX11_262 (by constructor <;> decide) ?_
  refine AW.imul dX11_drawBelow_8 ?_
  refine AW.sipush dX11_drawBelow_9 ?_
  refine AW.iadd dX11_drawBelow_12 ?_
  refine AW.putf dX11_drawBelow_13 pX11_81 (by repeat (first | assumption | exact hset_eq _ _ _ | refine (hset_ne _ _ (by omega)).trans ?_)) trivial ?_
  refine AW.iload_n dX11_drawBelow_16 rfl ?_
  refine AW.ifle (tgt := 37) dX11_drawBelow_17 (by decide) (fun c17 => absurd c17 (by omega)) (fun c17 => ?_)
  refine AW.aload_n dX11_drawBelow_20 rfl ?_
  refine AW.getf dX11_drawBelow_21 gX11_81 (by repeat (first | assumption | exact hset_eq _ _ _ | refine (hset_ne _ _ (by omega)).trans ?_)) rfl ?_
  refine AW.ldcw (n := 2147483647) dX11_drawBelow_24 kX11_263 (by constructor <;> decide) ?_
  refine AW.iand dX11_drawBelow_27 ?_
  refine AW.ldcw (n := 65536) dX11_drawBelow_28 kX11_264 (by constructor <;> decide) ?_
  refine AW.idiv dX11_drawBelow_31 (by decide) ?_
  refine AW.iload_n dX11_drawBelow_32 rfl ?_
  refine AW.irem dX11_drawBelow_33 nz ?_
  refine AW.goto (tgt := 38) dX11_drawBelow_34 (by decide) ?_
  refine AW.ireturn dX11_drawBelow_38 rfl ?_
  exact hq _ _ (hset_eq _ _ _) (Fr.set rfl) rfl
def PD (a : Nat) : Prop := a = 16 ∨ PB 84 a
theorem drawn (q : Nat) (hq : q < 6) : rowOf [112, 113, 114, 110, 97, 111] q = LETT (if q < 3 then q else q + 4) := by
  have : q = 0 ∨ q = 1 ∨ q = 2 ∨ q = 3 ∨ q = 4 ∨ q = 5 := by omega
  rcases this with rfl | rfl | rfl | rfl | rfl | rfl <;> rfl
theorem CO.fr (F : Fr h h' P) (h9 : 120 ≤ h.1) (hp : ¬ P 16) (H : CO h nw tr ik tc sd) : CO h' nw tr ik tc sd := (F.2 16 (by omega) hp).trans H
theorem V_draw : ∀ (e d : Nat) (Q : Option AV → AH → Prop) (h : AH) (sd : Int) (ws : List Nat), e ≤ 3 → e + 1 ≤ d → 120 ≤ h.1 → CO h nw tr ik tc sd → SyA h 84 ws → ws.length + 2 ^ (e + 1) ≤ 21 → h.2 3 = .inr (6, rowOf [112, 113, 114, 110, 97, 111]) → h.2 4 = .inr (3, rowOf [170, 204, 240]) →
    (∀ h', CO h' nw tr ik tc (drw e sd).2 → SyA h' 84 (ws ++ (drw e sd).1) → Fr h h' PD → Q none h') → MW d 0 0 mX11_drawSaying [.inr 16, .inl ((3 - e : Nat) : Int)] h Q := by
  intro e
  induction e with
  | zero =>
    intro d Q h sd ws he hd h9 g16 Y hl s3 s4 hq
    rw [drw_0] at hq
    show AW d 0 0 mX11_drawSaying Q 0 [some (.inr 16), some (.inl ((3 - 0 : Nat) : Int)), none, none, none] [] h
    refine AW.gets dX11_drawSaying_0 sX11_251 ?_
    refine AW.aload_n dX11_drawSaying_3 rfl ?_
    refine AW.iload_n dX11_drawSaying_4 rfl ?_
    refine AW.iconst dX11_drawSaying_5 ?_
    refine AW.if_icmpge (tgt := 16) dX11_drawSaying_6 (by decide) (fun c6 => ?_) (fun c6 => absurd c6 (by decide))
    refine AW.gets dX11_drawSaying_16 sX11_254 ?_
    refine AW.alen dX11_drawSaying_19 (by repeat (first | assumption | exact hset_eq _ _ _ | refine (hset_ne _ _ (by omega)).trans ?_)) (by omega) ?_
    refine AW.cI2 (d' := d - 1) (cX11_257 rfl) okX11_drawBelow dX11_drawSaying_20 g16 (by omega) (C_drawBelow g16 (by decide) (by decide) (fun h2 v C2 F2 hv => ?_))
    have hb := dv_b (lcg sd) (n := 3) (by decide) (by decide)
    have hv : v = dv (lcg sd) 3 := hv
    rw [← hv] at hb hq
    generalize lcg sd = z1 at hv hq C2
    clear hv
    have F21 := F2.1
    have t3 := (F2.2 3 (by omega) (by omega)).trans s3
    have Y2 := Y.fr F2 (by omega) ⟨by omega, by omega⟩
    obtain ⟨f2, y1, -⟩ := id Y2
    have g16' := C2
    unfold CO at g16'
    refine AW.iaload dX11_drawSaying_23 (by repeat (first | assumption | exact hset_eq _ _ _ | refine (hset_ne _ _ (by omega)).trans ?_)) (by omega) (by omega) ?_
    rw [drawn v.toNat (by omega), if_pos (by omega)]
    refine AW.ist2 dX11_drawSaying_24 (by decide) ?_
    refine AW.aload_n dX11_drawSaying_25 rfl ?_
    refine AW.getf dX11_drawSaying_26 gX11_77 (by repeat (first | assumption | exact hset_eq _ _ _ | refine (hset_ne _ _ (by omega)).trans ?_)) rfl ?_
    refine AW.iload_n dX11_drawSaying_29 rfl ?_
    refine AW.cI2 (d' := d - 1) (cX11_260 rfl) okX7_add dX11_drawSaying_30 (by repeat (first | assumption | exact hset_eq _ _ _ | refine (hset_ne _ _ (by omega)).trans ?_)) (by omega) (W_add (w := v.toNat) (by omega) Y2 (by rw [Nat.zero_add, Nat.pow_one] at hl; omega) (by omega) (fun h3 Y3 F3 => ?_))
    refine AW.iload_n dX11_drawSaying_33 rfl ?_
    refine AW.iconst dX11_drawSaying_34 ?_
    refine AW.if_icmpge (tgt := 45) dX11_drawSaying_35 (by decide) (fun c35 => ?_) (fun c35 => absurd c35 (by decide))
    refine AW.iconst dX11_drawSaying_45 ?_
    refine AW.ist3 dX11_drawSaying_46 (by decide) ?_
    refine AW.iconst dX11_drawSaying_47 ?_
    refine AW.ist4 dX11_drawSaying_48 (by decide) ?_
    refine AW.iload dX11_drawSaying_50 rfl ?_
    refine AW.iload_n dX11_drawSaying_52 rfl ?_
    refine AW.if_icmpge (tgt := 69) dX11_drawSaying_53 (by decide) (fun c53 => ?_) (fun c53 => absurd c53 (by decide))
    refine AW.vreturn dX11_drawSaying_69 rfl ?_
    exact hq h3 (C2.fr F3 (by omega) (by unfold PB; omega)) Y3 ((F2.mono (fun a => Or.inl)).trans (F3.mono (fun a => Or.inr)))
  | succ e ih =>
    intro d Q h sd ws he hd h9 g16 Y hl s3 s4 hq
    rw [drw_s] at hq
    have ek : ((3 - (e + 1) : Nat) : Int) = 2 - (e : Int) := by omega
    have hp2 : 2 ≤ 2 ^ (e + 1) := by
      have : 2 ^ 1 ≤ 2 ^ (e + 1) := Nat.pow_le_pow_right (by decide) (by omega)
      omega
    rw [Nat.pow_succ] at hl
    rw [ek]
    show AW d 0 0 mX11_drawSaying Q 0 [some (.inr 16), some (.inl (2 - (e : Int))), none, none, none] [] h
    refine AW.gets dX11_drawSaying_0 sX11_251 ?_
    refine AW.aload_n dX11_drawSaying_3 rfl ?_
    refine AW.iload_n dX11_drawSaying_4 rfl ?_
    refine AW.iconst dX11_drawSaying_5 ?_
    refine AW.if_icmpge (tgt := 16) dX11_drawSaying_6 (by decide) (fun c6 => absurd c6 (by omega)) (fun c6 => ?_)
    refine AW.gets dX11_drawSaying_9 sX11_251 ?_
    refine AW.alen dX11_drawSaying_12 (by repeat (first | assumption | exact hset_eq _ _ _ | refine (hset_ne _ _ (by omega)).trans ?_)) (by omega) ?_
    refine AW.goto (tgt := 20) dX11_drawSaying_13 (by decide) ?_
    refine AW.cI2 (d' := d - 1) (cX11_257 rfl) okX11_drawBelow dX11_drawSaying_20 g16 (by omega) (C_drawBelow g16 (by decide) (by decide) (fun h2 v C2 F2 hv => ?_))
    have hb := dv_b (lcg sd) (n := 6) (by decide) (by decide)
    have hv : v = dv (lcg sd) 6 := hv
    rw [← hv] at hb hq
    generalize lcg sd = z1 at hv hq C2
    clear hv
    have F21 := F2.1
    have t3 := (F2.2 3 (by omega) (by omega)).trans s3
    have t4 := (F2.2 4 (by omega) (by omega)).trans s4
    have Y2 := Y.fr F2 (by omega) ⟨by omega, by omega⟩
    obtain ⟨f2, y1, -⟩ := id Y2
    have g16' := C2
    unfold CO at g16'
    refine AW.iaload dX11_drawSaying_23 (by repeat (first | assumption | exact hset_eq _ _ _ | refine (hset_ne _ _ (by omega)).trans ?_)) (by omega) (by omega) ?_
    rw [drawn v.toNat (by omega)]
    have hw9 : (if v.toNat < 3 then v.toNat else v.toNat + 4) ≤ 9 := by split <;> omega
    obtain ⟨w, ew⟩ : ∃ w, w = (if v.toNat < 3 then v.toNat else v.toNat + 4) := ⟨_, rfl⟩
    rw [← ew] at hw9 ⊢
    refine AW.ist2 dX11_drawSaying_24 (by decide) ?_
    refine AW.aload_n dX11_drawSaying_25 rfl ?_
    refine AW.getf dX11_drawSaying_26 gX11_77 (by repeat (first | assumption | exact hset_eq _ _ _ | refine (hset_ne _ _ (by omega)).trans ?_)) rfl ?_
    refine AW.iload_n dX11_drawSaying_29 rfl ?_
    refine AW.cI2 (d' := d - 1) (cX11_260 rfl) okX7_add dX11_drawSaying_30 (by repeat (first | assumption | exact hset_eq _ _ _ | refine (hset_ne _ _ (by omega)).trans ?_)) (by omega) (W_add (by omega) Y2 (by omega) hw9 (fun h3 Y3 F3 => ?_))
    refine AW.iload_n dX11_drawSaying_33 rfl ?_
    refine AW.iconst dX11_drawSaying_34 ?_
    refine AW.if_icmpge (tgt := 45) dX11_drawSaying_35 (by decide) (fun c35 => absurd c35 (by omega)) (fun c35 => ?_)
    refine AW.iload_n dX11_drawSaying_38 rfl ?_
    refine AW.cS1 (d' := d - 1) (cX11_192 rfl) okX7_partsOf dX11_drawSaying_39 (by omega) (W_partsOf ?_)
    refine AW.goto (tgt := 46) dX11_drawSaying_42 (by decide) ?_
    rw [ptL_LETT hw9]
    have F31 := F3.1
    have C3 := C2.fr F3 (by omega) (by unfold PB; omega)
    have F' : Fr h h3 PD := (F2.mono (fun a => Or.inl)).trans (F3.mono (fun a => Or.inr))
    have u3 := (F3.2 3 (by omega) (by unfold PB; omega)).trans t3
    have u4 := (F3.2 4 (by omega) (by unfold PB; omega)).trans t4
    have g163 := C3
    unfold CO at g163
    have l3 : (ws ++ [w]).length = ws.length + 1 := by rw [List.length_append]; rfl
    by_cases hq3 : v.toNat < 3
    · rw [if_pos hq3] at hq ew
      rw [ew, show ptW v.toNat = 0 from if_pos (by omega)]
      rw [ew] at Y3
      refine AW.ist3 dX11_drawSaying_46 (by decide) ?_
      refine AW.iconst dX11_drawSaying_47 ?_
      refine AW.ist4 dX11_drawSaying_48 (by decide) ?_
      refine AW.iload dX11_drawSaying_50 rfl ?_
      refine AW.iload_n dX11_drawSaying_52 rfl ?_
      refine AW.if_icmpge (tgt := 69) dX11_drawSaying_53 (by decide) (fun c53 => ?_) (fun c53 => absurd c53 (by decide))
      refine AW.vreturn dX11_drawSaying_69 rfl ?_
      exact hq h3 C3 Y3 F'
    · rw [if_neg hq3] at hq ew
      by_cases h4 : v.toNat = 3
      · rw [if_pos h4] at hq
        have ew7 : w = 7 := by omega
        rw [ew7, show ptW 7 = 1 from rfl]
        rw [ew7] at Y3
        refine AW.ist3 dX11_drawSaying_46 (by decide) ?_
        refine AW.iconst dX11_drawSaying_47 ?_
        refine AW.ist4 dX11_drawSaying_48 (by decide) ?_
        refine AW.iload dX11_drawSaying_50 rfl ?_
        refine AW.iload_n dX11_drawSaying_52 rfl ?_
        refine AW.if_icmpge (tgt := 69) dX11_drawSaying_53 (by decide) (fun c53 => absurd c53 (by decide)) (fun c53 => ?_)
        refine AW.aload_n dX11_drawSaying_56 rfl ?_
        refine AW.iload_n dX11_drawSaying_57 rfl ?_
        refine AW.iconst dX11_drawSaying_58 ?_
        refine AW.iaddR dX11_drawSaying_59 (by unfold RI; omega) ?_
        rw [show (2 - (e : Int) + 1) = ((3 - e : Nat) : Int) by omega]
        refine AW.cI2 (d' := d - 1) (cX11_221 rfl) okX11_drawSaying dX11_drawSaying_60 (by repeat (first | assumption | exact hset_eq _ _ _ | refine (hset_ne _ _ (by omega)).trans ?_)) (by omega) (ih (d - 1) _ h3 z1 _ (by omega) (by omega) (by omega) C3 Y3 (by rw [List.length_append, List.length_singleton]; omega) u3 u4 (fun h5 C5 Y5 F5 => ?_))
        refine AW.inc4 dX11_drawSaying_63 (by decide) (by unfold RI; omega) ?_
        refine AW.goto (tgt := 50) dX11_drawSaying_66 (by decide) ?_
        refine AW.iload dX11_drawSaying_50 rfl ?_
        refine AW.iload_n dX11_drawSaying_52 rfl ?_
        refine AW.if_icmpge (tgt := 69) dX11_drawSaying_53 (by decide) (fun c53 => ?_) (fun c53 => absurd c53 (by decide))
        refine AW.vreturn dX11_drawSaying_69 rfl ?_
        rw [List.append_assoc] at Y5
        exact hq h5 C5 Y5 (F'.trans F5)
      · rw [if_neg h4] at hq
        have ew2 : ptW w = 2 := by unfold ptW; rw [if_neg (by omega), if_neg (by omega)]
        rw [ew2]
        have le := drw_len e z1
        refine AW.ist3 dX11_drawSaying_46 (by decide) ?_
        refine AW.iconst dX11_drawSaying_47 ?_
        refine AW.ist4 dX11_drawSaying_48 (by decide) ?_
        refine AW.iload dX11_drawSaying_50 rfl ?_
        refine AW.iload_n dX11_drawSaying_52 rfl ?_
        refine AW.if_icmpge (tgt := 69) dX11_drawSaying_53 (by decide) (fun c53 => absurd c53 (by decide)) (fun c53 => ?_)
        refine AW.aload_n dX11_drawSaying_56 rfl ?_
        refine AW.iload_n dX11_drawSaying_57 rfl ?_
        refine AW.iconst dX11_drawSaying_58 ?_
        refine AW.iaddR dX11_drawSaying_59 (by unfold RI; omega) ?_
        rw [show (2 - (e : Int) + 1) = ((3 - e : Nat) : Int) by omega]
        refine AW.cI2 (d' := d - 1) (cX11_221 rfl) okX11_drawSaying dX11_drawSaying_60 (by repeat (first | assumption | exact hset_eq _ _ _ | refine (hset_ne _ _ (by omega)).trans ?_)) (by omega) (ih (d - 1) _ h3 z1 _ (by omega) (by omega) (by omega) C3 Y3 (by rw [l3]; omega) u3 u4 (fun h5 C5 Y5 F5 => ?_))
        have F51 := F5.1
        have v3 := (F5.2 3 (by omega) (by unfold PD PB; omega)).trans u3
        have v4 := (F5.2 4 (by omega) (by unfold PD PB; omega)).trans u4
        have g165 := C5
        unfold CO at g165
        refine AW.inc4 dX11_drawSaying_63 (by decide) (by unfold RI; omega) ?_
        refine AW.goto (tgt := 50) dX11_drawSaying_66 (by decide) ?_
        refine AW.iload dX11_drawSaying_50 rfl ?_
        refine AW.iload_n dX11_drawSaying_52 rfl ?_
        refine AW.if_icmpge (tgt := 69) dX11_drawSaying_53 (by decide) (fun c53 => absurd c53 (by decide)) (fun c53 => ?_)
        refine AW.aload_n dX11_drawSaying_56 rfl ?_
        refine AW.iload_n dX11_drawSaying_57 rfl ?_
        refine AW.iconst dX11_drawSaying_58 ?_
        refine AW.iaddR dX11_drawSaying_59 (by unfold RI; omega) ?_
        rw [show (2 - (e : Int) + 1) = ((3 - e : Nat) : Int) by omega]
        refine AW.cI2 (d' := d - 1) (cX11_221 rfl) okX11_drawSaying dX11_drawSaying_60 (by repeat (first | assumption | exact hset_eq _ _ _ | refine (hset_ne _ _ (by omega)).trans ?_)) (by omega) (ih (d - 1) _ h5 _ _ (by omega) (by omega) (by omega) C5 Y5 (by rw [List.length_append, l3]; omega) v3 v4 (fun h6 C6 Y6 F6 => ?_))
        refine AW.inc4 dX11_drawSaying_63 (by decide) (by unfold RI; omega) ?_
        refine AW.goto (tgt := 50) dX11_drawSaying_66 (by decide) ?_
        refine AW.iload dX11_drawSaying_50 rfl ?_
        refine AW.iload_n dX11_drawSaying_52 rfl ?_
        refine AW.if_icmpge (tgt := 69) dX11_drawSaying_53 (by decide) (fun c53 => ?_) (fun c53 => absurd c53 (by decide))
        refine AW.vreturn dX11_drawSaying_69 rfl ?_
        rw [List.append_assoc, List.append_assoc, ew] at Y6
        exact hq h6 C6 Y6 ((F'.trans F5).trans F6)
theorem LC_seeds {N : Nat} {z0 : Int} {a1 a2 : Option AV} (HM : CM h nw tr ik sd at' S) (hd : 6 ≤ d) (hN : N ≤ 20)
    (hq : ∀ h', LisR h' → SyR h' 84 → (∃ sd', CO h' nw tr ik (S.2.2.2.1.length : Int) sd') → Fr h h' (fun a => a = 16 ∨ PH a) → Q (some (.inl (if y = 0 then (sdN S.1 v z0 N).1 else (sdN S.1 v z0 N).2.1))) h') :
    ∀ (r n : Nat) (h1 : AH), n + r = N → LisA h1 (kkS S.1 (-1)) (ggS S.1 (-1)) (nmS S.1 (-1)) (-9) → SyR h1 84 → CO h1 nw tr ik (S.2.2.2.1.length : Int) (sdN S.1 v z0 n).2.2 → Fr h h1 (fun a => a = 16 ∨ PH a) →
      AW d 0 0 mX11_seeds Q 71 [some (.inr 16), some (.inl (N : Int)), a2, some (.inl v), some (.inl y), some (.inl (sdN S.1 v z0 n).1), some (.inl (sdN S.1 v z0 n).2.1), some (.inl (n : Int))] [] h1 := by
  have ok := HM.2.2.2.2.2.2.2.2.2.2.2.2
  have h9 := HM.2.2.1
  obtain ⟨s2, s3, s4, s5⟩ := HM.2.2.2.1
  intro r
  induction r with
  | zero =>
    intro n h1 hn L Y C F
    obtain rfl : n = N := by omega
    have fin : ∀ w, (if y = 0 then (sdN S.1 v z0 n).1 else (sdN S.1 v z0 n).2.1) = w → Q (some (.inl w)) h1 := fun w hw => hw ▸ hq h1 L.r Y ⟨_, C⟩ F
    refine AW.iload dX11_seeds_71 rfl ?_
    refine AW.iload_n dX11_seeds_73 rfl ?_
    refine AW.if_icmpge (tgt := 133) dX11_seeds_74 (by decide) (fun c74 => ?_) (fun c74 => absurd c74 (by omega))
    refine AW.iload dX11_seeds_133 rfl ?_
    refine AW.ifne (tgt := 143) dX11_seeds_135 (by decide) (fun c135 => ?_) (fun c135 => ?_)
    · refine AW.iload dX11_seeds_143 rfl ?_
      refine AW.ireturn dX11_seeds_145 rfl ?_
      first
        | exact fin _ (if_pos (by omega))
        | exact fin _ (if_neg (by omega))
    · refine AW.iload dX11_seeds_138 rfl ?_
      refine AW.goto (tgt := 145) dX11_seeds_140 (by decide) ?_
      refine AW.ireturn dX11_seeds_145 rfl ?_
      first
        | exact fin _ (if_pos (by omega))
        | exact fin _ (if_neg (by omega))
  | succ r ih =>
    intro n h1 hn L Y C F
    have F1 := F.1
    have hb := sdN_b S.1 v z0 n
    have nx := ih (n + 1)
    obtain ⟨n0, f0, y1, y2⟩ := id Y
    have Z : SyA (hset h1 84 (.inl (7 + 1, [.inr (84 + 1), .inl 0]))) 84 [] := Y.zero _ y1
    have FZ : Fr h1 (hset h1 84 (.inl (7 + 1, [.inr (84 + 1), .inl 0]))) (PB 84) := Fr.set (Or.inl rfl)
    have C' := C
    unfold CO at C'
    refine AW.iload dX11_seeds_71 rfl ?_
    refine AW.iload_n dX11_seeds_73 rfl ?_
    refine AW.if_icmpge (tgt := 133) dX11_seeds_74 (by decide) (fun c74 => absurd c74 (by omega)) (fun c74 => ?_)
    refine AW.aload_n dX11_seeds_77 rfl ?_
    refine AW.getf dX11_seeds_78 gX11_77 (by repeat (first | assumption | exact hset_eq _ _ _ | refine (hset_ne _ _ (by omega)).trans ?_)) rfl ?_
    refine AW.iconst dX11_seeds_81 ?_
    refine AW.putf dX11_seeds_82 pX11_142 (by repeat (first | assumption | exact hset_eq _ _ _ | refine (hset_ne _ _ (by omega)).trans ?_)) trivial ?_
    show AW _ _ _ _ _ _ _ _ (hset h1 84 (.inl (7 + 1, [.inr (84 + 1), .inl 0])))
    generalize hset h1 84 (.inl (7 + 1, [.inr (84 + 1), .inl 0])) = h2 at Z FZ ⊢
    have F2 := FZ.1
    have C2 := C.fr FZ (by omega) (by unfold PB; omega)
    have t3 : h2.2 3 = _ := (FZ.2 3 (by omega) (by unfold PB; omega)).trans ((F.2 3 (by omega) (by unfold PH PL PB; omega)).trans s3)
    have t4 : h2.2 4 = _ := (FZ.2 4 (by omega) (by unfold PB; omega)).trans ((F.2 4 (by omega) (by unfold PH PL PB; omega)).trans s4)
    have L2 := L.fr FZ (by omega) (fun a ha => by unfold PB; omega)
    have c2 := C2
    unfold CO at c2
    have dl := drw_len 3 (sdN S.1 v z0 n).2.2
    have dh := drw_hgt 3 (sdN S.1 v z0 n).2.2 [] 0 rfl
    rw [List.append_nil] at dh
    refine AW.aload_n dX11_seeds_85 rfl ?_
    refine AW.iconst dX11_seeds_86 ?_
    refine AW.cI2 (d' := d - 1) (cX11_221 rfl) okX11_drawSaying dX11_seeds_87 (by repeat (first | assumption | exact hset_eq _ _ _ | refine (hset_ne _ _ (by omega)).trans ?_)) (by omega) (V_draw 3 (d - 1) _ h2 _ [] (by omega) (by omega) (by omega) C2 Z (by decide) t3 t4 (fun h3 C3 Y3 F3 => ?_))
    have eN : sdN S.1 v z0 (n + 1) = ((sdN S.1 v z0 n).1 + ((drw 3 (sdN S.1 v z0 n).2.2).1.length : Int), (sdN S.1 v z0 n).2.1 + iv (cnS S.1 (-1) (drw 3 (sdN S.1 v z0 n).2.2).1 = v) 1, (drw 3 (sdN S.1 v z0 n).2.2).2) := by rw [sdN]
    rw [eN] at nx
    clear eN
    generalize drw 3 (sdN S.1 v z0 n).2.2 = D at dl dh C3 Y3 nx
    rw [List.nil_append] at Y3
    have F31 := F3.1
    have L3 := L2.fr F3 (by omega) (fun a ha => by unfold PD PB; omega)
    have FT : Fr h h3 (fun a => a = 16 ∨ PH a) := (F.trans (FZ.mono (fun a ha => Or.inr (Or.inr ha)))).trans (F3.mono (fun a ha => ha.elim Or.inl (fun q => Or.inr (Or.inr q))))
    have u4 : h3.2 4 = _ := (F3.2 4 (by omega) (by unfold PD PB; omega)).trans t4
    have c3 := C3
    unfold CO at c3
    obtain ⟨f3, z1, z2, z3, -⟩ := id Y3
    obtain ⟨aL, fL, fL2, l73, -⟩ := id L3
    have hl15 : D.1.length ≤ 15 := by have := dl.2; omega
    refine AW.iload dX11_seeds_90 rfl ?_
    refine AW.aload_n dX11_seeds_92 rfl ?_
    refine AW.getf dX11_seeds_93 gX11_77 (by repeat (first | assumption | exact hset_eq _ _ _ | refine (hset_ne _ _ (by omega)).trans ?_)) rfl ?_
    refine AW.getf dX11_seeds_96 gX11_142 (by repeat (first | assumption | exact hset_eq _ _ _ | refine (hset_ne _ _ (by omega)).trans ?_)) rfl ?_
    refine AW.iaddR dX11_seeds_99 (by unfold RI; omega) ?_
    refine AW.ist5 dX11_seeds_100 (by decide) ?_
    refine AW.iload dX11_seeds_102 rfl ?_
    refine AW.aload_n dX11_seeds_104 rfl ?_
    refine AW.getf dX11_seeds_105 gX11_56 (by repeat (first | assumption | exact hset_eq _ _ _ | refine (hset_ne _ _ (by omega)).trans ?_)) rfl ?_
    refine AW.aload_n dX11_seeds_108 rfl ?_
    refine AW.getf dX11_seeds_109 gX11_77 (by repeat (first | assumption | exact hset_eq _ _ _ | refine (hset_ne _ _ (by omega)).trans ?_)) rfl ?_
    refine AW.cI2 (d' := d - 1) (cX11_189 rfl) okX6_meaningOf dX11_seeds_112 (by repeat (first | assumption | exact hset_eq _ _ _ | refine (hset_ne _ _ (by omega)).trans ?_)) (by omega) (W_meaningOf (by omega) u4 L3 (nmOK_S ok.1) Y3 (by omega) (by omega) (by omega) dh (fun h4 L4 F4 => ?_))
    have F41 := F4.1
    have FF := FT.trans (F4.mono (fun a ha => Or.inr (Or.inl (P76_PL ha))))
    have Y4 := (Y3.fr F4 (by omega) ⟨by unfold P76; omega, by unfold P76; omega⟩).r
    have C4 := C3.fr F4 (by omega) (by unfold P76; omega)
    show AW _ _ _ _ _ _ _ [.inl (cnS S.1 (-1) D.1), _] _
    by_cases hv : cnS S.1 (-1) D.1 = v
    · rw [iv_pos hv] at nx
      refine AW.iload_n dX11_seeds_115 rfl ?_
      refine AW.if_icmpne (tgt := 123) dX11_seeds_116 (by decide) (fun c116 => absurd hv c116) (fun c116 => ?_)
      refine AW.iconst dX11_seeds_119 ?_
      refine AW.goto (tgt := 124) dX11_seeds_120 (by decide) ?_
      refine AW.iaddR dX11_seeds_124 (by unfold RI; omega) ?_
      refine AW.ist6 dX11_seeds_125 (by decide) ?_
      refine AW.inc7 dX11_seeds_127 (by decide) (by unfold RI; omega) ?_
      refine AW.goto (tgt := 71) dX11_seeds_130 (by decide) ?_
      exact nx h4 (by omega) L4 Y4 C4 FF
    · rw [iv_neg hv] at nx
      refine AW.iload_n dX11_seeds_115 rfl ?_
      refine AW.if_icmpne (tgt := 123) dX11_seeds_116 (by decide) (fun c116 => ?_) (fun c116 => absurd c116 hv)
      refine AW.iconst dX11_seeds_123 ?_
      refine AW.iaddR dX11_seeds_124 (by unfold RI; omega) ?_
      refine AW.ist6 dX11_seeds_125 (by decide) ?_
      refine AW.inc7 dX11_seeds_127 (by decide) (by unfold RI; omega) ?_
      refine AW.goto (tgt := 71) dX11_seeds_130 (by decide) ?_
      exact nx h4 (by omega) L4 Y4 C4 FF
theorem C_seeds (H : CS h S) (hd : 6 ≤ d) (hq : ∀ r S' h', (r, S') = o_seeds S x z v y → CS h' S' → Fr h h' PC → Q (some (.inl r)) h') : MW d 0 0 mX11_seeds [.inr 16, .inl x, .inl z, .inl v, .inl y] h Q := by
  obtain ⟨nw, tr, ik, sd, at', HM, HL, HS⟩ := id H
  obtain ⟨k1, g16, h9, k2, k3, k4, k5, k6, k7, k8, k10, k11, ok⟩ := id HM
  have gn := k4.1
  have g16' := g16
  unfold CO at g16'
  have go : 1 ≤ x → x ≤ 20 → 0 ≤ v → v ≤ 255 → (y = 0 ∨ y = 1) → AW d 0 0 mX11_seeds Q 52 [some (.inr 16), some (.inl x), some (.inl z), some (.inl v), some (.inl y), none, none, none] [] h := by
    intro w1 w2 w3 w4 w5
    refine AW.aload_n dX11_seeds_52 rfl ?_
    refine AW.iconst dX11_seeds_53 ?_
    refine AW.cI2 (d' := d - 1) (cX11_154 rfl) okX11_listenAs dX11_seeds_54 (by repeat (first | assumption | exact hset_eq _ _ _ | refine (hset_ne _ _ (by omega)).trans ?_)) (by omega) (C_listenAs HM HL (by omega) (by omega) (by omega) (fun h3 L3 F3 => ?_))
    have HM3 := HM.fr F3 (fun a => PL_PS)
    have m16 := HM3.2.1
    unfold CO at m16
    have F31 := F3.1
    have SY := (HS.fr F3 h9 (fun a ha => by unfold PL; omega)).2.2.2
    refine AW.aload_n dX11_seeds_57 rfl ?_
    refine AW.iload_n dX11_seeds_58 rfl ?_
    refine AW.putf dX11_seeds_59 pX11_81 (by repeat (first | assumption | exact hset_eq _ _ _ | refine (hset_ne _ _ (by omega)).trans ?_)) trivial ?_
    refine AW.iconst dX11_seeds_62 ?_
    refine AW.ist5 dX11_seeds_63 (by decide) ?_
    refine AW.iconst dX11_seeds_65 ?_
    refine AW.ist6 dX11_seeds_66 (by decide) ?_
    refine AW.iconst dX11_seeds_68 ?_
    refine AW.ist7 dX11_seeds_69 (by decide) ?_
    have ex : x = ((x.toNat : Nat) : Int) := by omega
    have key := LC_seeds (Q := Q) (d := d) (y := y) (v := v) (z0 := z) (N := x.toNat) (a1 := none) (a2 := some (.inl z)) HM hd (by omega) (fun h5 L5 Y5 C5 F5 => by
      obtain ⟨sd5, C5⟩ := C5
      refine hq _ S h5 (by
        unfold o_seeds
        by_cases hy : y = 0
        · rw [if_pos hy, if_neg (by omega), if_neg (by omega), if_neg (by omega), if_pos hy]
        · rw [if_neg hy, if_neg (by omega), if_neg (by omega), if_neg (by omega), if_neg hy]) ⟨nw, tr, ik, sd5, at', ?_, L5, ?_⟩ (F5.mono (fun a ha => by unfold PH PL PB at ha; unfold PC; omega))
      · exact HM.re F5 (fun a ha => by unfold PH PL PB at ha; unfold PS; omega) k1 C5 (k3.fr F5 h9 ⟨by unfold PH PL PB; omega, by unfold PH PL PB; omega⟩) (k4.fr F5 (by omega) (fun a ha => by unfold PH PL PB; omega) ok.1.2.1) (k5.fr F5 (by omega) (fun a ha => by unfold PH PL PB; omega)) (KP.fr F5 h9 (fun a ha => by unfold PH PL PB; omega) ok.2.1 k6) ok.1 ok.2.1
      obtain ⟨⟨f7, t7⟩, t2, t3, -⟩ := HS
      exact ⟨⟨f7, (F5.2 77 (by omega) (by unfold PH PL PB; omega)).trans t7⟩, t2.fr F5 (by omega) (fun a ha => by unfold PF at ha; unfold PH PL PB; omega), fun i hi => (t3 i hi).fr F5 (by omega) (fun a ha => by unfold PF at ha; unfold PH PL PB; omega), Y5⟩) x.toNat 0
    rw [← ex] at key
    refine key _ (by omega) (L3.fr (Fr.set rfl : Fr h3 _ (fun a => a = 16)) (by omega) (fun a ha => by omega)) (SY.fr (Fr.set rfl : Fr h3 _ (fun a => a = 16)) (by omega) ⟨by omega, by omega⟩) (hset_eq _ _ _) ((F3.mono (fun a ha => Or.inr (Or.inl ha))).trans (Fr.set (Or.inl rfl)))
  show AW d 0 0 mX11_seeds Q 0 [some (.inr 16), some (.inl x), some (.inl z), some (.inl v), some (.inl y), none, none, none] [] h
  refine AW.iload_n dX11_seeds_0 rfl ?_
  refine AW.iconst dX11_seeds_1 ?_
  refine AW.if_icmplt (tgt := 9) dX11_seeds_2 (by decide) (fun c2 => ?_) (fun c2 => ?_)
  · refine AW.aload_n dX11_seeds_9 rfl ?_
    refine AW.iconst dX11_seeds_10 ?_
    refine AW.cI2 (d' := d - 1) (cX11_84 rfl) okX11_refused dX11_seeds_11 (by repeat (first | assumption | exact hset_eq _ _ _ | refine (hset_ne _ _ (by omega)).trans ?_)) (by omega) (C_refused (by assumption) (by decide) (by decide) (fun h11 hC hF => ?_))
    refine AW.ireturn dX11_seeds_14 rfl ?_
    first
      | exact hq (-4) (rf S 4) _ (by unfold o_seeds; rw [if_pos (by omega)]) hC hF
      | exact hq (-6) (rf S 6) _ (by unfold o_seeds; rw [if_neg (by omega), if_pos (by omega)]) hC hF
      | exact hq (-2) (rf S 2) _ (by unfold o_seeds; rw [if_neg (by omega), if_neg (by omega), if_pos (by omega)]) hC hF
  · refine AW.iload_n dX11_seeds_5 rfl ?_
    refine AW.ifge (tgt := 15) dX11_seeds_6 (by decide) (fun c6 => ?_) (fun c6 => ?_)
    · refine AW.iload_n dX11_seeds_15 rfl ?_
      refine AW.bipush dX11_seeds_16 ?_
      refine AW.if_icmpgt (tgt := 28) dX11_seeds_18 (by decide) (fun c18 => ?_) (fun c18 => ?_)
      · refine AW.aload_n dX11_seeds_28 rfl ?_
        refine AW.bipush dX11_seeds_29 ?_
        refine AW.cI2 (d' := d - 1) (cX11_84 rfl) okX11_refused dX11_seeds_31 (by repeat (first | assumption | exact hset_eq _ _ _ | refine (hset_ne _ _ (by omega)).trans ?_)) (by omega) (C_refused (by assumption) (by decide) (by decide) (fun h31 hC hF => ?_))
        refine AW.ireturn dX11_seeds_34 rfl ?_
        first
          | exact hq (-4) (rf S 4) _ (by unfold o_seeds; rw [if_pos (by omega)]) hC hF
          | exact hq (-6) (rf S 6) _ (by unfold o_seeds; rw [if_neg (by omega), if_pos (by omega)]) hC hF
          | exact hq (-2) (rf S 2) _ (by unfold o_seeds; rw [if_neg (by omega), if_neg (by omega), if_pos (by omega)]) hC hF
      · refine AW.iload_n dX11_seeds_21 rfl ?_
        refine AW.sipush dX11_seeds_22 ?_
        refine AW.if_icmple (tgt := 35) dX11_seeds_25 (by decide) (fun c25 => ?_) (fun c25 => ?_)
        · refine AW.iload dX11_seeds_35 rfl ?_
          refine AW.ifeq (tgt := 52) dX11_seeds_37 (by decide) (fun c37 => ?_) (fun c37 => ?_)
          · exact go (by omega) (by omega) (by omega) (by omega) (by omega)
          · refine AW.iload dX11_seeds_40 rfl ?_
            refine AW.iconst dX11_seeds_42 ?_
            refine AW.if_icmpeq (tgt := 52) dX11_seeds_43 (by decide) (fun c43 => ?_) (fun c43 => ?_)
            · exact go (by omega) (by omega) (by omega) (by omega) (by omega)
            · refine AW.aload_n dX11_seeds_46 rfl ?_
              refine AW.iconst dX11_seeds_47 ?_
              refine AW.cI2 (d' := d - 1) (cX11_84 rfl) okX11_refused dX11_seeds_48 (by repeat (first | assumption | exact hset_eq _ _ _ | refine (hset_ne _ _ (by omega)).trans ?_)) (by omega) (C_refused (by assumption) (by decide) (by decide) (fun h48 hC hF => ?_))
              refine AW.ireturn dX11_seeds_51 rfl ?_
              first
                | exact hq (-4) (rf S 4) _ (by unfold o_seeds; rw [if_pos (by omega)]) hC hF
                | exact hq (-6) (rf S 6) _ (by unfold o_seeds; rw [if_neg (by omega), if_pos (by omega)]) hC hF
                | exact hq (-2) (rf S 2) _ (by unfold o_seeds; rw [if_neg (by omega), if_neg (by omega), if_pos (by omega)]) hC hF
        · refine AW.aload_n dX11_seeds_28 rfl ?_
          refine AW.bipush dX11_seeds_29 ?_
          refine AW.cI2 (d' := d - 1) (cX11_84 rfl) okX11_refused dX11_seeds_31 (by repeat (first | assumption | exact hset_eq _ _ _ | refine (hset_ne _ _ (by omega)).trans ?_)) (by omega) (C_refused (by assumption) (by decide) (by decide) (fun h31 hC hF => ?_))
          refine AW.ireturn dX11_seeds_34 rfl ?_
          first
            | exact hq (-4) (rf S 4) _ (by unfold o_seeds; rw [if_pos (by omega)]) hC hF
            | exact hq (-6) (rf S 6) _ (by unfold o_seeds; rw [if_neg (by omega), if_pos (by omega)]) hC hF
            | exact hq (-2) (rf S 2) _ (by unfold o_seeds; rw [if_neg (by omega), if_neg (by omega), if_pos (by omega)]) hC hF
    · refine AW.aload_n dX11_seeds_9 rfl ?_
      refine AW.iconst dX11_seeds_10 ?_
      refine AW.cI2 (d' := d - 1) (cX11_84 rfl) okX11_refused dX11_seeds_11 (by repeat (first | assumption | exact hset_eq _ _ _ | refine (hset_ne _ _ (by omega)).trans ?_)) (by omega) (C_refused (by assumption) (by decide) (by decide) (fun h11 hC hF => ?_))
      refine AW.ireturn dX11_seeds_14 rfl ?_
      first
        | exact hq (-4) (rf S 4) _ (by unfold o_seeds; rw [if_pos (by omega)]) hC hF
        | exact hq (-6) (rf S 6) _ (by unfold o_seeds; rw [if_neg (by omega), if_pos (by omega)]) hC hF
        | exact hq (-2) (rf S 2) _ (by unfold o_seeds; rw [if_neg (by omega), if_neg (by omega), if_pos (by omega)]) hC hF
end Cls20

