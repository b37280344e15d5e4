section Cls5
variable {d : Nat} {Q : Option AV → AH → Prop} {h h' : AH} {nw tr b : Nat} {ik sd at' tc : Int} {S S' : ST} {P : Nat → Prop} {s : SC} {x y z who k g more : Int} {nm : Nat → Int}
/-- only the school of now has changed -/
theorem CM.sc {s' : SC} (F : Fr h h' P) (hp : ∀ a, P a → (nw ≤ a ∧ a < nw + 17) ∨ PS a) (H : CM h nw tr ik sd at' S) (hs : SchA h' nw s') (ok' : scOK s') : CM h' nw tr ik sd at' (s', S.2) := by
  obtain ⟨h1, h2, h3, ⟨s1, s2, s3, s4⟩, h4, h5, h6, h7, ⟨f1, h8, h8b⟩, ⟨f2, h9, h9b⟩, h10, h11, ok⟩ := H
  have hp' : ∀ a, (a < 19 ∨ (tr ≤ a ∧ a < tr + 17) ∨ (53 ≤ a ∧ a < 73) ∨ a = 74 ∨ a = 78 ∨ 136 ≤ a) → ¬ P a := fun a ha q => by have := hp a q; unfold PS at this; omega
  have e : ∀ a, (a < 19 ∨ (70 ≤ a ∧ a < 73) ∨ a = 78) → h'.2 a = h.2 a := fun a ha => F.2 a (by omega) (hp' a (by omega))
  refine ⟨h1, (e 16 (by omega)).trans h2, by have := F.1; omega, ⟨(e 2 (by omega)).trans s1, (e 3 (by omega)).trans s2, (e 4 (by omega)).trans s3, (e 5 (by omega)).trans s4⟩, h4.fr F h3 ⟨hp' _ (by omega), hp' _ (by omega)⟩, hs, h6.fr F (by omega) (fun a ha => hp' a (by omega)), h7.fr F h3 (fun a ha => hp' a (by omega)) ok.2.1, ⟨f1, (e 70 (by omega)).trans h8, h8b⟩, ⟨f2, (e 71 (by omega)).trans h9, h9b⟩, (e 72 (by omega)).trans h10, (e 78 (by omega)).trans h11, ⟨ok', ok.2⟩⟩
theorem C_name (H : CS h S) (hd : 2 ≤ d) (hq : ∀ r S' h', (r, S') = o_name S x → CS h' S' → Fr h h' PC → Q (some (.inl r)) h') : MW d 0 0 mX11_name [.inr 16, .inl x] h Q := by
  obtain ⟨nw, tr, ik, sd, at', HM, HL, HS⟩ := id H
  obtain ⟨k1, g16, h9, k2, k3, k4, k5, k6, k7, k8, k10, k11, ok⟩ := id HM
  obtain ⟨gn, -, -, -, ⟨fc, q8, q9⟩, -, -⟩ := id k4
  unfold CO at g16
  show AW d 0 0 mX11_name Q 0 [some (.inr 16), some (.inl x)] [] h
  refine AW.iload_n dX11_name_0 rfl ?_
  refine AW.cS1 (d' := d - 1) (cX11_125 rfl) okX11_noName dX11_name_1 (by omega) (W_noName (fun c1 => ?_) (fun c1 c1b => ?_))
  · refine AW.ifeq_f (tgt := 13) dX11_name_4 (by decide) (by decide) ?_
    refine AW.aload_n dX11_name_7 rfl ?_
    refine AW.iconst dX11_name_8 ?_
    refine AW.cI2 (d' := d - 1) (cX11_84 rfl) okX11_refused dX11_name_9 (by repeat (first | assumption | exact hset_eq _ _ _ | refine (hset_ne _ _ (by omega)).trans ?_)) (by omega) (C_refused (by assumption) (by decide) (by decide) (fun h9 hC hF => ?_))
    refine AW.ireturn dX11_name_12 rfl ?_
    first
      | exact hq (-1) (rf S 1) _ (by unfold o_name; rw [if_pos (by omega)]) hC hF
      | (rw [q9 x.toNat (by omega)]; exact hq _ S h (by unfold o_name; rw [if_neg (by omega)]) H Fr.rfl')
  · refine AW.ifeq_t (tgt := 13) dX11_name_4 (by decide) rfl ?_
    refine AW.aload_n dX11_name_13 rfl ?_
    refine AW.getf dX11_name_14 gX11_19 (by repeat (first | assumption | exact hset_eq _ _ _ | refine (hset_ne _ _ (by omega)).trans ?_)) rfl ?_
    refine AW.getf dX11_name_17 gX11_132 (by repeat (first | assumption | exact hset_eq _ _ _ | refine (hset_ne _ _ (by omega)).trans ?_)) rfl ?_
    refine AW.iload_n dX11_name_20 rfl ?_
    refine AW.iaload dX11_name_21 (by repeat (first | assumption | exact hset_eq _ _ _ | refine (hset_ne _ _ (by omega)).trans ?_)) (by omega) (by omega) ?_
    refine AW.ireturn dX11_name_22 rfl ?_
    first
      | exact hq (-1) (rf S 1) _ (by unfold o_name; rw [if_pos (by omega)]) hC hF
      | (rw [q9 x.toNat (by omega)]; exact hq _ S h (by unfold o_name; rw [if_neg (by omega)]) H Fr.rfl')
theorem C_stranger (H : CS h S) (hd : 3 ≤ d) (hq : ∀ r S' h', (r, S') = o_stranger S who x → CS h' S' → Fr h h' PC → Q (some (.inl r)) h') : MW d 0 0 mX11_stranger [.inr 16, .inl who, .inl x] h Q := by
  obtain ⟨nw, tr, ik, sd, at', HM, HL, HS⟩ := id H
  obtain ⟨k1, g16, h9, k2, k3, k4, k5, k6, k7, k8, k10, k11, ok⟩ := id HM
  obtain ⟨gn, ⟨sts, q1, q2, q3, q4⟩, ⟨fl, q5, q6⟩, q7, ⟨fc, q8, q9⟩, q10, q11⟩ := id k4
  have g16' := g16
  unfold CO at g16'
  have o := ok.1.1
  by_cases hw : 0 ≤ who ∧ who < s_n S.1
  · obtain ⟨a, r1, r2, r3⟩ := q4 who.toNat (by omega)
    show AW d 0 0 mX11_stranger Q 0 [some (.inr 16), some (.inl who), some (.inl x)] [] h
    refine AW.aload_n dX11_stranger_0 rfl ?_
    refine AW.iload_n dX11_stranger_1 rfl ?_
    refine AW.cI2 (d' := d - 1) (cX11_108 rfl) okX11_noStranger dX11_stranger_2 (by repeat (first | assumption | exact hset_eq _ _ _ | refine (hset_ne _ _ (by omega)).trans ?_)) (by omega) (C_noStr g16 gn (fun c => absurd c (by omega)) (fun c cb => ?_))
    refine AW.ifeq_t (tgt := 14) dX11_stranger_5 (by decide) rfl ?_
    refine AW.iload_n dX11_stranger_14 rfl ?_
    refine AW.tab (tgt := 76) [40, 53, 66] dX11_stranger_15 (by decide) (by decide) (by decide) (fun i t hi c15 => ?_) (fun c15 => ?_)
    · match i, hi with
      | 0, hi =>
        cases hi
        refine AW.aload_n dX11_stranger_40 rfl ?_
        refine AW.getf dX11_stranger_41 gX11_19 (by repeat (first | assumption | exact hset_eq _ _ _ | refine (hset_ne _ _ (by omega)).trans ?_)) rfl ?_
        refine AW.getf dX11_stranger_44 gX11_112 (by repeat (first | assumption | exact hset_eq _ _ _ | refine (hset_ne _ _ (by omega)).trans ?_)) rfl ?_
        refine AW.iload_n dX11_stranger_47 rfl ?_
        refine AW.aaload dX11_stranger_48 (by repeat (first | assumption | exact hset_eq _ _ _ | refine (hset_ne _ _ (by omega)).trans ?_)) (by decide) (by omega) r1 ?_
        refine AW.vX11_116 rfl dX11_stranger_49 r3 (by omega) (Nat.le_of_ble_eq_true rfl) ?_
        refine AW.ireturn dX11_stranger_52 rfl ?_
        first
          | exact hq (-2) (rf S 2) _ (by unfold o_stranger; rw [if_neg (by omega), if_neg (by omega), if_neg (by omega), if_neg (by omega), if_pos (by omega)]) hC hF
          | exact hq (-2) (rf S 2) _ (by unfold o_stranger; rw [if_neg (by omega), if_neg (by omega), if_neg (by omega), if_neg (by omega)]) hC hF
          | exact hq _ S h (by unfold o_stranger; rw [if_neg (by omega), if_pos (by omega)]) H Fr.rfl'
          | exact hq _ S h (by unfold o_stranger; rw [if_neg (by omega), if_neg (by omega), if_pos (by omega)]) H Fr.rfl'
          | (rw [q6 who.toNat (by omega)]; exact hq _ S h (by unfold o_stranger; rw [if_neg (by omega), if_neg (by omega), if_neg (by omega), if_pos (by omega)]) H Fr.rfl')
      | 1, hi =>
        cases hi
        refine AW.aload_n dX11_stranger_53 rfl ?_
        refine AW.getf dX11_stranger_54 gX11_19 (by repeat (first | assumption | exact hset_eq _ _ _ | refine (hset_ne _ _ (by omega)).trans ?_)) rfl ?_
        refine AW.getf dX11_stranger_57 gX11_112 (by repeat (first | assumption | exact hset_eq _ _ _ | refine (hset_ne _ _ (by omega)).trans ?_)) rfl ?_
        refine AW.iload_n dX11_stranger_60 rfl ?_
        refine AW.aaload dX11_stranger_61 (by repeat (first | assumption | exact hset_eq _ _ _ | refine (hset_ne _ _ (by omega)).trans ?_)) (by decide) (by omega) r1 ?_
        refine AW.fX11_119 rfl dX11_stranger_62 r3 ?_
        refine AW.ireturn dX11_stranger_65 rfl ?_
        first
          | exact hq (-2) (rf S 2) _ (by unfold o_stranger; rw [if_neg (by omega), if_neg (by omega), if_neg (by omega), if_neg (by omega), if_pos (by omega)]) hC hF
          | exact hq (-2) (rf S 2) _ (by unfold o_stranger; rw [if_neg (by omega), if_neg (by omega), if_neg (by omega), if_neg (by omega)]) hC hF
          | exact hq _ S h (by unfold o_stranger; rw [if_neg (by omega), if_pos (by omega)]) H Fr.rfl'
          | exact hq _ S h (by unfold o_stranger; rw [if_neg (by omega), if_neg (by omega), if_pos (by omega)]) H Fr.rfl'
          | (rw [q6 who.toNat (by omega)]; exact hq _ S h (by unfold o_stranger; rw [if_neg (by omega), if_neg (by omega), if_neg (by omega), if_pos (by omega)]) H Fr.rfl')
      | 2, hi =>
        cases hi
        refine AW.aload_n dX11_stranger_66 rfl ?_
        refine AW.getf dX11_stranger_67 gX11_19 (by repeat (first | assumption | exact hset_eq _ _ _ | refine (hset_ne _ _ (by omega)).trans ?_)) rfl ?_
        refine AW.getf dX11_stranger_70 gX11_122 (by repeat (first | assumption | exact hset_eq _ _ _ | refine (hset_ne _ _ (by omega)).trans ?_)) rfl ?_
        refine AW.iload_n dX11_stranger_73 rfl ?_
        refine AW.iaload dX11_stranger_74 (by repeat (first | assumption | exact hset_eq _ _ _ | refine (hset_ne _ _ (by omega)).trans ?_)) (by omega) (by omega) ?_
        refine AW.ireturn dX11_stranger_75 rfl ?_
        first
          | exact hq (-2) (rf S 2) _ (by unfold o_stranger; rw [if_neg (by omega), if_neg (by omega), if_neg (by omega), if_neg (by omega), if_pos (by omega)]) hC hF
          | exact hq (-2) (rf S 2) _ (by unfold o_stranger; rw [if_neg (by omega), if_neg (by omega), if_neg (by omega), if_neg (by omega)]) hC hF
          | exact hq _ S h (by unfold o_stranger; rw [if_neg (by omega), if_pos (by omega)]) H Fr.rfl'
          | exact hq _ S h (by unfold o_stranger; rw [if_neg (by omega), if_neg (by omega), if_pos (by omega)]) H Fr.rfl'
          | (rw [q6 who.toNat (by omega)]; exact hq _ S h (by unfold o_stranger; rw [if_neg (by omega), if_neg (by omega), if_neg (by omega), if_pos (by omega)]) H Fr.rfl')
      | i + 3, hi => simp at hi
    · refine AW.aload_n dX11_stranger_76 rfl ?_
      refine AW.iconst dX11_stranger_77 ?_
      refine AW.cI2 (d' := d - 1) (cX11_84 rfl) okX11_refused dX11_stranger_78 (by repeat (first | assumption | exact hset_eq _ _ _ | refine (hset_ne _ _ (by omega)).trans ?_)) (by omega) (C_refused (by assumption) (by decide) (by decide) (fun h78 hC hF => ?_))
      refine AW.ireturn dX11_stranger_81 rfl ?_
      first
        | exact hq (-2) (rf S 2) _ (by unfold o_stranger; rw [if_neg (by omega), if_neg (by omega), if_neg (by omega), if_neg (by omega), if_pos (by omega)]) hC hF
        | exact hq (-2) (rf S 2) _ (by unfold o_stranger; rw [if_neg (by omega), if_neg (by omega), if_neg (by omega), if_neg (by omega)]) hC hF
        | exact hq _ S h (by unfold o_stranger; rw [if_neg (by omega), if_pos (by omega)]) H Fr.rfl'
        | exact hq _ S h (by unfold o_stranger; rw [if_neg (by omega), if_neg (by omega), if_pos (by omega)]) H Fr.rfl'
        | (rw [q6 who.toNat (by omega)]; exact hq _ S h (by unfold o_stranger; rw [if_neg (by omega), if_neg (by omega), if_neg (by omega), if_pos (by omega)]) H Fr.rfl')
  · skip
    show AW d 0 0 mX11_stranger Q 0 [some (.inr 16), some (.inl who), some (.inl x)] [] h
    refine AW.aload_n dX11_stranger_0 rfl ?_
    refine AW.iload_n dX11_stranger_1 rfl ?_
    refine AW.cI2 (d' := d - 1) (cX11_108 rfl) okX11_noStranger dX11_stranger_2 (by repeat (first | assumption | exact hset_eq _ _ _ | refine (hset_ne _ _ (by omega)).trans ?_)) (by omega) (C_noStr g16 gn (fun c => ?_) (fun c cb => absurd hw (by omega)))
    refine AW.ifeq_f (tgt := 14) dX11_stranger_5 (by decide) (by decide) ?_
    refine AW.aload_n dX11_stranger_8 rfl ?_
    refine AW.iconst dX11_stranger_9 ?_
    refine AW.cI2 (d' := d - 1) (cX11_84 rfl) okX11_refused dX11_stranger_10 (by repeat (first | assumption | exact hset_eq _ _ _ | refine (hset_ne _ _ (by omega)).trans ?_)) (by omega) (C_refused (by assumption) (by decide) (by decide) (fun h10 hC hF => ?_))
    refine AW.ireturn dX11_stranger_13 rfl ?_
    exact hq (-1) (rf S 1) _ (by unfold o_stranger; rw [if_pos (by omega)]) hC hF
theorem C_saying (H : CS h S) (hd : 3 ≤ d) (hq : ∀ r S' h', (r, S') = o_saying S x y → CS h' S' → Fr h h' PC → Q (some (.inl r)) h') : MW d 0 0 mX11_saying [.inr 16, .inl x, .inl y] h Q := by
  obtain ⟨nw, tr, ik, sd, at', HM, HL, HS⟩ := id H
  obtain ⟨k1, g16, h9, k2, k3, k4, k5, k6, k7, k8, k10, k11, ok⟩ := id HM
  obtain ⟨gn, -, -, q7, -, q10, q11⟩ := id k4
  have g16' := g16
  unfold CO at g16'
  have o := ok.1.2.1
  by_cases hw : 0 ≤ x ∧ x < s_h S.1
  · have e := sayAt (l := []) (i := x.toNat) nw (by omega)
    obtain ⟨f, s1, s2, s3, s4, s5⟩ := q11 x.toNat (by omega)
    show AW d 0 0 mX11_saying Q 0 [some (.inr 16), some (.inl x), some (.inl y), none] [] h
    refine AW.aload_n dX11_saying_0 rfl ?_
    refine AW.iload_n dX11_saying_1 rfl ?_
    refine AW.cI2 (d' := d - 1) (cX11_135 rfl) okX11_noScholar dX11_saying_2 (by repeat (first | assumption | exact hset_eq _ _ _ | refine (hset_ne _ _ (by omega)).trans ?_)) (by omega) (C_noSch g16 gn (fun c => absurd c (by omega)) (fun c cb => ?_))
    refine AW.ifeq_t (tgt := 14) dX11_saying_5 (by decide) rfl ?_
    refine AW.iload_n dX11_saying_14 rfl ?_
    refine AW.iconst dX11_saying_15 ?_
    refine AW.if_icmpge (tgt := 25) dX11_saying_16 (by decide) (fun c16 => ?_) (fun c16 => ?_)
    · refine AW.aload_n dX11_saying_25 rfl ?_
      refine AW.getf dX11_saying_26 gX11_19 (by repeat (first | assumption | exact hset_eq _ _ _ | refine (hset_ne _ _ (by omega)).trans ?_)) rfl ?_
      refine AW.getf dX11_saying_29 gX11_138 (by repeat (first | assumption | exact hset_eq _ _ _ | refine (hset_ne _ _ (by omega)).trans ?_)) rfl ?_
      refine AW.iload_n dX11_saying_32 rfl ?_
      refine AW.aaload dX11_saying_33 (by repeat (first | assumption | exact hset_eq _ _ _ | refine (hset_ne _ _ (by omega)).trans ?_)) (by decide) (by omega) e ?_
      refine AW.ast3 dX11_saying_34 (by decide) ?_
      refine AW.iload_n dX11_saying_35 rfl ?_
      refine AW.iconst dX11_saying_36 ?_
      refine AW.if_icmpne (tgt := 45) dX11_saying_37 (by decide) (fun c37 => ?_) (fun c37 => ?_)
      · refine AW.iload_n dX11_saying_45 rfl ?_
        refine AW.aload_n dX11_saying_46 rfl ?_
        refine AW.getf dX11_saying_47 gX11_142 (by repeat (first | assumption | exact hset_eq _ _ _ | refine (hset_ne _ _ (by omega)).trans ?_)) rfl ?_
        refine AW.if_icmpge (tgt := 62) dX11_saying_50 (by decide) (fun c50 => ?_) (fun c50 => ?_)
        · refine AW.bipush dX11_saying_62 ?_
          refine AW.ireturn dX11_saying_64 rfl ?_
          first
            | exact hq (-4) (rf S 4) _ (by unfold o_saying; rw [if_neg (by omega), if_pos (by omega)]) hC hF
            | exact hq _ S h (by unfold o_saying; rw [if_neg (by omega), if_neg (by omega), if_pos (by omega)]) H Fr.rfl'
            | exact hq _ S h (by unfold o_saying; rw [if_neg (by omega), if_neg (by omega), if_neg (by omega), if_neg (by omega)]) H Fr.rfl'
            | (obtain ⟨w, hw2⟩ : ∃ w, (s_w S.1 x.toNat)[y.toNat]? = some w := ⟨_, List.getElem?_eq_getElem (by omega)⟩
               rw [s5 y.toNat w hw2]
               exact hq _ S h (by unfold o_saying; rw [if_neg (by omega), if_neg (by omega), if_neg (by omega), if_pos (by omega), List.getD_eq_getElem?_getD, hw2]; rfl) H Fr.rfl')
        · refine AW.aload_n dX11_saying_53 rfl ?_
          refine AW.getf dX11_saying_54 gX11_145 (by repeat (first | assumption | exact hset_eq _ _ _ | refine (hset_ne _ _ (by omega)).trans ?_)) rfl ?_
          refine AW.iload_n dX11_saying_57 rfl ?_
          refine AW.iaload dX11_saying_58 (by repeat (first | assumption | exact hset_eq _ _ _ | refine (hset_ne _ _ (by omega)).trans ?_)) (by omega) (by omega) ?_
          refine AW.goto (tgt := 64) dX11_saying_59 (by decide) ?_
          refine AW.ireturn dX11_saying_64 rfl ?_
          first
            | exact hq (-4) (rf S 4) _ (by unfold o_saying; rw [if_neg (by omega), if_pos (by omega)]) hC hF
            | exact hq _ S h (by unfold o_saying; rw [if_neg (by omega), if_neg (by omega), if_pos (by omega)]) H Fr.rfl'
            | exact hq _ S h (by unfold o_saying; rw [if_neg (by omega), if_neg (by omega), if_neg (by omega), if_neg (by omega)]) H Fr.rfl'
            | (obtain ⟨w, hw2⟩ : ∃ w, (s_w S.1 x.toNat)[y.toNat]? = some w := ⟨_, List.getElem?_eq_getElem (by omega)⟩
               rw [s5 y.toNat w hw2]
               exact hq _ S h (by unfold o_saying; rw [if_neg (by omega), if_neg (by omega), if_neg (by omega), if_pos (by omega), List.getD_eq_getElem?_getD, hw2]; rfl) H Fr.rfl')
      · refine AW.aload_n dX11_saying_40 rfl ?_
        refine AW.getf dX11_saying_41 gX11_142 (by repeat (first | assumption | exact hset_eq _ _ _ | refine (hset_ne _ _ (by omega)).trans ?_)) rfl ?_
        refine AW.ireturn dX11_saying_44 rfl ?_
        first
          | exact hq (-4) (rf S 4) _ (by unfold o_saying; rw [if_neg (by omega), if_pos (by omega)]) hC hF
          | exact hq _ S h (by unfold o_saying; rw [if_neg (by omega), if_neg (by omega), if_pos (by omega)]) H Fr.rfl'
          | exact hq _ S h (by unfold o_saying; rw [if_neg (by omega), if_neg (by omega), if_neg (by omega), if_neg (by omega)]) H Fr.rfl'
          | (obtain ⟨w, hw2⟩ : ∃ w, (s_w S.1 x.toNat)[y.toNat]? = some w := ⟨_, List.getElem?_eq_getElem (by omega)⟩
             rw [s5 y.toNat w hw2]
             exact hq _ S h (by unfold o_saying; rw [if_neg (by omega), if_neg (by omega), if_neg (by omega), if_pos (by omega), List.getD_eq_getElem?_getD, hw2]; rfl) H Fr.rfl')
    · refine AW.aload_n dX11_saying_19 rfl ?_
      refine AW.iconst dX11_saying_20 ?_
      refine AW.cI2 (d' := d - 1) (cX11_84 rfl) okX11_refused dX11_saying_21 (by repeat (first | assumption | exact hset_eq _ _ _ | refine (hset_ne _ _ (by omega)).trans ?_)) (by omega) (C_refused (by assumption) (by decide) (by decide) (fun h21 hC hF => ?_))
      refine AW.ireturn dX11_saying_24 rfl ?_
      first
        | exact hq (-4) (rf S 4) _ (by unfold o_saying; rw [if_neg (by omega), if_pos (by omega)]) hC hF
        | exact hq _ S h (by unfold o_saying; rw [if_neg (by omega), if_neg (by omega), if_pos (by omega)]) H Fr.rfl'
        | exact hq _ S h (by unfold o_saying; rw [if_neg (by omega), if_neg (by omega), if_neg (by omega), if_neg (by omega)]) H Fr.rfl'
        | (obtain ⟨w, hw2⟩ : ∃ w, (s_w S.1 x.toNat)[y.toNat]? = some w := ⟨_, List.getElem?_eq_getElem (by omega)⟩
           rw [s5 y.toNat w hw2]
           exact hq _ S h (by unfold o_saying; rw [if_neg (by omega), if_neg (by omega), if_neg (by omega), if_pos (by omega), List.getD_eq_getElem?_getD, hw2]; rfl) H Fr.rfl')
  · skip
    show AW d 0 0 mX11_saying Q 0 [some (.inr 16), some (.inl x), some (.inl y), none] [] h
    refine AW.aload_n dX11_saying_0 rfl ?_
    refine AW.iload_n dX11_saying_1 rfl ?_
    refine AW.cI2 (d' := d - 1) (cX11_135 rfl) okX11_noScholar dX11_saying_2 (by repeat (first | assumption | exact hset_eq _ _ _ | refine (hset_ne _ _ (by omega)).trans ?_)) (by omega) (C_noSch g16 gn (fun c => ?_) (fun c cb => absurd hw (by omega)))
    refine AW.ifeq_f (tgt := 14) dX11_saying_5 (by decide) (by decide) ?_
    refine AW.aload_n dX11_saying_8 rfl ?_
    refine AW.iconst dX11_saying_9 ?_
    refine AW.cI2 (d' := d - 1) (cX11_84 rfl) okX11_refused dX11_saying_10 (by repeat (first | assumption | exact hset_eq _ _ _ | refine (hset_ne _ _ (by omega)).trans ?_)) (by omega) (C_refused (by assumption) (by decide) (by decide) (fun h10 hC hF => ?_))
    refine AW.ireturn dX11_saying_13 rfl ?_
    exact hq (-1) (rf S 1) _ (by unfold o_saying; rw [if_pos (by omega)]) hC hF
end Cls5

