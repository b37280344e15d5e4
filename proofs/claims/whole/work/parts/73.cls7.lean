section Cls7
variable {d : Nat} {Q : Option AV → AH → Prop} {h h' : AH} {nw tr b : Nat} {ik sd at' tc : Int} {S S' : ST} {P : Nat → Prop} {s : SC} {x y z who k g more : Int} {nm : Nat → Int}
theorem SchA.hh {n : Nat} (H : SchA h b s) (hb : 16 ≤ b ∧ b + 17 ≤ 72) (hs : s_h s ≤ 6) (hn : n ≤ s_h s) : SchA (hset h b (.inl (9, [.inr (b + 1), .inr (b + 2), .inl (s_n s : Int), .inr (b + 3), .inl (n : Int), .inr (b + 4)]))) b (sc_h s n) := by
  obtain ⟨h1, ⟨sts, h2, h3, h4, h5⟩, h6, h8, h9, h11, h12⟩ := H
  have F : Fr h (hset h b (.inl (9, [.inr (b + 1), .inr (b + 2), .inl (s_n s : Int), .inr (b + 3), .inl (n : Int), .inr (b + 4)]))) (fun a => a = b) := Fr.set rfl
  refine ⟨hset_eq _ _ _, ⟨sts, (hset_ne _ _ (by omega)).trans h2, h3, h4, fun i hi => ?_⟩, ?_, (hset_ne _ _ (by omega)).trans h8, ?_, fun i hi => ?_, fun i hi => ?_⟩
  · obtain ⟨a, q1, q2, q3⟩ := h5 i hi
    exact ⟨a, q1, q2, q3.fr F (fun a ha => by omega)⟩
  · obtain ⟨f2, q1, q2⟩ := h6
    exact ⟨f2, (hset_ne _ _ (by omega)).trans q1, q2⟩
  · obtain ⟨f2, q1, q2⟩ := h9
    exact ⟨f2, (hset_ne _ _ (by omega)).trans q1, q2⟩
  · obtain ⟨n, f3, q1, q2⟩ := h11 i hi
    exact ⟨n, f3, (hset_ne _ _ (by omega)).trans q1, (hset_ne _ _ (by omega)).trans q2⟩
  · have hi' : i < n := hi
    obtain ⟨f3, q1, q2, q3⟩ := h12 i (by omega)
    exact ⟨f3, (hset_ne _ _ (by omega)).trans q1, (hset_ne _ _ (by omega)).trans q2, q3⟩
theorem C_leave (H : CS h S) (hd : 2 ≤ d) (hq : ∀ r S' h', (r, S') = o_leave S → CS h' S' → Fr h h' PC → Q (some (.inl r)) h') : MW d 0 0 mX11_leave [.inr 16] h Q := by
  obtain ⟨nw, tr, ik, sd, at', HM, HL, HS⟩ := id H
  obtain ⟨k1, g16, h9, k2, k3, k4, k5, k6, k7, k8, k10, k11, ok⟩ := id HM
  have gn := k4.1
  have g16' := g16
  unfold CO at g16'
  have o := ok.1.2.1
  show AW d 0 0 mX11_leave Q 0 [some (.inr 16)] [] h
  refine AW.aload_n dX11_leave_0 rfl ?_
  refine AW.getf dX11_leave_1 gX11_19 (by repeat (first | assumption | exact hset_eq _ _ _ | refine (hset_ne _ _ (by omega)).trans ?_)) rfl ?_
  refine AW.getf dX11_leave_4 gX11_148 (by repeat (first | assumption | exact hset_eq _ _ _ | refine (hset_ne _ _ (by omega)).trans ?_)) rfl ?_
  refine AW.iconst dX11_leave_7 ?_
  refine AW.if_icmpge (tgt := 17) dX11_leave_8 (by decide) (fun c8 => ?_) (fun c8 => ?_)
  · refine AW.aload_n dX11_leave_17 rfl ?_
    refine AW.getf dX11_leave_18 gX11_19 (by repeat (first | assumption | exact hset_eq _ _ _ | refine (hset_ne _ _ (by omega)).trans ?_)) rfl ?_
    refine AW.dup dX11_leave_21 ?_
    refine AW.getf dX11_leave_22 gX11_148 (by repeat (first | assumption | exact hset_eq _ _ _ | refine (hset_ne _ _ (by omega)).trans ?_)) rfl ?_
    refine AW.iconst dX11_leave_25 ?_
    refine AW.isubR dX11_leave_26 (by unfold RI; omega) ?_
    refine AW.putf dX11_leave_27 pX11_148 (by repeat (first | assumption | exact hset_eq _ _ _ | refine (hset_ne _ _ (by omega)).trans ?_)) trivial ?_
    refine AW.aload_n dX11_leave_30 rfl ?_
    refine AW.getf dX11_leave_31 gX11_19 (by repeat (first | assumption | exact hset_eq _ _ _ | refine (hset_ne _ _ (by omega)).trans ?_)) rfl ?_
    refine AW.getf dX11_leave_34 gX11_148 (by repeat (first | assumption | exact hset_eq _ _ _ | refine (hset_ne _ _ (by omega)).trans ?_)) rfl ?_
    refine AW.ireturn dX11_leave_37 rfl ?_
    first
      | exact hq (-3) (rf S 3) _ (by unfold o_leave; rw [if_pos (by omega)]) hC hF
      | (have e : ((s_h S.1 : Int) - 1) = ((s_h S.1 - 1 : Nat) : Int) := by omega
         have F : Fr h (hset h nw (.inl (9, [.inr (nw + 1), .inr (nw + 2), .inl (s_n S.1 : Int), .inr (nw + 3), .inl ((s_h S.1 - 1 : Nat) : Int), .inr (nw + 4)]))) (fun a => a = nw) := Fr.set rfl
         have fin := hq ((s_h S.1 : Int) - 1) (sc_h S.1 (s_h S.1 - 1), S.2) _ (by unfold o_leave; rw [if_neg (by omega)]) ⟨nw, tr, ik, sd, at', HM.sc F (fun a ha => by omega) (SchA.hh k4 (by omega) o (by omega)) (sc_h_ok ok.1 (by omega)), HL.fr F h9 (fun a ha => by omega), HS.fr F h9 (fun a ha => by omega)⟩ (F.mono (fun a ha => by unfold PC; omega))
         rw [← e] at fin
         exact fin)
  · refine AW.aload_n dX11_leave_11 rfl ?_
    refine AW.iconst dX11_leave_12 ?_
    refine AW.cI2 (d' := d - 1) (cX11_84 rfl) okX11_refused dX11_leave_13 (by repeat (first | assumption | exact hset_eq _ _ _ | refine (hset_ne _ _ (by omega)).trans ?_)) (by omega) (C_refused (by assumption) (by decide) (by decide) (fun h13 hC hF => ?_))
    refine AW.ireturn dX11_leave_16 rfl ?_
    first
      | exact hq (-3) (rf S 3) _ (by unfold o_leave; rw [if_pos (by omega)]) hC hF
      | (have e : ((s_h S.1 : Int) - 1) = ((s_h S.1 - 1 : Nat) : Int) := by omega
         have F : Fr h (hset h nw (.inl (9, [.inr (nw + 1), .inr (nw + 2), .inl (s_n S.1 : Int), .inr (nw + 3), .inl ((s_h S.1 - 1 : Nat) : Int), .inr (nw + 4)]))) (fun a => a = nw) := Fr.set rfl
         have fin := hq ((s_h S.1 : Int) - 1) (sc_h S.1 (s_h S.1 - 1), S.2) _ (by unfold o_leave; rw [if_neg (by omega)]) ⟨nw, tr, ik, sd, at', HM.sc F (fun a ha => by omega) (SchA.hh k4 (by omega) o (by omega)) (sc_h_ok ok.1 (by omega)), HL.fr F h9 (fun a ha => by omega), HS.fr F h9 (fun a ha => by omega)⟩ (F.mono (fun a ha => by unfold PC; omega))
         rw [← e] at fin
         exact fin)
theorem W_isFull {L : List Int} (H : LetA h L at') (h1 : L.length = 80 → Q (some (.inl 1)) h) (h0 : L.length < 80 → Q (some (.inl 0)) h) (h80 : L.length ≤ 80) : MW d 0 0 mX5_isFull [.inr 17] h Q := by
  obtain ⟨g17, f, g18, -⟩ := H
  show AW d 0 0 mX5_isFull Q 0 [some (.inr 17)] [] h
  refine AW.aload_n dX5_isFull_0 rfl ?_
  refine AW.getf dX5_isFull_1 gX5_15 (by repeat (first | assumption | exact hset_eq _ _ _ | refine (hset_ne _ _ (by omega)).trans ?_)) rfl ?_
  refine AW.bipush dX5_isFull_4 ?_
  refine AW.if_icmplt (tgt := 13) dX5_isFull_6 (by decide) (fun c6 => ?_) (fun c6 => ?_)
  · refine AW.iconst dX5_isFull_13 ?_
    refine AW.zreturn dX5_isFull_14 rfl (Or.inl rfl) ?_
    first | exact h0 (by omega) | exact h1 (by omega)
  · refine AW.iconst dX5_isFull_9 ?_
    refine AW.goto (tgt := 14) dX5_isFull_10 (by decide) ?_
    refine AW.zreturn dX5_isFull_14 rfl (Or.inr rfl) ?_
    first | exact h0 (by omega) | exact h1 (by omega)
theorem W_letAdd {L : List Int} (H : LetA h L at') (h80 : L.length < 80) (hq : ∀ h', LetA h' (L ++ [x]) at' → Fr h h' (fun a => a = 17 ∨ a = 18) → Q (some (.inl ((L.length : Int) + 1))) h') : MW d 0 0 mX5_add [.inr 17, .inl x] h Q := by
  obtain ⟨g17, f, g18, hf⟩ := H
  show AW d 0 0 mX5_add Q 0 [some (.inr 17), some (.inl x)] [] h
  refine AW.aload_n dX5_add_0 rfl ?_
  refine AW.getf dX5_add_1 gX5_15 (by repeat (first | assumption | exact hset_eq _ _ _ | refine (hset_ne _ _ (by omega)).trans ?_)) rfl ?_
  refine AW.bipush dX5_add_4 ?_
  refine AW.if_icmpge (tgt := 29) dX5_add_6 (by decide) (fun c6 => absurd c6 (by omega)) (fun c6 => ?_)
  refine AW.aload_n dX5_add_9 rfl ?_
  refine AW.getf dX5_add_10 gX5_9 (by repeat (first | assumption | exact hset_eq _ _ _ | refine (hset_ne _ _ (by omega)).trans ?_)) rfl ?_
  refine AW.aload_n dX5_add_13 rfl ?_
  refine AW.getf dX5_add_14 gX5_15 (by repeat (first | assumption | exact hset_eq _ _ _ | refine (hset_ne _ _ (by omega)).trans ?_)) rfl ?_
  refine AW.iload_n dX5_add_17 rfl ?_
  refine AW.iastore dX5_add_18 (by omega) (by repeat (first | assumption | exact hset_eq _ _ _ | refine (hset_ne _ _ (by omega)).trans ?_)) (by omega) (by omega) ?_
  refine AW.aload_n dX5_add_19 rfl ?_
  refine AW.dup dX5_add_20 ?_
  refine AW.getf dX5_add_21 gX5_15 (by repeat (first | assumption | exact hset_eq _ _ _ | refine (hset_ne _ _ (by omega)).trans ?_)) rfl ?_
  refine AW.iconst dX5_add_24 ?_
  refine AW.iaddR dX5_add_25 (by unfold RI; omega) ?_
  refine AW.putf dX5_add_26 pX5_15 (by repeat (first | assumption | exact hset_eq _ _ _ | refine (hset_ne _ _ (by omega)).trans ?_)) trivial ?_
  refine AW.aload_n dX5_add_29 rfl ?_
  refine AW.getf dX5_add_30 gX5_15 (by repeat (first | assumption | exact hset_eq _ _ _ | refine (hset_ne _ _ (by omega)).trans ?_)) rfl ?_
  refine AW.ireturn dX5_add_33 rfl ?_
  refine hq _ ⟨?_, updI f L.length x, ?_, fun i u hi => ?_⟩ (Fr.trans (Fr.set (Or.inr rfl)) (Fr.set (Or.inl rfl)))
  · rw [hset_eq, List.length_append, List.length_singleton]; rfl
  · rw [hset_ne _ _ (by decide), show (L.length : Int).toNat = L.length by omega]; exact hset_eq _ _ _
  · rcases getElem?_snoc hi with ⟨q1, q2⟩ | ⟨q1, q2⟩
    · rw [updI_ne _ _ (by omega)]; exact hf i u q2
    · rw [q1, q2, updI_eq]
theorem C_feed (H : CS h S) (hd : 2 ≤ d) (hq : ∀ r S' h', (r, S') = o_feed S x → CS h' S' → Fr h h' PC → Q (some (.inl r)) h') : MW d 0 0 mX11_feed [.inr 16, .inl x] h Q := by
  obtain ⟨nw, tr, ik, sd, at', HM, HL, HS⟩ := id H
  obtain ⟨k1, g16, h9, k2, k3, k4, k5, k6, ⟨f7, k7, k7b⟩, ⟨f8, k8, k8b⟩, k10, k11, ok⟩ := id HM
  have g17 := k3.1
  have g16' := g16
  unfold CO at g16'
  have h80 := ok.2.2.1
  show AW d 0 0 mX11_feed Q 0 [some (.inr 16), some (.inl x)] [] h
  refine AW.iload_n dX11_feed_0 rfl ?_
  refine AW.ifge (tgt := 10) dX11_feed_1 (by decide) (fun c1 => ?_) (fun c1 => ?_)
  · refine AW.iload_n dX11_feed_10 rfl ?_
    refine AW.sipush dX11_feed_11 ?_
    refine AW.if_icmpgt (tgt := 27) dX11_feed_14 (by decide) (fun c14 => ?_) (fun c14 => ?_)
    · refine AW.aload_n dX11_feed_27 rfl ?_
      refine AW.bipush dX11_feed_28 ?_
      refine AW.cI2 (d' := d - 1) (cX11_84 rfl) okX11_refused dX11_feed_30 (by repeat (first | assumption | exact hset_eq _ _ _ | refine (hset_ne _ _ (by omega)).trans ?_)) (by omega) (C_refused (by assumption) (by decide) (by decide) (fun h30 hC hF => ?_))
      refine AW.ireturn dX11_feed_33 rfl ?_
      first
        | exact hq (-4) (rf S 4) _ (by unfold o_feed; rw [if_pos (by omega)]) hC hF
        | exact hq (-6) (rf S 6) _ (by unfold o_feed; rw [if_neg (by omega), if_pos (by omega)]) hC hF
        | (refine hq _ (S.1, S.2.1, S.2.2.1 ++ [x], S.2.2.2) h2 (by unfold o_feed; rw [if_neg (by omega), if_neg (by omega)]) ⟨nw, tr, ik, sd, at', HM.st (S' := (S.1, S.2.1, S.2.2.1 ++ [x], S.2.2.2)) F2 (fun a ha => by omega) rfl rfl ((F2.2 _ (by omega) (by decide)).trans g16) L2 ⟨f7, (F2.2 _ (by omega) (by decide)).trans k7, k7b⟩ ⟨f8, (F2.2 _ (by omega) (by decide)).trans k8, k8b⟩ ⟨ok.1, ok.2.1, ?_, ?_, ok.2.2.2.2⟩, HL.fr F2 h9 (fun a ha => by omega), HS.fr F2 h9 (fun a ha => by omega)⟩ (F2.mono (fun a ha => by unfold PC; omega))
           · show (S.2.2.1 ++ [x]).length ≤ 80
             rw [List.length_append, List.length_singleton]; omega
           · intro u hu
             rcases List.mem_append.mp hu with q | q
             · exact ok.2.2.2.1 u q
             · rw [List.mem_singleton.mp q]; omega)
    · refine AW.aload_n dX11_feed_17 rfl ?_
      refine AW.getf dX11_feed_18 gX11_10 (by repeat (first | assumption | exact hset_eq _ _ _ | refine (hset_ne _ _ (by omega)).trans ?_)) rfl ?_
      refine AW.cI1 (d' := d - 1) (cX11_88 rfl) okX5_isFull dX11_feed_21 (by repeat (first | assumption | exact hset_eq _ _ _ | refine (hset_ne _ _ (by omega)).trans ?_)) (by omega) (W_isFull k3 (fun c => ?_) (fun c => ?_) h80)
      · refine AW.ifeq_f (tgt := 34) dX11_feed_24 (by decide) (by decide) ?_
        refine AW.aload_n dX11_feed_27 rfl ?_
        refine AW.bipush dX11_feed_28 ?_
        refine AW.cI2 (d' := d - 1) (cX11_84 rfl) okX11_refused dX11_feed_30 (by repeat (first | assumption | exact hset_eq _ _ _ | refine (hset_ne _ _ (by omega)).trans ?_)) (by omega) (C_refused (by assumption) (by decide) (by decide) (fun h30 hC hF => ?_))
        refine AW.ireturn dX11_feed_33 rfl ?_
        first
          | exact hq (-4) (rf S 4) _ (by unfold o_feed; rw [if_pos (by omega)]) hC hF
          | exact hq (-6) (rf S 6) _ (by unfold o_feed; rw [if_neg (by omega), if_pos (by omega)]) hC hF
          | (refine hq _ (S.1, S.2.1, S.2.2.1 ++ [x], S.2.2.2) h2 (by unfold o_feed; rw [if_neg (by omega), if_neg (by omega)]) ⟨nw, tr, ik, sd, at', HM.st (S' := (S.1, S.2.1, S.2.2.1 ++ [x], S.2.2.2)) F2 (fun a ha => by omega) rfl rfl ((F2.2 _ (by omega) (by decide)).trans g16) L2 ⟨f7, (F2.2 _ (by omega) (by decide)).trans k7, k7b⟩ ⟨f8, (F2.2 _ (by omega) (by decide)).trans k8, k8b⟩ ⟨ok.1, ok.2.1, ?_, ?_, ok.2.2.2.2⟩, HL.fr F2 h9 (fun a ha => by omega), HS.fr F2 h9 (fun a ha => by omega)⟩ (F2.mono (fun a ha => by unfold PC; omega))
             · show (S.2.2.1 ++ [x]).length ≤ 80
               rw [List.length_append, List.length_singleton]; omega
             · intro u hu
               rcases List.mem_append.mp hu with q | q
               · exact ok.2.2.2.1 u q
               · rw [List.mem_singleton.mp q]; omega)
      · refine AW.ifeq_t (tgt := 34) dX11_feed_24 (by decide) rfl ?_
        refine AW.aload_n dX11_feed_34 rfl ?_
        refine AW.getf dX11_feed_35 gX11_10 (by repeat (first | assumption | exact hset_eq _ _ _ | refine (hset_ne _ _ (by omega)).trans ?_)) rfl ?_
        refine AW.iload_n dX11_feed_38 rfl ?_
        refine AW.cI2 (d' := d - 1) (cX11_92 rfl) okX5_add dX11_feed_39 (by repeat (first | assumption | exact hset_eq _ _ _ | refine (hset_ne _ _ (by omega)).trans ?_)) (by omega) (W_letAdd k3 (by omega) (fun h2 L2 F2 => ?_))
        refine AW.ireturn dX11_feed_42 rfl ?_
        first
          | exact hq (-4) (rf S 4) _ (by unfold o_feed; rw [if_pos (by omega)]) hC hF
          | exact hq (-6) (rf S 6) _ (by unfold o_feed; rw [if_neg (by omega), if_pos (by omega)]) hC hF
          | (refine hq _ (S.1, S.2.1, S.2.2.1 ++ [x], S.2.2.2) h2 (by unfold o_feed; rw [if_neg (by omega), if_neg (by omega)]) ⟨nw, tr, ik, sd, at', HM.st (S' := (S.1, S.2.1, S.2.2.1 ++ [x], S.2.2.2)) F2 (fun a ha => by omega) rfl rfl ((F2.2 _ (by omega) (by decide)).trans g16) L2 ⟨f7, (F2.2 _ (by omega) (by decide)).trans k7, k7b⟩ ⟨f8, (F2.2 _ (by omega) (by decide)).trans k8, k8b⟩ ⟨ok.1, ok.2.1, ?_, ?_, ok.2.2.2.2⟩, HL.fr F2 h9 (fun a ha => by omega), HS.fr F2 h9 (fun a ha => by omega)⟩ (F2.mono (fun a ha => by unfold PC; omega))
             · show (S.2.2.1 ++ [x]).length ≤ 80
               rw [List.length_append, List.length_singleton]; omega
             · intro u hu
               rcases List.mem_append.mp hu with q | q
               · exact ok.2.2.2.1 u q
               · rw [List.mem_singleton.mp q]; omega)
  · refine AW.aload_n dX11_feed_4 rfl ?_
    refine AW.iconst dX11_feed_5 ?_
    refine AW.cI2 (d' := d - 1) (cX11_84 rfl) okX11_refused dX11_feed_6 (by repeat (first | assumption | exact hset_eq _ _ _ | refine (hset_ne _ _ (by omega)).trans ?_)) (by omega) (C_refused (by assumption) (by decide) (by decide) (fun h6 hC hF => ?_))
    refine AW.ireturn dX11_feed_9 rfl ?_
    first
      | exact hq (-4) (rf S 4) _ (by unfold o_feed; rw [if_pos (by omega)]) hC hF
      | exact hq (-6) (rf S 6) _ (by unfold o_feed; rw [if_neg (by omega), if_pos (by omega)]) hC hF
      | (refine hq _ (S.1, S.2.1, S.2.2.1 ++ [x], S.2.2.2) h2 (by unfold o_feed; rw [if_neg (by omega), if_neg (by omega)]) ⟨nw, tr, ik, sd, at', HM.st (S' := (S.1, S.2.1, S.2.2.1 ++ [x], S.2.2.2)) F2 (fun a ha => by omega) rfl rfl ((F2.2 _ (by omega) (by decide)).trans g16) L2 ⟨f7, (F2.2 _ (by omega) (by decide)).trans k7, k7b⟩ ⟨f8, (F2.2 _ (by omega) (by decide)).trans k8, k8b⟩ ⟨ok.1, ok.2.1, ?_, ?_, ok.2.2.2.2⟩, HL.fr F2 h9 (fun a ha => by omega), HS.fr F2 h9 (fun a ha => by omega)⟩ (F2.mono (fun a ha => by unfold PC; omega))
         · show (S.2.2.1 ++ [x]).length ≤ 80
           rw [List.length_append, List.length_singleton]; omega
         · intro u hu
           rcases List.mem_append.mp hu with q | q
           · exact ok.2.2.2.1 u q
           · rw [List.mem_singleton.mp q]; omega)
theorem C_row (H : CS h S) (hd : 2 ≤ d) (hq : ∀ r S' h', (r, S') = o_row S x → CS h' S' → Fr h h' PC → Q (some (.inl r)) h') : MW d 0 0 mX11_row [.inr 16, .inl x] h Q := by
  obtain ⟨nw, tr, ik, sd, at', HM, HL, HS⟩ := id H
  obtain ⟨k1, g16, h9, k2, k3, k4, k5, k6, ⟨f7, k7, k7b⟩, ⟨f8, k8, k8b⟩, k10, k11, ok⟩ := id HM
  have g16' := g16
  unfold CO at g16'
  have h6 := ok.2.2.2.2.1
  show AW d 0 0 mX11_row Q 0 [some (.inr 16), some (.inl x)] [] h
  refine AW.iload_n dX11_row_0 rfl ?_
  refine AW.ifge (tgt := 10) dX11_row_1 (by decide) (fun c1 => ?_) (fun c1 => ?_)
  · refine AW.iload_n dX11_row_10 rfl ?_
    refine AW.sipush dX11_row_11 ?_
    refine AW.if_icmpgt (tgt := 26) dX11_row_14 (by decide) (fun c14 => ?_) (fun c14 => ?_)
    · refine AW.aload_n dX11_row_26 rfl ?_
      refine AW.bipush dX11_row_27 ?_
      refine AW.cI2 (d' := d - 1) (cX11_84 rfl) okX11_refused dX11_row_29 (by repeat (first | assumption | exact hset_eq _ _ _ | refine (hset_ne _ _ (by omega)).trans ?_)) (by omega) (C_refused (by assumption) (by decide) (by decide) (fun h29 hC hF => ?_))
      refine AW.ireturn dX11_row_32 rfl ?_
      first
        | exact hq (-4) (rf S 4) _ (by unfold o_row; rw [if_pos (by omega)]) hC hF
        | exact hq (-6) (rf S 6) _ (by unfold o_row; rw [if_neg (by omega), if_pos (by omega)]) hC hF
        | (generalize hh : hset (hset h 70 _) 16 _ = h2
           have F2 : Fr h h2 (fun a => a = 16 ∨ a = 70) := by rw [← hh]; exact Fr.trans (Fr.set (Or.inr rfl)) (Fr.set (Or.inl rfl))
           refine hq _ (S.1, S.2.1, S.2.2.1, S.2.2.2.1 ++ [x], S.2.2.2.2) h2 (by unfold o_row; rw [if_neg (by omega), if_neg (by omega)]) ⟨nw, tr, ik, sd, at', HM.st (S' := (S.1, S.2.1, S.2.2.1, S.2.2.2.1 ++ [x], S.2.2.2.2)) F2 (fun a ha => by omega) rfl rfl ?_ (k3.fr F2 h9 ⟨by decide, by decide⟩) ⟨updI f7 S.2.2.2.1.length x, ?_, fun i u hi => ?_⟩ ⟨f8, (F2.2 _ (by omega) (by decide)).trans k8, k8b⟩ ⟨ok.1, ok.2.1, ok.2.2.1, ok.2.2.2.1, ?_, ?_⟩, HL.fr F2 h9 (fun a ha => by omega), HS.fr F2 h9 (fun a ha => by omega)⟩ (F2.mono (fun a ha => by unfold PC; omega))
           · rw [← hh]
             show (hset (hset h 70 _) 16 _).2 16 = _
             rw [hset_eq, List.length_append, List.length_singleton]
             rfl
           · rw [← hh, hset_ne _ _ (by decide), show (S.2.2.2.1.length : Int).toNat = S.2.2.2.1.length by omega]; exact hset_eq _ _ _
           · rcases getElem?_snoc hi with ⟨q1, q2⟩ | ⟨q1, q2⟩
             · rw [updI_ne _ _ (by omega)]; exact k7b i u q2
             · rw [q1, q2, updI_eq]
           · show (S.2.2.2.1 ++ [x]).length ≤ 6
             rw [List.length_append, List.length_singleton]; omega
           · intro u hu
             rcases List.mem_append.mp hu with q | q
             · exact ok.2.2.2.2.2 u q
             · rw [List.mem_singleton.mp q]; omega)
    · refine AW.aload_n dX11_row_17 rfl ?_
      refine AW.getf dX11_row_18 gX11_37 (by repeat (first | assumption | exact hset_eq _ _ _ | refine (hset_ne _ _ (by omega)).trans ?_)) rfl ?_
      refine AW.bipush dX11_row_21 ?_
      refine AW.if_icmplt (tgt := 33) dX11_row_23 (by decide) (fun c23 => ?_) (fun c23 => ?_)
      · refine AW.aload_n dX11_row_33 rfl ?_
        refine AW.getf dX11_row_34 gX11_33 (by repeat (first | assumption | exact hset_eq _ _ _ | refine (hset_ne _ _ (by omega)).trans ?_)) rfl ?_
        refine AW.aload_n dX11_row_37 rfl ?_
        refine AW.getf dX11_row_38 gX11_37 (by repeat (first | assumption | exact hset_eq _ _ _ | refine (hset_ne _ _ (by omega)).trans ?_)) rfl ?_
        refine AW.iload_n dX11_row_41 rfl ?_
        refine AW.iastore dX11_row_42 (by omega) (by repeat (first | assumption | exact hset_eq _ _ _ | refine (hset_ne _ _ (by omega)).trans ?_)) (by omega) (by omega) ?_
        refine AW.aload_n dX11_row_43 rfl ?_
        refine AW.dup dX11_row_44 ?_
        refine AW.getf dX11_row_45 gX11_37 (by repeat (first | assumption | exact hset_eq _ _ _ | refine (hset_ne _ _ (by omega)).trans ?_)) rfl ?_
        refine AW.iconst dX11_row_48 ?_
        refine AW.iaddR dX11_row_49 (by unfold RI; omega) ?_
        refine AW.putf dX11_row_50 pX11_37 (by repeat (first | assumption | exact hset_eq _ _ _ | refine (hset_ne _ _ (by omega)).trans ?_)) trivial ?_
        refine AW.aload_n dX11_row_53 rfl ?_
        refine AW.getf dX11_row_54 gX11_37 (by repeat (first | assumption | exact hset_eq _ _ _ | refine (hset_ne _ _ (by omega)).trans ?_)) rfl ?_
        refine AW.ireturn dX11_row_57 rfl ?_
        first
          | exact hq (-4) (rf S 4) _ (by unfold o_row; rw [if_pos (by omega)]) hC hF
          | exact hq (-6) (rf S 6) _ (by unfold o_row; rw [if_neg (by omega), if_pos (by omega)]) hC hF
          | (generalize hh : hset (hset h 70 _) 16 _ = h2
             have F2 : Fr h h2 (fun a => a = 16 ∨ a = 70) := by rw [← hh]; exact Fr.trans (Fr.set (Or.inr rfl)) (Fr.set (Or.inl rfl))
             refine hq _ (S.1, S.2.1, S.2.2.1, S.2.2.2.1 ++ [x], S.2.2.2.2) h2 (by unfold o_row; rw [if_neg (by omega), if_neg (by omega)]) ⟨nw, tr, ik, sd, at', HM.st (S' := (S.1, S.2.1, S.2.2.1, S.2.2.2.1 ++ [x], S.2.2.2.2)) F2 (fun a ha => by omega) rfl rfl ?_ (k3.fr F2 h9 ⟨by decide, by decide⟩) ⟨updI f7 S.2.2.2.1.length x, ?_, fun i u hi => ?_⟩ ⟨f8, (F2.2 _ (by omega) (by decide)).trans k8, k8b⟩ ⟨ok.1, ok.2.1, ok.2.2.1, ok.2.2.2.1, ?_, ?_⟩, HL.fr F2 h9 (fun a ha => by omega), HS.fr F2 h9 (fun a ha => by omega)⟩ (F2.mono (fun a ha => by unfold PC; omega))
             · rw [← hh]
               show (hset (hset h 70 _) 16 _).2 16 = _
               rw [hset_eq, List.length_append, List.length_singleton]
               rfl
             · rw [← hh, hset_ne _ _ (by decide), show (S.2.2.2.1.length : Int).toNat = S.2.2.2.1.length by omega]; exact hset_eq _ _ _
             · rcases getElem?_snoc hi with ⟨q1, q2⟩ | ⟨q1, q2⟩
               · rw [updI_ne _ _ (by omega)]; exact k7b i u q2
               · rw [q1, q2, updI_eq]
             · show (S.2.2.2.1 ++ [x]).length ≤ 6
               rw [List.length_append, List.length_singleton]; omega
             · intro u hu
               rcases List.mem_append.mp hu with q | q
               · exact ok.2.2.2.2.2 u q
               · rw [List.mem_singleton.mp q]; omega)
      · refine AW.aload_n dX11_row_26 rfl ?_
        refine AW.bipush dX11_row_27 ?_
        refine AW.cI2 (d' := d - 1) (cX11_84 rfl) okX11_refused dX11_row_29 (by repeat (first | assumption | exact hset_eq _ _ _ | refine (hset_ne _ _ (by omega)).trans ?_)) (by omega) (C_refused (by assumption) (by decide) (by decide) (fun h29 hC hF => ?_))
        refine AW.ireturn dX11_row_32 rfl ?_
        first
          | exact hq (-4) (rf S 4) _ (by unfold o_row; rw [if_pos (by omega)]) hC hF
          | exact hq (-6) (rf S 6) _ (by unfold o_row; rw [if_neg (by omega), if_pos (by omega)]) hC hF
          | (generalize hh : hset (hset h 70 _) 16 _ = h2
             have F2 : Fr h h2 (fun a => a = 16 ∨ a = 70) := by rw [← hh]; exact Fr.trans (Fr.set (Or.inr rfl)) (Fr.set (Or.inl rfl))
             refine hq _ (S.1, S.2.1, S.2.2.1, S.2.2.2.1 ++ [x], S.2.2.2.2) h2 (by unfold o_row; rw [if_neg (by omega), if_neg (by omega)]) ⟨nw, tr, ik, sd, at', HM.st (S' := (S.1, S.2.1, S.2.2.1, S.2.2.2.1 ++ [x], S.2.2.2.2)) F2 (fun a ha => by omega) rfl rfl ?_ (k3.fr F2 h9 ⟨by decide, by decide⟩) ⟨updI f7 S.2.2.2.1.length x, ?_, fun i u hi => ?_⟩ ⟨f8, (F2.2 _ (by omega) (by decide)).trans k8, k8b⟩ ⟨ok.1, ok.2.1, ok.2.2.1, ok.2.2.2.1, ?_, ?_⟩, HL.fr F2 h9 (fun a ha => by omega), HS.fr F2 h9 (fun a ha => by omega)⟩ (F2.mono (fun a ha => by unfold PC; omega))
             · rw [← hh]
               show (hset (hset h 70 _) 16 _).2 16 = _
               rw [hset_eq, List.length_append, List.length_singleton]
               rfl
             · rw [← hh, hset_ne _ _ (by decide), show (S.2.2.2.1.length : Int).toNat = S.2.2.2.1.length by omega]; exact hset_eq _ _ _
             · rcases getElem?_snoc hi with ⟨q1, q2⟩ | ⟨q1, q2⟩
               · rw [updI_ne _ _ (by omega)]; exact k7b i u q2
               · rw [q1, q2, updI_eq]
             · show (S.2.2.2.1 ++ [x]).length ≤ 6
               rw [List.length_append, List.length_singleton]; omega
             · intro u hu
               rcases List.mem_append.mp hu with q | q
               · exact ok.2.2.2.2.2 u q
               · rw [List.mem_singleton.mp q]; omega)
  · refine AW.aload_n dX11_row_4 rfl ?_
    refine AW.iconst dX11_row_5 ?_
    refine AW.cI2 (d' := d - 1) (cX11_84 rfl) okX11_refused dX11_row_6 (by repeat (first | assumption | exact hset_eq _ _ _ | refine (hset_ne _ _ (by omega)).trans ?_)) (by omega) (C_refused (by assumption) (by decide) (by decide) (fun h6 hC hF => ?_))
    refine AW.ireturn dX11_row_9 rfl ?_
    first
      | exact hq (-4) (rf S 4) _ (by unfold o_row; rw [if_pos (by omega)]) hC hF
      | exact hq (-6) (rf S 6) _ (by unfold o_row; rw [if_neg (by omega), if_pos (by omega)]) hC hF
      | (generalize hh : hset (hset h 70 _) 16 _ = h2
         have F2 : Fr h h2 (fun a => a = 16 ∨ a = 70) := by rw [← hh]; exact Fr.trans (Fr.set (Or.inr rfl)) (Fr.set (Or.inl rfl))
         refine hq _ (S.1, S.2.1, S.2.2.1, S.2.2.2.1 ++ [x], S.2.2.2.2) h2 (by unfold o_row; rw [if_neg (by omega), if_neg (by omega)]) ⟨nw, tr, ik, sd, at', HM.st (S' := (S.1, S.2.1, S.2.2.1, S.2.2.2.1 ++ [x], S.2.2.2.2)) F2 (fun a ha => by omega) rfl rfl ?_ (k3.fr F2 h9 ⟨by decide, by decide⟩) ⟨updI f7 S.2.2.2.1.length x, ?_, fun i u hi => ?_⟩ ⟨f8, (F2.2 _ (by omega) (by decide)).trans k8, k8b⟩ ⟨ok.1, ok.2.1, ok.2.2.1, ok.2.2.2.1, ?_, ?_⟩, HL.fr F2 h9 (fun a ha => by omega), HS.fr F2 h9 (fun a ha => by omega)⟩ (F2.mono (fun a ha => by unfold PC; omega))
         · rw [← hh]
           show (hset (hset h 70 _) 16 _).2 16 = _
           rw [hset_eq, List.length_append, List.length_singleton]
           rfl
         · rw [← hh, hset_ne _ _ (by decide), show (S.2.2.2.1.length : Int).toNat = S.2.2.2.1.length by omega]; exact hset_eq _ _ _
         · rcases getElem?_snoc hi with ⟨q1, q2⟩ | ⟨q1, q2⟩
           · rw [updI_ne _ _ (by omega)]; exact k7b i u q2
           · rw [q1, q2, updI_eq]
         · show (S.2.2.2.1 ++ [x]).length ≤ 6
           rw [List.length_append, List.length_singleton]; omega
         · intro u hu
           rcases List.mem_append.mp hu with q | q
           · exact ok.2.2.2.2.2 u q
           · rw [List.mem_singleton.mp q]; omega)
end Cls7

