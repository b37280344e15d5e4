section Few9
variable {d : Nat} {Q : Option AV → AH → Prop} {h h' : AH} {b a : Nat} {k g : Int} {kn W FD ST : Nat → Int} {cnt : Nat} {P : Nat → Prop} {nm : Nat → Int} {more : Int}
theorem FewV.x (H : FewV h b) : ∃ (a : Nat) (kn W FD ST : Nat → Int) (cnt L lg : Nat), FwX h b a kn W FD ST cnt L lg := by
  rcases H with ⟨kn, W, FD, ST, H⟩ | ⟨a, kn, k, g, ⟨W, FD, ST, cnt, L, lg, H, -⟩, -⟩
  · exact ⟨0, kn, W, FD, ST, 0, 0, 0, H⟩
  · exact ⟨a, kn, W, FD, ST, cnt, L, lg, H⟩
theorem W_turnTo (hH : FewV h b) (hL : LisA h k g nm more) (hb : 79 ≤ b ∧ b + 5 ≤ 116) (h9 : 120 ≤ h.1) (h4 : h.2 4 = .inr (3, rowOf [170, 204, 240])) (hd : 4 ≤ d) (hn : ∀ i, i < 4 → nm i = -9 ∨ in8 (nm i)) (hm : more = -9 ∨ in8 more)
    (hq : ∀ h' a kn, FWv h' b a kn k g (lvN kn (kn 4)) → StA h' a k g → knOK kn → (∀ i, i < 4 → kn i = nm i) → kn 4 = more → Fr h h' (PF b) → Q none h') : MW d 0 0 mX3_turnTo [.inr b, .inr 73] h Q := by
  obtain ⟨al, f, f2, h73, hS, h75, hf, hf4, h76⟩ := id hL
  obtain ⟨a0, kn0, W0, FD0, ST0, cnt0, L0, lg0, X⟩ := hH.x
  obtain ⟨g0, g1, g2, g3, g4⟩ := id X
  have hok : knOK f := by
    intro i hi
    by_cases z : i = 4
    · rw [z, hf4]; exact hm
    · rw [hf i (by omega)]; exact hn i (by omega)
  show AW d 0 0 mX3_turnTo Q 0 [some (.inr b), some (.inr 73)] [] h
  refine AW.aload_n dX3_turnTo_0 rfl ?_
  refine AW.aload_n dX3_turnTo_1 rfl ?_
  refine AW.cI2 (d' := d - 1) (cX3_38 rfl) okX3_isFor dX3_turnTo_2 (by repeat (first | assumption | exact hset_eq _ _ _ | refine (hset_ne _ _ (by omega)).trans ?_)) (by omega) (W_isFor hH h73 hS h75 (by omega) (fun a kn q1 q2 q3 q4 => ?_) ?_)
  · skip
    refine AW.ifeq_f (tgt := 9) dX3_turnTo_5 (by decide) (by decide) ?_
    refine AW.vreturn dX3_turnTo_8 rfl ?_
    exact hq h a kn q1 q2 q3 (fun i hi => by rw [q4 i (by omega), hf i hi]) (by rw [q4 4 (by omega), hf4]) Fr.rfl'
  · skip
    refine AW.ifeq_t (tgt := 9) dX3_turnTo_5 (by decide) rfl ?_
    refine AW.aload_n dX3_turnTo_9 rfl ?_
    refine AW.aload_n dX3_turnTo_10 rfl ?_
    refine AW.getf dX3_turnTo_11 gX3_42 (by repeat (first | assumption | exact hset_eq _ _ _ | refine (hset_ne _ _ (by omega)).trans ?_)) rfl ?_
    refine AW.putf dX3_turnTo_14 pX3_9 (by repeat (first | assumption | exact hset_eq _ _ _ | refine (hset_ne _ _ (by omega)).trans ?_)) trivial ?_
    refine AW.aload_n dX3_turnTo_17 rfl ?_
    refine AW.getf dX3_turnTo_18 gX3_45 (by repeat (first | assumption | exact hset_eq _ _ _ | refine (hset_ne _ _ (by omega)).trans ?_)) rfl ?_
    refine AW.iconst dX3_turnTo_21 ?_
    refine AW.aload_n dX3_turnTo_22 rfl ?_
    refine AW.getf dX3_turnTo_23 gX3_15 (by repeat (first | assumption | exact hset_eq _ _ _ | refine (hset_ne _ _ (by omega)).trans ?_)) rfl ?_
    refine AW.iconst dX3_turnTo_26 ?_
    refine AW.aload_n dX3_turnTo_27 rfl ?_
    refine AW.getf dX3_turnTo_28 gX3_15 (by repeat (first | assumption | exact hset_eq _ _ _ | refine (hset_ne _ _ (by omega)).trans ?_)) rfl ?_
    refine AW.alen dX3_turnTo_31 (by repeat (first | assumption | exact hset_eq _ _ _ | refine (hset_ne _ _ (by omega)).trans ?_)) (by omega) ?_
    refine AW.arraycopy dX3_turnTo_32 oX3_46 (by omega) (Nat.le_of_ble_eq_true rfl) (by repeat (first | assumption | exact hset_eq _ _ _ | refine (hset_ne _ _ (by omega)).trans ?_)) (by repeat (first | assumption | exact hset_eq _ _ _ | refine (hset_ne _ _ (by omega)).trans ?_)) (by omega) (by omega) (by omega) (by omega) (by omega) ?_
    generalize hk : (fun k => if k < ((5 : Nat) : Int).toNat then f k else kn0 k) = kn
    have ek : ∀ i, i < 5 → kn i = f i := fun i hi => by rw [← hk]; exact if_pos hi
    have hk' : knOK kn := fun i hi => by rw [ek i hi]; exact hok i hi
    obtain ⟨h1, e1⟩ : ∃ h1, h1 = hset (hset h b (.inl (3 + 1, [.inr a0, .inr (b + 1), .inr (b + 2), .inr (b + 3), .inl (cnt0 : Int), .inr (b + 4), .inl (L0 : Int), .inl (lg0 : Int)].set 0 (.inr al)))) (b + 1) (.inr (5, kn)) := ⟨_, rfl⟩
    rw [← e1]
    have c0 : h1.2 b = .inl (4, [.inr al, .inr (b + 1), .inr (b + 2), .inr (b + 3), .inl (cnt0 : Int), .inr (b + 4), .inl (L0 : Int), .inl (lg0 : Int)]) := by rw [e1]; exact (hset_ne _ _ (by omega)).trans (hset_eq _ _ _)
    have c1 : h1.2 (b + 1) = .inr (5, kn) := by rw [e1]; exact hset_eq _ _ _
    have c2 : h1.2 (b + 2) = .inr (256, W0) := by rw [e1]; exact (hset_ne _ _ (by omega)).trans ((hset_ne _ _ (by omega)).trans g2)
    have c3 : h1.2 (b + 3) = .inr (256, FD0) := by rw [e1]; exact (hset_ne _ _ (by omega)).trans ((hset_ne _ _ (by omega)).trans g3)
    have c4 : h1.2 (b + 4) = .inr (300, ST0) := by rw [e1]; exact (hset_ne _ _ (by omega)).trans ((hset_ne _ _ (by omega)).trans g4)
    have F1 : Fr h h1 (PF b) := by rw [e1]; exact Fr.trans (Fr.set (by unfold PF; omega)) (Fr.set (by unfold PF; omega))
    refine AW.aload_n dX3_turnTo_35 rfl ?_
    refine AW.getf dX3_turnTo_36 gX3_19 (by repeat (first | assumption | exact hset_eq _ _ _ | refine (hset_ne _ _ (by omega)).trans ?_)) rfl ?_
    refine AW.bipush dX3_turnTo_39 ?_
    refine AW.cS2 (d' := d - 1) (cX3_52 rfl) okJ7_fill_53178 dX3_turnTo_41 (by omega) (W_fill (a := b + 2) (by omega) (by decide) c2 (fun h2 y1 y2 y3 => ?_))
    have F2 : Fr h1 h2 (PF b) := ⟨by rw [y1]; exact Nat.le_refl _, fun x _ hx => y3 x (fun z => hx (by unfold PF; omega))⟩
    have d0 := (y3 b (by omega)).trans c0
    have d1 := (y3 (b + 1) (by omega)).trans c1
    have d3 := (y3 (b + 3) (by omega)).trans c3
    have d4 := (y3 (b + 4) (by omega)).trans c4
    refine AW.aload_n dX3_turnTo_44 rfl ?_
    refine AW.iconst dX3_turnTo_45 ?_
    refine AW.putf dX3_turnTo_46 pX3_25 (by repeat (first | assumption | exact hset_eq _ _ _ | refine (hset_ne _ _ (by omega)).trans ?_)) trivial ?_
    refine AW.aload_n dX3_turnTo_49 rfl ?_
    refine AW.getf dX3_turnTo_50 gX3_29 (by repeat (first | assumption | exact hset_eq _ _ _ | refine (hset_ne _ _ (by omega)).trans ?_)) rfl ?_
    refine AW.iconst dX3_turnTo_53 ?_
    refine AW.iconst dX3_turnTo_54 ?_
    refine AW.iastore dX3_turnTo_55 (by omega) (by repeat (first | assumption | exact hset_eq _ _ _ | refine (hset_ne _ _ (by omega)).trans ?_)) (by omega) (by omega) ?_
    refine AW.aload_n dX3_turnTo_56 rfl ?_
    refine AW.iconst dX3_turnTo_57 ?_
    refine AW.putf dX3_turnTo_58 pX3_32 (by repeat (first | assumption | exact hset_eq _ _ _ | refine (hset_ne _ _ (by omega)).trans ?_)) trivial ?_
    refine AW.aload_n dX3_turnTo_61 rfl ?_
    refine AW.iconst dX3_turnTo_62 ?_
    refine AW.putf dX3_turnTo_63 pX3_35 (by repeat (first | assumption | exact hset_eq _ _ _ | refine (hset_ne _ _ (by omega)).trans ?_)) trivial ?_
    generalize hh3 : hset (hset (hset (hset h2 b _) (b + 4) _) b _) b _ = h3
    have e0 : h3.2 b = .inl (4, [.inr al, .inr (b + 1), .inr (b + 2), .inr (b + 3), .inl ((0 : Nat) : Int), .inr (b + 4), .inl ((1 : Nat) : Int), .inl ((1 : Nat) : Int)]) := by rw [← hh3]; exact hset_eq _ _ _
    have X3' : FwX h3 b al kn (fillF W0 (-9) 256) FD0 (updI ST0 1 0) 0 1 1 := by
      refine ⟨e0, ?_, ?_, ?_, ?_⟩
      · rw [← hh3]; exact (hset_ne _ _ (by omega)).trans ((hset_ne _ _ (by omega)).trans ((hset_ne _ _ (by omega)).trans ((hset_ne _ _ (by omega)).trans d1)))
      · rw [← hh3]; exact (hset_ne _ _ (by omega)).trans ((hset_ne _ _ (by omega)).trans ((hset_ne _ _ (by omega)).trans ((hset_ne _ _ (by omega)).trans y2)))
      · rw [← hh3]; exact (hset_ne _ _ (by omega)).trans ((hset_ne _ _ (by omega)).trans ((hset_ne _ _ (by omega)).trans ((hset_ne _ _ (by omega)).trans d3)))
      · rw [← hh3]; exact (hset_ne _ _ (by omega)).trans ((hset_ne _ _ (by omega)).trans (hset_eq _ _ _))
    have F3 : Fr h2 h3 (PF b) := by rw [← hh3]; exact ((Fr.trans (Fr.set (by unfold PF; omega)) (Fr.set (by unfold PF; omega))).trans (Fr.set (by unfold PF; omega))).trans (Fr.set (by unfold PF; omega))
    have F : Fr h h3 (PF b) := (F1.trans F2).trans F3
    refine AW.aload_n dX3_turnTo_66 rfl ?_
    refine AW.cI1 (d' := d - 1) (cX3_58 rfl) okX3_addLeaves dX3_turnTo_67 e0 (by omega) (W_addLeaves (k := k) (g := g) hb (Nat.le_trans h9 F.1) ((F.2 4 (by omega) (by unfold PF; omega)).trans h4) (by omega) hk' X3' (fun m hm => fillF_at hm) (updI_eq _ _ _) (fun h5 H5 F5 => ?_))
    refine AW.vreturn dX3_turnTo_70 rfl ?_
    exact hq h5 al kn H5 (hS.fr (F.trans F5) (by unfold PF; omega)) hk' (fun i hi => by rw [ek i (by omega), hf i hi]) (by rw [ek 4 (by omega), hf4]) (F.trans F5)
end Few9

