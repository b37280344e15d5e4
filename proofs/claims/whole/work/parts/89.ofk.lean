section OfK
variable {d bc bs : Nat} {Q : Option AV → AH → Prop} {h h' : AH} {a t : Nat} {x y z k g : Int}
theorem V_X10i (q : GPF RX10 9 t 0) (ft : a_fit (tyC t 0) (.inl x)) (ht : t < 32) (ha : h.2 a = .inl (t + 1, [.inl 0])) (hd : 1 ≤ d) (hq : Q none (hset h a (.inl (t + 1, [.inl x])))) : MW d 0 0 mX10_init [.inr a, .inl x] h Q := by
  show AW d 0 0 mX10_init Q 0 [some (.inr a), some (.inl x)] [] h
  refine AW.aload_n dX10_init_0 rfl ?_
  refine AW.objInit dX10_init_1 oX10_3 (by omega) ha (Nat.le_of_ble_eq_true rfl) ?_
  refine AW.aload_n dX10_init_4 rfl ?_
  refine AW.iload_n dX10_init_5 rfl ?_
  refine AW.putF dX10_init_6 q rfl ha ft ?_
  refine AW.vreturn dX10_init_9 rfl ?_
  exact hq
theorem V_X4i (q : GPF RX10 9 t 0) (ft : a_fit (tyC t 0) (.inl x)) (ht : t < 32) (ha : h.2 a = .inl (t + 1, [.inl 0])) (hd : 2 ≤ d) (hq : Q none (hset h a (.inl (t + 1, [.inl x])))) : MW d 0 0 mX4_init [.inr a, .inl x] h Q := by
  show AW d 0 0 mX4_init Q 0 [some (.inr a), some (.inl x)] [] h
  refine AW.aload_n dX4_init_0 rfl ?_
  refine AW.iload_n dX4_init_1 rfl ?_
  refine AW.cI2 (d' := d - 1) (t := t) (cX4_1 rfl) okX10_init dX4_init_2 ha (by omega) (V_X10i q ft ht ha (by omega) ?_) ht
  refine AW.vreturn dX4_init_5 rfl ?_
  exact hq
theorem V_X1i (q : GPF RX10 9 t 0) (ft : a_fit (tyC t 0) (.inl x)) (ht : t < 32) (ha : h.2 a = .inl (t + 1, [.inl 0])) (hd : 2 ≤ d) (hq : Q none (hset h a (.inl (t + 1, [.inl x])))) : MW d 0 0 mX1_init [.inr a, .inl x] h Q := by
  show AW d 0 0 mX1_init Q 0 [some (.inr a), some (.inl x)] [] h
  refine AW.aload_n dX1_init_0 rfl ?_
  refine AW.iload_n dX1_init_1 rfl ?_
  refine AW.cI2 (d' := d - 1) (t := t) (cX1_1 rfl) okX10_init dX1_init_2 ha (by omega) (V_X10i q ft ht ha (by omega) ?_) ht
  refine AW.vreturn dX1_init_5 rfl ?_
  exact hq
theorem V_X0i (q : GPF RX10 9 t 0) (ft : a_fit (tyC t 0) (.inl x)) (ht : t < 32) (ha : h.2 a = .inl (t + 1, [.inl 0])) (hd : 2 ≤ d) (hq : Q none (hset h a (.inl (t + 1, [.inl x])))) : MW d 0 0 mX0_init [.inr a, .inl x] h Q := by
  show AW d 0 0 mX0_init Q 0 [some (.inr a), some (.inl x)] [] h
  refine AW.aload_n dX0_init_0 rfl ?_
  refine AW.iload_n dX0_init_1 rfl ?_
  refine AW.cI2 (d' := d - 1) (t := t) (cX0_1 rfl) okX10_init dX0_init_2 ha (by omega) (V_X10i q ft ht ha (by omega) ?_) ht
  refine AW.vreturn dX0_init_5 rfl ?_
  exact hq
theorem V_X9i (q : GPF RX10 9 t 0) (ft : a_fit (tyC t 0) (.inl x)) (ht : t < 32) (ha : h.2 a = .inl (t + 1, [.inl 0])) (hd : 3 ≤ d) (hq : Q none (hset h a (.inl (t + 1, [.inl x])))) : MW d 0 0 mX9_init [.inr a, .inl x] h Q := by
  show AW d 0 0 mX9_init Q 0 [some (.inr a), some (.inl x)] [] h
  refine AW.aload_n dX9_init_0 rfl ?_
  refine AW.iload_n dX9_init_1 rfl ?_
  refine AW.cI2 (d' := d - 1) (t := t) (cX9_1 rfl) okX4_init dX9_init_2 ha (by omega) (V_X4i q ft ht ha (by omega) ?_) ht
  refine AW.vreturn dX9_init_5 rfl ?_
  exact hq
theorem V_X2i (q : GPF RX10 9 t 0) (ft : a_fit (tyC t 0) (.inl x)) (ht : t < 32) (ha : h.2 a = .inl (t + 1, [.inl 0])) (hd : 3 ≤ d) (hq : Q none (hset h a (.inl (t + 1, [.inl x])))) : MW d 0 0 mX2_init [.inr a, .inl x] h Q := by
  show AW d 0 0 mX2_init Q 0 [some (.inr a), some (.inl x)] [] h
  refine AW.aload_n dX2_init_0 rfl ?_
  refine AW.iload_n dX2_init_1 rfl ?_
  refine AW.cI2 (d' := d - 1) (t := t) (cX2_1 rfl) okX1_init dX2_init_2 ha (by omega) (V_X1i q ft ht ha (by omega) ?_) ht
  refine AW.vreturn dX2_init_5 rfl ?_
  exact hq
def PN (_ : Nat) : Prop := False
theorem V_ofKind (h9 : 120 ≤ h.1) (k0 : 0 ≤ k) (k9 : k ≤ 9) (g0 : 0 ≤ g) (g9 : g ≤ 9) (hd : 4 ≤ d) (hq1 : k ≤ 5 → ∀ h', StA h' (16 + h.1) k g → Fr h h' PN → Q (some (.inr (16 + h.1))) h') (hq0 : 5 < k → Q (some (.inr 0)) h) : MW d 1 1 mX10_ofKind [.inl k, .inl g] h Q := by
  have fin : ∀ t : Nat, kTag k = t + 1 → k ≤ 5 → Q (some (.inr (16 + h.1))) (hset (hpush h (.inl (t + 1, [.inl 0]))) (16 + h.1) (.inl (t + 1, [.inl g]))) := by
    intro t e h5
    refine hq1 h5 _ ⟨?_, Or.inr (by omega), ?_, ⟨k0, h5⟩, g0, g9⟩ ⟨?_, fun b hb _ => ?_⟩
    · rw [e]; exact hset_eq _ _ _
    · show 16 + h.1 < 16 + (h.1 + 1); omega
    · show h.1 ≤ h.1 + 1; omega
    · rw [hset_ne _ _ (by omega)]
      exact hpush_ne _ _ (by omega)
  show AW d 1 1 mX10_ofKind Q 0 [some (.inl k), some (.inl g)] [] h
  refine AW.iload_n dX10_ofKind_0 rfl ?_
  refine AW.tab (tgt := 94) [40, 49, 58, 67, 76, 85] dX10_ofKind_1 (by decide) (by decide) (by decide) (fun i t hi c1 => ?_) (fun c1 => ?_)
  · match i, hi with
    | 0, hi =>
      cases hi
      refine AW.new (bc' := 0) (bs' := 0) dX10_ofKind_40 nX10_10 rfl rfl ?_
      refine AW.dup dX10_ofKind_43 ?_
      refine AW.iload_n dX10_ofKind_44 rfl ?_
      refine AW.cI2 (d' := d - 1) (t := 10) (cX10_15 rfl) okX10_init dX10_ofKind_45 (hpush_eq _ _) (by omega) (V_X10i qX10_9_10 trivial (by decide) (hpush_eq _ _) (by omega) ?_)
      refine AW.areturn dX10_ofKind_48 rfl ?_
      exact fin 10 (by rw [show k = 0 by omega]; rfl) (by omega)
    | 1, hi =>
      cases hi
      refine AW.new (bc' := 0) (bs' := 0) dX10_ofKind_49 nX10_18 rfl rfl ?_
      refine AW.dup dX10_ofKind_52 ?_
      refine AW.iload_n dX10_ofKind_53 rfl ?_
      refine AW.cI2 (d' := d - 1) (t := 4) (cX10_20 rfl) okX4_init dX10_ofKind_54 (hpush_eq _ _) (by omega) (V_X4i qX10_9_4 trivial (by decide) (hpush_eq _ _) (by omega) ?_)
      refine AW.areturn dX10_ofKind_57 rfl ?_
      exact fin 4 (by rw [show k = 1 by omega]; rfl) (by omega)
    | 2, hi =>
      cases hi
      refine AW.new (bc' := 0) (bs' := 0) dX10_ofKind_58 nX10_21 rfl rfl ?_
      refine AW.dup dX10_ofKind_61 ?_
      refine AW.iload_n dX10_ofKind_62 rfl ?_
      refine AW.cI2 (d' := d - 1) (t := 1) (cX10_23 rfl) okX1_init dX10_ofKind_63 (hpush_eq _ _) (by omega) (V_X1i qX10_9_1 trivial (by decide) (hpush_eq _ _) (by omega) ?_)
      refine AW.areturn dX10_ofKind_66 rfl ?_
      exact fin 1 (by rw [show k = 2 by omega]; rfl) (by omega)
    | 3, hi =>
      cases hi
      refine AW.new (bc' := 0) (bs' := 0) dX10_ofKind_67 nX10_24 rfl rfl ?_
      refine AW.dup dX10_ofKind_70 ?_
      refine AW.iload_n dX10_ofKind_71 rfl ?_
      refine AW.cI2 (d' := d - 1) (t := 0) (cX10_26 rfl) okX0_init dX10_ofKind_72 (hpush_eq _ _) (by omega) (V_X0i qX10_9_0 trivial (by decide) (hpush_eq _ _) (by omega) ?_)
      refine AW.areturn dX10_ofKind_75 rfl ?_
      exact fin 0 (by rw [show k = 3 by omega]; rfl) (by omega)
    | 4, hi =>
      cases hi
      refine AW.new (bc' := 0) (bs' := 0) dX10_ofKind_76 nX10_27 rfl rfl ?_
      refine AW.dup dX10_ofKind_79 ?_
      refine AW.iload_n dX10_ofKind_80 rfl ?_
      refine AW.cI2 (d' := d - 1) (t := 9) (cX10_29 rfl) okX9_init dX10_ofKind_81 (hpush_eq _ _) (by omega) (V_X9i qX10_9_9 trivial (by decide) (hpush_eq _ _) (by omega) ?_)
      refine AW.areturn dX10_ofKind_84 rfl ?_
      exact fin 9 (by rw [show k = 4 by omega]; rfl) (by omega)
    | 5, hi =>
      cases hi
      refine AW.new (bc' := 0) (bs' := 0) dX10_ofKind_85 nX10_30 rfl rfl ?_
      refine AW.dup dX10_ofKind_88 ?_
      refine AW.iload_n dX10_ofKind_89 rfl ?_
      refine AW.cI2 (d' := d - 1) (t := 2) (cX10_32 rfl) okX2_init dX10_ofKind_90 (hpush_eq _ _) (by omega) (V_X2i qX10_9_2 trivial (by decide) (hpush_eq _ _) (by omega) ?_)
      refine AW.areturn dX10_ofKind_93 rfl ?_
      exact fin 2 (by rw [show k = 5 by omega]; rfl) (by omega)
    | i + 6, hi => simp at hi
  · refine AW.anull dX10_ofKind_94 ?_
    refine AW.areturn dX10_ofKind_95 rfl ?_
    exact hq0 (by omega)
theorem AW.kI3 {d d' bc bs bc'' bs'' pc : Nat} {M N : MT} {Q : Option AV → AH → Prop} {ls : List (Option AV)} {rest : List AV} {h : AH} {a t : Nat} {v1 v2 : AV} {fs : List AV} (bc' bs' : Nat) {ins : Instr} (hs : Site M ins N 2 (some t)) (hN : MOK N 2) (hd : decode M.2.1 pc = .ok (ins, 3)) (ha : h.2 a = .inl (t + 1, fs)) (hdp : d' + 1 ≤ d) (hb : bc = bc' + bc'') (hb2 : bs = bs' + bs'') (k : MW d' bc' bs' N [.inr a, v1, v2] h (fun r h' => AW d bc'' bs'' M Q (pc + 3) ls (psh r rest) h')) (ht : t < 32 := by decide) (hr : rest.length ≤ 8 := by exact Nat.le_of_ble_eq_true rfl) (hvs : 3 ≤ N.2.2.1 := by exact Nat.le_of_ble_eq_true rfl) : AW d bc bs M Q pc ls (v2 :: v1 :: .inr a :: rest) h :=
  AW.call (vs := [.inr a, v1, v2]) (rest := rest) (bc' := bc') (bs' := bs') (bc'' := bc'') (bs'' := bs'') hs hN hd hdp hr hb hb2 rfl hvs ⟨rfl, a, fs, _, rfl, ha, ht⟩ (by simp only [psh_eq]; exact k)
theorem AW.kS2 {d d' bc bs bc'' bs'' pc : Nat} {M N : MT} {Q : Option AV → AH → Prop} {ls : List (Option AV)} {rest : List AV} {h : AH} {v1 v2 : AV} (bc' bs' : Nat) {ins : Instr} (hs : Site M ins N 2 none) (hN : MOK N 2) (hd : decode M.2.1 pc = .ok (ins, 3)) (hdp : d' + 1 ≤ d) (hb : bc = bc' + bc'') (hb2 : bs = bs' + bs'') (k : MW d' bc' bs' N [v1, v2] h (fun r h' => AW d bc'' bs'' M Q (pc + 3) ls (psh r rest) h')) (hr : rest.length ≤ 8 := by exact Nat.le_of_ble_eq_true rfl) (hvs : 2 ≤ N.2.2.1 := by exact Nat.le_of_ble_eq_true rfl) : AW d bc bs M Q pc ls (v2 :: v1 :: rest) h :=
  AW.call (vs := [v1, v2]) (rest := rest) (bc' := bc') (bs' := bs') (bc'' := bc'') (bs'' := bs'') hs hN hd hdp hr hb hb2 rfl hvs rfl (by simp only [psh_eq]; exact k)
end OfK

