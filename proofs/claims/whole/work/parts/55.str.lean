section Str
variable {d bc bs : Nat} {M : MT} {Q : Option AV → AH → Prop} {pc : Nat} {ls : List (Option AV)} {st : List AV} {h : AH} {a : Nat} {k g x y : Int}
theorem W_X10_kind (hq : Q (some (.inl (0))) h) : MW d 0 0 mX10_kind [.inr a] h Q := by
  show AW d 0 0 mX10_kind Q 0 [some (.inr a)] [] h
  refine AW.iconst dX10_kind_0 ?_
  refine AW.ireturn dX10_kind_1 rfl ?_
  exact hq
theorem W_X4_kind (hq : Q (some (.inl (1))) h) : MW d 0 0 mX4_kind [.inr a] h Q := by
  show AW d 0 0 mX4_kind Q 0 [some (.inr a)] [] h
  refine AW.iconst dX4_kind_0 ?_
  refine AW.ireturn dX4_kind_1 rfl ?_
  exact hq
theorem W_X1_kind (hq : Q (some (.inl (2))) h) : MW d 0 0 mX1_kind [.inr a] h Q := by
  show AW d 0 0 mX1_kind Q 0 [some (.inr a)] [] h
  refine AW.iconst dX1_kind_0 ?_
  refine AW.ireturn dX1_kind_1 rfl ?_
  exact hq
theorem W_X0_kind (hq : Q (some (.inl (3))) h) : MW d 0 0 mX0_kind [.inr a] h Q := by
  show AW d 0 0 mX0_kind Q 0 [some (.inr a)] [] h
  refine AW.iconst dX0_kind_0 ?_
  refine AW.ireturn dX0_kind_1 rfl ?_
  exact hq
theorem W_X9_kind (hq : Q (some (.inl (4))) h) : MW d 0 0 mX9_kind [.inr a] h Q := by
  show AW d 0 0 mX9_kind Q 0 [some (.inr a)] [] h
  refine AW.iconst dX9_kind_0 ?_
  refine AW.ireturn dX9_kind_1 rfl ?_
  exact hq
theorem W_X2_kind (hq : Q (some (.inl (5))) h) : MW d 0 0 mX2_kind [.inr a] h Q := by
  show AW d 0 0 mX2_kind Q 0 [some (.inr a)] [] h
  refine AW.iconst dX2_kind_0 ?_
  refine AW.ireturn dX2_kind_1 rfl ?_
  exact hq
theorem W_X10_not (hq : Q (some (.inl (a_and 255 (a_xor x (-1))))) h) : MW d 0 0 mX10_not [.inr a, .inl x] h Q := by
  show AW d 0 0 mX10_not Q 0 [some (.inr a), some (.inl x)] [] h
  refine AW.sipush dX10_not_0 ?_
  refine AW.iload_n dX10_not_3 rfl ?_
  refine AW.iconst dX10_not_4 ?_
  refine AW.ixor dX10_not_5 ?_
  refine AW.iand dX10_not_6 ?_
  refine AW.ireturn dX10_not_7 rfl ?_
  exact hq
theorem W_X1_not (hq : Q (some (.inl (x))) h) : MW d 0 0 mX1_not [.inr a, .inl x] h Q := by
  show AW d 0 0 mX1_not Q 0 [some (.inr a), some (.inl x)] [] h
  refine AW.iload_n dX1_not_0 rfl ?_
  refine AW.ireturn dX1_not_1 rfl ?_
  exact hq
theorem W_X10_and (hq : Q (some (.inl (a_and x y))) h) : MW d 0 0 mX10_and [.inr a, .inl x, .inl y] h Q := by
  show AW d 0 0 mX10_and Q 0 [some (.inr a), some (.inl x), some (.inl y)] [] h
  refine AW.iload_n dX10_and_0 rfl ?_
  refine AW.iload_n dX10_and_1 rfl ?_
  refine AW.iand dX10_and_2 ?_
  refine AW.ireturn dX10_and_3 rfl ?_
  exact hq
theorem W_X0_and (hq : Q (some (.inl (a_and x (a_xor y (-1))))) h) : MW d 0 0 mX0_and [.inr a, .inl x, .inl y] h Q := by
  show AW d 0 0 mX0_and Q 0 [some (.inr a), some (.inl x), some (.inl y)] [] h
  refine AW.iload_n dX0_and_0 rfl ?_
  refine AW.iload_n dX0_and_1 rfl ?_
  refine AW.iconst dX0_and_2 ?_
  refine AW.ixor dX0_and_3 ?_
  refine AW.iand dX0_and_4 ?_
  refine AW.ireturn dX0_and_5 rfl ?_
  exact hq
theorem W_X10_or (hq : Q (some (.inl (a_or x y))) h) : MW d 0 0 mX10_or [.inr a, .inl x, .inl y] h Q := by
  show AW d 0 0 mX10_or Q 0 [some (.inr a), some (.inl x), some (.inl y)] [] h
  refine AW.iload_n dX10_or_0 rfl ?_
  refine AW.iload_n dX10_or_1 rfl ?_
  refine AW.ior dX10_or_2 ?_
  refine AW.ireturn dX10_or_3 rfl ?_
  exact hq
theorem W_X4_or (hq : Q (some (.inl (a_xor x y))) h) : MW d 0 0 mX4_or [.inr a, .inl x, .inl y] h Q := by
  show AW d 0 0 mX4_or Q 0 [some (.inr a), some (.inl x), some (.inl y)] [] h
  refine AW.iload_n dX4_or_0 rfl ?_
  refine AW.iload_n dX4_or_1 rfl ?_
  refine AW.ixor dX4_or_2 ?_
  refine AW.ireturn dX4_or_3 rfl ?_
  exact hq
theorem W_X10_andHasSides (hq : Q (some (.inl (0))) h) : MW d 0 0 mX10_andHasSides [.inr a] h Q := by
  show AW d 0 0 mX10_andHasSides Q 0 [some (.inr a)] [] h
  refine AW.iconst dX10_andHasSides_0 ?_
  refine AW.zreturn dX10_andHasSides_1 rfl (Or.inl rfl) ?_
  exact hq
theorem W_X0_andHasSides (hq : Q (some (.inl (1))) h) : MW d 0 0 mX0_andHasSides [.inr a] h Q := by
  show AW d 0 0 mX0_andHasSides Q 0 [some (.inr a)] [] h
  refine AW.iconst dX0_andHasSides_0 ?_
  refine AW.zreturn dX0_andHasSides_1 rfl (Or.inr rfl) ?_
  exact hq
theorem W_wof_9 (ha : h.2 a = .inl (10, [.inl g])) (hq : Q (some (.inl (wd g))) h) : MW d 0 0 mX10_worldOfFigure [.inr a] h Q := by
  show AW d 0 0 mX10_worldOfFigure Q 0 [some (.inr a)] [] h
  refine AW.iconst dX10_worldOfFigure_0 ?_
  refine AW.aload_n dX10_worldOfFigure_1 rfl ?_
  refine AW.getf dX10_worldOfFigure_2 gX10_9_9 (by repeat (first | assumption | exact hset_eq _ _ _ | refine (hset_ne _ _ (by omega)).trans ?_)) rfl ?_
  refine AW.bipush dX10_worldOfFigure_5 ?_
  refine AW.irem dX10_worldOfFigure_7 (by decide) ?_
  refine AW.ishl dX10_worldOfFigure_8 ?_
  refine AW.ireturn dX10_worldOfFigure_9 rfl ?_
  exact hq
theorem W_wof_2 (ha : h.2 a = .inl (3, [.inl g])) (hq : Q (some (.inl (wd g))) h) : MW d 0 0 mX10_worldOfFigure [.inr a] h Q := by
  show AW d 0 0 mX10_worldOfFigure Q 0 [some (.inr a)] [] h
  refine AW.iconst dX10_worldOfFigure_0 ?_
  refine AW.aload_n dX10_worldOfFigure_1 rfl ?_
  refine AW.getf dX10_worldOfFigure_2 gX10_9_2 (by repeat (first | assumption | exact hset_eq _ _ _ | refine (hset_ne _ _ (by omega)).trans ?_)) rfl ?_
  refine AW.bipush dX10_worldOfFigure_5 ?_
  refine AW.irem dX10_worldOfFigure_7 (by decide) ?_
  refine AW.ishl dX10_worldOfFigure_8 ?_
  refine AW.ireturn dX10_worldOfFigure_9 rfl ?_
  exact hq
theorem W_X9_or (ha : h.2 a = .inl (10, [.inl g])) (hd : 1 ≤ d) (hq : Q (some (.inl (a_or (a_xor x y) (wd g)))) h) : MW d 0 0 mX9_or [.inr a, .inl x, .inl y] h Q := by
  show AW d 0 0 mX9_or Q 0 [some (.inr a), some (.inl x), some (.inl y)] [] h
  refine AW.aload_n dX9_or_0 rfl ?_
  refine AW.iload_n dX9_or_1 rfl ?_
  refine AW.iload_n dX9_or_2 rfl ?_
  refine AW.cI3 (d' := d - 1) (cX9_7 rfl) okX4_or dX9_or_3 (by repeat (first | assumption | exact hset_eq _ _ _ | refine (hset_ne _ _ (by omega)).trans ?_)) (by omega) (W_X4_or ?_)
  refine AW.aload_n dX9_or_6 rfl ?_
  refine AW.cI1 (d' := d - 1) (cX9_11 rfl) okX10_worldOfFigure dX9_or_7 (by repeat (first | assumption | exact hset_eq _ _ _ | refine (hset_ne _ _ (by omega)).trans ?_)) (by omega) (W_wof_9 ha ?_)
  refine AW.ior dX9_or_10 ?_
  refine AW.ireturn dX9_or_11 rfl ?_
  exact hq
theorem W_X2_not (ha : h.2 a = .inl (3, [.inl g])) (hd : 1 ≤ d) (hq : Q (some (.inl (a_and x (a_xor (wd g) (-1))))) h) : MW d 0 0 mX2_not [.inr a, .inl x] h Q := by
  show AW d 0 0 mX2_not Q 0 [some (.inr a), some (.inl x)] [] h
  refine AW.aload_n dX2_not_0 rfl ?_
  refine AW.iload_n dX2_not_1 rfl ?_
  refine AW.cI2 (d' := d - 1) (cX2_7 rfl) okX1_not dX2_not_2 (by repeat (first | assumption | exact hset_eq _ _ _ | refine (hset_ne _ _ (by omega)).trans ?_)) (by omega) (W_X1_not ?_)
  refine AW.aload_n dX2_not_5 rfl ?_
  refine AW.cI1 (d' := d - 1) (cX2_11 rfl) okX10_worldOfFigure dX2_not_6 (by repeat (first | assumption | exact hset_eq _ _ _ | refine (hset_ne _ _ (by omega)).trans ?_)) (by omega) (W_wof_2 ha ?_)
  refine AW.iconst dX2_not_9 ?_
  refine AW.ixor dX2_not_10 ?_
  refine AW.iand dX2_not_11 ?_
  refine AW.ireturn dX2_not_12 rfl ?_
  exact hq
theorem AW.vX11_116 (hM : M.1.cls = RX11) (hd : decode M.2.1 pc = .ok (.invokevirtual 116, 3)) (hS : StA h a k g) (h2 : 2 ≤ d) (hst : st.length ≤ 6) (kk : AW d bc bs M Q (pc + 3) ls (.inl (k) :: st) h) : AW d bc bs M Q pc ls (.inr a :: st) h := by
  obtain ⟨h1, -, -, ⟨k0, k5⟩, -⟩ := hS
  have hk : k = 0 ∨ k = 1 ∨ k = 2 ∨ k = 3 ∨ k = 4 ∨ k = 5 := by omega
  have hr : st.length ≤ 8 := by omega
  rcases hk with rfl | rfl | rfl | rfl | rfl | rfl
  · have e : h.2 a = .inl (11, [.inl g]) := h1
    exact AW.cI1 (d' := d - 1) (cX11_116_10 hM) okX10_kind hd e (by omega) (W_X10_kind kk) (hr := hr)
  · have e : h.2 a = .inl (5, [.inl g]) := h1
    exact AW.cI1 (d' := d - 1) (cX11_116_4 hM) okX4_kind hd e (by omega) (W_X4_kind kk) (hr := hr)
  · have e : h.2 a = .inl (2, [.inl g]) := h1
    exact AW.cI1 (d' := d - 1) (cX11_116_1 hM) okX1_kind hd e (by omega) (W_X1_kind kk) (hr := hr)
  · have e : h.2 a = .inl (1, [.inl g]) := h1
    exact AW.cI1 (d' := d - 1) (cX11_116_0 hM) okX0_kind hd e (by omega) (W_X0_kind kk) (hr := hr)
  · have e : h.2 a = .inl (10, [.inl g]) := h1
    exact AW.cI1 (d' := d - 1) (cX11_116_9 hM) okX9_kind hd e (by omega) (W_X9_kind kk) (hr := hr)
  · have e : h.2 a = .inl (3, [.inl g]) := h1
    exact AW.cI1 (d' := d - 1) (cX11_116_2 hM) okX2_kind hd e (by omega) (W_X2_kind kk) (hr := hr)
theorem AW.vX3_68 (hM : M.1.cls = RX3) (hd : decode M.2.1 pc = .ok (.invokevirtual 68, 3)) (hS : StA h a k g) (h2 : 2 ≤ d) (hst : st.length ≤ 6) (kk : AW d bc bs M Q (pc + 3) ls (.inl (k) :: st) h) : AW d bc bs M Q pc ls (.inr a :: st) h := by
  obtain ⟨h1, -, -, ⟨k0, k5⟩, -⟩ := hS
  have hk : k = 0 ∨ k = 1 ∨ k = 2 ∨ k = 3 ∨ k = 4 ∨ k = 5 := by omega
  have hr : st.length ≤ 8 := by omega
  rcases hk with rfl | rfl | rfl | rfl | rfl | rfl
  · have e : h.2 a = .inl (11, [.inl g]) := h1
    exact AW.cI1 (d' := d - 1) (cX3_68_10 hM) okX10_kind hd e (by omega) (W_X10_kind kk) (hr := hr)
  · have e : h.2 a = .inl (5, [.inl g]) := h1
    exact AW.cI1 (d' := d - 1) (cX3_68_4 hM) okX4_kind hd e (by omega) (W_X4_kind kk) (hr := hr)
  · have e : h.2 a = .inl (2, [.inl g]) := h1
    exact AW.cI1 (d' := d - 1) (cX3_68_1 hM) okX1_kind hd e (by omega) (W_X1_kind kk) (hr := hr)
  · have e : h.2 a = .inl (1, [.inl g]) := h1
    exact AW.cI1 (d' := d - 1) (cX3_68_0 hM) okX0_kind hd e (by omega) (W_X0_kind kk) (hr := hr)
  · have e : h.2 a = .inl (10, [.inl g]) := h1
    exact AW.cI1 (d' := d - 1) (cX3_68_9 hM) okX9_kind hd e (by omega) (W_X9_kind kk) (hr := hr)
  · have e : h.2 a = .inl (3, [.inl g]) := h1
    exact AW.cI1 (d' := d - 1) (cX3_68_2 hM) okX2_kind hd e (by omega) (W_X2_kind kk) (hr := hr)
theorem AW.vX3_90 (hM : M.1.cls = RX3) (hd : decode M.2.1 pc = .ok (.invokevirtual 90, 3)) (hS : StA h a k g) (h2 : 2 ≤ d) (hst : st.length ≤ 6) (kk : AW d bc bs M Q (pc + 3) ls (.inl (notF k g x) :: st) h) : AW d bc bs M Q pc ls (.inl x :: .inr a :: st) h := by
  obtain ⟨h1, -, -, ⟨k0, k5⟩, -⟩ := hS
  have hk : k = 0 ∨ k = 1 ∨ k = 2 ∨ k = 3 ∨ k = 4 ∨ k = 5 := by omega
  have hr : st.length ≤ 8 := by omega
  rcases hk with rfl | rfl | rfl | rfl | rfl | rfl
  · have e : h.2 a = .inl (11, [.inl g]) := h1
    exact AW.cI2 (d' := d - 1) (cX3_90_10 hM) okX10_not hd e (by omega) (W_X10_not kk) (hr := hr)
  · have e : h.2 a = .inl (5, [.inl g]) := h1
    exact AW.cI2 (d' := d - 1) (cX3_90_4 hM) okX10_not hd e (by omega) (W_X10_not kk) (hr := hr)
  · have e : h.2 a = .inl (2, [.inl g]) := h1
    exact AW.cI2 (d' := d - 1) (cX3_90_1 hM) okX1_not hd e (by omega) (W_X1_not kk) (hr := hr)
  · have e : h.2 a = .inl (1, [.inl g]) := h1
    exact AW.cI2 (d' := d - 1) (cX3_90_0 hM) okX10_not hd e (by omega) (W_X10_not kk) (hr := hr)
  · have e : h.2 a = .inl (10, [.inl g]) := h1
    exact AW.cI2 (d' := d - 1) (cX3_90_9 hM) okX10_not hd e (by omega) (W_X10_not kk) (hr := hr)
  · have e : h.2 a = .inl (3, [.inl g]) := h1
    exact AW.cI2 (d' := d - 1) (cX3_90_2 hM) okX2_not hd e (by omega) (W_X2_not e (by omega) kk) (hr := hr)
theorem AW.vX3_94 (hM : M.1.cls = RX3) (hd : decode M.2.1 pc = .ok (.invokevirtual 94, 3)) (hS : StA h a k g) (h2 : 2 ≤ d) (hst : st.length ≤ 6) (kk : AW d bc bs M Q (pc + 3) ls (.inl ((if k = 3 then 1 else 0)) :: st) h) : AW d bc bs M Q pc ls (.inr a :: st) h := by
  obtain ⟨h1, -, -, ⟨k0, k5⟩, -⟩ := hS
  have hk : k = 0 ∨ k = 1 ∨ k = 2 ∨ k = 3 ∨ k = 4 ∨ k = 5 := by omega
  have hr : st.length ≤ 8 := by omega
  rcases hk with rfl | rfl | rfl | rfl | rfl | rfl
  · have e : h.2 a = .inl (11, [.inl g]) := h1
    exact AW.cI1 (d' := d - 1) (cX3_94_10 hM) okX10_andHasSides hd e (by omega) (W_X10_andHasSides kk) (hr := hr)
  · have e : h.2 a = .inl (5, [.inl g]) := h1
    exact AW.cI1 (d' := d - 1) (cX3_94_4 hM) okX10_andHasSides hd e (by omega) (W_X10_andHasSides kk) (hr := hr)
  · have e : h.2 a = .inl (2, [.inl g]) := h1
    exact AW.cI1 (d' := d - 1) (cX3_94_1 hM) okX10_andHasSides hd e (by omega) (W_X10_andHasSides kk) (hr := hr)
  · have e : h.2 a = .inl (1, [.inl g]) := h1
    exact AW.cI1 (d' := d - 1) (cX3_94_0 hM) okX0_andHasSides hd e (by omega) (W_X0_andHasSides kk) (hr := hr)
  · have e : h.2 a = .inl (10, [.inl g]) := h1
    exact AW.cI1 (d' := d - 1) (cX3_94_9 hM) okX10_andHasSides hd e (by omega) (W_X10_andHasSides kk) (hr := hr)
  · have e : h.2 a = .inl (3, [.inl g]) := h1
    exact AW.cI1 (d' := d - 1) (cX3_94_2 hM) okX10_andHasSides hd e (by omega) (W_X10_andHasSides kk) (hr := hr)
theorem AW.vX3_97 (hM : M.1.cls = RX3) (hd : decode M.2.1 pc = .ok (.invokevirtual 97, 3)) (hS : StA h a k g) (h2 : 2 ≤ d) (hst : st.length ≤ 6) (kk : AW d bc bs M Q (pc + 3) ls (.inl (andF k x y) :: st) h) : AW d bc bs M Q pc ls (.inl y :: .inl x :: .inr a :: st) h := by
  obtain ⟨h1, -, -, ⟨k0, k5⟩, -⟩ := hS
  have hk : k = 0 ∨ k = 1 ∨ k = 2 ∨ k = 3 ∨ k = 4 ∨ k = 5 := by omega
  have hr : st.length ≤ 8 := by omega
  rcases hk with rfl | rfl | rfl | rfl | rfl | rfl
  · have e : h.2 a = .inl (11, [.inl g]) := h1
    exact AW.cI3 (d' := d - 1) (cX3_97_10 hM) okX10_and hd e (by omega) (W_X10_and kk) (hr := hr)
  · have e : h.2 a = .inl (5, [.inl g]) := h1
    exact AW.cI3 (d' := d - 1) (cX3_97_4 hM) okX10_and hd e (by omega) (W_X10_and kk) (hr := hr)
  · have e : h.2 a = .inl (2, [.inl g]) := h1
    exact AW.cI3 (d' := d - 1) (cX3_97_1 hM) okX10_and hd e (by omega) (W_X10_and kk) (hr := hr)
  · have e : h.2 a = .inl (1, [.inl g]) := h1
    exact AW.cI3 (d' := d - 1) (cX3_97_0 hM) okX0_and hd e (by omega) (W_X0_and kk) (hr := hr)
  · have e : h.2 a = .inl (10, [.inl g]) := h1
    exact AW.cI3 (d' := d - 1) (cX3_97_9 hM) okX10_and hd e (by omega) (W_X10_and kk) (hr := hr)
  · have e : h.2 a = .inl (3, [.inl g]) := h1
    exact AW.cI3 (d' := d - 1) (cX3_97_2 hM) okX10_and hd e (by omega) (W_X10_and kk) (hr := hr)
theorem AW.vX3_101 (hM : M.1.cls = RX3) (hd : decode M.2.1 pc = .ok (.invokevirtual 101, 3)) (hS : StA h a k g) (h2 : 2 ≤ d) (hst : st.length ≤ 6) (kk : AW d bc bs M Q (pc + 3) ls (.inl (orF k g x y) :: st) h) : AW d bc bs M Q pc ls (.inl y :: .inl x :: .inr a :: st) h := by
  obtain ⟨h1, -, -, ⟨k0, k5⟩, -⟩ := hS
  have hk : k = 0 ∨ k = 1 ∨ k = 2 ∨ k = 3 ∨ k = 4 ∨ k = 5 := by omega
  have hr : st.length ≤ 8 := by omega
  rcases hk with rfl | rfl | rfl | rfl | rfl | rfl
  · have e : h.2 a = .inl (11, [.inl g]) := h1
    exact AW.cI3 (d' := d - 1) (cX3_101_10 hM) okX10_or hd e (by omega) (W_X10_or kk) (hr := hr)
  · have e : h.2 a = .inl (5, [.inl g]) := h1
    exact AW.cI3 (d' := d - 1) (cX3_101_4 hM) okX4_or hd e (by omega) (W_X4_or kk) (hr := hr)
  · have e : h.2 a = .inl (2, [.inl g]) := h1
    exact AW.cI3 (d' := d - 1) (cX3_101_1 hM) okX10_or hd e (by omega) (W_X10_or kk) (hr := hr)
  · have e : h.2 a = .inl (1, [.inl g]) := h1
    exact AW.cI3 (d' := d - 1) (cX3_101_0 hM) okX10_or hd e (by omega) (W_X10_or kk) (hr := hr)
  · have e : h.2 a = .inl (10, [.inl g]) := h1
    exact AW.cI3 (d' := d - 1) (cX3_101_9 hM) okX9_or hd e (by omega) (W_X9_or e (by omega) kk) (hr := hr)
  · have e : h.2 a = .inl (3, [.inl g]) := h1
    exact AW.cI3 (d' := d - 1) (cX3_101_2 hM) okX10_or hd e (by omega) (W_X10_or kk) (hr := hr)
theorem AW.vX6_44 (hM : M.1.cls = RX6) (hd : decode M.2.1 pc = .ok (.invokevirtual 44, 3)) (hS : StA h a k g) (h2 : 2 ≤ d) (hst : st.length ≤ 6) (kk : AW d bc bs M Q (pc + 3) ls (.inl (notF k g x) :: st) h) : AW d bc bs M Q pc ls (.inl x :: .inr a :: st) h := by
  obtain ⟨h1, -, -, ⟨k0, k5⟩, -⟩ := hS
  have hk : k = 0 ∨ k = 1 ∨ k = 2 ∨ k = 3 ∨ k = 4 ∨ k = 5 := by omega
  have hr : st.length ≤ 8 := by omega
  rcases hk with rfl | rfl | rfl | rfl | rfl | rfl
  · have e : h.2 a = .inl (11, [.inl g]) := h1
    exact AW.cI2 (d' := d - 1) (cX6_44_10 hM) okX10_not hd e (by omega) (W_X10_not kk) (hr := hr)
  · have e : h.2 a = .inl (5, [.inl g]) := h1
    exact AW.cI2 (d' := d - 1) (cX6_44_4 hM) okX10_not hd e (by omega) (W_X10_not kk) (hr := hr)
  · have e : h.2 a = .inl (2, [.inl g]) := h1
    exact AW.cI2 (d' := d - 1) (cX6_44_1 hM) okX1_not hd e (by omega) (W_X1_not kk) (hr := hr)
  · have e : h.2 a = .inl (1, [.inl g]) := h1
    exact AW.cI2 (d' := d - 1) (cX6_44_0 hM) okX10_not hd e (by omega) (W_X10_not kk) (hr := hr)
  · have e : h.2 a = .inl (10, [.inl g]) := h1
    exact AW.cI2 (d' := d - 1) (cX6_44_9 hM) okX10_not hd e (by omega) (W_X10_not kk) (hr := hr)
  · have e : h.2 a = .inl (3, [.inl g]) := h1
    exact AW.cI2 (d' := d - 1) (cX6_44_2 hM) okX2_not hd e (by omega) (W_X2_not e (by omega) kk) (hr := hr)
theorem AW.vX6_47 (hM : M.1.cls = RX6) (hd : decode M.2.1 pc = .ok (.invokevirtual 47, 3)) (hS : StA h a k g) (h2 : 2 ≤ d) (hst : st.length ≤ 6) (kk : AW d bc bs M Q (pc + 3) ls (.inl (andF k x y) :: st) h) : AW d bc bs M Q pc ls (.inl y :: .inl x :: .inr a :: st) h := by
  obtain ⟨h1, -, -, ⟨k0, k5⟩, -⟩ := hS
  have hk : k = 0 ∨ k = 1 ∨ k = 2 ∨ k = 3 ∨ k = 4 ∨ k = 5 := by omega
  have hr : st.length ≤ 8 := by omega
  rcases hk with rfl | rfl | rfl | rfl | rfl | rfl
  · have e : h.2 a = .inl (11, [.inl g]) := h1
    exact AW.cI3 (d' := d - 1) (cX6_47_10 hM) okX10_and hd e (by omega) (W_X10_and kk) (hr := hr)
  · have e : h.2 a = .inl (5, [.inl g]) := h1
    exact AW.cI3 (d' := d - 1) (cX6_47_4 hM) okX10_and hd e (by omega) (W_X10_and kk) (hr := hr)
  · have e : h.2 a = .inl (2, [.inl g]) := h1
    exact AW.cI3 (d' := d - 1) (cX6_47_1 hM) okX10_and hd e (by omega) (W_X10_and kk) (hr := hr)
  · have e : h.2 a = .inl (1, [.inl g]) := h1
    exact AW.cI3 (d' := d - 1) (cX6_47_0 hM) okX0_and hd e (by omega) (W_X0_and kk) (hr := hr)
  · have e : h.2 a = .inl (10, [.inl g]) := h1
    exact AW.cI3 (d' := d - 1) (cX6_47_9 hM) okX10_and hd e (by omega) (W_X10_and kk) (hr := hr)
  · have e : h.2 a = .inl (3, [.inl g]) := h1
    exact AW.cI3 (d' := d - 1) (cX6_47_2 hM) okX10_and hd e (by omega) (W_X10_and kk) (hr := hr)
theorem AW.vX6_50 (hM : M.1.cls = RX6) (hd : decode M.2.1 pc = .ok (.invokevirtual 50, 3)) (hS : StA h a k g) (h2 : 2 ≤ d) (hst : st.length ≤ 6) (kk : AW d bc bs M Q (pc + 3) ls (.inl (orF k g x y) :: st) h) : AW d bc bs M Q pc ls (.inl y :: .inl x :: .inr a :: st) h := by
  obtain ⟨h1, -, -, ⟨k0, k5⟩, -⟩ := hS
  have hk : k = 0 ∨ k = 1 ∨ k = 2 ∨ k = 3 ∨ k = 4 ∨ k = 5 := by omega
  have hr : st.length ≤ 8 := by omega
  rcases hk with rfl | rfl | rfl | rfl | rfl | rfl
  · have e : h.2 a = .inl (11, [.inl g]) := h1
    exact AW.cI3 (d' := d - 1) (cX6_50_10 hM) okX10_or hd e (by omega) (W_X10_or kk) (hr := hr)
  · have e : h.2 a = .inl (5, [.inl g]) := h1
    exact AW.cI3 (d' := d - 1) (cX6_50_4 hM) okX4_or hd e (by omega) (W_X4_or kk) (hr := hr)
  · have e : h.2 a = .inl (2, [.inl g]) := h1
    exact AW.cI3 (d' := d - 1) (cX6_50_1 hM) okX10_or hd e (by omega) (W_X10_or kk) (hr := hr)
  · have e : h.2 a = .inl (1, [.inl g]) := h1
    exact AW.cI3 (d' := d - 1) (cX6_50_0 hM) okX10_or hd e (by omega) (W_X10_or kk) (hr := hr)
  · have e : h.2 a = .inl (10, [.inl g]) := h1
    exact AW.cI3 (d' := d - 1) (cX6_50_9 hM) okX9_or hd e (by omega) (W_X9_or e (by omega) kk) (hr := hr)
  · have e : h.2 a = .inl (3, [.inl g]) := h1
    exact AW.cI3 (d' := d - 1) (cX6_50_2 hM) okX10_or hd e (by omega) (W_X10_or kk) (hr := hr)
theorem AW.fX11_119 (hM : M.1.cls = RX11) (hd : decode M.2.1 pc = .ok (.getfield 119, 3)) (hS : StA h a k g) (kk : AW d bc bs M Q (pc + 3) ls (.inl g :: st) h) : AW d bc bs M Q pc ls (.inr a :: st) h := by
  obtain ⟨h1, -, -, ⟨k0, k5⟩, -⟩ := hS
  have hk : k = 0 ∨ k = 1 ∨ k = 2 ∨ k = 3 ∨ k = 4 ∨ k = 5 := by omega
  rcases hk with rfl | rfl | rfl | rfl | rfl | rfl
  · have e : h.2 a = .inl (11, [.inl g]) := h1
    exact AW.getf hd (by rw [hM]; exact gX11_119_10) e rfl kk
  · have e : h.2 a = .inl (5, [.inl g]) := h1
    exact AW.getf hd (by rw [hM]; exact gX11_119_4) e rfl kk
  · have e : h.2 a = .inl (2, [.inl g]) := h1
    exact AW.getf hd (by rw [hM]; exact gX11_119_1) e rfl kk
  · have e : h.2 a = .inl (1, [.inl g]) := h1
    exact AW.getf hd (by rw [hM]; exact gX11_119_0) e rfl kk
  · have e : h.2 a = .inl (10, [.inl g]) := h1
    exact AW.getf hd (by rw [hM]; exact gX11_119_9) e rfl kk
  · have e : h.2 a = .inl (3, [.inl g]) := h1
    exact AW.getf hd (by rw [hM]; exact gX11_119_2) e rfl kk
theorem AW.fX3_74 (hM : M.1.cls = RX3) (hd : decode M.2.1 pc = .ok (.getfield 74, 3)) (hS : StA h a k g) (kk : AW d bc bs M Q (pc + 3) ls (.inl g :: st) h) : AW d bc bs M Q pc ls (.inr a :: st) h := by
  obtain ⟨h1, -, -, ⟨k0, k5⟩, -⟩ := hS
  have hk : k = 0 ∨ k = 1 ∨ k = 2 ∨ k = 3 ∨ k = 4 ∨ k = 5 := by omega
  rcases hk with rfl | rfl | rfl | rfl | rfl | rfl
  · have e : h.2 a = .inl (11, [.inl g]) := h1
    exact AW.getf hd (by rw [hM]; exact gX3_74_10) e rfl kk
  · have e : h.2 a = .inl (5, [.inl g]) := h1
    exact AW.getf hd (by rw [hM]; exact gX3_74_4) e rfl kk
  · have e : h.2 a = .inl (2, [.inl g]) := h1
    exact AW.getf hd (by rw [hM]; exact gX3_74_1) e rfl kk
  · have e : h.2 a = .inl (1, [.inl g]) := h1
    exact AW.getf hd (by rw [hM]; exact gX3_74_0) e rfl kk
  · have e : h.2 a = .inl (10, [.inl g]) := h1
    exact AW.getf hd (by rw [hM]; exact gX3_74_9) e rfl kk
  · have e : h.2 a = .inl (3, [.inl g]) := h1
    exact AW.getf hd (by rw [hM]; exact gX3_74_2) e rfl kk
end Str

