section End
theorem h_law (L : Nat) (xs : Nat → Int) (hL : L ≤ 2560) : AW 2048 600000 7302250 mt_law (fun r _ => r = some (.inl 1)) 0 [some (.inr 1), none, none, none] [] (h_start L xs) := by
  refine AW.new (bc' := 599999) (bs' := 7302235) dL_law_0 nL_7 rfl rfl ?_
  show AW _ _ _ _ _ _ _ [.inr 16] _
  have H0 := HL.one (h := h_start L xs) (B := 16) (c := .inl (11 + 1, [.inr 0, .inr 0, .inr 0, .inr 0, .inl 0, .inr 0, .inl 0, .inr 0, .inr 0, .inr 0, .inr 0, .inr 0, .inr 0, .inr 0, .inl 0])) rfl
  generalize hpush (h_start L xs) (.inl (11 + 1, [.inr 0, .inr 0, .inr 0, .inr 0, .inl 0, .inr 0, .inl 0, .inr 0, .inr 0, .inr 0, .inr 0, .inr 0, .inr 0, .inr 0, .inl 0])) = h1 at H0 ⊢
  refine AW.dup dL_law_3 ?_
  refine AW.kI1 (d' := 2047) 99 6409 (cL_9 rfl) okX11_init dL_law_4 (H0.2.1 0 _ rfl) (by decide) (bc'' := 599900) (bs'' := 7295826) rfl rfl (W_X11_init (by decide) H0 (by decide) (fun h2 H2 => ?_))
  have H2 : HL 16 (h_start L xs) h2 (cL 16) := H2
  have e2 : 16 + h2.1 = 116 := H2.1
  refine AW.ast1 dL_law_7 (by decide) ?_
  refine AW.new (bc' := 599899) (bs' := 7295793) dL_law_8 nL_10 rfl rfl ?_
  rw [e2]
  have K0 := HL.one (h := h2) (B := 116) (c := .inl (12 + 1, ((.inr 0) :: (.inr 0) :: (.inr 0) :: (.inr 0) :: (.inr 0) :: (.inr 0) :: (.inr 0) :: (.inl 0) :: (.inl 0) :: (.inr 0) :: (.inr 0) :: (.inr 0) :: (.inr 0) :: (.inr 0) :: (.inr 0) :: (.inl 0) :: (.inl 0) :: (.inl 0) :: (.inr 0) :: (.inl 0) :: (.inl 0) :: (.inl 0) :: (.inr 0) :: (.inr 0) :: (.inl 0) :: (.inr 0) :: (.inl 0) :: (.inr 0) :: (.inl 0) :: (.inl 0) :: (.inr 0) :: (.inl 0) :: (.inl 0) :: []))) e2
  refine AW.dup dL_law_11 ?_
  refine AW.kI1 (d' := 2047) 19 1111 (cL_12 rfl) okX12_init dL_law_12 (K0.2.1 0 _ rfl) (by decide) (bc'' := 599880) (bs'' := 7294682) rfl rfl (W_X12_init (by decide) K0 (by decide) (fun h3 K3 => ?_))
  have K3 : HL 116 h2 h3 (cM 116) := K3
  have e3 : 16 + h3.1 = 136 := K3.1
  refine AW.ast2 dL_law_15 (by decide) ?_
  refine AW.iconst dL_law_16 ?_
  refine AW.ist3 dL_law_17 (by decide) ?_
  have low : ∀ a, a < 16 → h3.2 a = (h_start L xs).2 a := fun a ha => (K3.2.2 a (by omega)).trans (H2.2.2 a ha)
  have T : LWS h3 S0 L xs := by
    refine ⟨start_C (fun j c hj => ?_) (by omega) (low 2 (by decide)) (low 3 (by decide)) (low 4 (by decide)) (low 5 (by decide)), start_M (fun j c hj => K3.2.1 j c hj), low 1 (by decide)⟩
    have hj2 : j < 100 := (List.getElem?_eq_some_iff.mp hj).1
    exact (K3.2.2 (16 + j) (by omega)).trans (H2.2.1 j c hj)
  exact AW.wk 558920 7253722 (LC_law (d := 2048) (by decide) hL 512 0 h3 S0 (by omega) (by decide) T)
theorem whole_start {p : Program} {e : Env} {s : State} {m : MethodId} {below : List Frame} {meth : Method} {c : Code} (l : Launch) (hflags : l.flags = flags0) {b L : Nat} {xs : Nat → Int32} (hL : L ≤ 2560) (C0 : lw_At p s m meth c b L xs) : W p l e room_1 s m #[Value.ref b] below meth c s.heap [] 0 0 (lw_Z below #[Value.ref b] s) (entryFrame m ([Value.ref b] : List Value).toArray 4) :=
  whole_open (fun L xs hL _ => h_law L xs hL) l hL C0
end End

