section Br
variable {d bc bs : Nat} {M : MT} {Q : Option AV → AH → Prop} {pc pc' tgt : Nat} {ls : List (Option AV)} {st st' rest : List AV} {h : AH} {x y : Int} {off : Int}
theorem AW.br (cnd : Prop) (hs : ∀ (w : Om) (p : Program) (l : Launch) (e : Env) (R : Room) (s : State) (m : MethodId) (args : Array Value) (below : List Frame) (meth : Method) (c : Code) (H : Heap) (locs : List Loc) (cells slots : Nat) (Q' : State → Prop) (rl : Array Slot),
      p.tables.exec = Jvm.exec → c.code = M.2.1 → (∀ v ∈ st, RV v) → (cnd → W p l e R s m args below meth c H locs cells slots Q' (F0 m tgt rl (st'.map (aw_tr w)))) → (¬ cnd → W p l e R s m args below meth c H locs cells slots Q' (F0 m (pc + 3) rl (st'.map (aw_tr w)))) → W p l e R s m args below meth c H locs cells slots Q' (F0 m pc rl (st.map (aw_tr w))))
    (hr : ∀ v ∈ st', v ∈ st) (kt : cnd → AW d bc bs M Q tgt ls st' h) (kf : ¬ cnd → AW d bc bs M Q (pc + 3) ls st' h) : AW d bc bs M Q pc ls st h := by
  intro w p l e R s m args below meth c H locs cells slots rl hw hE hR hH hL hst hlo
  exact hs w p l e R s m args below meth c H locs cells slots _ rl hE.1 hE.2.1 hst (fun q => kt q w p l e R s m args below meth c H locs cells slots rl hw hE hR hH hL (fun v hv => hst v (hr v hv)) hlo) (fun q => kf q w p l e R s m args below meth c H locs cells slots rl hw hE hR hH hL (fun v hv => hst v (hr v hv)) hlo)
theorem aw_2 {v1 v2 : AV} {st : List AV} : ∀ v ∈ st, v ∈ v1 :: v2 :: st := fun _ q => List.mem_cons_of_mem _ (List.mem_cons_of_mem _ q)
theorem aw_1 {v1 : AV} {st : List AV} : ∀ v ∈ st, v ∈ v1 :: st := fun _ q => List.mem_cons_of_mem _ q
theorem ri_hd {st : List AV} (hv : ∀ v ∈ (.inl x : AV) :: st, RV v) : RI x := hv _ List.mem_cons_self
theorem ri_hd2 {v : AV} {st : List AV} (hv : ∀ u ∈ v :: (.inl x : AV) :: st, RV u) : RI x := hv _ (List.mem_cons_of_mem _ List.mem_cons_self)
theorem ri_lt (hx : RI x) (hy : RI y) : Int32.ofInt x < Int32.ofInt y ↔ x < y := by rw [Int32.lt_iff_toInt_lt, ri_back hx, ri_back hy]
theorem ri_le (hx : RI x) (hy : RI y) : Int32.ofInt x ≤ Int32.ofInt y ↔ x ≤ y := by rw [Int32.le_iff_toInt_le, ri_back hx, ri_back hy]
theorem ri_eq (hx : RI x) (hy : RI y) : Int32.ofInt x = Int32.ofInt y ↔ x = y := by rw [← Int32.toInt_inj, ri_back hx, ri_back hy]
theorem ri_0 : RI 0 := ⟨by omega, by omega⟩
theorem ri_z : (0 : Int32) = Int32.ofInt 0 := by decide
theorem AW.if_icmplt (hd : decode M.2.1 pc = .ok (.if_icmp .lt off, 3)) (ht : (pc : Int) + off = (tgt : Int)) (kt : x < y → AW d bc bs M Q tgt ls st h) (kf : ¬ x < y → AW d bc bs M Q (pc + 3) ls st h) : AW d bc bs M Q pc ls (.inl y :: .inl x :: st) h :=
  AW.br (x < y) (fun w p l e R s m args below meth c H locs cells slots Q' rl hx hb hv kt kf => lv_icmp_lt hx hb hd ht (fun q => kt ((ri_lt (ri_hd2 hv) (ri_hd hv)).mp q)) (fun q => kf (fun z => q ((ri_lt (ri_hd2 hv) (ri_hd hv)).mpr z)))) aw_2 kt kf
theorem AW.if_icmpge (hd : decode M.2.1 pc = .ok (.if_icmp .ge off, 3)) (ht : (pc : Int) + off = (tgt : Int)) (kt : y ≤ x → AW d bc bs M Q tgt ls st h) (kf : ¬ y ≤ x → AW d bc bs M Q (pc + 3) ls st h) : AW d bc bs M Q pc ls (.inl y :: .inl x :: st) h :=
  AW.br (y ≤ x) (fun w p l e R s m args below meth c H locs cells slots Q' rl hx hb hv kt kf => lv_icmp_ge hx hb hd ht (fun q => kt ((ri_le (ri_hd hv) (ri_hd2 hv)).mp q)) (fun q => kf (fun z => q ((ri_le (ri_hd hv) (ri_hd2 hv)).mpr z)))) aw_2 kt kf
theorem AW.if_icmpgt (hd : decode M.2.1 pc = .ok (.if_icmp .gt off, 3)) (ht : (pc : Int) + off = (tgt : Int)) (kt : y < x → AW d bc bs M Q tgt ls st h) (kf : ¬ y < x → AW d bc bs M Q (pc + 3) ls st h) : AW d bc bs M Q pc ls (.inl y :: .inl x :: st) h :=
  AW.br (y < x) (fun w p l e R s m args below meth c H locs cells slots Q' rl hx hb hv kt kf => lv_icmp_gt hx hb hd ht (fun q => kt ((ri_lt (ri_hd hv) (ri_hd2 hv)).mp q)) (fun q => kf (fun z => q ((ri_lt (ri_hd hv) (ri_hd2 hv)).mpr z)))) aw_2 kt kf
theorem AW.if_icmple (hd : decode M.2.1 pc = .ok (.if_icmp .le off, 3)) (ht : (pc : Int) + off = (tgt : Int)) (kt : x ≤ y → AW d bc bs M Q tgt ls st h) (kf : ¬ x ≤ y → AW d bc bs M Q (pc + 3) ls st h) : AW d bc bs M Q pc ls (.inl y :: .inl x :: st) h :=
  AW.br (x ≤ y) (fun w p l e R s m args below meth c H locs cells slots Q' rl hx hb hv kt kf => lv_icmp_le hx hb hd ht (fun q => kt ((ri_le (ri_hd2 hv) (ri_hd hv)).mp q)) (fun q => kf (fun z => q ((ri_le (ri_hd2 hv) (ri_hd hv)).mpr z)))) aw_2 kt kf
theorem AW.if_icmpeq (hd : decode M.2.1 pc = .ok (.if_icmp .eq off, 3)) (ht : (pc : Int) + off = (tgt : Int)) (kt : x = y → AW d bc bs M Q tgt ls st h) (kf : ¬ x = y → AW d bc bs M Q (pc + 3) ls st h) : AW d bc bs M Q pc ls (.inl y :: .inl x :: st) h :=
  AW.br (x = y) (fun w p l e R s m args below meth c H locs cells slots Q' rl hx hb hv kt kf => lv_icmp_eq hx hb hd ht (fun q => kt ((ri_eq (ri_hd2 hv) (ri_hd hv)).mp q)) (fun q => kf (fun z => q ((ri_eq (ri_hd2 hv) (ri_hd hv)).mpr z)))) aw_2 kt kf
theorem AW.if_icmpne (hd : decode M.2.1 pc = .ok (.if_icmp .ne off, 3)) (ht : (pc : Int) + off = (tgt : Int)) (kt : ¬ x = y → AW d bc bs M Q tgt ls st h) (kf : x = y → AW d bc bs M Q (pc + 3) ls st h) : AW d bc bs M Q pc ls (.inl y :: .inl x :: st) h :=
  AW.br (¬ x = y) (fun w p l e R s m args below meth c H locs cells slots Q' rl hx hb hv kt kf => lv_icmp_ne hx hb hd ht (fun q => kt (fun z => q ((ri_eq (ri_hd2 hv) (ri_hd hv)).mpr z))) (fun q => kf (fun z => z ((ri_eq (ri_hd2 hv) (ri_hd hv)).mp q)))) aw_2 kt (fun q => kf (Classical.not_not.mp q))
theorem AW.ifeq (hd : decode M.2.1 pc = .ok (.ifCond .eq off, 3)) (ht : (pc : Int) + off = (tgt : Int)) (kt : x = 0 → AW d bc bs M Q tgt ls st h) (kf : ¬ x = 0 → AW d bc bs M Q (pc + 3) ls st h) : AW d bc bs M Q pc ls (.inl x :: st) h :=
  AW.br (x = 0) (fun w p l e R s m args below meth c H locs cells slots Q' rl hx hb hv kt kf => lv_if_eq hx hb hd ht (fun q => kt ((ri_eq (ri_hd hv) ri_0).mp (by rw [← ri_z]; exact q))) (fun q => kf (fun z => q (by rw [ri_z]; exact (ri_eq (ri_hd hv) ri_0).mpr z)))) aw_1 kt kf
theorem AW.ifne (hd : decode M.2.1 pc = .ok (.ifCond .ne off, 3)) (ht : (pc : Int) + off = (tgt : Int)) (kt : ¬ x = 0 → AW d bc bs M Q tgt ls st h) (kf : x = 0 → AW d bc bs M Q (pc + 3) ls st h) : AW d bc bs M Q pc ls (.inl x :: st) h :=
  AW.br (¬ x = 0) (fun w p l e R s m args below meth c H locs cells slots Q' rl hx hb hv kt kf => lv_if_ne hx hb hd ht (fun q => kt (fun z => q (by rw [ri_z]; exact (ri_eq (ri_hd hv) ri_0).mpr z))) (fun q => kf (fun z => z ((ri_eq (ri_hd hv) ri_0).mp (by rw [← ri_z]; exact q))))) aw_1 kt (fun q => kf (Classical.not_not.mp q))
theorem AW.iflt (hd : decode M.2.1 pc = .ok (.ifCond .lt off, 3)) (ht : (pc : Int) + off = (tgt : Int)) (kt : x < 0 → AW d bc bs M Q tgt ls st h) (kf : ¬ x < 0 → AW d bc bs M Q (pc + 3) ls st h) : AW d bc bs M Q pc ls (.inl x :: st) h :=
  AW.br (x < 0) (fun w p l e R s m args below meth c H locs cells slots Q' rl hx hb hv kt kf => lv_if_lt hx hb hd ht (fun q => kt ((ri_lt (ri_hd hv) ri_0).mp (by rw [← ri_z]; exact q))) (fun q => kf (fun z => q (by rw [ri_z]; exact (ri_lt (ri_hd hv) ri_0).mpr z)))) aw_1 kt kf
theorem AW.ifge (hd : decode M.2.1 pc = .ok (.ifCond .ge off, 3)) (ht : (pc : Int) + off = (tgt : Int)) (kt : 0 ≤ x → AW d bc bs M Q tgt ls st h) (kf : ¬ 0 ≤ x → AW d bc bs M Q (pc + 3) ls st h) : AW d bc bs M Q pc ls (.inl x :: st) h :=
  AW.br (0 ≤ x) (fun w p l e R s m args below meth c H locs cells slots Q' rl hx hb hv kt kf => lv_if_ge hx hb hd ht (fun q => kt ((ri_le ri_0 (ri_hd hv)).mp (by rw [← ri_z]; exact q))) (fun q => kf (fun z => q (by rw [ri_z]; exact (ri_le ri_0 (ri_hd hv)).mpr z)))) aw_1 kt kf
theorem AW.ifle (hd : decode M.2.1 pc = .ok (.ifCond .le off, 3)) (ht : (pc : Int) + off = (tgt : Int)) (kt : x ≤ 0 → AW d bc bs M Q tgt ls st h) (kf : ¬ x ≤ 0 → AW d bc bs M Q (pc + 3) ls st h) : AW d bc bs M Q pc ls (.inl x :: st) h :=
  AW.br (x ≤ 0) (fun w p l e R s m args below meth c H locs cells slots Q' rl hx hb hv kt kf => lv_if_le hx hb hd ht (fun q => kt ((ri_le (ri_hd hv) ri_0).mp (by rw [← ri_z]; exact q))) (fun q => kf (fun z => q (by rw [ri_z]; exact (ri_le (ri_hd hv) ri_0).mpr z)))) aw_1 kt kf
theorem AW.ifgt (hd : decode M.2.1 pc = .ok (.ifCond .gt off, 3)) (ht : (pc : Int) + off = (tgt : Int)) (kt : 0 < x → AW d bc bs M Q tgt ls st h) (kf : ¬ 0 < x → AW d bc bs M Q (pc + 3) ls st h) : AW d bc bs M Q pc ls (.inl x :: st) h :=
  AW.br (0 < x) (fun w p l e R s m args below meth c H locs cells slots Q' rl hx hb hv kt kf => lv_if_gt hx hb hd ht (fun q => kt ((ri_lt ri_0 (ri_hd hv)).mp (by rw [← ri_z]; exact q))) (fun q => kf (fun z => q (by rw [ri_z]; exact (ri_lt ri_0 (ri_hd hv)).mpr z)))) aw_1 kt kf
theorem AW.ifnull {a : Nat} (hd : decode M.2.1 pc = .ok (.ifnull off, 3)) (ht : (pc : Int) + off = (tgt : Int)) (kt : a = 0 → AW d bc bs M Q tgt ls st h) (kf : ¬ a = 0 → AW d bc bs M Q (pc + 3) ls st h) : AW d bc bs M Q pc ls (.inr a :: st) h :=
  AW.br (a = 0) (fun w p l e R s m args below meth c H locs cells slots Q' rl hx hb hv kt kf => by
    show W p l e R s m args below meth c H locs cells slots Q' (F0 m pc rl (aw_tr w (.inr a) :: st.map (aw_tr w)))
    by_cases ha : a = 0
    · have e : aw_tr w (.inr a) = .null := by simp [aw_tr, ha]
      rw [e]
      exact lv_ifnullN hx hb hd ht (kt ha)
    · have e : aw_tr w (.inr a) = .ref (aw_adr w a) := by simp [aw_tr, ha]
      rw [e]
      exact lv_ifnull hx hb hd (kf ha)) aw_1 kt kf
/-! switches -/
theorem AW.table {dflt lo hi : Int} {offs : Array Int} {len : Nat} (hd : decode M.2.1 pc = .ok (.tableswitch dflt lo hi offs, len)) (f : Int → Nat)
    (hf : ∀ i : Nat, i < (hi - lo + 1).toNat → ∃ o, offs[i]? = some o ∧ (pc : Int) + o = (f (lo + i) : Int)) (hdf : (pc : Int) + dflt = (tgt : Int))
    (kin : ∀ i : Int, lo ≤ i → i ≤ hi → x = i → AW d bc bs M Q (f i) ls st h) (kout : (x < lo ∨ hi < x) → AW d bc bs M Q tgt ls st h) : AW d bc bs M Q pc ls (.inl x :: st) h := by
  intro w p l e R s m args below meth c H locs cells slots rl hw hE hR hH hL hst hlo
  have hx := ri_back (ri_hd hst)
  have hst' : ∀ v ∈ st, RV v := fun v hv => hst v (aw_1 v hv)
  by_cases q : x < lo ∨ hi < x
  · exact lv_tableOut hE.1 hE.2.1 hd (by rw [hx]; exact q) hdf (kout q w p l e R s m args below meth c H locs cells slots rl hw hE hR hH hL hst' hlo)
  · have q1 : ¬ x < lo := fun z => q (Or.inl z)
    have q2 : ¬ hi < x := fun z => q (Or.inr z)
    obtain ⟨o, ho, ht⟩ := hf (x - lo).toNat (by omega)
    have e1 : lo + ((x - lo).toNat : Int) = x := by omega
    rw [e1] at ht
    exact lv_tableIn hE.1 hE.2.1 hd (by rw [hx]; exact q1) (by rw [hx]; exact q2) (by rw [hx]; exact ho) ht (kin x (by omega) (by omega) rfl w p l e R s m args below meth c H locs cells slots rl hw hE hR hH hL hst' hlo)
theorem AW.lookup {dflt : Int} {ps : Array (Int × Int)} {len : Nat} (hd : decode M.2.1 pc = .ok (.lookupswitch dflt ps, len)) (hp : (ps.toList.zip (ps.toList.drop 1)).all (fun (a, next) => a.1 < next.1) = true) (f : Int → Nat)
    (hf : (pc : Int) + Op.lookupswitch.offset ps.toList dflt x = (f x : Int)) (k : AW d bc bs M Q (f x) ls st h) : AW d bc bs M Q pc ls (.inl x :: st) h := by
  intro w p l e R s m args below meth c H locs cells slots rl hw hE hR hH hL hst hlo
  have hx := ri_back (ri_hd hst)
  exact lv_lookup hE.1 hE.2.1 hd hp rfl (by rw [hx]; exact hf) (k w p l e R s m args below meth c H locs cells slots rl hw hE hR hH hL (fun v hv => hst v (aw_1 v hv)) hlo)
/-! locals -/
theorem aw_store {w : Om} {rl : Array Slot} {nL i : Nat} {v : AV} (hL : aw_LR w rl nL ls) (hi : i < nL) (hv : RV v) : ∃ rl', storeLocals rl i (aw_tr w v) = some rl' ∧ aw_LR w rl' nL (ls.set i (some v)) := by
  obtain ⟨h1, h2, h3, h4⟩ := hL
  have hh : lv_has rl nL ((List.range nL).filterMap (fun j => match ls[j]? with | some (some u) => some (j, aw_tr w u) | _ => none)) := by
    refine ⟨h1, h2, fun q hq => ?_⟩
    obtain ⟨j, -, hj⟩ := List.mem_filterMap.mp hq
    cases hu : ls[j]? with
    | none => rw [hu] at hj; cases hj
    | some o =>
      cases o with
      | none => rw [hu] at hj; cases hj
      | some u =>
        rw [hu] at hj
        cases hj
        exact (h4 j u hu).1
  obtain ⟨rl', e1, g1, g2, g3⟩ := lv_store1 hh hi (aw_cat w v)
  refine ⟨rl', e1, g1, g2, by rw [List.length_set]; exact h3, fun j u hj => ?_⟩
  by_cases hji : i = j
  · subst hji
    rw [List.getElem?_set_self (by omega)] at hj
    cases hj
    exact ⟨g3 (i, aw_tr w v) List.mem_cons_self, hv⟩
  · rw [List.getElem?_set_ne hji] at hj
    refine ⟨g3 (j, aw_tr w u) (List.mem_cons_of_mem _ (List.mem_filter.mpr ⟨List.mem_filterMap.mpr ⟨j, List.mem_range.mpr ?_, by rw [hj]⟩, ?_⟩)), (h4 j u hj).2⟩
    · have := (List.getElem?_eq_some_iff.mp hj).1
      omega
    · have h5 : (aw_tr w u).category = 1 := aw_cat w u
      simp [h5, Ne.symm hji]
theorem AW.sto {i : Nat} {v : AV} (hi : i < M.2.2.1) (hs : ∀ (w : Om) (p : Program) (l : Launch) (e : Env) (R : Room) (s : State) (m : MethodId) (args : Array Value) (below : List Frame) (meth : Method) (c : Code) (H : Heap) (locs : List Loc) (cells slots : Nat) (Q' : State → Prop) (rl rl' : Array Slot),
      p.tables.exec = Jvm.exec → c.code = M.2.1 → storeLocals rl i (aw_tr w v) = some rl' → W p l e R s m args below meth c H locs cells slots Q' (F0 m pc' rl' (st'.map (aw_tr w))) → W p l e R s m args below meth c H locs cells slots Q' (F0 m pc rl (st.map (aw_tr w))))
    (hr : (∀ u ∈ st, RV u) → ∀ u ∈ st', RV u) (hv : (∀ (j : Nat) (u : AV), ls[j]? = some (some u) → RV u) → (∀ u ∈ st, RV u) → RV v) (k : AW d bc bs M Q pc' (ls.set i (some v)) st' h) : AW d bc bs M Q pc ls st h := by
  intro w p l e R s m args below meth c H locs cells slots rl hw hE hR hH hL hst hlo
  obtain ⟨rl', e1, hL'⟩ := aw_store hL hi (hv (fun j u q => (hL.2.2.2 j u q).2) hst)
  exact hs w p l e R s m args below meth c H locs cells slots _ rl rl' hE.1 hE.2.1 e1 (k w p l e R s m args below meth c H locs cells slots rl' hw hE hR hH hL' (hr hst) hlo)
theorem AW.istore_n {n : Fin 4} (hd : decode M.2.1 pc = .ok (.istore_n n, 1)) (hi : n.val < M.2.2.1) (k : AW d bc bs M Q (pc + 1) (ls.set n.val (some (.inl x))) st h) : AW d bc bs M Q pc ls (.inl x :: st) h :=
  AW.sto hi (fun w p l e R s m args below meth c H locs cells slots Q' rl rl' hx hb e1 kk => by
    intro T hT X
    obtain ⟨t, a, b⟩ := kk T hT X
    refine ⟨t, ?_, b⟩
    have e1 : storeLocals rl n.val (.int (Int32.ofInt x)) = some rl' := e1
    show Steps p.tables e below (T.setTop (F0 m pc rl (.int (Int32.ofInt x) :: st.map (aw_tr w)))) t
    jvm_step X.here [X.here.top, hx, hb, hd, e1]
    exact a) (fun hv u q => hv u (aw_1 u q)) (fun _ hv => hv _ List.mem_cons_self) k
theorem AW.istore {n : Nat} (hd : decode M.2.1 pc = .ok (.istore n, 2)) (hi : n < M.2.2.1) (k : AW d bc bs M Q (pc + 2) (ls.set n (some (.inl x))) st h) : AW d bc bs M Q pc ls (.inl x :: st) h :=
  AW.sto hi (fun w p l e R s m args below meth c H locs cells slots Q' rl rl' hx hb e1 kk => by
    intro T hT X
    obtain ⟨t, a, b⟩ := kk T hT X
    refine ⟨t, ?_, b⟩
    have e1 : storeLocals rl n (.int (Int32.ofInt x)) = some rl' := e1
    show Steps p.tables e below (T.setTop (F0 m pc rl (.int (Int32.ofInt x) :: st.map (aw_tr w)))) t
    jvm_step X.here [X.here.top, hx, hb, hd, e1]
    exact a) (fun hv u q => hv u (aw_1 u q)) (fun _ hv => hv _ List.mem_cons_self) k
theorem AW.astore_n {n : Fin 4} {a : Nat} (hd : decode M.2.1 pc = .ok (.astore_n n, 1)) (hi : n.val < M.2.2.1) (k : AW d bc bs M Q (pc + 1) (ls.set n.val (some (.inr a))) st h) : AW d bc bs M Q pc ls (.inr a :: st) h :=
  AW.sto (v := .inr a) hi (fun w p l e R s m args below meth c H locs cells slots Q' rl rl' hx hb e1 kk => by
    intro T hT X
    obtain ⟨t, ha, b⟩ := kk T hT X
    refine ⟨t, ?_, b⟩
    show Steps p.tables e below (T.setTop (F0 m pc rl (aw_tr w (.inr a) :: st.map (aw_tr w)))) t
    by_cases q : a = 0
    · have e2 : aw_tr w (.inr a) = .null := by simp [aw_tr, q]
      rw [e2] at e1 ⊢
      jvm_step X.here [X.here.top, hx, hb, hd, e1]
      exact ⟨rfl, ha⟩
    · have e2 : aw_tr w (.inr a) = .ref (aw_adr w a) := by simp [aw_tr, q]
      rw [e2] at e1 ⊢
      jvm_step X.here [X.here.top, hx, hb, hd, e1]
      exact ⟨rfl, ha⟩) (fun hv u q => hv u (aw_1 u q)) (fun _ hv => trivial) k
theorem AW.astore {n : Nat} {a : Nat} (hd : decode M.2.1 pc = .ok (.astore n, 2)) (hi : n < M.2.2.1) (k : AW d bc bs M Q (pc + 2) (ls.set n (some (.inr a))) st h) : AW d bc bs M Q pc ls (.inr a :: st) h :=
  AW.sto (v := .inr a) hi (fun w p l e R s m args below meth c H locs cells slots Q' rl rl' hx hb e1 kk => by
    intro T hT X
    obtain ⟨t, ha, b⟩ := kk T hT X
    refine ⟨t, ?_, b⟩
    show Steps p.tables e below (T.setTop (F0 m pc rl (aw_tr w (.inr a) :: st.map (aw_tr w)))) t
    by_cases q : a = 0
    · have e2 : aw_tr w (.inr a) = .null := by simp [aw_tr, q]
      rw [e2] at e1 ⊢
      jvm_step X.here [X.here.top, hx, hb, hd, e1]
      exact ⟨rfl, ha⟩
    · have e2 : aw_tr w (.inr a) = .ref (aw_adr w a) := by simp [aw_tr, q]
      rw [e2] at e1 ⊢
      jvm_step X.here [X.here.top, hx, hb, hd, e1]
      exact ⟨rfl, ha⟩) (fun hv u q => hv u (aw_1 u q)) (fun _ hv => trivial) k
theorem AW.iinc {i : Nat} {n : Int} (hd : decode M.2.1 pc = .ok (.iinc i n, 3)) (hl : ls[i]? = some (some (.inl x))) (hi : i < M.2.2.1) (k : AW d bc bs M Q (pc + 3) (ls.set i (some (.inl (a_add x n)))) st h) : AW d bc bs M Q pc ls st h := by
  intro w p l e R s m args below meth c H locs cells slots rl hw hE hR hH hL hst hlo
  obtain ⟨rl', e1, hL'⟩ := aw_store (v := .inl (a_add x n)) hL hi (ri_of _)
  intro T hT X
  obtain ⟨t, a, b⟩ := k w p l e R s m args below meth c H locs cells slots rl' hw hE hR hH hL' hst hlo T hT X
  refine ⟨t, ?_, b⟩
  have hg : rl[i]? = some (.val (.int (Int32.ofInt x))) := (hL.2.2.2 i _ hl).1
  have e1 : storeLocals rl i (.int (Int32.ofInt x + Int32.ofInt n)) = some rl' := by
    have e2 : aw_tr w (.inl (a_add x n)) = .int (Int32.ofInt x + Int32.ofInt n) := by
      show Value.int (Int32.ofInt (Int32.ofInt x + Int32.ofInt n).toInt) = _
      rw [Int32.ofInt_toInt]
    rw [← e2]
    exact e1
  have hb := hE.2.1
  have hx := hE.1
  jvm_step X.here [X.here.top, ↓top_set X.here.top, hx, hb, hd, hg, e1]
  exact a
/-! returns -/
theorem AW.ireturn (hd : decode M.2.1 pc = .ok (.ireturn, 1)) (hr : M.2.2.2 = some .int) (hq : Q (some (.inl x)) h) : AW d bc bs M Q pc ls [.inl x] h := by
  intro w p l e R s m args below meth c H locs cells slots rl hw hE hR hH hL hst hlo
  refine W.widen (k := cells + bc) (n := slots + bs) (by omega) (by omega) ?_
  exact W.iret hE.1 hE.2.1 (hE.2.2.2.1.trans hr) (fun t ht _ => ⟨some (.inl x), h, hq, rfl, by rw [ht]; exact hH, fun v hv => by cases hv; exact hst _ List.mem_cons_self⟩) hlo hd hE.2.2.2.2.1
theorem AW.zreturn (hd : decode M.2.1 pc = .ok (.ireturn, 1)) (hr : M.2.2.2 = some .boolean) (hx : x = 0 ∨ x = 1) (hq : Q (some (.inl x)) h) : AW d bc bs M Q pc ls [.inl x] h := by
  intro w p l e R s m args below meth c H locs cells slots rl hw hE hR hH hL hst hlo
  refine W.widen (k := cells + bc) (n := slots + bs) (by omega) (by omega) ?_
  refine W.zret (ty := .boolean) hE.1 hE.2.1 (hE.2.2.2.1.trans hr) ?_ (fun t ht _ => ⟨some (.inl x), h, hq, rfl, by rw [ht]; exact hH, fun v hv => by cases hv; exact hst _ List.mem_cons_self⟩) hlo hd hE.2.2.2.2.1
  rcases hx with rfl | rfl <;> rfl
theorem AW.vreturn (hd : decode M.2.1 pc = .ok (.return_, 1)) (hr : M.2.2.2 = none) (hq : Q none h) : AW d bc bs M Q pc ls [] h := by
  intro w p l e R s m args below meth c H locs cells slots rl hw hE hR hH hL hst hlo
  refine W.widen (k := cells + bc) (n := slots + bs) (by omega) (by omega) ?_
  exact W.vret hE.1 hE.2.1 (hE.2.2.2.1.trans hr) (fun t ht _ => ⟨none, h, hq, rfl, by rw [ht]; exact hH, fun v hv => by cases hv⟩) hlo hd hE.2.2.2.2.1
theorem AW.areturn {C : String} {a : Nat} (hd : decode M.2.1 pc = .ok (.areturn, 1)) (hr : M.2.2.2 = some (.object C)) (hq : Q (some (.inr a)) h) : AW d bc bs M Q pc ls [.inr a] h := by
  intro w p l e R s m args below meth c H locs cells slots rl hw hE hR hH hL hst hlo
  refine W.widen (k := cells + bc) (n := slots + bs) (by omega) (by omega) ?_
  refine W.aret (v := aw_tr w (.inr a)) (rt := .object C) hE.1 hE.2.1 (hE.2.2.2.1.trans hr) (Or.inl ⟨C, rfl⟩) ?_ (fun t ht _ => ⟨some (.inr a), h, hq, rfl, by rw [ht]; exact hH, fun v hv => by cases hv; trivial⟩) hlo hd hE.2.2.2.2.1
  by_cases q : a = 0
  · exact Or.inl (by simp [aw_tr, q])
  · exact Or.inr ⟨aw_adr w a, by simp [aw_tr, q]⟩
end Br
