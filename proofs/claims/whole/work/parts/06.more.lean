section H2
variable {d bc bs bc' bs' : Nat} {M : MT} {Q : Option AV → AH → Prop} {pc : Nat} {ls : List (Option AV)} {st rest : List AV} {h : AH} {x j : Int} {idx a b t u k : Nat} {vs us : List AV} {v : AV}
theorem aw_elty {w : Om} (ht : 32 ≤ t ∧ t ≤ 34) : ∃ C : String, (aw_tys w)[t - 31]? = some (w.2.2.2 (t - 31), .object C) := by
  obtain ⟨h1, h2⟩ := ht
  rcases (show t = 32 ∨ t = 33 ∨ t = 34 by omega) with rfl | rfl | rfl
  · exact ⟨_, rfl⟩
  · exact ⟨_, rfl⟩
  · exact ⟨_, rfl⟩
theorem AW.aaload (hd : decode M.2.1 pc = .ok (.aaload, 1)) (ha : h.2 a = .inl (t + 1, vs)) (ht : 32 ≤ t ∧ t ≤ 34) (h0 : 0 ≤ j) (hv : vs[j.toNat]? = some v) (kk : AW d bc bs M Q (pc + 1) ls (v :: st) h) : AW d bc bs M Q pc ls (.inl j :: .inr a :: st) h := by
  intro w p l e R s m args below meth c H locs cells slots rl hw hE hR hH hL hst hlo
  have hrj : RI j := ri_hd hst
  have hg := aw_ge hH ha
  have hkk := kk w p l e R s m args below meth c H locs cells slots rl hw hE hR hH hL (fun z hz => by
    rcases List.mem_cons.mp hz with rfl | hz
    · have := hH.2.2.2.2.2 a
      rw [ha] at this
      exact this _ (List.mem_of_getElem? hv)
    · exact hst z (aw_2 z hz)) hlo
  show W p l e R s m args below meth c H locs cells slots _ (F0 m pc rl (.int (Int32.ofInt j) :: aw_tr w (.inr a) :: st.map (aw_tr w)))
  rw [aw_tr_ref (by omega)]
  have c1 := aw_arr hH ha (by omega)
  obtain ⟨C, hC⟩ := aw_elty (w := w) ht
  have hl := (List.getElem?_eq_some_iff.mp hv).1
  refine W.aald (v := aw_tr w v) (ty := .object C) hE.1 hE.2.1 c1 (((aw_K hw hE).2 _ _ hC).1 _ _) rfl (fun q => by cases q) ?_ ?_ rfl rfl hd hkk
  · rw [arrV_size]
    exact ri_in hrj h0 (by omega)
  · rw [ri_nat hrj, arrV_read _ _ hl]
    simp [List.getD_eq_getElem?_getD, hv]
def a_cast (t u : Nat) : Bool := (t == 33 && u == 7) || (t == 34 && u == 3) || (t == 32 && (u == 10 || u == 0 || u == 1 || u == 2 || u == 4 || u == 9))
theorem cs_0 : Cond.castable RX0 "SaidShorter$Stranger" ∈ tables_1 := by decide +kernel
theorem cs_1 : Cond.castable RX1 "SaidShorter$Stranger" ∈ tables_1 := by decide +kernel
theorem cs_2 : Cond.castable RX2 "SaidShorter$Stranger" ∈ tables_1 := by decide +kernel
theorem cs_4 : Cond.castable RX4 "SaidShorter$Stranger" ∈ tables_1 := by decide +kernel
theorem cs_9 : Cond.castable RX9 "SaidShorter$Stranger" ∈ tables_1 := by decide +kernel
theorem aw_cast {w : Om} {p : Program} {s : State} {m : MethodId} {meth : Method} {c : Code} (hw : aw_Wd w) (hE : aw_En w M p s m meth c) {C : String} (hq : Cond.castable C "SaidShorter$Stranger" ∈ tables_1) {c1 c2 : ClassId} (h1 : s.vm.findClass C = some c1) (h2 : s.vm.findClass "SaidShorter$Stranger" = some c2) : s.vm.assignable c1 c2 = true := by
  have h3 : (Cond.castable C "SaidShorter$Stranger").before #[] s = true := va_Nw.warmC hE.2.2.2.2.2.2.2 (va_Nw.of rfl (hw.1 _ (List.mem_append_right _ hq)))
  obtain ⟨c, t, g1, g2, g3⟩ := Cond.castable_spec h3
  cases h1.symm.trans g1
  cases h2.symm.trans g2
  exact g3
theorem aw_assign {w : Om} {p : Program} {s : State} {m : MethodId} {meth : Method} {c : Code} (hw : aw_Wd w) (hE : aw_En w M p s m meth c) (hc : a_cast t u = true) {r : vw_C} (hr : vwCl[u]? = some r) {C : String} (hC : (aw_tys w)[t - 31]? = some (w.2.2.2 (t - 31), .object C)) {c1 c2 : ClassId} (h1 : s.vm.findClass r.1 = some c1) (h2 : s.vm.findClass C = some c2) : s.vm.assignable c1 c2 = true := by
  simp only [a_cast, Bool.or_eq_true, Bool.and_eq_true, beq_iff_eq] at hc
  have same : r.1 = C → s.vm.assignable c1 c2 = true := fun q => by
    rw [q] at h1
    cases h1.symm.trans h2
    exact va_asg _ _
  rcases hc with (⟨rfl, rfl⟩ | ⟨rfl, rfl⟩) | ⟨rfl, hu⟩
  · cases hr; cases hC; exact same rfl
  · cases hr; cases hC; exact same rfl
  · rcases hu with ((((rfl | rfl) | rfl) | rfl) | rfl) | rfl <;> cases hr <;> cases hC
    · exact same rfl
    · exact aw_cast hw hE cs_0 h1 h2
    · exact aw_cast hw hE cs_1 h1 h2
    · exact aw_cast hw hE cs_2 h1 h2
    · exact aw_cast hw hE cs_4 h1 h2
    · exact aw_cast hw hE cs_9 h1 h2
theorem aw_getD_set {w : Om} {vs : List AV} {k : Nat} {v : AV} (hl : k < vs.length) : (fun q => updV (fun q => aw_tr w (vs.getD q (.inr 0))) k (aw_tr w v) q) = fun q => aw_tr w ((vs.set k v).getD q (.inr 0)) := by
  funext q
  by_cases hq : q = k
  · subst hq
    simp [updV, List.getD_eq_getElem?_getD, hl]
  · simp [updV, hq, List.getD_eq_getElem?_getD, List.getElem?_set_ne (Ne.symm hq)]
theorem AW.aastore (hd : decode M.2.1 pc = .ok (.aastore, 1)) (ha : h.2 a = .inl (t + 1, vs)) (ht : 32 ≤ t ∧ t ≤ 34) (hb : h.2 b = .inl (u + 1, us)) (hu : u < 32) (hc : a_cast t u = true) (h0 : 0 ≤ j) (h1 : j < vs.length) (kk : AW d bc bs M Q (pc + 1) ls st (hset h a (.inl (t + 1, vs.set j.toNat (.inr b))))) : AW d bc bs M Q pc ls (.inr b :: .inl j :: .inr a :: st) h := by
  intro w p l e R s m args below meth c H locs cells slots rl hw hE hR hH hL hst hlo
  have hrj : RI j := ri_hd2 hst
  have hg := aw_ge hH ha
  have hgb := aw_ge hH hb
  show W p l e R s m args below meth c H locs cells slots _ (F0 m pc rl (aw_tr w (.inr b) :: .int (Int32.ofInt j) :: aw_tr w (.inr a) :: st.map (aw_tr w)))
  rw [aw_tr_ref (a := a) (by omega), aw_tr_ref (a := b) (by omega)]
  have c1 := aw_arr hH ha (by omega)
  obtain ⟨r, hr, hlen, cell, q1, q2, q3, q4⟩ := aw_obj hH hb hu
  obtain ⟨C, hC⟩ := aw_elty (w := w) ht
  have hK := aw_K hw hE
  obtain ⟨kA, comp, k1, k2, k3, -⟩ := (hK.2 _ _ hC).2
  obtain ⟨kE, hkE, -⟩ := Vm.findClass_spec k3
  obtain ⟨hS, hfc, kC, hkC, hkind⟩ := hK.1 u _ hr
  refine W.aast hE.1 hE.2.1 c1 (fun q h => by cases h) (fun h => by cases h) k1 k2 rfl hkE ⟨?_, ?_⟩ q1 (fun q h => by rw [q3] at h; cases h) (by rw [q2]; exact hkC) (by rw [q2]; exact aw_assign hw hE hc hr hC hfc k3) rfl rfl hd ?_
  · rw [ri_z, ri_lt hrj ri_0]; omega
  · rw [arrV_size, ri_nat hrj]; omega
  intro H' e1 e2 e3
  refine kk w p l e R s m args below meth c H' _ cells slots rl hw hE hR ?_ hL (fun z hz => hst z (List.mem_cons_of_mem _ (aw_2 z hz))) (aw_loc hg.1 hlo)
  refine aw_RH_set hH hg.1 hg.2 e2 e3 ?_ ?_
  · simp only [aw_CO, if_neg (show ¬ t < 32 by omega)]
    rw [e1, arrV_store, ri_nat hrj, ← aw_tr_ref (w := w) (a := b) (by omega), List.length_set]
    exact congrArg (fun F => some (arrV (w.2.2.2 (t - 31)) vs.length F)) (aw_getD_set (by omega))
  · have := hH.2.2.2.2.2 a
    rw [ha] at this
    exact aw_rc_set this trivial
theorem AW.alenR (hd : decode M.2.1 pc = .ok (.arraylength, 1)) (ha : h.2 a = .inl (t + 1, vs)) (ht : 32 ≤ t ∧ t ≤ 34) (hn : vs.length < 2147483648) (kk : AW d bc bs M Q (pc + 1) ls (.inl (vs.length : Int) :: st) h) : AW d bc bs M Q pc ls (.inr a :: st) h := by
  intro w p l e R s m args below meth c H locs cells slots rl hw hE hR hH hL hst hlo
  have hkk := kk w p l e R s m args below meth c H locs cells slots rl hw hE hR hH hL (fun z hz => by
    rcases List.mem_cons.mp hz with rfl | hz
    · exact ⟨by omega, by omega⟩
    · exact hst z (aw_1 z hz)) hlo
  have hg := aw_ge hH ha
  show W p l e R s m args below meth c H locs cells slots _ (F0 m pc rl (aw_tr w (.inr a) :: st.map (aw_tr w)))
  rw [aw_tr_ref (by omega)]
  obtain ⟨C, hC⟩ := aw_elty (w := w) ht
  exact W.alen hE.1 hE.2.1 (aw_arr hH ha (by omega)) (((aw_K hw hE).2 _ _ hC).1 _ _) (by rw [arrV_size]; rfl) rfl rfl hd hkk
/-! makes -/
theorem ac_int : Cond.arrayClass .int ∈ tables_1 := by decide +kernel
theorem AW.newarray (hd : decode M.2.1 pc = .ok (.newarray .int, 2)) (h0 : 0 ≤ j) (h1 : j ≤ 100000) (hb : bc = bc' + 1) (hs : bs = bs' + j.toNat) (kk : AW d bc' bs' M Q (pc + 2) ls (.inr (16 + h.1) :: st) (hpush h (.inr (j.toNat, fun _ => 0)))) : AW d bc bs M Q pc ls (.inl j :: st) h := by
  subst hb; subst hs
  intro w p l e R s m args below meth c H locs cells slots rl hw hE hR hH hL hst hlo
  have hrj : RI j := ri_hd hst
  show W p l e R s m args below meth c H locs cells slots _ (F0 m pc rl (.int (Int32.ofInt j) :: st.map (aw_tr w)))
  refine va_newaK hE.1 hE.2.1 (atype := .int) (aw_word hw hE (List.mem_append_right _ ac_int) rfl) rfl hd rfl (by rw [ri_z, ri_lt hrj ri_0]; omega) (ri_nat hrj) (by show j.toNat * 4 ≤ _; omega) (by omega) (by omega) rfl ?_
  intro H' cA e1 e2 e3 hAr hNm
  have hcA : cA = w.2.2.2 0 := by
    have h2 : s.vm.findClass ("[" ++ FieldType.int.toString) = some (w.2.2.2 0) := ((aw_K hw hE).2 0 _ rfl).2
    exact Option.some.inj (hNm.symm.trans h2)
  subst hcA
  have hk := kk w p l e R s m args below meth c H' locs (cells + 1) (slots + j.toNat) rl hw hE ⟨hR.1, hR.2.1, by omega, by omega⟩ (aw_RH_push hH e2 (fun q hq => e3 q hq) (by show H'[aw_adr w _]? = _; rw [aw_adr_new hH]; exact e1) (fun _ => ri_0)) hL (fun z hz => by
    rcases List.mem_cons.mp hz with rfl | hz
    · trivial
    · exact hst z (aw_1 z hz)) hlo
  rw [show cells + 1 + bc' = cells + (bc' + 1) by omega, show slots + j.toNat + bs' = slots + (bs' + j.toNat) by omega] at hk
  have hk : W p l e R s m args below meth c H' locs (cells + 1) (slots + j.toNat) _ (F0 m (pc + 2) rl (aw_tr w (.inr (16 + h.1)) :: st.map (aw_tr w))) := hk
  rw [aw_tr_new hH] at hk
  exact hk
def NewA (own : String) (idx t : Nat) (C : String) : Prop := Cond.classLink own idx C ∈ tables_1 ∧ Cond.arrayOver (.object C) ∈ tables_1 ∧ ∀ w : Om, (aw_tys w)[t - 31]? = some (w.2.2.2 (t - 31), .object C)
theorem AW.anewarray {C : String} (hd : decode M.2.1 pc = .ok (.anewarray idx, 3)) (hsite : NewA M.1.cls idx t C) (ht : 32 ≤ t ∧ t ≤ 34) (h0 : 0 ≤ j) (h1 : j ≤ 100000) (hb : bc = bc' + 1) (hs : bs = bs' + j.toNat) (kk : AW d bc' bs' M Q (pc + 3) ls (.inr (16 + h.1) :: st) (hpush h (.inl (t + 1, List.replicate j.toNat (.inr 0))))) : AW d bc bs M Q pc ls (.inl j :: st) h := by
  subst hb; subst hs
  intro w p l e R s m args below meth c H locs cells slots rl hw hE hR hH hL hst hlo
  have hrj : RI j := ri_hd hst
  obtain ⟨g1, g2, g3⟩ := hsite
  show W p l e R s m args below meth c H locs cells slots _ (F0 m pc rl (.int (Int32.ofInt j) :: st.map (aw_tr w)))
  have hover : va_AO C s := va_AO.moved hE.2.2.2.2.2.2.2.alike (va_AO.of (hw.1 _ (List.mem_append_right _ g2)))
  refine W.anew hE.1 hE.2.1 hE.2.2.2.2.2.2.1 (aw_word hw hE (List.mem_append_right _ g1) rfl) (va_AO.use hover) rfl hd rfl (by rw [ri_z, ri_lt hrj ri_0]; omega) (by rw [ri_nat hrj]; omega) (by omega) (by rw [ri_nat hrj]; omega) ?_
  intro cA kA comp f1 f2 f3 f4
  have hcA : cA = w.2.2.2 (t - 31) := by
    obtain ⟨_, _, _, _, _, h2⟩ := ((aw_K hw hE).2 _ _ (g3 w)).2
    exact Option.some.inj (f1.symm.trans h2)
  subst hcA
  rw [ri_nat hrj]
  generalize hH1 : H.push ({ cls := w.2.2.2 (t - 31), slots := Array.replicate j.toNat .null, vm := .none } : Cell) = H'
  have e2 : H'.size = H.size + 1 := by rw [← hH1, Array.size_push]
  have e1 : H'[H.size]? = some (arrV (w.2.2.2 (t - 31)) j.toNat (fun _ => .null)) := by rw [← hH1, Array.getElem?_push_size, ← arrV_new]
  have e3 : ∀ q : Nat, q < H.size → H'[q]? = H[q]? := fun q hq => by rw [← hH1, Array.getElem?_push, if_neg (Nat.ne_of_lt hq)]
  have hk := kk w p l e R s m args below meth c H' locs (cells + 1) (slots + j.toNat) rl hw hE ⟨hR.1, hR.2.1, by omega, by omega⟩ (aw_RH_push hH e2 (fun q hq => e3 q hq) (by
    simp only [aw_CO, if_neg (show ¬ t < 32 by omega)]
    rw [aw_adr_new hH, e1, List.length_replicate]
    refine congrArg (fun F => some (arrV (w.2.2.2 (t - 31)) j.toNat F)) ?_
    funext q
    by_cases hq : q < j.toNat
    · simp [List.getD_eq_getElem?_getD, List.getElem?_replicate, hq, aw_tr]
    · simp [List.getD_eq_getElem?_getD, List.getElem?_replicate, hq, aw_tr]) (fun z hz => by
    rw [(List.mem_replicate.mp hz).2]
    trivial)) hL (fun z hz => by
    rcases List.mem_cons.mp hz with rfl | hz
    · trivial
    · exact hst z (aw_1 z hz)) hlo
  rw [show cells + 1 + bc' = cells + (bc' + 1) by omega, show slots + j.toNat + bs' = slots + (bs' + j.toNat) by omega] at hk
  have hk : W p l e R s m args below meth c H' locs (cells + 1) (slots + j.toNat) _ (F0 m (pc + 3) rl (aw_tr w (.inr (16 + h.1)) :: st.map (aw_tr w))) := hk
  rw [aw_tr_new hH] at hk
  exact hk
def a_dflt : FieldType → AV
  | .int => .inl 0
  | .boolean => .inl 0
  | _ => .inr 0
def a_ok : FieldType → Bool
  | .int => true
  | .boolean => true
  | .object _ => true
  | .array _ => true
  | _ => false
theorem a_dflt_ok {w : Om} {ty : FieldType} (hk : a_ok ty = true) : defaultValue ty = aw_tr w (a_dflt ty) := by
  cases ty <;> first | rfl | cases hk
/-- a class that is made -/
def New (own : String) (idx t N : Nat) (vs : List AV) : Prop := ∃ r : vw_C, vwCl[t]? = some r ∧ r.2.2 = N ∧ Cond.classLink own idx r.1 ∈ tables_1 ∧ Cond.instantiable r.1 N ∈ tables_1 ∧ Cond.initialized r.1 ∈ tables_1 ∧ (∀ k, k < N → a_ok (tyC t k) = true) ∧ vs = (List.range N).map (fun k => a_dflt (tyC t k))
set_option maxHeartbeats 4000000 in
theorem AW.new {N : Nat} (hd : decode M.2.1 pc = .ok (.new idx, 3)) (hsite : New M.1.cls idx t N vs) (hb : bc = bc' + 1) (hs : bs = bs' + N) (kk : AW d bc' bs' M Q (pc + 3) ls (.inr (16 + h.1) :: st) (hpush h (.inl (t + 1, vs)))) : AW d bc bs M Q pc ls st h := by
  subst hb; subst hs
  intro w p l e R s m args below meth c H locs cells slots rl hw hE hR hH hL hst hlo
  obtain ⟨r, hr, hN, g1, g2, g3, g4, g5⟩ := hsite
  have ht : t < 32 := by
    have := (List.getElem?_eq_some_iff.mp hr).1
    have h13 : vwCl.length = 13 := rfl
    omega
  have hKn := (aw_K hw hE).1 t _ hr
  obtain ⟨hin, hnm, hty⟩ := cls_ok t r hr
  have hts : ∀ c ∈ u_ws r.1 r.2.1 r.2.2, c.before args s = true := fun c hc => aw_word hw hE (hin c hc).1 (hin c hc).2
  refine W.newcK hE.1 hE.2.1 hE.2.2.2.2.2.2.1 (aw_word hw hE (List.mem_append_right _ g1) rfl) (aw_word hw hE (List.mem_append_right _ g2) rfl) (aw_word hw hE (List.mem_append_right _ g3) rfl) rfl hd (by omega) (by omega) hKn.2.1 rfl ?_
  intro H' kC hkC e1 e2 e3
  have hob := u_born (tyC t) hts (fun _ h => h) hKn hkC e1 hty
  have hk := kk w p l e R s m args below meth c H' locs (cells + 1) (slots + N) rl hw hE ⟨hR.1, hR.2.1, by omega, by omega⟩ (aw_RH_push hH e2 (fun q hq => e3 q hq) (by
    simp only [aw_CO, if_pos ht]
    rw [aw_adr_new hH]
    refine ⟨r, hr, by rw [g5]; simp [hN], hob.to fun k hk => ?_⟩
    rw [a_dflt_ok (w := w) (g4 k (by omega)), vp_map]
    rw [g5]
    simp [List.getElem?_map, List.getElem?_range (show k < N by omega)]) (fun z hz => by
    rw [g5] at hz
    obtain ⟨k, -, rfl⟩ := List.mem_map.mp hz
    show RV (a_dflt (tyC t k))
    cases tyC t k <;> first | exact ri_0 | trivial)) hL (fun z hz => by
    rcases List.mem_cons.mp hz with rfl | hz
    · trivial
    · exact hst z hz) hlo
  rw [show cells + 1 + bc' = cells + (bc' + 1) by omega, show slots + N + bs' = slots + (bs' + N) by omega] at hk
  have hk : W p l e R s m args below meth c H' locs (cells + 1) (slots + N) _ (F0 m (pc + 3) rl (aw_tr w (.inr (16 + h.1)) :: st.map (aw_tr w))) := hk
  rw [aw_tr_new hH] at hk
  exact hk
/-! statics and constants -/
def GS (own : String) (idx k : Nat) : Prop := 2 ≤ k ∧ k ≤ 5 ∧ FLink own idx ((aw_sn k).1, (aw_sn k).2, "[I", true)
theorem AW.gets (hd : decode M.2.1 pc = .ok (.getstatic idx, 3)) (hs : GS M.1.cls idx k) (kk : AW d bc bs M Q (pc + 3) ls (.inr k :: st) h) : AW d bc bs M Q pc ls st h := by
  intro w p l e R s m args below meth c H locs cells slots rl hw hE hR hH hL hst hlo
  obtain ⟨g1, g2, hlk⟩ := hs
  obtain ⟨cf, kf, fi, f, ad, cell, z1, z2, z3, z4, z5, z6, z7, z8⟩ := va_Z.moved (hE.2.2.2.2.2.2.2.alike) (hw.2.2.1 k g1 g2)
  have hkk := kk w p l e R s m args below meth c H locs cells slots rl hw hE hR hH hL (fun z hz => by
    rcases List.mem_cons.mp hz with rfl | hz
    · trivial
    · exact hst z hz) hlo
  have hkk : W p l e R s m args below meth c H locs cells slots _ (F0 m (pc + 3) rl (aw_tr w (.inr k) :: st.map (aw_tr w))) := hkk
  rw [aw_tr_ref (by omega), show aw_adr w k = w.2.1 k from if_pos (by omega)] at hkk
  have hlt := (Array.getElem?_eq_some_iff.mp z5).1
  have hkn : cell.vm ≠ .unknown := fun q => by rw [q] at z6; cases z6
  rcases hlk with hlk | ⟨host, hlk⟩
  · exact W.gets hE.1 hE.2.1 hE.2.2.2.2.2.2.1 (aw_word hw hE hlk rfl) z1 z2 z3 z4 (by rw [hH.2.1 _ hlt]; exact z5) hkn z7 rfl hd hkk
  · exact va_WgetsN hE.1 hE.2.1 hE.2.2.2.2.2.2.1 (aw_warmN hw hE hlk) z1 z2 z3 z4 (by rw [hH.2.1 _ hlt]; exact z5) hkn z7 rfl hd hkk
theorem AW.ldc {n : Int} (hd : decode M.2.1 pc = .ok (.ldc idx, 2)) (hs : Cond.constant M.1.cls idx (Int32.ofInt n) ∈ tables_1) (hn : RI n) (kk : AW d bc bs M Q (pc + 2) ls (.inl n :: st) h) : AW d bc bs M Q pc ls st h := by
  intro w p l e R s m args below meth c H locs cells slots rl hw hE hR hH hL hst hlo
  exact lv_ldc hE.1 hE.2.1 hE.2.2.2.2.2.2.1 (aw_word hw hE (List.mem_append_right _ hs) rfl) hd (kk w p l e R s m args below meth c H locs cells slots rl hw hE hR hH hL (fun z hz => by
    rcases List.mem_cons.mp hz with rfl | hz
    · exact hn
    · exact hst z hz) hlo)
theorem AW.ldcw {n : Int} (hd : decode M.2.1 pc = .ok (.ldc_w idx, 3)) (hs : Cond.constant M.1.cls idx (Int32.ofInt n) ∈ tables_1) (hn : RI n) (kk : AW d bc bs M Q (pc + 3) ls (.inl n :: st) h) : AW d bc bs M Q pc ls st h := by
  intro w p l e R s m args below meth c H locs cells slots rl hw hE hR hH hL hst hlo
  exact lv_ldcw hE.1 hE.2.1 hE.2.2.2.2.2.2.1 (aw_word hw hE (List.mem_append_right _ hs) rfl) hd (kk w p l e R s m args below meth c H locs cells slots rl hw hE hR hH hL (fun z hz => by
    rcases List.mem_cons.mp hz with rfl | hz
    · exact hn
    · exact hst z hz) hlo)
end H2
