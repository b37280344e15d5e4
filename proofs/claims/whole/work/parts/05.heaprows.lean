def FSlot (t k : Nat) (q : String × String × String × Bool) : Prop := ∃ r : vw_C, vwCl[t]? = some r ∧ k < r.2.2 ∧ r.2.1 k = q
def FLink (own : String) (idx : Nat) (q : String × String × String × Bool) : Prop := Cond.fieldLink own idx q.1 q.2.1 q.2.2.1 ∈ lw_tbl ∨ ∃ host, Cond.fieldLinkNest own idx q.1 q.2.1 q.2.2.1 host ∈ lw_tbl
/-- class own's entry idx is field k of the class t -/
def GF (own : String) (idx t k : Nat) : Prop := ∃ q, FLink own idx q ∧ FSlot t k q
def GP (own : String) (idx t k : Nat) : Prop := ∃ q : String × String × String × Bool, FLink own idx q ∧ FSlot t k q ∧ q.2.2.2 = false
def GPF (own : String) (idx t k : Nat) : Prop := ∃ q : String × String × String × Bool, Cond.fieldLink own idx q.1 q.2.1 q.2.2.1 ∈ lw_tbl ∧ FSlot t k q ∧ q.2.2.2 = true ∧ q.1 = own
def a_fit (ty : FieldType) (v : AV) : Prop := match ty, v with
  | .int, .inl _ => True
  | .boolean, .inl x => x = 0 ∨ x = 1
  | .object _, .inr _ => True
  | .array _, .inr _ => True
  | _, _ => False
theorem a_fit_ok {w : Om} {ty : FieldType} {v : AV} (hf : a_fit ty v) : narrow ty (aw_tr w v) = aw_tr w v ∧ fits ty (aw_tr w v) = true := by
  cases v with
  | inl x =>
    cases ty <;> first | exact False.elim hf | skip
    all_goals first | (exact ⟨rfl, rfl⟩) | (rcases hf with rfl | rfl <;> exact ⟨rfl, rfl⟩)
  | inr a =>
    cases ty <;> first | exact False.elim hf | skip
    all_goals
      by_cases ha : a = 0
      · rw [show aw_tr w (.inr a) = .null by simp [aw_tr, ha]]
        exact ⟨rfl, rfl⟩
      · rw [aw_tr_ref ha]
        exact ⟨rfl, rfl⟩
def updI (f : Nat → Int) (i : Nat) (x : Int) : Nat → Int := fun j => if j = i then x else f j
theorem ri_nat {j : Int} (hj : RI j) : (Int32.ofInt j).toNatClampNeg = j.toNat := by
  show (Int32.ofInt j).toInt.toNat = _
  rw [ri_back hj]
theorem ri_in {j : Int} {n : Nat} (hj : RI j) (h0 : 0 ≤ j) (h1 : j < n) : ¬ (Int32.ofInt j < 0 ∨ n ≤ (Int32.ofInt j).toNatClampNeg) := by
  rw [ri_nat hj, ri_z, ri_lt hj ri_0]
  omega
section Hr
variable {d bc bs : Nat} {M : MT} {Q : Option AV → AH → Prop} {pc : Nat} {ls : List (Option AV)} {st : List AV} {h : AH} {x : Int} {idx a t k : Nat} {vs : List AV} {v : AV}
theorem aw_warmN {w : Om} {p : Program} {s : State} {m : MethodId} {meth : Method} {c : Code} (hw : aw_Wd w) (hE : aw_En w M p s m meth c) {own ref name desc host : String} (hq : Cond.fieldLinkNest own idx ref name desc host ∈ lw_tbl) {args : Array Value} : (Cond.fieldLinkNest own idx ref name desc host).before args s = true :=
  va_Nw.use rfl (va_Nw.warmF hE.2.2.2.2.2.2.2 (va_Nw.of rfl (hw.1 _ hq)))
set_option maxHeartbeats 4000000 in
theorem AW.getf (hd : decode M.2.1 pc = .ok (.getfield idx, 3)) (hf : GF M.1.cls idx t k) (ha : h.2 a = .inl (t + 1, vs)) (hv : vs[k]? = some v) (kk : AW d bc bs M Q (pc + 3) ls (v :: st) h) : AW d bc bs M Q pc ls (.inr a :: st) h := by
  intro w p l e R s m args below meth c H locs cells slots rl hw hE hR hH hL hst hlo
  obtain ⟨q, hlk, r, hr, hkr, hq⟩ := hf
  subst hq
  have ht : t < 32 := by
    have := (List.getElem?_eq_some_iff.mp hr).1
    have h13 : vwCl.length = 13 := rfl
    omega
  obtain ⟨r', hr', hlen, cell, q1, q2, q3, q4⟩ := aw_obj hH ha ht
  cases hr.symm.trans hr'
  have hg := aw_ge hH ha
  have hK := aw_K hw hE
  obtain ⟨hS, hfc, kC, hkC, hkind⟩ := hK.1 t _ hr
  obtain ⟨cf, kf, fi, f, hi, hsl⟩ := hS k hkr
  have hin := (cls_ok t r hr).1
  have hlay : (Cond.lays r.1 (r.2.1 k).1 (r.2.1 k).2.1 (r.2.1 k).2.2.1).before args s = true ∨ (Cond.laysFinal r.1 (r.2.1 k).1 (r.2.1 k).2.1 (r.2.1 k).2.2.1).before args s = true :=
    u_lays (ws := u_ws r.1 r.2.1 r.2.2) (fun c hc => aw_word hw hE (hin c hc).1 (hin c hc).2) (fun _ h => h) hkr
  have hkk := kk w p l e R s m args below meth c H locs cells slots rl hw hE hR hH hL (fun u hu => by
    rcases List.mem_cons.mp hu with rfl | hu
    · have := hH.2.2.2.2.2 a
      rw [ha] at this
      exact this _ (List.mem_of_getElem? hv)
    · exact hst u (aw_1 u hu)) hlo
  have hslot : cell.slots[f.slot]? = some (aw_tr w v) := by rw [hsl, q4 k hkr, vp_map hv]
  show W p l e R s m args below meth c H locs cells slots _ (F0 m pc rl (aw_tr w (.inr a) :: st.map (aw_tr w)))
  rw [aw_tr_ref (by omega)]
  rcases hlk with hlk | ⟨host, hlk⟩
  · exact W.getf hE.1 hE.2.1 hE.2.2.2.2.2.2.1 (aw_word hw hE hlk rfl) hi (u_facts hfc hkC hlay hi).1 q1 (by rw [q3]; exact fun h => by cases h) hslot rfl rfl hd hkk
  · exact va_Wgetf hE.1 hE.2.1 hE.2.2.2.2.2.2.1 (aw_warmN hw hE hlk) hi (u_facts hfc hkC hlay hi).1 q1 (by rw [q3]; exact fun h => by cases h) hslot rfl rfl hd hkk
theorem aw_rc_set {vs : List AV} {k : Nat} {v : AV} (h1 : ∀ u ∈ vs, RV u) (h2 : RV v) : ∀ u ∈ vs.set k v, RV u := fun u hu => by
  rcases List.mem_or_eq_of_mem_set hu with q | q
  · exact h1 u q
  · rw [q]; exact h2
theorem vp_set_map {w : Om} {vs : List AV} {k : Nat} {v : AV} (hl : k < vs.length) (j : Nat) : updV (vp_V (vs.map (aw_tr w))) k (aw_tr w v) j = vp_V ((vs.set k v).map (aw_tr w)) j := by
  rw [List.map_set]
  exact vp_updV_set (by rw [List.length_map]; exact hl) _ j
set_option maxHeartbeats 4000000 in
theorem AW.putf (hd : decode M.2.1 pc = .ok (.putfield idx, 3)) (hf : GP M.1.cls idx t k) (ha : h.2 a = .inl (t + 1, vs)) (hfit : a_fit (tyC t k) v) (kk : AW d bc bs M Q (pc + 3) ls st (hset h a (.inl (t + 1, vs.set k v)))) : AW d bc bs M Q pc ls (v :: .inr a :: st) h := by
  intro w p l e R s m args below meth c H locs cells slots rl hw hE hR hH hL hst hlo
  obtain ⟨q, hlk, ⟨r, hr, hkr, hq⟩, hfin⟩ := hf
  subst hq
  have ht : t < 32 := by
    have := (List.getElem?_eq_some_iff.mp hr).1
    have h13 : vwCl.length = 13 := rfl
    omega
  obtain ⟨r', hr', hlen, cell, q1, q2, q3, q4⟩ := aw_obj hH ha ht
  cases hr.symm.trans hr'
  have hg := aw_ge hH ha
  have hK := aw_K hw hE
  obtain ⟨hS, hfc, kC, hkC, hkind⟩ := hK.1 t _ hr
  obtain ⟨cf, kf, fi, f, hi, hsl⟩ := hS k hkr
  obtain ⟨hin, hnm, hty⟩ := cls_ok t r hr
  have hts : ∀ c ∈ u_ws r.1 r.2.1 r.2.2, c.before args s = true := fun c hc => aw_word hw hE (hin c hc).1 (hin c hc).2
  have hap := va_apart (own := M.1.cls) (C := r.1) (T := r.2.1) (N := r.2.2) hts (fun _ h => h) (tyC t) hty hnm hK hr
  have hlay := hts _ (u_in_lay hkr)
  unfold u_lay at hlay
  rw [if_neg (by rw [hfin]; decide)] at hlay
  have hst1 := (u_facts hfc hkC (Or.inl hlay) hi).1
  obtain ⟨hn, hft⟩ := a_fit_ok (w := w) hfit
  have h6 := u_store hfc hkC hkind hlay hi (hty k hkr) hn hft
  show W p l e R s m args below meth c H locs cells slots _ (F0 m pc rl (aw_tr w v :: aw_tr w (.inr a) :: st.map (aw_tr w)))
  rw [aw_tr_ref (a := a) (by omega)]
  have fin : ∀ H' : Heap, H'[aw_adr w a]? = some (cell.setSlot f.slot (aw_tr w v)) → H'.size = H.size → (∀ q, q ≠ aw_adr w a → H'[q]? = H[q]?) → W p l e R s m args below meth c H' (locs ++ [⟨aw_adr w a, f.slot⟩]) cells slots (MQ below (aw_Qc w Q) args s (cells + bc) (slots + bs) (fun q => w.1.heap.size ≤ q)) (F0 m (pc + 3) rl (st.map (aw_tr w))) := by
    intro H' e1 e2 e3
    refine kk w p l e R s m args below meth c H' _ cells slots rl hw hE hR ?_ hL (fun u hu => hst u (aw_2 u hu)) (fun q hq => ?_)
    · refine aw_RH_set hH hg.1 hg.2 e2 e3 ?_ ?_
      · simp only [aw_CO, if_pos ht]
        rw [hsl] at e1
        exact ⟨r, hr, by rw [List.length_set]; exact hlen, t_OB.to (V := updV (vp_V (vs.map (aw_tr w))) k (aw_tr w v)) ⟨_, e1, q2, q3, t_set q4 hap hkr _⟩ (fun j _ => vp_set_map (by omega) j)⟩
      · have := hH.2.2.2.2.2 a
        rw [ha] at this
        exact aw_rc_set this (hst v List.mem_cons_self)
    · rcases List.mem_append.mp hq with h1 | h1
      · exact hlo q h1
      · rw [List.mem_singleton.mp h1]
        show w.1.heap.size ≤ aw_adr w a
        rw [aw_adr_ge hg.1]
        omega
  rcases hlk with hlk | ⟨host, hlk⟩
  · exact W.putK hE.1 hE.2.1 (f := f) ⟨hE.2.2.2.2.2.2.1, aw_word hw hE hlk rfl, ⟨_, _, _, hi⟩, hst1⟩ (by rw [q2]; exact h6) q1 q3 (by rw [hsl]; exact k2_hasslot (q4 k hkr)) rfl rfl hd fin
  · exact va_WputK hE.1 hE.2.1 (f := f) hE.2.2.2.2.2.2.1 (aw_warmN hw hE hlk) hi hst1 (by rw [q2]; exact h6) q1 q3 (by rw [hsl]; exact k2_hasslot (q4 k hkr)) rfl rfl hd fin
set_option maxHeartbeats 4000000 in
theorem AW.putF (hd : decode M.2.1 pc = .ok (.putfield idx, 3)) (hf : GPF M.1.cls idx t k) (hini : M.1.name = "<init>") (ha : h.2 a = .inl (t + 1, vs)) (hfit : a_fit (tyC t k) v) (kk : AW d bc bs M Q (pc + 3) ls st (hset h a (.inl (t + 1, vs.set k v)))) : AW d bc bs M Q pc ls (v :: .inr a :: st) h := by
  intro w p l e R s m args below meth c H locs cells slots rl hw hE hR hH hL hst hlo
  obtain ⟨q, hlk, ⟨r, hr, hkr, hq⟩, hfin, hdecl⟩ := hf
  subst hq
  have ht : t < 32 := by
    have := (List.getElem?_eq_some_iff.mp hr).1
    have h13 : vwCl.length = 13 := rfl
    omega
  obtain ⟨r', hr', hlen, cell, q1, q2, q3, q4⟩ := aw_obj hH ha ht
  cases hr.symm.trans hr'
  have hg := aw_ge hH ha
  have hK := aw_K hw hE
  obtain ⟨hS, hfc, kC, hkC, hkind⟩ := hK.1 t _ hr
  obtain ⟨cf, kf, fi, f, hi, hsl⟩ := hS k hkr
  obtain ⟨hin, hnm, hty⟩ := cls_ok t r hr
  have hts : ∀ c ∈ u_ws r.1 r.2.1 r.2.2, c.before args s = true := fun c hc => aw_word hw hE (hin c hc).1 (hin c hc).2
  have hap := va_apart (own := M.1.cls) (C := r.1) (T := r.2.1) (N := r.2.2) hts (fun _ h => h) (tyC t) hty hnm hK hr
  have hlay := hts _ (u_in_lay hkr)
  unfold u_lay at hlay
  rw [if_pos hfin] at hlay
  have hst1 := (u_facts hfc hkC (Or.inr hlay) hi).1
  obtain ⟨hn, hft⟩ := a_fit_ok (w := w) hfit
  have h6 := u_fits hfc hkC hkind (Or.inr hlay) hi (hty k hkr) hn hft
  have hcf : m.cls = cf := by
    obtain ⟨_, _, c', _, _, _, -, -, hf', -, -, -, hown2, -⟩ := Cond.laysFinal_spec hlay
    have e1 : c' = cf := by have := hi.symm.trans hf'; simp at this; exact this.1.symm
    rw [hdecl] at hown2
    rw [← e1]; exact Option.some.inj (hE.2.2.2.2.2.2.1.symm.trans hown2)
  show W p l e R s m args below meth c H locs cells slots _ (F0 m pc rl (aw_tr w v :: aw_tr w (.inr a) :: st.map (aw_tr w)))
  rw [aw_tr_ref (a := a) (by omega)]
  refine W.putFinK hE.1 hE.2.1 hE.2.2.2.2.2.2.1 (aw_word hw hE hlk rfl) hi hst1 hcf (hE.2.2.2.2.2.1 hini) (by rw [q2]; exact h6) q1 q3 (by rw [hsl]; exact k2_hasslot (q4 k hkr)) rfl rfl hd ?_
  intro H' e1 e2 e3
  refine kk w p l e R s m args below meth c H' _ cells slots rl hw hE hR ?_ hL (fun u hu => hst u (aw_2 u hu)) (fun q hq => ?_)
  · refine aw_RH_set hH hg.1 hg.2 e2 e3 ?_ ?_
    · simp only [aw_CO, if_pos ht]
      rw [hsl] at e1
      exact ⟨r, hr, by rw [List.length_set]; exact hlen, t_OB.to (V := updV (vp_V (vs.map (aw_tr w))) k (aw_tr w v)) ⟨_, e1, q2, q3, t_set q4 hap hkr _⟩ (fun j _ => vp_set_map (by omega) j)⟩
    · have := hH.2.2.2.2.2 a
      rw [ha] at this
      exact aw_rc_set this (hst v List.mem_cons_self)
  · rcases List.mem_append.mp hq with h1 | h1
    · exact hlo q h1
    · rw [List.mem_singleton.mp h1]
      show w.1.heap.size ≤ aw_adr w a
      rw [aw_adr_ge hg.1]
      omega
/-! rows of ints -/
theorem AW.iaload {n : Nat} {f : Nat → Int} {j : Int} (hd : decode M.2.1 pc = .ok (.iaload, 1)) (ha : h.2 a = .inr (n, f)) (h0 : 0 ≤ j) (h1 : j < n) (kk : AW d bc bs M Q (pc + 1) ls (.inl (f j.toNat) :: st) h) : AW d bc bs M Q pc ls (.inl j :: .inr a :: st) h := by
  intro w p l e R s m args below meth c H locs cells slots rl hw hE hR hH hL hst hlo
  have hrj : RI j := ri_hd hst
  have hkk := kk w p l e R s m args below meth c H locs cells slots rl hw hE hR hH hL (fun u hu => by
    rcases List.mem_cons.mp hu with rfl | hu
    · have := hH.2.2.2.2.2 a
      rw [ha] at this
      exact this _
    · exact hst u (aw_2 u hu)) hlo
  show W p l e R s m args below meth c H locs cells slots _ (F0 m pc rl (.int (Int32.ofInt j) :: aw_tr w (.inr a) :: st.map (aw_tr w)))
  rcases Nat.lt_or_ge a 16 with q | q
  · obtain ⟨g0, g5, gn, cell, c1, c2, c3, c4, c5, c6, c7⟩ := aw_stat hH q ha
    rw [aw_tr_ref g0, show aw_adr w a = w.2.1 a from if_pos q]
    have hlt := (Array.getElem?_eq_some_iff.mp c1).1
    refine W.iald (v := .int (Int32.ofInt (f j.toNat))) hE.1 hE.2.1 (by rw [hH.2.1 _ hlt]; exact c1) (State.isArrayOf_alike hE.2.2.2.2.2.2.2.alike c2) c3 ?_ ?_ rfl rfl hd hkk
    · rw [ri_nat hrj, ri_z, ri_lt hrj ri_0]
      omega
    · rw [ri_nat hrj]
      exact c6 _ (by omega)
  · rw [aw_tr_ref (by omega)]
    have c1 := aw_ints hH q ha
    refine W.iald (v := .int (Int32.ofInt (f j.toNat))) hE.1 hE.2.1 c1 (((aw_K hw hE).2 0 _ rfl).1 n _) (fun q => by cases q) ?_ ?_ rfl rfl hd hkk
    · rw [arrV_size]
      exact ri_in hrj h0 h1
    · rw [ri_nat hrj, arrV_read _ _ (by omega)]
theorem aw_loc {w : Om} {a i : Nat} {locs : List Loc} (h16 : 16 ≤ a) (hlo : ∀ q ∈ locs, w.1.heap.size ≤ q.base) : ∀ q ∈ locs ++ [⟨aw_adr w a, i⟩], w.1.heap.size ≤ q.base := fun q hq => by
  rcases List.mem_append.mp hq with h1 | h1
  · exact hlo q h1
  · rw [List.mem_singleton.mp h1]
    show w.1.heap.size ≤ aw_adr w a
    rw [aw_adr_ge h16]
    omega
theorem AW.iastore {n : Nat} {f : Nat → Int} {j : Int} (hd : decode M.2.1 pc = .ok (.iastore, 1)) (h16 : 16 ≤ a) (ha : h.2 a = .inr (n, f)) (h0 : 0 ≤ j) (h1 : j < n) (kk : AW d bc bs M Q (pc + 1) ls st (hset h a (.inr (n, updI f j.toNat x)))) : AW d bc bs M Q pc ls (.inl x :: .inl j :: .inr a :: st) h := by
  intro w p l e R s m args below meth c H locs cells slots rl hw hE hR hH hL hst hlo
  have hrj : RI j := ri_hd2 hst
  show W p l e R s m args below meth c H locs cells slots _ (F0 m pc rl (.int (Int32.ofInt x) :: .int (Int32.ofInt j) :: aw_tr w (.inr a) :: st.map (aw_tr w)))
  rw [aw_tr_ref (by omega)]
  have c1 := aw_ints hH h16 ha
  refine W.iast hE.1 hE.2.1 c1 (((aw_K hw hE).2 0 _ rfl).1 n _) (fun q => by cases q) (by rw [arrV_size]; exact ri_in hrj h0 h1) rfl rfl hd ?_
  intro H' e1 e2 e3
  refine kk w p l e R s m args below meth c H' _ cells slots rl hw hE hR ?_ hL (fun u hu => hst u (List.mem_cons_of_mem _ (aw_2 u hu))) (aw_loc h16 hlo)
  refine aw_RH_set hH h16 (aw_lt hH ha) e2 e3 ?_ ?_
  · show H'[aw_adr w a]? = _
    rw [e1, arrV_store, ri_nat hrj]
    congr 2
    funext q
    by_cases hq : q = j.toNat
    · simp [updV, updI, hq]
    · simp [updV, updI, hq]
  · intro i
    show RI (updI f j.toNat x i)
    unfold updI
    split
    · exact hst _ List.mem_cons_self
    · have := hH.2.2.2.2.2 a
      rw [ha] at this
      exact this i
theorem AW.alen {n : Nat} {f : Nat → Int} (hd : decode M.2.1 pc = .ok (.arraylength, 1)) (ha : h.2 a = .inr (n, f)) (hn : n < 2147483648) (kk : AW d bc bs M Q (pc + 1) ls (.inl (n : Int) :: st) h) : AW d bc bs M Q pc ls (.inr a :: st) h := by
  intro w p l e R s m args below meth c H locs cells slots rl hw hE hR hH hL hst hlo
  have hkk := kk w p l e R s m args below meth c H locs cells slots rl hw hE hR hH hL (fun u hu => by
    rcases List.mem_cons.mp hu with rfl | hu
    · exact ⟨by omega, by omega⟩
    · exact hst u (aw_1 u hu)) hlo
  show W p l e R s m args below meth c H locs cells slots _ (F0 m pc rl (aw_tr w (.inr a) :: st.map (aw_tr w)))
  have en : Int32.ofNat n = Int32.ofInt (n : Int) := rfl
  rcases Nat.lt_or_ge a 16 with q | q
  · obtain ⟨g0, g5, gn, cell, c1, c2, c3, c4, c5, c6, c7⟩ := aw_stat hH q ha
    rw [aw_tr_ref g0, show aw_adr w a = w.2.1 a from if_pos q]
    have hlt := (Array.getElem?_eq_some_iff.mp c1).1
    exact W.alen hE.1 hE.2.1 (by rw [hH.2.1 _ hlt]; exact c1) (State.isArrayOf_alike hE.2.2.2.2.2.2.2.alike c2) (c5.trans en) rfl rfl hd hkk
  · rw [aw_tr_ref (by omega)]
    have c1 := aw_ints hH q ha
    exact W.alen hE.1 hE.2.1 c1 (((aw_K hw hE).2 0 _ rfl).1 n _) (by rw [arrV_size]; exact en) rfl rfl hd hkk
end Hr
