def aw_room (d bc bs : Nat) : Room := { frames := d, cells := bc, slots := bs, locals := 40 * d }
theorem aw_sl (w : Om) (vs : List AV) : lg_sl (vs.map (aw_tr w)) = vs.map (fun v => Slot.val (aw_tr w v)) := by
  induction vs with
  | nil => rfl
  | cons v t ih =>
    have h1 : (aw_tr w v).category = 1 := aw_cat w v
    unfold lg_sl at ih ⊢
    rw [List.map_cons, List.flatMap_cons, ih, if_neg (by rw [h1]; decide)]
    rfl
theorem aw_entry {w : Om} {vs : List AV} {n : Nat} (hn : vs.length ≤ n) (hv : ∀ v ∈ vs, RV v) : aw_LR w ((lg_sl (vs.map (aw_tr w)) ++ List.replicate (n - (lg_sl (vs.map (aw_tr w))).length) Slot.unset).toArray) n (vs.map some ++ List.replicate (n - vs.length) none) := by
  have hl : (lg_sl (vs.map (aw_tr w))).length = vs.length := by rw [aw_sl, List.length_map]
  obtain ⟨g1, g2, -⟩ := lv_entry (vs.map (aw_tr w)) (n := n) (by rw [hl]; exact hn)
  refine ⟨g1, g2, by simp; omega, fun i v hi => ?_⟩
  rcases Nat.lt_or_ge i vs.length with q | q
  · rw [List.getElem?_append_left (by rw [List.length_map]; exact q), List.getElem?_map, List.getElem?_eq_getElem q] at hi
    simp only [Option.map_some, Option.some.injEq] at hi
    subst hi
    refine ⟨?_, hv _ (List.getElem_mem q)⟩
    rw [List.getElem?_toArray, List.getElem?_append_left (by rw [hl]; exact q), aw_sl, List.getElem?_map, List.getElem?_eq_getElem q]
    rfl
  · rw [List.getElem?_append_right (by rw [List.length_map]; exact q), List.getElem?_replicate] at hi
    split at hi
    · cases hi
    · cases hi
/-- what a callee is, in the tables -/
def MOK (N : MT) (n : Nat) : Prop := plainName N.1.cls = true ∧ N.2.2.1 ≤ 20 ∧ (N.1.cls ≠ "java/lang/invoke/MethodHandle" ∧ N.1.cls ≠ "java/lang/invoke/VarHandle") ∧ (parseMethodDescriptor N.1.desc).map (fun d => d.parameters.length) = some n ∧ Cond.code N.1 N.2.1 N.2.2.1 N.2.2.2 ∈ tables_1 ∧ Cond.initialized N.1.cls ∈ tables_1
def aw_Pc (w : Om) (H : Heap) (vs : List AV) : Array Value → State → Prop := fun v U => v = (vs.map (aw_tr w)).toArray ∧ U.heap = H ∧ w.1.WarmedH U.vm
theorem aw_met {w : Om} {d bc bs : Nat} {N : MT} {vs : List AV} {h : AH} {H : Heap} {K : Option AV → AH → Prop} {n : Nat} (l : Launch) (hw : aw_Wd w) (hN : MOK N n) (hH : aw_RH w H h) (hv : ∀ v ∈ vs, RV v) (hlen : vs.length ≤ N.2.2.1) (k : MW d bc bs N vs h K) :
    Met l N.1 [Cond.code N.1 N.2.1 N.2.2.1 N.2.2.2] (aw_room d bc bs) (aw_Pc w H vs) (aw_Qc w K) bc bs (fun q => w.1.heap.size ≤ q) := by
  refine Met.ofW (cc := N.2.1) (maxL := N.2.2.1) (ret := N.2.2.2) (ws' := []) hN.1 rfl ?_
  intro p e s m args below meth c s₁ B hml hp
  obtain ⟨rfl, hh, hwm⟩ := hp
  rw [lg_entry_eq]
  have hk := k w p l e (aw_room d bc bs) s m (vs.map (aw_tr w)).toArray below meth c s.heap [] 0 0 _ hw ⟨B.exec, B.bytes, hml, B.returns, B.notSynchronized, fun hi => (name_of_methodNamed B.named B.method).1.trans hi, findClass_of_methodNamed B.named, hwm⟩ ⟨Nat.le_refl _, Nat.le_refl _, by simp [aw_room], by simp [aw_room]⟩ (by rw [hh]; exact hH) (aw_entry hlen hv) (fun v hv => by cases hv) (fun q hq => by cases hq)
  rw [Nat.zero_add, Nat.zero_add] at hk
  exact hk
def aw_rc (rc : Option Nat) (n : Nat) (vs : List AV) (h : AH) : Prop := match rc with
  | none => vs.length = n
  | some t => vs.length = n + 1 ∧ ∃ (a : Nat) (fs tl : List AV), vs = .inr a :: tl ∧ h.2 a = .inl (t + 1, fs) ∧ t < 32
/-- a place in M's code from which N is called; rc: the class of the receiver, if there is one -/
def Site (M : MT) (ins : Instr) (N : MT) (n : Nat) (rc : Option Nat) : Prop := ∀ (w : Om) (p : Program) (l : Launch) (e : Env) (R : Room) (s : State) (m : MethodId) (args : Array Value) (below : List Frame) (meth : Method) (c : Code) (H : Heap) (locs : List Loc) (cells slots d bc bs pc : Nat) (vs rest : List AV) (h : AH) (rl : Array Slot) (Qc : Array Value → State → Outcome → State → Prop),
  aw_Wd w → aw_En w M p s m meth c → aw_RH w H h → Met l N.1 [Cond.code N.1 N.2.1 N.2.2.1 N.2.2.2] (aw_room d bc bs) (aw_Pc w H vs) Qc bc bs (fun q => w.1.heap.size ≤ q) →
  d + 1 ≤ R.frames → 40 * (d + 1) ≤ R.locals → cells + bc ≤ R.cells → slots + bs ≤ R.slots → rl.size = M.2.2.1 → decode M.2.1 pc = .ok (ins, 3) → rest.length ≤ 8 →
  aw_rc rc n vs h →
  va_Run p l e R s m args below meth c H locs cells slots bc bs (F0 m pc rl ((vs.reverse ++ rest).map (aw_tr w))) (rest.map (aw_tr w)) (Qc (vs.map (aw_tr w)).toArray) (fun q => w.1.heap.size ≤ q)
section Call
variable {d d' bc bs bc' bs' bc'' bs'' : Nat} {M N : MT} {Q : Option AV → AH → Prop} {pc n : Nat} {ls : List (Option AV)} {st rest vs : List AV} {h : AH} {ins : Instr} {rc : Option Nat}
theorem AW.call (hs : Site M ins N n rc) (hN : MOK N n) (hd : decode M.2.1 pc = .ok (ins, 3)) (hdp : d' + 1 ≤ d) (hrest : rest.length ≤ 8) (hb : bc = bc' + bc'') (hbs : bs = bs' + bs'') (hst0 : st = vs.reverse ++ rest) (hvs : vs.length ≤ N.2.2.1)
    (hrc : aw_rc rc n vs h)
    (k : MW d' bc' bs' N vs h (fun r h' => AW d bc'' bs'' M Q (pc + 3) ls (r.toList ++ rest) h')) : AW d bc bs M Q pc ls st h := by
  subst hb; subst hbs; subst hst0
  intro w p l e R s m args below meth c H locs cells slots rl hw hE hR hH hL hst hlo
  have hvv : ∀ v ∈ vs, RV v := fun v hv => hst v (List.mem_append_left _ (List.mem_reverse.mpr hv))
  have hrr : ∀ v ∈ rest, RV v := fun v hv => hst v (List.mem_append_right _ hv)
  have hM := aw_met l hw hN hH hvv hvs k
  have hrun := hs w p l e R s m args below meth c H locs cells slots d' bc' bs' pc vs rest h rl _ hw hE hH hM (by omega) (by omega) (by omega) (by omega) hL.1 hd hrest hrc
  intro T hT X
  obtain ⟨v, st₀, t, T', L, h0, X', hlL, e1, e2, ⟨r, h', hk, hv, hH', hrv⟩, go⟩ := hrun T hT X
  cases hv
  have hk2 := hk w p l e R s m args below meth c T'.heap (locs ++ L) (cells + bc') (slots + bs') rl hw hE ⟨hR.1, hR.2.1, by omega, by omega⟩ (by rw [e1]; exact hH') hL (fun u hu => by
    rcases List.mem_append.mp hu with q | q
    · cases r with
      | none => cases q
      | some z =>
        rw [List.mem_singleton.mp q]
        exact hrv z rfl
    · exact hrr u q) (fun q hq => by
    rcases List.mem_append.mp hq with z | z
    · exact hlo q z
    · exact hlL q z)
  rw [show cells + bc' + bc'' = cells + (bc' + bc'') by omega, show slots + bs' + bs'' = slots + (bs' + bs'') by omega] at hk2
  obtain ⟨t2, a1, b1⟩ := hk2 T' rfl X'
  refine ⟨t2, go t2 ?_, b1⟩
  have e3 : (r.toList ++ rest).map (aw_tr w) = (r.map (aw_tr w)).toList ++ rest.map (aw_tr w) := by cases r <;> simp
  rw [e3] at a1
  exact a1
end Call
section Sites
variable {M N : MT} {n idx t : Nat}
theorem aw_codes {w : Om} {p : Program} {s : State} {m : MethodId} {meth : Method} {c : Code} (hw : aw_Wd w) (hE : aw_En w M p s m meth c) (hN : MOK N n) : ∀ q ∈ [Cond.code N.1 N.2.1 N.2.2.1 N.2.2.2], ∀ (a' : Array Value) (U : State), s.WarmedH U.vm → q.before a' U = true := by
  intro q hq a' U hU
  rw [List.mem_singleton.mp hq]
  exact word_at (State.WarmedH.trans hE.2.2.2.2.2.2.2 hU) (good_of_word rfl) (hw.1 _ (List.mem_append_right _ hN.2.2.2.2.1))
theorem aw_blind {w : Om} {H : Heap} {vs : List AV} : FrameBlind (aw_Pc w H vs) := fun a U g mk h => h
theorem aw_cats (w : Om) (rest : List AV) (h8 : rest.length ≤ 8) (m : MethodId) (pc : Nat) (rl : Array Slot) (st : List Value) : 2 * (F0 m pc rl st).monitorRoom + ((rest.map (aw_tr w)).map fun v => v.category).sum ≤ 8 := by
  have : ∀ l : List AV, ((l.map (aw_tr w)).map fun v => v.category).sum = l.length := by
    intro l
    induction l with
    | nil => rfl
    | cons v t ih =>
      simp only [List.map_cons, List.sum_cons, List.length_cons]
      rw [ih, aw_cat]
      omega
  rw [this]
  show 2 * 0 + _ ≤ 8
  omega
theorem aw_params (hN : MOK N n) : ∀ sig, parseMethodDescriptor N.1.desc = some sig → n = sig.parameters.length := fun sig h => by
  have h2 := hN.2.2.2.1
  rw [h] at h2
  exact (Option.some.inj h2).symm
theorem aw_recv {w : Om} {p : Program} {s : State} {m : MethodId} {meth : Method} {c : Code} {H : Heap} {h : AH} {a : Nat} {fs : List AV} (hw : aw_Wd w) (hE : aw_En w M p s m meth c) (hH : aw_RH w H h) (ha : h.2 a = .inl (t + 1, fs)) (ht : t < 32) {r : vw_C} (hr : vwCl[t]? = some r) : ∃ cellB : Cell, H[aw_adr w a]? = some cellB ∧ cellB.vm.isStatics = false ∧ s.vm.findClass r.1 = some cellB.cls := by
  obtain ⟨r', hr', hlen, cell, q1, q2, q3, q4⟩ := aw_obj hH ha ht
  cases hr.symm.trans hr'
  refine ⟨cell, q1, by rw [q3]; rfl, ?_⟩
  rw [q2]
  exact ((aw_K hw hE).1 t _ hr).2.1
/-- an instance method as it is named -/
theorem Site.V {C : String} {T : u_T} {nf : Nat} (hN : MOK N n) (hr : vwCl[t]? = some (C, T, nf)) (h1 : Cond.methodLink M.1.cls idx N.1 ∈ lw_tbl) (h2 : Cond.instanceMethod N.1 ∈ lw_tbl) (h3 : Cond.selects C N.1 N.1 ∈ lw_tbl) : Site M (.invokevirtual idx) N n (some t) := by
  intro w p l e R s m args below meth c H locs cells slots d bc bs pc vs rest h rl Qc hw hE hH hM r1 r2 r3 r4 hl hd h8 ⟨hvn, a, fs, tl, hvs, ha, ht⟩
  subst hvs
  have hg := aw_ge hH ha
  have hm : (List.map (aw_tr w) (.inr a :: tl)).toArray = (Value.ref (aw_adr w a) :: tl.map (aw_tr w)).toArray := by rw [List.map_cons, aw_tr_ref (by omega)]
  have hm2 : ((.inr a :: tl).reverse ++ rest).map (aw_tr w) = (tl.map (aw_tr w)).reverse ++ .ref (aw_adr w a) :: rest.map (aw_tr w) := by
    simp only [List.reverse_cons, List.append_assoc, List.map_append, List.map_reverse, List.map_cons, List.map_nil, List.singleton_append, List.cons_append, List.nil_append]
    rw [aw_tr_ref (by omega)]
  rw [hm, hm2]
  refine va_runV (y := N.1) (bytes := N.2.1) (maxL := N.2.2.1) (ret := N.2.2.2) (n := n) (C := C) (own := M.1.cls) (Ts := []) ⟨hE.1, hE.2.1, hE.2.2.1, hE.2.2.2.2.2.2.1, fun _ h => by cases h⟩ hM ⟨⟨rfl, rfl, r1, ?_, aw_codes hw hE hN, List.mem_cons_self, aw_word hw hE (List.mem_append_right _ hN.2.2.2.2.1) rfl, aw_word hw hE (List.mem_append_right _ hN.2.2.2.2.2) rfl, hN.2.2.1, aw_params hN, aw_word hw hE h1 rfl⟩, aw_word hw hE h2 rfl, aw_word hw hE h3 rfl⟩ ⟨aw_blind, aw_recv hw hE hH ha ht hr, fun U hU hW => ⟨hm.symm, hU, State.WarmedH.trans hE.2.2.2.2.2.2.2 hW⟩⟩ rfl (by rw [List.length_map]; simpa using hvn) hl rfl (aw_cats w rest h8 _ _ _ _) hd ⟨r3, r4⟩
  have := hN.2.1
  show 8 + (N.2.2.1 + 11) + 40 * d ≤ R.locals
  omega
/-- a static method -/
theorem Site.S (hN : MOK N n) (h1 : Cond.methodLink M.1.cls idx N.1 ∈ lw_tbl) (h2 : Cond.static N.1 ∈ lw_tbl) : Site M (.invokestatic idx) N n none := by
  intro w p l e R s m args below meth c H locs cells slots d bc bs pc vs rest h rl Qc hw hE hH hM r1 r2 r3 r4 hl hd h8 hvn
  have hm2 : (vs.reverse ++ rest).map (aw_tr w) = (vs.map (aw_tr w)).reverse ++ rest.map (aw_tr w) := by
    simp only [List.map_append, List.map_reverse]
  rw [hm2]
  refine va_runS (y := N.1) (bytes := N.2.1) (maxL := N.2.2.1) (ret := N.2.2.2) (n := n) (own := M.1.cls) (Ts := []) ⟨hE.1, hE.2.1, hE.2.2.1, hE.2.2.2.2.2.2.1, fun _ h => by cases h⟩ hM ⟨⟨rfl, rfl, r1, ?_, aw_codes hw hE hN, List.mem_cons_self, aw_word hw hE (List.mem_append_right _ hN.2.2.2.2.1) rfl, aw_word hw hE (List.mem_append_right _ hN.2.2.2.2.2) rfl, hN.2.2.1, aw_params hN, aw_word hw hE h1 rfl⟩, aw_word hw hE h2 rfl⟩ ⟨aw_blind, fun U hU hW => ⟨rfl, hU, State.WarmedH.trans hE.2.2.2.2.2.2.2 hW⟩⟩ rfl (by rw [List.length_map]; exact hvn) hl rfl (aw_cats w rest h8 _ _ _ _) hd ⟨r3, r4⟩
  have := hN.2.1
  show 8 + (N.2.2.1 + 11) + 40 * d ≤ R.locals
  omega
theorem aw_warmM {w : Om} {p : Program} {s : State} {m : MethodId} {meth : Method} {c : Code} (hw : aw_Wd w) (hE : aw_En w M p s m meth c) {own host : String} {x : MethodName} (hq : Cond.methodLinkNest own idx x host ∈ lw_tbl) {args : Array Value} : (Cond.methodLinkNest own idx x host).before args s = true :=
  va_Nw.use rfl (va_Nw.warmM hE.2.2.2.2.2.2.2 (va_Nw.of rfl (hw.1 _ hq)))
/-- a private static method of a nest mate -/
theorem Site.SN {host : String} (hN : MOK N n) (h1 : Cond.methodLinkNest M.1.cls idx N.1 host ∈ lw_tbl) (h2 : Cond.static N.1 ∈ lw_tbl) : Site M (.invokestatic idx) N n none := by
  intro w p l e R s m args below meth c H locs cells slots d bc bs pc vs rest h rl Qc hw hE hH hM r1 r2 r3 r4 hl hd h8 hvn
  have hm2 : (vs.reverse ++ rest).map (aw_tr w) = (vs.map (aw_tr w)).reverse ++ rest.map (aw_tr w) := by
    simp only [List.map_append, List.map_reverse]
  rw [hm2]
  refine va_runSN (y := N.1) (bytes := N.2.1) (maxL := N.2.2.1) (ret := N.2.2.2) (n := n) (own := M.1.cls) (host := host) (Ts := []) ⟨hE.1, hE.2.1, hE.2.2.1, hE.2.2.2.2.2.2.1, fun _ h => by cases h⟩ hM ⟨⟨⟨rfl, rfl, r1, ?_, aw_codes hw hE hN, List.mem_cons_self⟩, aw_word hw hE (List.mem_append_right _ hN.2.2.2.2.1) rfl, aw_word hw hE (List.mem_append_right _ hN.2.2.2.2.2) rfl, hN.2.2.1, aw_params hN, aw_warmM hw hE h1⟩, aw_word hw hE h2 rfl, trivial⟩ ⟨aw_blind, fun U hU hW => ⟨rfl, hU, State.WarmedH.trans hE.2.2.2.2.2.2.2 hW⟩⟩ rfl (by rw [List.length_map]; exact hvn) hl rfl (aw_cats w rest h8 _ _ _ _) hd ⟨r3, r4⟩
  have := hN.2.1
  show 8 + (N.2.2.1 + 11) + 40 * d ≤ R.locals
  omega
/-- a constructor -/
theorem Site.I (hN : MOK N n) (hr : N.2.2.2 = none) (h0 : N.1.name = "<init>") (h1 : Cond.methodLink M.1.cls idx N.1 ∈ lw_tbl) (h2 : Cond.instanceMethod N.1 ∈ lw_tbl) : Site M (.invokespecial idx) N n (some t) := by
  intro w p l e R s m args below meth c H locs cells slots d bc bs pc vs rest h rl Qc hw hE hH hM r1 r2 r3 r4 hl hd h8 ⟨hvn, a, fs, tl, hvs, ha, ht⟩
  subst hvs
  have hg := aw_ge hH ha
  have hm : (List.map (aw_tr w) (.inr a :: tl)).toArray = (Value.ref (aw_adr w a) :: tl.map (aw_tr w)).toArray := by rw [List.map_cons, aw_tr_ref (by omega)]
  have hm2 : ((.inr a :: tl).reverse ++ rest).map (aw_tr w) = (tl.map (aw_tr w)).reverse ++ .ref (aw_adr w a) :: rest.map (aw_tr w) := by
    simp only [List.reverse_cons, List.append_assoc, List.map_append, List.map_reverse, List.map_cons, List.map_nil, List.singleton_append, List.cons_append, List.nil_append]
    rw [aw_tr_ref (by omega)]
  rw [hm, hm2]
  have hcd := aw_codes (n := n) hw hE hN
  have hcw : (Cond.code N.1 N.2.1 N.2.2.1 N.2.2.2).before args s = true := aw_word hw hE (List.mem_append_right _ hN.2.2.2.2.1) rfl
  rw [hr] at hM hcd hcw
  refine va_runI (y := N.1) (bytes := N.2.1) (maxL := N.2.2.1) (n := n) (own := M.1.cls) (Ts := []) ⟨hE.1, hE.2.1, hE.2.2.1, hE.2.2.2.2.2.2.1, fun _ h => by cases h⟩ hM ⟨⟨rfl, rfl, r1, ?_, hcd, List.mem_cons_self, hcw, aw_word hw hE (List.mem_append_right _ hN.2.2.2.2.2) rfl, hN.2.2.1, aw_params hN, aw_word hw hE h1 rfl⟩, h0, aw_word hw hE h2 rfl⟩ ⟨aw_blind, fun U hU hW => ⟨hm.symm, hU, State.WarmedH.trans hE.2.2.2.2.2.2.2 hW⟩⟩ rfl (by rw [List.length_map]; simpa using hvn) hl rfl (aw_cats w rest h8 _ _ _ _) hd ⟨r3, r4⟩
  have := hN.2.1
  show 8 + (N.2.2.1 + 11) + 40 * d ≤ R.locals
  omega
/-- a private constructor of a nest mate -/
theorem Site.IN {host : String} (hN : MOK N n) (hr : N.2.2.2 = none) (h0 : N.1.name = "<init>") (h1 : Cond.methodLinkNest M.1.cls idx N.1 host ∈ lw_tbl) (h2 : Cond.instanceMethod N.1 ∈ lw_tbl) : Site M (.invokespecial idx) N n (some t) := by
  intro w p l e R s m args below meth c H locs cells slots d bc bs pc vs rest h rl Qc hw hE hH hM r1 r2 r3 r4 hl hd h8 ⟨hvn, a, fs, tl, hvs, ha, ht⟩
  subst hvs
  have hg := aw_ge hH ha
  have hm : (List.map (aw_tr w) (.inr a :: tl)).toArray = (Value.ref (aw_adr w a) :: tl.map (aw_tr w)).toArray := by rw [List.map_cons, aw_tr_ref (by omega)]
  have hm2 : ((.inr a :: tl).reverse ++ rest).map (aw_tr w) = (tl.map (aw_tr w)).reverse ++ .ref (aw_adr w a) :: rest.map (aw_tr w) := by
    simp only [List.reverse_cons, List.append_assoc, List.map_append, List.map_reverse, List.map_cons, List.map_nil, List.singleton_append, List.cons_append, List.nil_append]
    rw [aw_tr_ref (by omega)]
  rw [hm, hm2]
  have hcd := aw_codes (n := n) hw hE hN
  have hcw : (Cond.code N.1 N.2.1 N.2.2.1 N.2.2.2).before args s = true := aw_word hw hE (List.mem_append_right _ hN.2.2.2.2.1) rfl
  rw [hr] at hM hcd hcw
  refine va_runIN (y := N.1) (bytes := N.2.1) (maxL := N.2.2.1) (n := n) (own := M.1.cls) (host := host) (Ts := []) ⟨hE.1, hE.2.1, hE.2.2.1, hE.2.2.2.2.2.2.1, fun _ h => by cases h⟩ hM ⟨⟨⟨rfl, rfl, r1, ?_, hcd, List.mem_cons_self⟩, hcw, aw_word hw hE (List.mem_append_right _ hN.2.2.2.2.2) rfl, hN.2.2.1, aw_params hN, aw_warmM hw hE h1⟩, h0, aw_word hw hE h2 rfl⟩ ⟨aw_blind, fun U hU hW => ⟨hm.symm, hU, State.WarmedH.trans hE.2.2.2.2.2.2.2 hW⟩⟩ rfl (by rw [List.length_map]; simpa using hvn) hl rfl (aw_cats w rest h8 _ _ _ _) hd ⟨r3, r4⟩
  have := hN.2.1
  show 8 + (N.2.2.1 + 11) + 40 * d ≤ R.locals
  omega
/-- a method that the receiver's class has from elsewhere, or of its own over another -/
theorem Site.U {C owner : String} {T : u_T} {nf : Nat} {x : MethodName} {b0 : ByteArray} {m0 : Nat} {r0 : Option FieldType} (hN : MOK N n) (hr : vwCl[t]? = some (C, T, nf)) (hx : parseMethodDescriptor x.desc = parseMethodDescriptor N.1.desc) (ho : owner ≠ "java/lang/invoke/MethodHandle" ∧ owner ≠ "java/lang/invoke/VarHandle") (h1 : Cond.methodLink M.1.cls idx x ∈ lw_tbl) (h2 : Cond.sameMethod x.cls owner x.name x.desc ∈ lw_tbl) (h3 : Cond.instanceMethod ⟨owner, x.name, x.desc⟩ ∈ lw_tbl) (h4 : Cond.code ⟨owner, x.name, x.desc⟩ b0 m0 r0 ∈ lw_tbl) (h5 : Cond.selects C x N.1 ∈ lw_tbl) (h6 : Cond.instanceMethod N.1 ∈ lw_tbl) : Site M (.invokevirtual idx) N n (some t) := by
  intro w p l e R s m args below meth c H locs cells slots d bc bs pc vs rest h rl Qc hw hE hH hM r1 r2 r3 r4 hl hd h8 ⟨hvn, a, fs, tl, hvs, ha, ht⟩
  subst hvs
  have hg := aw_ge hH ha
  have hm : (List.map (aw_tr w) (.inr a :: tl)).toArray = (Value.ref (aw_adr w a) :: tl.map (aw_tr w)).toArray := by rw [List.map_cons, aw_tr_ref (by omega)]
  have hm2 : ((.inr a :: tl).reverse ++ rest).map (aw_tr w) = (tl.map (aw_tr w)).reverse ++ .ref (aw_adr w a) :: rest.map (aw_tr w) := by
    simp only [List.reverse_cons, List.append_assoc, List.map_append, List.map_reverse, List.map_cons, List.map_nil, List.singleton_append, List.cons_append, List.nil_append]
    rw [aw_tr_ref (by omega)]
  rw [hm, hm2]
  refine va_runU (x := x) (y := N.1) (bytes := N.2.1) (maxL := N.2.2.1) (ret := N.2.2.2) (n := n) (C := C) (owner := owner) (own := M.1.cls) (Ts := []) ⟨hE.1, hE.2.1, hE.2.2.1, hE.2.2.2.2.2.2.1, fun _ h => by cases h⟩ hM ⟨⟨rfl, rfl, r1, ?_, aw_codes hw hE hN, List.mem_cons_self⟩, aw_word hw hE (List.mem_append_right _ hN.2.2.2.2.1) rfl, aw_word hw hE (List.mem_append_right _ hN.2.2.2.2.2) rfl, ho, fun sig h => aw_params hN sig (hx ▸ h), aw_word hw hE h1 rfl, aw_word hw hE h2 rfl, va_Decl.of (args := args) (aw_word hw hE h3 rfl) (aw_word hw hE h4 rfl), aw_word hw hE h5 rfl, aw_word hw hE h6 rfl⟩ ⟨aw_blind, aw_recv hw hE hH ha ht hr, fun U hU hW => ⟨hm.symm, hU, State.WarmedH.trans hE.2.2.2.2.2.2.2 hW⟩⟩ rfl (by rw [List.length_map]; simpa using hvn) hl rfl (aw_cats w rest h8 _ _ _ _) hd ⟨r3, r4⟩
  have := hN.2.1
  show 8 + (N.2.2.1 + 11) + 40 * d ≤ R.locals
  omega
/-- super.m(..) -/
theorem Site.SU {C : String} {T : u_T} {nf : Nat} (hN : MOK N n) (hr : vwCl[t]? = some (C, T, nf)) (h0 : N.1.name ≠ "<init>") (h1 : Cond.methodLink M.1.cls idx N.1 ∈ lw_tbl) (h2 : Cond.sameMethod N.1.cls N.1.cls N.1.name N.1.desc ∈ lw_tbl) (h3 : Cond.superclass M.1.cls N.1.cls ∈ lw_tbl) (h4 : Cond.instanceMethod N.1 ∈ lw_tbl) : Site M (.invokespecial idx) N n (some t) := by
  intro w p l e R s m args below meth c H locs cells slots d bc bs pc vs rest h rl Qc hw hE hH hM r1 r2 r3 r4 hl hd h8 ⟨hvn, a, fs, tl, hvs, ha, ht⟩
  subst hvs
  have hg := aw_ge hH ha
  have hm : (List.map (aw_tr w) (.inr a :: tl)).toArray = (Value.ref (aw_adr w a) :: tl.map (aw_tr w)).toArray := by rw [List.map_cons, aw_tr_ref (by omega)]
  have hm2 : ((.inr a :: tl).reverse ++ rest).map (aw_tr w) = (tl.map (aw_tr w)).reverse ++ .ref (aw_adr w a) :: rest.map (aw_tr w) := by
    simp only [List.reverse_cons, List.append_assoc, List.map_append, List.map_reverse, List.map_cons, List.map_nil, List.singleton_append, List.cons_append, List.nil_append]
    rw [aw_tr_ref (by omega)]
  rw [hm, hm2]
  refine va_runSU (C := C) (y := N.1) (bytes := N.2.1) (maxL := N.2.2.1) (ret := N.2.2.2) (n := n) (own := M.1.cls) (Ts := []) ((aw_K hw hE).1 t _ hr).2 ⟨hE.1, hE.2.1, hE.2.2.1, hE.2.2.2.2.2.2.1, fun _ h => by cases h⟩ hM ⟨⟨rfl, rfl, r1, ?_, aw_codes hw hE hN, List.mem_cons_self⟩, aw_word hw hE h1 rfl, aw_word hw hE h2 rfl, aw_word hw hE h3 rfl, aw_word hw hE h4 rfl, aw_word hw hE (List.mem_append_right _ hN.2.2.2.2.2) rfl, aw_word hw hE (List.mem_append_right _ hN.2.2.2.2.1) rfl, h0, aw_params hN⟩ ⟨aw_blind, aw_recv hw hE hH ha ht hr, fun U hU hW => ⟨hm.symm, hU, State.WarmedH.trans hE.2.2.2.2.2.2.2 hW⟩⟩ rfl (by rw [List.length_map]; simpa using hvn) hl rfl (aw_cats w rest h8 _ _ _ _) hd ⟨r3, r4⟩
  have := hN.2.1
  show 8 + (N.2.2.1 + 11) + 40 * d ≤ R.locals
  omega
end Sites
section Obj
variable {d bc bs : Nat} {M : MT} {Q : Option AV → AH → Prop} {pc idx a : Nat} {ls : List (Option AV)} {st : List AV} {h : AH} {x y : Int}
theorem oi_1 : Cond.instanceMethod Lib.objectInit ∈ tables_1 := by decide +kernel
theorem oi_2 : Cond.code Lib.objectInit ⟨#[0xb1]⟩ 1 none ∈ tables_1 := by decide +kernel
theorem AW.objInit {t : Nat} {vs : List AV} (hd : decode M.2.1 pc = .ok (.invokespecial idx, 3)) (hs : Cond.methodLink M.1.cls idx Lib.objectInit ∈ tables_1) (h1 : 1 ≤ d) (ha : h.2 a = .inl (t + 1, vs)) (h8 : st.length ≤ 8) (kk : AW d bc bs M Q (pc + 3) ls st h) : AW d bc bs M Q pc ls (.inr a :: st) h := by
  intro w p l e R s m args below meth c H locs cells slots rl hw hE hR hH hL hst hlo
  have hg := aw_ge hH ha
  show W p l e R s m args below meth c H locs cells slots _ (F0 m pc rl (aw_tr w (.inr a) :: st.map (aw_tr w)))
  rw [aw_tr_ref (by omega)]
  have h8' := aw_cats w st h8 m pc rl []
  refine W.objInit hE.1 hE.2.1 hE.2.2.2.2.2.2.1 (aw_word hw hE (List.mem_append_right _ hs) rfl) (aw_word hw hE (List.mem_append_right _ oi_1) rfl) (aw_word hw hE (List.mem_append_right _ oi_2) rfl) rfl (hL.1.trans hE.2.2.1.symm) rfl hd (by omega) ?_ (kk w p l e R s m args below meth c H locs cells slots rl hw hE hR hH hL (fun z hz => hst z (aw_1 z hz)) hlo)
  have e1 : 2 * (F0 m pc rl (.ref (aw_adr w a) :: st.map (aw_tr w))).monitorRoom + ((st.map (aw_tr w)).map fun v => v.category).sum ≤ 8 := h8'
  omega
theorem mm_1 : Cond.static Lib.Math.min.name ∈ tables_1 := by decide +kernel
theorem mm_2 : Cond.initialized "java/lang/Math" ∈ tables_1 := by decide +kernel
theorem mm_3 : Cond.code Lib.Math.min.name Lib.Math.min.code 2 (some .int) ∈ tables_1 := by decide +kernel
theorem AW.mmin (hd : decode M.2.1 pc = .ok (.invokestatic idx, 3)) (hs : Cond.methodLink M.1.cls idx Lib.Math.min.name ∈ tables_1) (h1 : 1 ≤ d) (h8 : st.length ≤ 8) (kk : AW d bc bs M Q (pc + 3) ls (.inl (if y < x then y else x) :: st) h) : AW d bc bs M Q pc ls (.inl y :: .inl x :: st) h := by
  intro w p l e R s m args below meth c H locs cells slots rl hw hE hR hH hL hst hlo
  have h8' := aw_cats w st h8 m pc rl []
  have e1 : 2 * 0 + ((st.map (aw_tr w)).map fun v => v.category).sum ≤ 8 := h8'
  have hk := kk w p l e R s m args below meth c H locs cells slots rl hw hE hR hH hL (fun z hz => by
    rcases List.mem_cons.mp hz with rfl | hz
    · show RI _
      split
      · exact ri_hd hst
      · exact ri_hd2 hst
    · exact hst z (aw_2 z hz)) hlo
  refine va_mmin hE.1 hE.2.1 (hE.2.2.1.trans hL.1.symm) hE.2.2.2.2.2.2.1 (aw_word hw hE (List.mem_append_right _ hs) rfl) (aw_word hw hE (List.mem_append_right _ mm_1) rfl) (aw_word hw hE (List.mem_append_right _ mm_2) rfl) (aw_word hw hE (List.mem_append_right _ mm_3) rfl) (by omega) (by omega) (by omega) (by omega) hd ?_
  have e2 : (if Int32.ofInt y < Int32.ofInt x then Int32.ofInt y else Int32.ofInt x) = Int32.ofInt (if y < x then y else x) := by
    by_cases q : y < x
    · rw [if_pos q, if_pos ((ri_lt (ri_hd hst) (ri_hd2 hst)).mpr q)]
    · rw [if_neg q, if_neg (fun z => q ((ri_lt (ri_hd hst) (ri_hd2 hst)).mp z))]
  rw [e2]
  exact hk
end Obj
