/-! AN ABSTRACT MACHINE OVER THE KIT'S ROWS. Values: ints as Int, references by number (0: null; 1 the script, 2 .. 5 the static rows, 16 and on: what the run has made, in its order).
A heap: how many cells were made, and what each number holds: .inl (tag, fields) an object (tag - 1: its place in vwCl) or a row of references (tag 33 ..); .inr (n, f) an int row; .inl (0, []) nothing. -/
abbrev AV : Type := Int ⊕ Nat
abbrev AC : Type := (Nat × List AV) ⊕ (Nat × (Nat → Int))
abbrev AH : Type := Nat × (Nat → AC)
abbrev MT : Type := MethodName × ByteArray × Nat × Option FieldType
abbrev Om : Type := State × (Nat → Nat) × va_G × (Nat → ClassId)
def aw_adr (w : Om) (a : Nat) : Nat := if a < 16 then w.2.1 a else w.1.heap.size + (a - 16)
def aw_tr (w : Om) : AV → Value
  | .inl x => .int (Int32.ofInt x)
  | .inr a => if a = 0 then .null else .ref (aw_adr w a)
def RI (x : Int) : Prop := -2147483648 ≤ x ∧ x < 2147483648
def RV : AV → Prop
  | .inl x => RI x
  | .inr _ => True
def aw_sn (k : Nat) : String × String := if k = 2 then ("SaidShorter", "WORDS") else if k = 3 then ("SaidShorter", "DRAWN") else if k = 4 then ("SaidShorter", "FACT_MEANINGS") else ("SaidShorterModel", "LETTERS")
def aw_tys (w : Om) : List (ClassId × FieldType) := [(w.2.2.2 0, .int), (w.2.2.2 1, .object "SaidShorter$Stranger"), (w.2.2.2 2, .object "SaidShorter$Saying"), (w.2.2.2 3, .object "SaidShorter$Fewest")]
def aw_Wd (w : Om) : Prop :=
  (∀ c ∈ lw_tbl, c.before #[Value.ref (w.2.1 1)] w.1 = true) ∧ va_K w.2.2.1 vwCl (aw_tys w) w.1 ∧
  (∀ k, 2 ≤ k → k ≤ 5 → va_Z (aw_sn k).1 (aw_sn k).2 "[I" (.ref (w.2.1 k)) (fun q => w.1.heap.size ≤ q) w.1 w.1.heap) ∧ ∀ k, 1 ≤ k → k ≤ 5 → w.2.1 k < w.1.heap.size
def aw_CO (w : Om) (H : Heap) (a : Nat) (c : AC) : Prop := match c with
  | .inl (0, _) => True
  | .inl (t + 1, vs) => if t < 32 then ∃ r : vw_C, vwCl[t]? = some r ∧ vs.length = r.2.2 ∧ t_OB (aw_adr w a) (w.2.2.1.1 t) r.2.2 (w.2.2.1.2 t) H (vp_V (vs.map (aw_tr w)))
    else H[aw_adr w a]? = some (arrV (w.2.2.2 (t - 31)) vs.length (fun j => aw_tr w (vs.getD j (.inr 0))))
  | .inr (n, f) => H[aw_adr w a]? = some (arrV (w.2.2.2 0) n (fun j => .int (Int32.ofInt (f j))))
def aw_SO (w : Om) (a : Nat) (c : AC) : Prop := match c with
  | .inl z => z = (0, [])
  | .inr (n, f) => a ≠ 0 ∧ a ≤ 5 ∧ n < 2147483648 ∧ va_T .int (w.2.1 a) n (fun j => .int (Int32.ofInt (f j))) (fun q => w.1.heap.size ≤ q) w.1 w.1.heap
def aw_RC : AC → Prop
  | .inl z => ∀ v ∈ z.2, RV v
  | .inr z => ∀ j, RI (z.2 j)
def aw_RH (w : Om) (H : Heap) (h : AH) : Prop :=
  H.size = w.1.heap.size + h.1 ∧ (∀ q, q < w.1.heap.size → H[q]? = w.1.heap[q]?) ∧ (∀ a, 16 ≤ a → a < 16 + h.1 → aw_CO w H a (h.2 a)) ∧ (∀ a, 16 + h.1 ≤ a → h.2 a = .inl (0, [])) ∧ (∀ a, a < 16 → aw_SO w a (h.2 a)) ∧ ∀ a, aw_RC (h.2 a)
def aw_LR (w : Om) (rl : Array Slot) (nL : Nat) (ls : List (Option AV)) : Prop := rl.size = nL ∧ lv_wf rl ∧ ls.length = nL ∧ ∀ (i : Nat) (v : AV), ls[i]? = some (some v) → rl[i]? = some (.val (aw_tr w v)) ∧ RV v
def aw_Qc (w : Om) (Q : Option AV → AH → Prop) : Array Value → State → Outcome → State → Prop := fun _ _ o t => ∃ (r : Option AV) (h : AH), Q r h ∧ o = .returned (r.map (aw_tr w)) ∧ aw_RH w t.heap h ∧ ∀ v, r = some v → RV v
def aw_En (w : Om) (M : MT) (p : Program) (s : State) (m : MethodId) (meth : Method) (c : Code) : Prop :=
  p.tables.exec = Jvm.exec ∧ c.code = M.2.1 ∧ c.maxLocals = M.2.2.1 ∧ meth.sig.returnType = M.2.2.2 ∧ meth.locks = false ∧ (M.1.name = "<init>" → meth.name = "<init>") ∧ s.vm.findClass M.1.cls = some m.cls ∧ w.1.WarmedH s.vm
/-- THE JUDGEMENT: method M at pc, with locals, stack and heap, at depth d, with bc cells of bs slots to make: it returns r and leaves h with Q r h -/
def AW (d bc bs : Nat) (M : MT) (Q : Option AV → AH → Prop) (pc : Nat) (ls : List (Option AV)) (st : List AV) (h : AH) : Prop :=
  ∀ (w : Om) (p : Program) (l : Launch) (e : Env) (R : Room) (s : State) (m : MethodId) (args : Array Value) (below : List Frame) (meth : Method) (c : Code) (H : Heap) (locs : List Loc) (cells slots : Nat) (rl : Array Slot),
    aw_Wd w → aw_En w M p s m meth c → (d ≤ R.frames ∧ 40 * d ≤ R.locals ∧ cells + bc ≤ R.cells ∧ slots + bs ≤ R.slots) → aw_RH w H h → aw_LR w rl M.2.2.1 ls → (∀ v ∈ st, RV v) → (∀ q ∈ locs, w.1.heap.size ≤ q.base) →
    W p l e R s m args below meth c H locs cells slots (MQ below (aw_Qc w Q) args s (cells + bc) (slots + bs) (fun q => w.1.heap.size ≤ q)) (F0 m pc rl (st.map (aw_tr w)))
/-- a method from its entry -/
def MW (d bc bs : Nat) (M : MT) (args : List AV) (h : AH) (Q : Option AV → AH → Prop) : Prop := AW d bc bs M Q 0 (args.map some ++ List.replicate (M.2.2.1 - args.length) none) [] h

theorem ri_of (x : Int32) : RI x.toInt := by
  have h1 := Int32.le_toInt x
  have h2 := Int32.toInt_lt x
  exact ⟨by omega, by omega⟩
theorem ri_back {x : Int} (h : RI x) : (Int32.ofInt x).toInt = x := Int32.toInt_ofInt_of_le (by have := h.1; omega) (by have := h.2; omega)
theorem aw_cat (w : Om) (v : AV) : (aw_tr w v).category = 1 := by
  cases v with
  | inl x => rfl
  | inr a =>
    show (if a = 0 then Value.null else .ref (aw_adr w a)).category = 1
    split <;> rfl
theorem aw_rv_int {x : Int} (h : RV (.inl x)) : RI x := h
section Pure
variable {d bc bs : Nat} {M : MT} {Q : Option AV → AH → Prop} {pc pc' : Nat} {ls : List (Option AV)} {st st' rest : List AV} {h : AH} {x y : Int}
theorem AW.pu (hs : ∀ (w : Om) (p : Program) (l : Launch) (e : Env) (R : Room) (s : State) (m : MethodId) (args : Array Value) (below : List Frame) (meth : Method) (c : Code) (H : Heap) (locs : List Loc) (cells slots : Nat) (Q' : State → Prop) (rl : Array Slot),
      p.tables.exec = Jvm.exec → c.code = M.2.1 → aw_LR w rl M.2.2.1 ls → W p l e R s m args below meth c H locs cells slots Q' (F0 m pc' rl (st'.map (aw_tr w))) → W p l e R s m args below meth c H locs cells slots Q' (F0 m pc rl (st.map (aw_tr w))))
    (hr : (∀ (i : Nat) (v : AV), ls[i]? = some (some v) → RV v) → (∀ v ∈ st, RV v) → ∀ v ∈ st', RV v) (k : AW d bc bs M Q pc' ls st' h) : AW d bc bs M Q pc ls st h := by
  intro w p l e R s m args below meth c H locs cells slots rl hw hE hR hH hL hst hlo
  exact hs w p l e R s m args below meth c H locs cells slots _ rl hE.1 hE.2.1 hL (k w p l e R s m args below meth c H locs cells slots rl hw hE hR hH hL (hr (fun i v q => (hL.2.2.2 i v q).2) hst) hlo)
theorem AW.iconst {n : Int} (hd : decode M.2.1 pc = .ok (.iconst n, 1)) (k : AW d bc bs M Q (pc + 1) ls (.inl n :: st) h) (hn : RI n := by (constructor <;> decide)) : AW d bc bs M Q pc ls st h :=
  AW.pu (fun w p l e R s m args below meth c H locs cells slots Q' rl hx hb hL kk => lv_iconst hx hb hd rfl kk) (fun _ hv v q => by rcases List.mem_cons.mp q with rfl | q; exact hn; exact hv v q) k
theorem AW.bipush {n : Int} (hd : decode M.2.1 pc = .ok (.bipush n, 2)) (k : AW d bc bs M Q (pc + 2) ls (.inl n :: st) h) (hn : RI n := by (constructor <;> decide)) (h2 : (Int8.ofInt n).toInt32 = Int32.ofInt n := by decide) : AW d bc bs M Q pc ls st h :=
  AW.pu (fun w p l e R s m args below meth c H locs cells slots Q' rl hx hb hL kk => lv_bipush hx hb hd h2 kk) (fun _ hv v q => by rcases List.mem_cons.mp q with rfl | q; exact hn; exact hv v q) k
theorem AW.sipush {n : Int} (hd : decode M.2.1 pc = .ok (.sipush n, 3)) (k : AW d bc bs M Q (pc + 3) ls (.inl n :: st) h) (hn : RI n := by (constructor <;> decide)) (h2 : (Int16.ofInt n).toInt32 = Int32.ofInt n := by decide) : AW d bc bs M Q pc ls st h :=
  AW.pu (fun w p l e R s m args below meth c H locs cells slots Q' rl hx hb hL kk => lv_sipush hx hb hd h2 kk) (fun _ hv v q => by rcases List.mem_cons.mp q with rfl | q; exact hn; exact hv v q) k
theorem AW.anull (hd : decode M.2.1 pc = .ok (.aconst_null, 1)) (k : AW d bc bs M Q (pc + 1) ls (.inr 0 :: st) h) : AW d bc bs M Q pc ls st h :=
  AW.pu (fun w p l e R s m args below meth c H locs cells slots Q' rl hx hb hL kk => lv_null hx hb hd kk) (fun _ hv v q => by rcases List.mem_cons.mp q with rfl | q; trivial; exact hv v q) k
theorem AW.iload_n {n : Fin 4} (hd : decode M.2.1 pc = .ok (.iload_n n, 1)) (hl : ls[n.val]? = some (some (.inl x))) (k : AW d bc bs M Q (pc + 1) ls (.inl x :: st) h) : AW d bc bs M Q pc ls st h :=
  AW.pu (fun w p l e R s m args below meth c H locs cells slots Q' rl hx hb hL kk => lv_iload_n hx hb hd rfl (hL.2.2.2 _ _ hl).1 kk) (fun hq hv v q => by rcases List.mem_cons.mp q with rfl | q; exact hq _ _ hl; exact hv v q) k
theorem AW.iload {n : Nat} (hd : decode M.2.1 pc = .ok (.iload n, 2)) (hl : ls[n]? = some (some (.inl x))) (k : AW d bc bs M Q (pc + 2) ls (.inl x :: st) h) : AW d bc bs M Q pc ls st h :=
  AW.pu (fun w p l e R s m args below meth c H locs cells slots Q' rl hx hb hL kk => lv_iload hx hb hd (hL.2.2.2 _ _ hl).1 kk) (fun hq hv v q => by rcases List.mem_cons.mp q with rfl | q; exact hq _ _ hl; exact hv v q) k
theorem AW.aload_n {n : Fin 4} {a : Nat} (hd : decode M.2.1 pc = .ok (.aload_n n, 1)) (hl : ls[n.val]? = some (some (.inr a))) (k : AW d bc bs M Q (pc + 1) ls (.inr a :: st) h) : AW d bc bs M Q pc ls st h :=
  AW.pu (fun w p l e R s m args below meth c H locs cells slots Q' rl hx hb hL kk => by
    have h1 := (hL.2.2.2 _ _ hl).1
    have kk : W p l e R s m args below meth c H locs cells slots Q' (F0 m (pc + 1) rl (aw_tr w (.inr a) :: st.map (aw_tr w))) := kk
    by_cases ha : a = 0
    · have e : aw_tr w (.inr a) = .null := by simp [aw_tr, ha]
      rw [e] at h1 kk
      exact lv_aload_nN hx hb hd rfl h1 kk
    · have e : aw_tr w (.inr a) = .ref (aw_adr w a) := by simp [aw_tr, ha]
      rw [e] at h1 kk
      exact lv_aload_n hx hb hd rfl h1 kk) (fun hq hv v q => by rcases List.mem_cons.mp q with rfl | q; exact hq _ _ hl; exact hv v q) k
theorem AW.aload {n a : Nat} (hd : decode M.2.1 pc = .ok (.aload n, 2)) (hl : ls[n]? = some (some (.inr a))) (k : AW d bc bs M Q (pc + 2) ls (.inr a :: st) h) : AW d bc bs M Q pc ls st h :=
  AW.pu (fun w p l e R s m args below meth c H locs cells slots Q' rl hx hb hL kk => by
    have h1 := (hL.2.2.2 _ _ hl).1
    have kk : W p l e R s m args below meth c H locs cells slots Q' (F0 m (pc + 2) rl (aw_tr w (.inr a) :: st.map (aw_tr w))) := kk
    by_cases ha : a = 0
    · have e : aw_tr w (.inr a) = .null := by simp [aw_tr, ha]
      rw [e] at h1 kk
      exact lv_aloadN hx hb hd h1 kk
    · have e : aw_tr w (.inr a) = .ref (aw_adr w a) := by simp [aw_tr, ha]
      rw [e] at h1 kk
      exact lv_aload hx hb hd h1 kk) (fun hq hv v q => by rcases List.mem_cons.mp q with rfl | q; exact hq _ _ hl; exact hv v q) k
/-! arithmetic -/
def a_add (x y : Int) : Int := (Int32.ofInt x + Int32.ofInt y).toInt
def a_sub (x y : Int) : Int := (Int32.ofInt x - Int32.ofInt y).toInt
def a_mul (x y : Int) : Int := (Int32.ofInt x * Int32.ofInt y).toInt
def a_div (x y : Int) : Int := (Int32.ofInt x / Int32.ofInt y).toInt
def a_rem (x y : Int) : Int := (Int32.ofInt x - Int32.ofInt x / Int32.ofInt y * Int32.ofInt y).toInt
def a_neg (x : Int) : Int := (-Int32.ofInt x).toInt
def a_and (x y : Int) : Int := (Int32.ofInt x &&& Int32.ofInt y).toInt
def a_or (x y : Int) : Int := (Int32.ofInt x ||| Int32.ofInt y).toInt
def a_xor (x y : Int) : Int := (Int32.ofInt x ^^^ Int32.ofInt y).toInt
def a_shl (x y : Int) : Int := (Int32.ofInt x <<< (Int32.ofInt y &&& 31)).toInt
def a_shr (x y : Int) : Int := (Int32.ofInt x >>> (Int32.ofInt y &&& 31)).toInt
theorem AW.bin (f : Int32 → Int32 → Int32) (hs : ∀ (p : Program) (l : Launch) (e : Env) (R : Room) (s : State) (m : MethodId) (args : Array Value) (below : List Frame) (meth : Method) (c : Code) (H : Heap) (locs : List Loc) (cells slots : Nat) (Q' : State → Prop) (rl : Array Slot) (a b : Int32) (rs : List Value),
      p.tables.exec = Jvm.exec → c.code = M.2.1 → b = Int32.ofInt y → W p l e R s m args below meth c H locs cells slots Q' (F0 m (pc + 1) rl (.int (f a b) :: rs)) → W p l e R s m args below meth c H locs cells slots Q' (F0 m pc rl (.int b :: .int a :: rs)))
    (k : AW d bc bs M Q (pc + 1) ls (.inl (f (Int32.ofInt x) (Int32.ofInt y)).toInt :: st) h) : AW d bc bs M Q pc ls (.inl y :: .inl x :: st) h :=
  AW.pu (fun w p l e R s m args below meth c H locs cells slots Q' rl hx hb hL kk => hs p l e R s m args below meth c H locs cells slots Q' rl _ _ _ hx hb rfl (by
    have kk : W p l e R s m args below meth c H locs cells slots Q' (F0 m (pc + 1) rl (.int (Int32.ofInt (f (Int32.ofInt x) (Int32.ofInt y)).toInt) :: st.map (aw_tr w))) := kk
    rw [Int32.ofInt_toInt] at kk
    exact kk)) (fun _ hv v q => by
    rcases List.mem_cons.mp q with rfl | q
    · exact ri_of _
    · exact hv v (List.mem_cons_of_mem _ (List.mem_cons_of_mem _ q))) k
theorem AW.iadd (hd : decode M.2.1 pc = .ok (.iadd, 1)) (k : AW d bc bs M Q (pc + 1) ls (.inl (a_add x y) :: st) h) : AW d bc bs M Q pc ls (.inl y :: .inl x :: st) h :=
  AW.bin (fun a b => a + b) (fun p l e R s m args below meth c H locs cells slots Q' rl a b rs hx hb _ kk => lv_iadd hx hb hd kk) k
theorem AW.isub (hd : decode M.2.1 pc = .ok (.isub, 1)) (k : AW d bc bs M Q (pc + 1) ls (.inl (a_sub x y) :: st) h) : AW d bc bs M Q pc ls (.inl y :: .inl x :: st) h :=
  AW.bin (fun a b => a - b) (fun p l e R s m args below meth c H locs cells slots Q' rl a b rs hx hb _ kk => lv_isub hx hb hd kk) k
theorem AW.imul (hd : decode M.2.1 pc = .ok (.imul, 1)) (k : AW d bc bs M Q (pc + 1) ls (.inl (a_mul x y) :: st) h) : AW d bc bs M Q pc ls (.inl y :: .inl x :: st) h :=
  AW.bin (fun a b => a * b) (fun p l e R s m args below meth c H locs cells slots Q' rl a b rs hx hb _ kk => lv_imul hx hb hd kk) k
theorem AW.iand (hd : decode M.2.1 pc = .ok (.iand, 1)) (k : AW d bc bs M Q (pc + 1) ls (.inl (a_and x y) :: st) h) : AW d bc bs M Q pc ls (.inl y :: .inl x :: st) h :=
  AW.bin (fun a b => a &&& b) (fun p l e R s m args below meth c H locs cells slots Q' rl a b rs hx hb _ kk => lv_iand hx hb hd kk) k
theorem AW.ior (hd : decode M.2.1 pc = .ok (.ior, 1)) (k : AW d bc bs M Q (pc + 1) ls (.inl (a_or x y) :: st) h) : AW d bc bs M Q pc ls (.inl y :: .inl x :: st) h :=
  AW.bin (fun a b => a ||| b) (fun p l e R s m args below meth c H locs cells slots Q' rl a b rs hx hb _ kk => lv_ior hx hb hd kk) k
theorem AW.ixor (hd : decode M.2.1 pc = .ok (.ixor, 1)) (k : AW d bc bs M Q (pc + 1) ls (.inl (a_xor x y) :: st) h) : AW d bc bs M Q pc ls (.inl y :: .inl x :: st) h :=
  AW.bin (fun a b => a ^^^ b) (fun p l e R s m args below meth c H locs cells slots Q' rl a b rs hx hb _ kk => lv_ixor hx hb hd kk) k
theorem AW.ishl (hd : decode M.2.1 pc = .ok (.ishl, 1)) (k : AW d bc bs M Q (pc + 1) ls (.inl (a_shl x y) :: st) h) : AW d bc bs M Q pc ls (.inl y :: .inl x :: st) h :=
  AW.bin (fun a b => a <<< (b &&& 31)) (fun p l e R s m args below meth c H locs cells slots Q' rl a b rs hx hb _ kk => lv_ishl hx hb hd kk) k
theorem AW.ishr (hd : decode M.2.1 pc = .ok (.ishr, 1)) (k : AW d bc bs M Q (pc + 1) ls (.inl (a_shr x y) :: st) h) : AW d bc bs M Q pc ls (.inl y :: .inl x :: st) h :=
  AW.bin (fun a b => a >>> (b &&& 31)) (fun p l e R s m args below meth c H locs cells slots Q' rl a b rs hx hb _ kk => lv_ishr hx hb hd kk) k
theorem AW.idiv (hd : decode M.2.1 pc = .ok (.idiv, 1)) (hy : ¬ Int32.ofInt y = 0) (k : AW d bc bs M Q (pc + 1) ls (.inl (a_div x y) :: st) h) : AW d bc bs M Q pc ls (.inl y :: .inl x :: st) h :=
  AW.bin (fun a b => a / b) (fun p l e R s m args below meth c H locs cells slots Q' rl a b rs hx hb eb kk => lv_idiv hx hb hd (by rw [eb]; exact hy) kk) k
theorem AW.irem (hd : decode M.2.1 pc = .ok (.irem, 1)) (hy : ¬ Int32.ofInt y = 0) (k : AW d bc bs M Q (pc + 1) ls (.inl (a_rem x y) :: st) h) : AW d bc bs M Q pc ls (.inl y :: .inl x :: st) h :=
  AW.bin (fun a b => a - a / b * b) (fun p l e R s m args below meth c H locs cells slots Q' rl a b rs hx hb eb kk => lv_irem hx hb hd (by rw [eb]; exact hy) kk) k
theorem AW.ineg (hd : decode M.2.1 pc = .ok (.ineg, 1)) (k : AW d bc bs M Q (pc + 1) ls (.inl (a_neg x) :: st) h) : AW d bc bs M Q pc ls (.inl x :: st) h :=
  AW.pu (fun w p l e R s m args below meth c H locs cells slots Q' rl hx hb hL kk => lv_ineg hx hb hd (by
    have kk : W p l e R s m args below meth c H locs cells slots Q' (F0 m (pc + 1) rl (.int (Int32.ofInt (-Int32.ofInt x).toInt) :: st.map (aw_tr w))) := kk
    rw [Int32.ofInt_toInt] at kk
    exact kk)) (fun _ hv v q => by
    rcases List.mem_cons.mp q with rfl | q
    · exact ri_of _
    · exact hv v (List.mem_cons_of_mem _ q)) k
theorem AW.dup {v : AV} (hd : decode M.2.1 pc = .ok (.dup, 1)) (k : AW d bc bs M Q (pc + 1) ls (v :: v :: st) h) : AW d bc bs M Q pc ls (v :: st) h :=
  AW.pu (fun w p l e R s m args below meth c H locs cells slots Q' rl hx hb hL kk => lv_dup hx hb hd (aw_cat w v) kk) (fun _ hv u q => by
    rcases List.mem_cons.mp q with rfl | q
    · exact hv _ List.mem_cons_self
    · exact hv u q) k
theorem AW.pop {v : AV} (hd : decode M.2.1 pc = .ok (.pop, 1)) (k : AW d bc bs M Q (pc + 1) ls st h) : AW d bc bs M Q pc ls (v :: st) h :=
  AW.pu (fun w p l e R s m args below meth c H locs cells slots Q' rl hx hb hL kk => lv_pop hx hb hd (aw_cat w v) kk) (fun _ hv u q => hv u (List.mem_cons_of_mem _ q)) k
theorem AW.dup2 {v u : AV} (hd : decode M.2.1 pc = .ok (.dup2, 1)) (k : AW d bc bs M Q (pc + 1) ls (v :: u :: v :: u :: st) h) : AW d bc bs M Q pc ls (v :: u :: st) h :=
  AW.pu (fun w p l e R s m args below meth c H locs cells slots Q' rl hx hb hL kk => lv_dup2_11 hx hb hd (aw_cat w v) (aw_cat w u) kk) (fun _ hv z q => by
    simp only [List.mem_cons] at q hv
    rcases q with q | q | q | q | q
    · exact hv z (Or.inl q)
    · exact hv z (Or.inr (Or.inl q))
    · exact hv z (Or.inl q)
    · exact hv z (Or.inr (Or.inl q))
    · exact hv z (Or.inr (Or.inr q))) k
theorem AW.goto {off : Int} {tgt : Nat} (hd : decode M.2.1 pc = .ok (.goto off, 3)) (ht : (pc : Int) + off = (tgt : Int)) (k : AW d bc bs M Q tgt ls st h) : AW d bc bs M Q pc ls st h :=
  AW.pu (fun w p l e R s m args below meth c H locs cells slots Q' rl hx hb hL kk => lv_goto hx hb hd ht kk) (fun _ hv => hv) k
end Pure
