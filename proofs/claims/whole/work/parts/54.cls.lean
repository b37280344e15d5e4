/-! THE PROGRAM'S OWN OBJECTS -/
def kTag (k : Int) : Nat := if k = 0 then 11 else if k = 1 then 5 else if k = 2 then 2 else if k = 3 then 1 else if k = 4 then 10 else 3
def StA (h : AH) (a : Nat) (k g : Int) : Prop := h.2 a = .inl (kTag k, [.inl g]) ∧ (a = 72 ∨ 136 ≤ a) ∧ a < 16 + h.1 ∧ (0 ≤ k ∧ k ≤ 5) ∧ 0 ≤ g ∧ g ≤ 9
def SyR (h : AH) (b : Nat) : Prop := ∃ (n : Int) (f : Nat → Int), h.2 b = .inl (8, [.inr (b + 1), .inl n]) ∧ h.2 (b + 1) = .inr (20, f)
def SyA (h : AH) (b : Nat) (ws : List Nat) : Prop := ∃ f : Nat → Int, h.2 b = .inl (8, [.inr (b + 1), .inl (ws.length : Int)]) ∧ h.2 (b + 1) = .inr (20, f) ∧ ws.length ≤ 20 ∧ (∀ w ∈ ws, w ≤ 9) ∧ ∀ j w : Nat, ws[j]? = some w → f j = LETT w
def SchA (h : AH) (b : Nat) (s : SC) : Prop := h.2 b = .inl (9, [.inr (b + 1), .inr (b + 2), .inl (s_n s : Int), .inr (b + 3), .inl (s_h s : Int), .inr (b + 4)]) ∧
  (∃ sts : List AV, h.2 (b + 1) = .inl (33, sts) ∧ sts.length = 5 ∧ (∀ i, i < 5 → ∃ a, sts[i]? = some (.inr a)) ∧ ∀ i, i < s_n s → ∃ a, sts[i]? = some (.inr a) ∧ 136 ≤ a ∧ StA h a (s_k s i) (s_g s i)) ∧
  (∃ f : Nat → Int, h.2 (b + 2) = .inr (5, f) ∧ ∀ i, i < s_n s → f i = s_l s i) ∧
  h.2 (b + 3) = .inl (34, [.inr (b + 5), .inr (b + 7), .inr (b + 9), .inr (b + 11), .inr (b + 13), .inr (b + 15)]) ∧
  (∃ f : Nat → Int, h.2 (b + 4) = .inr (4, f) ∧ ∀ i, i < 4 → f i = s_c s i) ∧
  (∀ i, i < 6 → SyR h (b + 5 + 2 * i)) ∧ ∀ i, i < s_h s → SyA h (b + 5 + 2 * i) (s_w s i)
/-- all but P is as it was -/
def Fr (h h' : AH) (P : Nat → Prop) : Prop := h.1 ≤ h'.1 ∧ ∀ a, a < 16 + h.1 → ¬ P a → h'.2 a = h.2 a
section Frs
variable {h h' h2 : AH} {P P2 : Nat → Prop} {b a : Nat} {s : SC} {k g : Int} {ws : List Nat}
theorem Fr.rfl' : Fr h h P := ⟨Nat.le_refl _, fun _ _ _ => rfl⟩
theorem Fr.mono (H : Fr h h' P) (hp : ∀ a, P a → P2 a) : Fr h h' P2 := ⟨H.1, fun a h1 h3 => H.2 a h1 (fun q => h3 (hp a q))⟩
theorem Fr.trans (H : Fr h h' P) (H2 : Fr h' h2 P) : Fr h h2 P := ⟨Nat.le_trans H.1 H2.1, fun a h1 h3 => (H2.2 a (by have := H.1; omega) h3).trans (H.2 a h1 h3)⟩
theorem Fr.set {c : AC} (hp : P a) : Fr h (hset h a c) P := ⟨Nat.le_refl _, fun x _ hx => hset_ne _ _ (fun q => hx (q ▸ hp))⟩
theorem StA.fr (F : Fr h h' P) (hp : ∀ a, a = 72 ∨ 136 ≤ a → ¬ P a) (H : StA h a k g) : StA h' a k g := by
  obtain ⟨h1, h2, h3, h4⟩ := H
  have := F.1
  exact ⟨(F.2 a h3 (hp a h2)).trans h1, h2, by omega, h4⟩
theorem SyR.fr (F : Fr h h' P) (hb : b + 2 ≤ 16 + h.1) (hp : ¬ P b ∧ ¬ P (b + 1)) (H : SyR h b) : SyR h' b := by
  obtain ⟨n, f, h1, h2⟩ := H
  exact ⟨n, f, (F.2 b (by omega) hp.1).trans h1, (F.2 (b + 1) (by omega) hp.2).trans h2⟩
theorem SyA.fr (F : Fr h h' P) (hb : b + 2 ≤ 16 + h.1) (hp : ¬ P b ∧ ¬ P (b + 1)) (H : SyA h b ws) : SyA h' b ws := by
  obtain ⟨f, h1, h2, h3⟩ := H
  exact ⟨f, (F.2 b (by omega) hp.1).trans h1, (F.2 (b + 1) (by omega) hp.2).trans h2, h3⟩
theorem SyA.r (H : SyA h b ws) : SyR h b := by
  obtain ⟨f, h1, h2, h3⟩ := H
  exact ⟨_, f, h1, h2⟩
theorem SchA.fr (F : Fr h h' P) (hb : b + 17 ≤ 16 + h.1) (hp : ∀ a, (b ≤ a ∧ a < b + 17) ∨ a = 72 ∨ 136 ≤ a → ¬ P a) (hs : s_h s ≤ 6) (H : SchA h b s) : SchA h' b s := by
  obtain ⟨h1, ⟨sts, h2, h3, h4, h5⟩, ⟨f, h6, h7⟩, h8, ⟨f2, h9, h10⟩, h11, h12⟩ := H
  have e : ∀ a, b ≤ a → a < b + 17 → h'.2 a = h.2 a := fun a q1 q2 => F.2 a (by omega) (hp a (Or.inl ⟨q1, q2⟩))
  refine ⟨(e b (by omega) (by omega)).trans h1, ⟨sts, (e _ (by omega) (by omega)).trans h2, h3, h4, fun i hi => ?_⟩, ⟨f, (e _ (by omega) (by omega)).trans h6, h7⟩, (e _ (by omega) (by omega)).trans h8, ⟨f2, (e _ (by omega) (by omega)).trans h9, h10⟩, fun i hi => ?_, fun i hi => ?_⟩
  · obtain ⟨a, q1, q2, q3⟩ := h5 i hi
    exact ⟨a, q1, q2, q3.fr F (fun a ha => hp a (Or.inr ha))⟩
  · exact (h11 i hi).fr F (by omega) ⟨hp _ (Or.inl (by omega)), hp _ (Or.inl (by omega))⟩
  · exact (h12 i hi).fr F (by omega) ⟨hp _ (Or.inl (by omega)), hp _ (Or.inl (by omega))⟩
end Frs
/-- the listener, as he may be -/
def LisR (h : AH) : Prop := ∃ (a : Nat) (f g : Nat → Int), h.2 73 = .inl (7, [.inr a, .inr 75, .inr 76]) ∧ h.2 75 = .inr (5, f) ∧ h.2 76 = .inr (20, g)
/-- the listener is one of kind k, figure g, to whom the names nm (and more) are something -/
def LisA (h : AH) (k g : Int) (nm : Nat → Int) (more : Int) : Prop := ∃ (a : Nat) (f f2 : Nat → Int), h.2 73 = .inl (7, [.inr a, .inr 75, .inr 76]) ∧ StA h a k g ∧ h.2 75 = .inr (5, f) ∧ (∀ i, i < 4 → f i = nm i) ∧ f 4 = more ∧ h.2 76 = .inr (20, f2)
theorem LisA.r {h : AH} {k g : Int} {nm : Nat → Int} {more : Int} (H : LisA h k g nm more) : LisR h := by
  obtain ⟨a, f, f2, h1, -, h2, -, -, h3⟩ := H
  exact ⟨a, f, f2, h1, h2, h3⟩
theorem LisR.fr {h h' : AH} {P : Nat → Prop} (F : Fr h h' P) (h9 : 120 ≤ h.1) (hp : ∀ a, a = 73 ∨ a = 75 ∨ a = 76 → ¬ P a) (H : LisR h) : LisR h' := by
  obtain ⟨a, f, g, h1, h2, h3⟩ := H
  exact ⟨a, f, g, (F.2 _ (by omega) (hp _ (by omega))).trans h1, (F.2 _ (by omega) (hp _ (by omega))).trans h2, (F.2 _ (by omega) (hp _ (by omega))).trans h3⟩
theorem LisA.fr {h h' : AH} {P : Nat → Prop} {k g : Int} {nm : Nat → Int} {more : Int} (F : Fr h h' P) (h9 : 120 ≤ h.1) (hp : ∀ a, a = 73 ∨ a = 75 ∨ a = 76 ∨ a = 72 ∨ 136 ≤ a → ¬ P a) (H : LisA h k g nm more) : LisA h' k g nm more := by
  obtain ⟨a, f, g, h1, h4, h2, h5, h6, h3⟩ := H
  exact ⟨a, f, g, (F.2 _ (by omega) (hp _ (by omega))).trans h1, h4.fr F (fun a ha => hp a (by omega)), (F.2 _ (by omega) (hp _ (by omega))).trans h2, h5, h6, (F.2 _ (by omega) (hp _ (by omega))).trans h3⟩

