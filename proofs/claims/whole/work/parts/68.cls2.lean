/-! THE PROGRAM'S STATE -/
def SchV (h : AH) (b : Nat) : Prop := ∃ s, scOK s ∧ SchA h b s
def KP (h : AH) (ik : Int) (o : Option SC) : Prop := match o with
  | none => ik = 0 ∧ SchV h 53
  | some s => ik = 1 ∧ SchA h 53 s
def LetA (h : AH) (L : List Int) (at' : Int) : Prop := h.2 17 = .inl (6, [.inr 18, .inl (L.length : Int), .inl at']) ∧ ∃ f, h.2 18 = .inr (80, f) ∧ ∀ (i : Nat) (x : Int), L[i]? = some x → f i = x
def CO (h : AH) (nw tr : Nat) (ik tc sd : Int) : Prop := h.2 16 = .inl (12, [.inr 17, .inr nw, .inr tr, .inr 53, .inl ik, .inr 70, .inl tc, .inr 71, .inr 72, .inr 73, .inr 77, .inr 78, .inr 79, .inr 84, .inl sd])
/-- all that a call can show -/
def CM (h : AH) (nw tr : Nat) (ik sd at' : Int) (S : ST) : Prop := ((nw = 19 ∧ tr = 36) ∨ (nw = 36 ∧ tr = 19)) ∧ CO h nw tr ik (S.2.2.2.1.length : Int) sd ∧ 120 ≤ h.1 ∧
  (h.2 2 = .inr (10, rowOf [112, 113, 114, 65, 66, 67, 68, 110, 97, 111]) ∧ h.2 3 = .inr (6, rowOf [112, 113, 114, 110, 97, 111]) ∧ h.2 4 = .inr (3, rowOf [170, 204, 240]) ∧ h.2 5 = .inr (10, rowOf [112, 113, 114, 65, 66, 67, 68, 110, 97, 111])) ∧
  LetA h S.2.2.1 at' ∧ SchA h nw S.1 ∧ SchV h tr ∧ KP h ik S.2.1 ∧
  (∃ f, h.2 70 = .inr (6, f) ∧ ∀ (i : Nat) (x : Int), S.2.2.2.1[i]? = some x → f i = x) ∧ (∃ f, h.2 71 = .inr (7, f) ∧ ∀ i, 1 ≤ i → i ≤ 6 → f i = S.2.2.2.2 i) ∧
  h.2 72 = .inl (11, [.inl 0]) ∧ h.2 78 = .inl (35, [.inr 86, .inr 91, .inr 96, .inr 101, .inr 106, .inr 111]) ∧ stOK S
/-- all else -/
def SCR (h : AH) : Prop := (∃ f, h.2 77 = .inr (6, f)) ∧ FewV h 79 ∧ (∀ i, i < 6 → FewV h (86 + 5 * i)) ∧ SyR h 84
def CS (h : AH) (S : ST) : Prop := ∃ nw tr ik sd at', CM h nw tr ik sd at' S ∧ LisR h ∧ SCR h
def PS (a : Nat) : Prop := a = 73 ∨ a = 75 ∨ a = 76 ∨ a = 77 ∨ (79 ≤ a ∧ a < 136)
section Cls2
variable {h h' : AH} {nw tr b : Nat} {ik sd at' : Int} {S : ST} {P : Nat → Prop} {s : SC}
theorem SchV.fr (F : Fr h h' P) (hb : b + 17 ≤ 16 + h.1) (hp : ∀ a, (b ≤ a ∧ a < b + 17) ∨ a = 72 ∨ 136 ≤ a → ¬ P a) (H : SchV h b) : SchV h' b := by
  obtain ⟨s, ok, H⟩ := H
  exact ⟨s, ok, H.fr F hb hp ok.2.1⟩
theorem LetA.fr {L : List Int} (F : Fr h h' P) (h9 : 120 ≤ h.1) (hp : ¬ P 17 ∧ ¬ P 18) (H : LetA h L at') : LetA h' L at' := by
  obtain ⟨h1, f, h2, h3⟩ := H
  exact ⟨(F.2 _ (by omega) hp.1).trans h1, f, (F.2 _ (by omega) hp.2).trans h2, h3⟩
theorem KP.fr {o : Option SC} (F : Fr h h' P) (h9 : 120 ≤ h.1) (hp : ∀ a, (53 ≤ a ∧ a < 70) ∨ a = 72 ∨ 136 ≤ a → ¬ P a) (ho : ∀ s, o = some s → scOK s) (H : KP h ik o) : KP h' ik o := by
  cases o with
  | none => exact ⟨H.1, H.2.fr F (by omega) (fun a ha => hp a (by omega))⟩
  | some s => exact ⟨H.1, H.2.fr F (by omega) (fun a ha => hp a (by omega)) (ho s rfl).2.1⟩
theorem CM.fr (F : Fr h h' P) (hp : ∀ a, P a → PS a) (H : CM h nw tr ik sd at' S) : CM h' nw tr ik sd at' S := by
  obtain ⟨h1, h2, h3, ⟨s1, s2, s3, s4⟩, h4, h5, h6, h7, ⟨f1, h8, h8b⟩, ⟨f2, h9, h9b⟩, h10, h11, ok⟩ := H
  have hp' : ∀ a, (a < 73 ∨ a = 74 ∨ a = 78 ∨ 136 ≤ a) → ¬ P a := fun a ha q => by have := hp a q; unfold PS at this; omega
  have e : ∀ a, (a < 73 ∨ a = 78) → h'.2 a = h.2 a := fun a ha => F.2 a (by omega) (hp' a (by omega))
  have k1 := ok.1
  refine ⟨h1, (e 16 (by omega)).trans h2, by have := F.1; omega, ⟨(e 2 (by omega)).trans s1, (e 3 (by omega)).trans s2, (e 4 (by omega)).trans s3, (e 5 (by omega)).trans s4⟩, h4.fr F h3 ⟨hp' _ (by omega), hp' _ (by omega)⟩, h5.fr F (by omega) (fun a ha => hp' a (by omega)) k1.2.1, h6.fr F (by omega) (fun a ha => hp' a (by omega)), h7.fr F h3 (fun a ha => hp' a (by omega)) ok.2.1, ⟨f1, (e 70 (by omega)).trans h8, h8b⟩, ⟨f2, (e 71 (by omega)).trans h9, h9b⟩, (e 72 (by omega)).trans h10, (e 78 (by omega)).trans h11, ok⟩
theorem SCR.fr (F : Fr h h' P) (h9 : 120 ≤ h.1) (hp : ∀ a, a = 72 ∨ a = 77 ∨ (79 ≤ a ∧ a < 116) ∨ 136 ≤ a → ¬ P a) (H : SCR h) : SCR h' := by
  obtain ⟨⟨f, h1⟩, h2, h3, h4⟩ := H
  refine ⟨⟨f, (F.2 _ (by omega) (hp _ (by omega))).trans h1⟩, h2.fr F (by omega) (fun x hx => hp x (by unfold PF at hx; omega)), fun i hi => (h3 i hi).fr F (by omega) (fun x hx => hp x (by unfold PF at hx; omega)), h4.fr F (by omega) ⟨hp _ (by omega), hp _ (by omega)⟩⟩
def PM (a : Nat) : Prop := 116 ≤ a ∧ a < 136
/-- what the model does leaves the program as it is -/
theorem CS.fr (F : Fr h h' PM) (H : CS h S) : CS h' S := by
  obtain ⟨nw, tr, ik, sd, at', h1, h2, h3⟩ := H
  have h9 := h1.2.2.1
  exact ⟨nw, tr, ik, sd, at', h1.fr F (fun a ha => by unfold PM at ha; unfold PS; omega), h2.fr F h9 (fun a ha => by unfold PM; omega), h3.fr F h9 (fun a ha => by unfold PM; omega)⟩
end Cls2

