theorem AW.wk {d bc bs pc : Nat} {M : MT} {Q : Option AV → AH → Prop} {ls : List (Option AV)} {st : List AV} {h : AH} (k1 k2 : Nat) (H : AW d bc bs M Q pc ls st h) : AW d (bc + k1) (bs + k2) M Q pc ls st h := by
  intro w p l e R s m args below meth c H0 locs cells slots rl hw hE hR hH hL hst hlo
  refine W.widen (k := cells + k1) (n := slots + k2) (by omega) (by omega) ?_
  have := H w p l e R s m args below meth c H0 locs (cells + k1) (slots + k2) rl hw hE ⟨hR.1, hR.2.1, by omega, by omega⟩ hH hL hst hlo
  rw [show cells + k1 + bc = cells + (bc + k1) by omega, show slots + k2 + bs = slots + (bs + k2) by omega] at this
  exact this
section Law
variable {d : Nat} {h h1 h2 h0 : AH} {S S1 S2 : ST} {L : Nat} {xs : Nat → Int}
def LWS (h : AH) (S : ST) (L : Nat) (xs : Nat → Int) : Prop := CS h S ∧ MS h h S ∧ h.2 1 = .inr (L, xs)
theorem MS.re (H : MS h0 h S) (e : ∀ a, 116 ≤ a → a < 136 → h1.2 a = h.2 a) : MS h1 h1 S := by
  obtain ⟨m, A, ⟨g116, g117, g118, g119, g120, g121, g122, g123, g124, g125, g126, g127, g128, g129, g130, g131, g132, g133, g134, g135, -, -⟩, hP, ok⟩ := H
  have e' : ∀ {a : Nat} {c : AC}, h.2 a = c → 116 ≤ a → a < 136 → h1.2 a = c := fun g q1 q2 => (e _ q1 q2).trans g
  exact ⟨m, A, ⟨e' g116 (by decide) (by decide), e' g117 (by decide) (by decide), e' g118 (by decide) (by decide), e' g119 (by decide) (by decide), e' g120 (by decide) (by decide), e' g121 (by decide) (by decide), e' g122 (by decide) (by decide), e' g123 (by decide) (by decide), e' g124 (by decide) (by decide), e' g125 (by decide) (by decide), e' g126 (by decide) (by decide), e' g127 (by decide) (by decide), e' g128 (by decide) (by decide), e' g129 (by decide) (by decide), e' g130 (by decide) (by decide), e' g131 (by decide) (by decide), e' g132 (by decide) (by decide), e' g133 (by decide) (by decide), e' g134 (by decide) (by decide), e' g135 (by decide) (by decide), rfl, fun _ _ => rfl⟩, hP, ok⟩
theorem MS.o (H : MS h0 h S) : ∃ vs, h.2 116 = .inl (13, vs) := by
  obtain ⟨m, A, g, -⟩ := H
  exact ⟨_, g.1⟩
theorem CS.o (H : CS h S) : ∃ vs, h.2 16 = .inl (12, vs) := by
  obtain ⟨nw, tr, ik, sd, at', HM, -⟩ := H
  exact ⟨_, HM.2.1⟩
theorem CS.z (H : CS h S) : 120 ≤ h.1 ∧ h.2 5 = .inr (10, rowOf [112, 113, 114, 65, 66, 67, 68, 110, 97, 111]) := by
  obtain ⟨nw, tr, ik, sd, at', HM, -⟩ := H
  exact ⟨HM.2.2.1, HM.2.2.2.1.2.2.2⟩
theorem LWS.n (H : LWS h S L xs) (F : Fr h h1 PC) (C1 : CS h1 S1) : MS h1 h1 S ∧ h1.2 1 = .inr (L, xs) ∧ h1.2 5 = .inr (10, rowOf [112, 113, 114, 65, 66, 67, 68, 110, 97, 111]) ∧ ∃ vs, h1.2 116 = .inl (13, vs) := by
  obtain ⟨HC, HM, g⟩ := H
  have z := HC.z.1
  have M1 : MS h1 h1 S := HM.re (fun a q1 q2 => F.2 a (by omega) (by unfold PC; omega))
  exact ⟨M1, (F.2 1 (by omega) (by unfold PC; omega)).trans g, C1.z.2, M1.o⟩
theorem LWS.fin (C1 : CS h1 S1) (g1 : h1.2 1 = .inr (L, xs)) (M2 : MS h1 h2 S1) : LWS h2 S1 L xs := by
  have F : Fr h1 h2 PM := by
    obtain ⟨m, A, g, -⟩ := M2
    obtain ⟨-, -, -, -, -, -, -, -, -, -, -, -, -, -, -, -, -, -, -, -, gz, go⟩ := g
    exact ⟨Nat.le_of_eq gz.symm, fun a _ hp => go a (by unfold PM at hp; omega)⟩
  exact ⟨C1.fr F, M2.re (fun a _ _ => rfl), (F.2 1 (by have := C1.z.1; omega) (by unfold PM; omega)).trans g1⟩
theorem LC_law (hd : 20 ≤ d) (hL : L ≤ 2560) : ∀ (r n : Nat) (h : AH) (S : ST), L < 5 * (n + r) + 5 → 5 * n ≤ 2560 → LWS h S L xs →
    AW d (80 * r) (80 * r) mt_law (fun q _ => q = some (.inl 1)) 18 [some (.inr 1), some (.inr 16), some (.inr 116), some (.inl ((5 * n : Nat) : Int))] [] h := by
  have z1 : (1 : Int) = 0 ∨ (1 : Int) = 1 := Or.inr rfl
  intro r
  induction r with
  | zero =>
    intro n h S hr hn H
    obtain ⟨HC, HM, g⟩ := id H
    refine AW.iload_n dL_law_18 rfl ?_
    refine AW.aload_n dL_law_19 rfl ?_
    refine AW.alen dL_law_20 (by repeat (first | assumption | exact hset_eq _ _ _ | refine (hset_ne _ _ (by omega)).trans ?_)) (by omega) ?_
    refine AW.iconst dL_law_21 ?_
    refine AW.isubR dL_law_22 (by unfold RI; omega) ?_
    refine AW.if_icmpgt (tgt := 1000) dL_law_23 (by decide) (fun c23 => ?_) (fun c23 => absurd c23 (by omega))
    refine AW.iconst dL_law_1000 ?_
    refine AW.zreturn dL_law_1001 rfl (Or.inr rfl) ?_
    rfl
  | succ r ih =>
  intro n h S hr hn H
  obtain ⟨HC, HM, g⟩ := id H
  obtain ⟨vs16, o16⟩ := HC.o
  by_cases hlast : L < 5 * n + 5
  · show AW d (80 * r + 80) (80 * r + 80) _ _ _ _ _ _
    refine AW.wk 80 80 ?_
    refine AW.iload_n dL_law_18 rfl ?_
    refine AW.aload_n dL_law_19 rfl ?_
    refine AW.alen dL_law_20 (by repeat (first | assumption | exact hset_eq _ _ _ | refine (hset_ne _ _ (by omega)).trans ?_)) (by omega) ?_
    refine AW.iconst dL_law_21 ?_
    refine AW.isubR dL_law_22 (by unfold RI; omega) ?_
    refine AW.if_icmpgt (tgt := 1000) dL_law_23 (by decide) (fun c23 => ?_) (fun c23 => absurd c23 (by omega))
    refine AW.iconst dL_law_1000 ?_
    refine AW.zreturn dL_law_1001 rfl (Or.inr rfl) ?_
    rfl
  have nx0 : ∀ h2 S', LWS h2 S' L xs → AW d (80 * r) (80 * r) mt_law (fun q _ => q = some (.inl 1)) 994 [some (.inr 1), some (.inr 16), some (.inr 116), some (.inl ((5 * n : Nat) : Int))] [] h2 := by
    intro h2 S' H2
    refine AW.inc3 dL_law_994 (by decide) (by unfold RI; omega) ?_
    refine AW.goto (tgt := 18) dL_law_997 (by decide) ?_
    rw [show ((5 * n : Nat) : Int) + 5 = ((5 * (n + 1) : Nat) : Int) by omega]
    exact ih (n + 1) h2 S' (by omega) (by omega) H2
  have nx : ∀ h2 S', LWS h2 S' L xs → AW d (80 * (r + 1)) (80 * (r + 1)) mt_law (fun q _ => q = some (.inl 1)) 994 [some (.inr 1), some (.inr 16), some (.inr 116), some (.inl ((5 * n : Nat) : Int))] [] h2 := fun h2 S' H2 => AW.wk 80 80 (nx0 h2 S' H2)
  refine AW.iload_n dL_law_18 rfl ?_
  refine AW.aload_n dL_law_19 rfl ?_
  refine AW.alen dL_law_20 (by repeat (first | assumption | exact hset_eq _ _ _ | refine (hset_ne _ _ (by omega)).trans ?_)) (by omega) ?_
  refine AW.iconst dL_law_21 ?_
  refine AW.isubR dL_law_22 (by unfold RI; omega) ?_
  refine AW.if_icmpgt (tgt := 1000) dL_law_23 (by decide) (fun c23 => absurd c23 (by omega)) (fun c23 => ?_)
  refine AW.aload_n dL_law_26 rfl ?_
  refine AW.iload_n dL_law_27 rfl ?_
  refine AW.iaload dL_law_28 (by repeat (first | assumption | exact hset_eq _ _ _ | refine (hset_ne _ _ (by omega)).trans ?_)) (by omega) (by omega) ?_
  refine AW.bipush dL_law_29 ?_
  refine AW.iand dL_law_31 ?_
  refine AW.tab (tgt := 994) [160, 183, 196, 229, 272, 295, 328, 361, 374, 407, 450, 483, 506, 539, 572, 605, 638, 671, 714, 757, 810, 833, 846, 869, 892, 945, 958, 971] dL_law_32 (by decide) (by decide) (by decide) (fun i t hi c32 => ?_) (fun c32 => ?_)
  · match i, hi with
    | 0, hi =>
      cases hi
      refine AW.aload_n dL_law_160 rfl ?_
      refine AW.aload_n dL_law_161 rfl ?_
      refine AW.iload_n dL_law_162 rfl ?_
      refine AW.iconst dL_law_163 ?_
      refine AW.iaddR dL_law_164 (by unfold RI; omega) ?_
      refine AW.iaload dL_law_165 (by repeat (first | assumption | exact hset_eq _ _ _ | refine (hset_ne _ _ (by omega)).trans ?_)) (by omega) (by omega) ?_
      refine AW.cI2 (d' := d - 1) (cL_13 rfl) okX11_feed dL_law_166 (by repeat (first | assumption | exact hset_eq _ _ _ | refine (hset_ne _ _ (by omega)).trans ?_)) (by omega) (C_feed HC (by omega) (fun r1 S1 h1 e1 C1 F1 => ?_))
      obtain ⟨M1, g1, s5, vs1, o1⟩ := H.n F1 C1
      refine AW.aload_n dL_law_169 rfl ?_
      refine AW.aload_n dL_law_170 rfl ?_
      refine AW.iload_n dL_law_171 rfl ?_
      refine AW.iconst dL_law_172 ?_
      refine AW.iaddR dL_law_173 (by unfold RI; omega) ?_
      refine AW.iaload dL_law_174 (by repeat (first | assumption | exact hset_eq _ _ _ | refine (hset_ne _ _ (by omega)).trans ?_)) (by omega) (by omega) ?_
      refine AW.cI2 (d' := d - 1) (cL_17 rfl) okX12_feed dL_law_175 (by repeat (first | assumption | exact hset_eq _ _ _ | refine (hset_ne _ _ (by omega)).trans ?_)) (by omega) (W_feed M1 (by omega) (fun r2 S2 h2 e2 M2 => ?_))
      refine AW.if_icmpeq (tgt := 994) dL_law_178 (by decide) (fun c178 => ?_) (fun c178 => absurd (congrArg Prod.fst (e1.trans e2.symm)) c178)
      exact nx h2 S1 (LWS.fin C1 g1 (by rw [show S1 = S2 from congrArg Prod.snd (e1.trans e2.symm)]; exact M2))
    | 1, hi =>
      cases hi
      refine AW.aload_n dL_law_183 rfl ?_
      refine AW.kI1 (d' := d - 1) 80 80 (cL_18 rfl) okX11_school dL_law_184 o16 (by omega) (bc'' := 80 * r) (bs'' := 80 * r) (by omega) (by omega) (C_school HC (by omega) (fun r1 S1 h1 e1 C1 F1 => ?_))
      obtain ⟨M1, g1, s5, vs1, o1⟩ := H.n F1 C1
      refine AW.aload_n dL_law_187 rfl ?_
      refine AW.cI1 (d' := d - 1) (cL_22 rfl) okX12_school dL_law_188 (by repeat (first | assumption | exact hset_eq _ _ _ | refine (hset_ne _ _ (by omega)).trans ?_)) (by omega) (W_school M1 (by omega) (fun r2 S2 h2 e2 M2 => ?_))
      refine AW.if_icmpeq (tgt := 994) dL_law_191 (by decide) (fun c191 => ?_) (fun c191 => absurd (congrArg Prod.fst (e1.trans e2.symm)) c191)
      exact nx0 h2 S1 (LWS.fin C1 g1 (by rw [show S1 = S2 from congrArg Prod.snd (e1.trans e2.symm)]; exact M2))
    | 2, hi =>
      cases hi
      refine AW.aload_n dL_law_196 rfl ?_
      refine AW.aload_n dL_law_197 rfl ?_
      refine AW.iload_n dL_law_198 rfl ?_
      refine AW.iconst dL_law_199 ?_
      refine AW.iaddR dL_law_200 (by unfold RI; omega) ?_
      refine AW.iaload dL_law_201 (by repeat (first | assumption | exact hset_eq _ _ _ | refine (hset_ne _ _ (by omega)).trans ?_)) (by omega) (by omega) ?_
      refine AW.aload_n dL_law_202 rfl ?_
      refine AW.iload_n dL_law_203 rfl ?_
      refine AW.iconst dL_law_204 ?_
      refine AW.iaddR dL_law_205 (by unfold RI; omega) ?_
      refine AW.iaload dL_law_206 (by repeat (first | assumption | exact hset_eq _ _ _ | refine (hset_ne _ _ (by omega)).trans ?_)) (by omega) (by omega) ?_
      refine AW.cI3 (d' := d - 1) (cL_23 rfl) okX11_stranger dL_law_207 (by repeat (first | assumption | exact hset_eq _ _ _ | refine (hset_ne _ _ (by omega)).trans ?_)) (by omega) (C_stranger HC (by omega) (fun r1 S1 h1 e1 C1 F1 => ?_))
      obtain ⟨M1, g1, s5, vs1, o1⟩ := H.n F1 C1
      refine AW.aload_n dL_law_210 rfl ?_
      refine AW.aload_n dL_law_211 rfl ?_
      refine AW.iload_n dL_law_212 rfl ?_
      refine AW.iconst dL_law_213 ?_
      refine AW.iaddR dL_law_214 (by unfold RI; omega) ?_
      refine AW.iaload dL_law_215 (by repeat (first | assumption | exact hset_eq _ _ _ | refine (hset_ne _ _ (by omega)).trans ?_)) (by omega) (by omega) ?_
      refine AW.aload_n dL_law_216 rfl ?_
      refine AW.iload_n dL_law_217 rfl ?_
      refine AW.iconst dL_law_218 ?_
      refine AW.iaddR dL_law_219 (by unfold RI; omega) ?_
      refine AW.iaload dL_law_220 (by repeat (first | assumption | exact hset_eq _ _ _ | refine (hset_ne _ _ (by omega)).trans ?_)) (by omega) (by omega) ?_
      refine AW.cI3 (d' := d - 1) (cL_27 rfl) okX12_stranger dL_law_221 (by repeat (first | assumption | exact hset_eq _ _ _ | refine (hset_ne _ _ (by omega)).trans ?_)) (by omega) (W_stranger M1 (by omega) (fun r2 S2 h2 e2 M2 => ?_))
      refine AW.if_icmpeq (tgt := 994) dL_law_224 (by decide) (fun c224 => ?_) (fun c224 => absurd (congrArg Prod.fst (e1.trans e2.symm)) c224)
      exact nx h2 S1 (LWS.fin C1 g1 (by rw [show S1 = S2 from congrArg Prod.snd (e1.trans e2.symm)]; exact M2))
    | 3, hi =>
      cases hi
      refine AW.aload_n dL_law_229 rfl ?_
      refine AW.aload_n dL_law_230 rfl ?_
      refine AW.iload_n dL_law_231 rfl ?_
      refine AW.iconst dL_law_232 ?_
      refine AW.iaddR dL_law_233 (by unfold RI; omega) ?_
      refine AW.iaload dL_law_234 (by repeat (first | assumption | exact hset_eq _ _ _ | refine (hset_ne _ _ (by omega)).trans ?_)) (by omega) (by omega) ?_
      refine AW.aload_n dL_law_235 rfl ?_
      refine AW.iload_n dL_law_236 rfl ?_
      refine AW.iconst dL_law_237 ?_
      refine AW.iaddR dL_law_238 (by unfold RI; omega) ?_
      refine AW.iaload dL_law_239 (by repeat (first | assumption | exact hset_eq _ _ _ | refine (hset_ne _ _ (by omega)).trans ?_)) (by omega) (by omega) ?_
      refine AW.aload_n dL_law_240 rfl ?_
      refine AW.iload_n dL_law_241 rfl ?_
      refine AW.iconst dL_law_242 ?_
      refine AW.iaddR dL_law_243 (by unfold RI; omega) ?_
      refine AW.iaload dL_law_244 (by repeat (first | assumption | exact hset_eq _ _ _ | refine (hset_ne _ _ (by omega)).trans ?_)) (by omega) (by omega) ?_
      refine AW.cI4 (d' := d - 1) (cL_28 rfl) okX11_learn dL_law_245 (by repeat (first | assumption | exact hset_eq _ _ _ | refine (hset_ne _ _ (by omega)).trans ?_)) (by omega) (C_learn HC (by omega) (fun r1 S1 h1 e1 C1 F1 => ?_))
      obtain ⟨M1, g1, s5, vs1, o1⟩ := H.n F1 C1
      refine AW.aload_n dL_law_248 rfl ?_
      refine AW.aload_n dL_law_249 rfl ?_
      refine AW.iload_n dL_law_250 rfl ?_
      refine AW.iconst dL_law_251 ?_
      refine AW.iaddR dL_law_252 (by unfold RI; omega) ?_
      refine AW.iaload dL_law_253 (by repeat (first | assumption | exact hset_eq _ _ _ | refine (hset_ne _ _ (by omega)).trans ?_)) (by omega) (by omega) ?_
      refine AW.aload_n dL_law_254 rfl ?_
      refine AW.iload_n dL_law_255 rfl ?_
      refine AW.iconst dL_law_256 ?_
      refine AW.iaddR dL_law_257 (by unfold RI; omega) ?_
      refine AW.iaload dL_law_258 (by repeat (first | assumption | exact hset_eq _ _ _ | refine (hset_ne _ _ (by omega)).trans ?_)) (by omega) (by omega) ?_
      refine AW.aload_n dL_law_259 rfl ?_
      refine AW.iload_n dL_law_260 rfl ?_
      refine AW.iconst dL_law_261 ?_
      refine AW.iaddR dL_law_262 (by unfold RI; omega) ?_
      refine AW.iaload dL_law_263 (by repeat (first | assumption | exact hset_eq _ _ _ | refine (hset_ne _ _ (by omega)).trans ?_)) (by omega) (by omega) ?_
      refine AW.cI4 (d' := d - 1) (cL_32 rfl) okX12_learn dL_law_264 (by repeat (first | assumption | exact hset_eq _ _ _ | refine (hset_ne _ _ (by omega)).trans ?_)) (by omega) (W_learn M1 (by omega) (fun r2 S2 h2 e2 M2 => ?_))
      refine AW.if_icmpeq (tgt := 994) dL_law_267 (by decide) (fun c267 => ?_) (fun c267 => absurd (congrArg Prod.fst (e1.trans e2.symm)) c267)
      exact nx h2 S1 (LWS.fin C1 g1 (by rw [show S1 = S2 from congrArg Prod.snd (e1.trans e2.symm)]; exact M2))
    | 4, hi =>
      cases hi
      refine AW.aload_n dL_law_272 rfl ?_
      refine AW.aload_n dL_law_273 rfl ?_
      refine AW.iload_n dL_law_274 rfl ?_
      refine AW.iconst dL_law_275 ?_
      refine AW.iaddR dL_law_276 (by unfold RI; omega) ?_
      refine AW.iaload dL_law_277 (by repeat (first | assumption | exact hset_eq _ _ _ | refine (hset_ne _ _ (by omega)).trans ?_)) (by omega) (by omega) ?_
      refine AW.cI2 (d' := d - 1) (cL_33 rfl) okX11_name dL_law_278 (by repeat (first | assumption | exact hset_eq _ _ _ | refine (hset_ne _ _ (by omega)).trans ?_)) (by omega) (C_name HC (by omega) (fun r1 S1 h1 e1 C1 F1 => ?_))
      obtain ⟨M1, g1, s5, vs1, o1⟩ := H.n F1 C1
      refine AW.aload_n dL_law_281 rfl ?_
      refine AW.aload_n dL_law_282 rfl ?_
      refine AW.iload_n dL_law_283 rfl ?_
      refine AW.iconst dL_law_284 ?_
      refine AW.iaddR dL_law_285 (by unfold RI; omega) ?_
      refine AW.iaload dL_law_286 (by repeat (first | assumption | exact hset_eq _ _ _ | refine (hset_ne _ _ (by omega)).trans ?_)) (by omega) (by omega) ?_
      refine AW.cI2 (d' := d - 1) (cL_36 rfl) okX12_name dL_law_287 (by repeat (first | assumption | exact hset_eq _ _ _ | refine (hset_ne _ _ (by omega)).trans ?_)) (by omega) (W_name M1 (by omega) (fun r2 S2 h2 e2 M2 => ?_))
      refine AW.if_icmpeq (tgt := 994) dL_law_290 (by decide) (fun c290 => ?_) (fun c290 => absurd (congrArg Prod.fst (e1.trans e2.symm)) c290)
      exact nx h2 S1 (LWS.fin C1 g1 (by rw [show S1 = S2 from congrArg Prod.snd (e1.trans e2.symm)]; exact M2))
    | 5, hi =>
      cases hi
      refine AW.aload_n dL_law_295 rfl ?_
      refine AW.aload_n dL_law_296 rfl ?_
      refine AW.iload_n dL_law_297 rfl ?_
      refine AW.iconst dL_law_298 ?_
      refine AW.iaddR dL_law_299 (by unfold RI; omega) ?_
      refine AW.iaload dL_law_300 (by repeat (first | assumption | exact hset_eq _ _ _ | refine (hset_ne _ _ (by omega)).trans ?_)) (by omega) (by omega) ?_
      refine AW.aload_n dL_law_301 rfl ?_
      refine AW.iload_n dL_law_302 rfl ?_
      refine AW.iconst dL_law_303 ?_
      refine AW.iaddR dL_law_304 (by unfold RI; omega) ?_
      refine AW.iaload dL_law_305 (by repeat (first | assumption | exact hset_eq _ _ _ | refine (hset_ne _ _ (by omega)).trans ?_)) (by omega) (by omega) ?_
      refine AW.cI3 (d' := d - 1) (cL_37 rfl) okX11_coin dL_law_306 (by repeat (first | assumption | exact hset_eq _ _ _ | refine (hset_ne _ _ (by omega)).trans ?_)) (by omega) (C_coin HC (by omega) (fun r1 S1 h1 e1 C1 F1 => ?_))
      obtain ⟨M1, g1, s5, vs1, o1⟩ := H.n F1 C1
      refine AW.aload_n dL_law_309 rfl ?_
      refine AW.aload_n dL_law_310 rfl ?_
      refine AW.iload_n dL_law_311 rfl ?_
      refine AW.iconst dL_law_312 ?_
      refine AW.iaddR dL_law_313 (by unfold RI; omega) ?_
      refine AW.iaload dL_law_314 (by repeat (first | assumption | exact hset_eq _ _ _ | refine (hset_ne _ _ (by omega)).trans ?_)) (by omega) (by omega) ?_
      refine AW.aload_n dL_law_315 rfl ?_
      refine AW.iload_n dL_law_316 rfl ?_
      refine AW.iconst dL_law_317 ?_
      refine AW.iaddR dL_law_318 (by unfold RI; omega) ?_
      refine AW.iaload dL_law_319 (by repeat (first | assumption | exact hset_eq _ _ _ | refine (hset_ne _ _ (by omega)).trans ?_)) (by omega) (by omega) ?_
      refine AW.cI3 (d' := d - 1) (cL_40 rfl) okX12_coin dL_law_320 (by repeat (first | assumption | exact hset_eq _ _ _ | refine (hset_ne _ _ (by omega)).trans ?_)) (by omega) (W_coin M1 (by omega) (fun r2 S2 h2 e2 M2 => ?_))
      refine AW.if_icmpeq (tgt := 994) dL_law_323 (by decide) (fun c323 => ?_) (fun c323 => absurd (congrArg Prod.fst (e1.trans e2.symm)) c323)
      exact nx h2 S1 (LWS.fin C1 g1 (by rw [show S1 = S2 from congrArg Prod.snd (e1.trans e2.symm)]; exact M2))
    | 6, hi =>
      cases hi
      refine AW.aload_n dL_law_328 rfl ?_
      refine AW.aload_n dL_law_329 rfl ?_
      refine AW.iload_n dL_law_330 rfl ?_
      refine AW.iconst dL_law_331 ?_
      refine AW.iaddR dL_law_332 (by unfold RI; omega) ?_
      refine AW.iaload dL_law_333 (by repeat (first | assumption | exact hset_eq _ _ _ | refine (hset_ne _ _ (by omega)).trans ?_)) (by omega) (by omega) ?_
      refine AW.aload_n dL_law_334 rfl ?_
      refine AW.iload_n dL_law_335 rfl ?_
      refine AW.iconst dL_law_336 ?_
      refine AW.iaddR dL_law_337 (by unfold RI; omega) ?_
      refine AW.iaload dL_law_338 (by repeat (first | assumption | exact hset_eq _ _ _ | refine (hset_ne _ _ (by omega)).trans ?_)) (by omega) (by omega) ?_
      refine AW.cI3 (d' := d - 1) (cL_41 rfl) okX11_saying dL_law_339 (by repeat (first | assumption | exact hset_eq _ _ _ | refine (hset_ne _ _ (by omega)).trans ?_)) (by omega) (C_saying HC (by omega) (fun r1 S1 h1 e1 C1 F1 => ?_))
      obtain ⟨M1, g1, s5, vs1, o1⟩ := H.n F1 C1
      refine AW.aload_n dL_law_342 rfl ?_
      refine AW.aload_n dL_law_343 rfl ?_
      refine AW.iload_n dL_law_344 rfl ?_
      refine AW.iconst dL_law_345 ?_
      refine AW.iaddR dL_law_346 (by unfold RI; omega) ?_
      refine AW.iaload dL_law_347 (by repeat (first | assumption | exact hset_eq _ _ _ | refine (hset_ne _ _ (by omega)).trans ?_)) (by omega) (by omega) ?_
      refine AW.aload_n dL_law_348 rfl ?_
      refine AW.iload_n dL_law_349 rfl ?_
      refine AW.iconst dL_law_350 ?_
      refine AW.iaddR dL_law_351 (by unfold RI; omega) ?_
      refine AW.iaload dL_law_352 (by repeat (first | assumption | exact hset_eq _ _ _ | refine (hset_ne _ _ (by omega)).trans ?_)) (by omega) (by omega) ?_
      refine AW.cI3 (d' := d - 1) (cL_44 rfl) okX12_saying dL_law_353 (by repeat (first | assumption | exact hset_eq _ _ _ | refine (hset_ne _ _ (by omega)).trans ?_)) (by omega) (W_saying M1 s5 (by omega) (fun r2 S2 h2 e2 M2 => ?_))
      refine AW.if_icmpeq (tgt := 994) dL_law_356 (by decide) (fun c356 => ?_) (fun c356 => absurd (congrArg Prod.fst (e1.trans e2.symm)) c356)
      exact nx h2 S1 (LWS.fin C1 g1 (by rw [show S1 = S2 from congrArg Prod.snd (e1.trans e2.symm)]; exact M2))
    | 7, hi =>
      cases hi
      refine AW.aload_n dL_law_361 rfl ?_
      refine AW.cI1 (d' := d - 1) (cL_45 rfl) okX11_leave dL_law_362 (by repeat (first | assumption | exact hset_eq _ _ _ | refine (hset_ne _ _ (by omega)).trans ?_)) (by omega) (C_leave HC (by omega) (fun r1 S1 h1 e1 C1 F1 => ?_))
      obtain ⟨M1, g1, s5, vs1, o1⟩ := H.n F1 C1
      refine AW.aload_n dL_law_365 rfl ?_
      refine AW.cI1 (d' := d - 1) (cL_48 rfl) okX12_leave dL_law_366 (by repeat (first | assumption | exact hset_eq _ _ _ | refine (hset_ne _ _ (by omega)).trans ?_)) (by omega) (W_leave M1 (by omega) (fun r2 S2 h2 e2 M2 => ?_))
      refine AW.if_icmpeq (tgt := 994) dL_law_369 (by decide) (fun c369 => ?_) (fun c369 => absurd (congrArg Prod.fst (e1.trans e2.symm)) c369)
      exact nx h2 S1 (LWS.fin C1 g1 (by rw [show S1 = S2 from congrArg Prod.snd (e1.trans e2.symm)]; exact M2))
    | 8, hi =>
      cases hi
      refine AW.aload_n dL_law_374 rfl ?_
      refine AW.aload_n dL_law_375 rfl ?_
      refine AW.iload_n dL_law_376 rfl ?_
      refine AW.iconst dL_law_377 ?_
      refine AW.iaddR dL_law_378 (by unfold RI; omega) ?_
      refine AW.iaload dL_law_379 (by repeat (first | assumption | exact hset_eq _ _ _ | refine (hset_ne _ _ (by omega)).trans ?_)) (by omega) (by omega) ?_
      refine AW.aload_n dL_law_380 rfl ?_
      refine AW.iload_n dL_law_381 rfl ?_
      refine AW.iconst dL_law_382 ?_
      refine AW.iaddR dL_law_383 (by unfold RI; omega) ?_
      refine AW.iaload dL_law_384 (by repeat (first | assumption | exact hset_eq _ _ _ | refine (hset_ne _ _ (by omega)).trans ?_)) (by omega) (by omega) ?_
      refine AW.cI3 (d' := d - 1) (cL_49 rfl) okX11_concludes dL_law_385 (by repeat (first | assumption | exact hset_eq _ _ _ | refine (hset_ne _ _ (by omega)).trans ?_)) (by omega) (C_concludes HC (by omega) (fun r1 S1 h1 e1 C1 F1 => ?_))
      obtain ⟨M1, g1, s5, vs1, o1⟩ := H.n F1 C1
      refine AW.aload_n dL_law_388 rfl ?_
      refine AW.aload_n dL_law_389 rfl ?_
      refine AW.iload_n dL_law_390 rfl ?_
      refine AW.iconst dL_law_391 ?_
      refine AW.iaddR dL_law_392 (by unfold RI; omega) ?_
      refine AW.iaload dL_law_393 (by repeat (first | assumption | exact hset_eq _ _ _ | refine (hset_ne _ _ (by omega)).trans ?_)) (by omega) (by omega) ?_
      refine AW.aload_n dL_law_394 rfl ?_
      refine AW.iload_n dL_law_395 rfl ?_
      refine AW.iconst dL_law_396 ?_
      refine AW.iaddR dL_law_397 (by unfold RI; omega) ?_
      refine AW.iaload dL_law_398 (by repeat (first | assumption | exact hset_eq _ _ _ | refine (hset_ne _ _ (by omega)).trans ?_)) (by omega) (by omega) ?_
      refine AW.cI3 (d' := d - 1) (cL_52 rfl) okX12_concludes dL_law_399 (by repeat (first | assumption | exact hset_eq _ _ _ | refine (hset_ne _ _ (by omega)).trans ?_)) (by omega) (W_concludes M1 (by omega) (fun r2 S2 h2 e2 M2 => ?_))
      refine AW.if_icmpeq (tgt := 994) dL_law_402 (by decide) (fun c402 => ?_) (fun c402 => absurd (congrArg Prod.fst (e1.trans e2.symm)) c402)
      exact nx h2 S1 (LWS.fin C1 g1 (by rw [show S1 = S2 from congrArg Prod.snd (e1.trans e2.symm)]; exact M2))
    | 9, hi =>
      cases hi
      refine AW.aload_n dL_law_407 rfl ?_
      refine AW.aload_n dL_law_408 rfl ?_
      refine AW.iload_n dL_law_409 rfl ?_
      refine AW.iconst dL_law_410 ?_
      refine AW.iaddR dL_law_411 (by unfold RI; omega) ?_
      refine AW.iaload dL_law_412 (by repeat (first | assumption | exact hset_eq _ _ _ | refine (hset_ne _ _ (by omega)).trans ?_)) (by omega) (by omega) ?_
      refine AW.aload_n dL_law_413 rfl ?_
      refine AW.iload_n dL_law_414 rfl ?_
      refine AW.iconst dL_law_415 ?_
      refine AW.iaddR dL_law_416 (by unfold RI; omega) ?_
      refine AW.iaload dL_law_417 (by repeat (first | assumption | exact hset_eq _ _ _ | refine (hset_ne _ _ (by omega)).trans ?_)) (by omega) (by omega) ?_
      refine AW.aload_n dL_law_418 rfl ?_
      refine AW.iload_n dL_law_419 rfl ?_
      refine AW.iconst dL_law_420 ?_
      refine AW.iaddR dL_law_421 (by unfold RI; omega) ?_
      refine AW.iaload dL_law_422 (by repeat (first | assumption | exact hset_eq _ _ _ | refine (hset_ne _ _ (by omega)).trans ?_)) (by omega) (by omega) ?_
      refine AW.cI4 (d' := d - 1) (cL_53 rfl) okX11_parts dL_law_423 (by repeat (first | assumption | exact hset_eq _ _ _ | refine (hset_ne _ _ (by omega)).trans ?_)) (by omega) (C_parts HC (by omega) (fun r1 S1 h1 e1 C1 F1 => ?_))
      obtain ⟨M1, g1, s5, vs1, o1⟩ := H.n F1 C1
      refine AW.aload_n dL_law_426 rfl ?_
      refine AW.aload_n dL_law_427 rfl ?_
      refine AW.iload_n dL_law_428 rfl ?_
      refine AW.iconst dL_law_429 ?_
      refine AW.iaddR dL_law_430 (by unfold RI; omega) ?_
      refine AW.iaload dL_law_431 (by repeat (first | assumption | exact hset_eq _ _ _ | refine (hset_ne _ _ (by omega)).trans ?_)) (by omega) (by omega) ?_
      refine AW.aload_n dL_law_432 rfl ?_
      refine AW.iload_n dL_law_433 rfl ?_
      refine AW.iconst dL_law_434 ?_
      refine AW.iaddR dL_law_435 (by unfold RI; omega) ?_
      refine AW.iaload dL_law_436 (by repeat (first | assumption | exact hset_eq _ _ _ | refine (hset_ne _ _ (by omega)).trans ?_)) (by omega) (by omega) ?_
      refine AW.aload_n dL_law_437 rfl ?_
      refine AW.iload_n dL_law_438 rfl ?_
      refine AW.iconst dL_law_439 ?_
      refine AW.iaddR dL_law_440 (by unfold RI; omega) ?_
      refine AW.iaload dL_law_441 (by repeat (first | assumption | exact hset_eq _ _ _ | refine (hset_ne _ _ (by omega)).trans ?_)) (by omega) (by omega) ?_
      refine AW.cI4 (d' := d - 1) (cL_56 rfl) okX12_parts dL_law_442 (by repeat (first | assumption | exact hset_eq _ _ _ | refine (hset_ne _ _ (by omega)).trans ?_)) (by omega) (W_parts M1 (by omega) (fun r2 S2 h2 e2 M2 => ?_))
      refine AW.if_icmpeq (tgt := 994) dL_law_445 (by decide) (fun c445 => ?_) (fun c445 => absurd (congrArg Prod.fst (e1.trans e2.symm)) c445)
      exact nx h2 S1 (LWS.fin C1 g1 (by rw [show S1 = S2 from congrArg Prod.snd (e1.trans e2.symm)]; exact M2))
    | 10, hi =>
      cases hi
      refine AW.aload_n dL_law_450 rfl ?_
      refine AW.aload_n dL_law_451 rfl ?_
      refine AW.iload_n dL_law_452 rfl ?_
      refine AW.iconst dL_law_453 ?_
      refine AW.iaddR dL_law_454 (by unfold RI; omega) ?_
      refine AW.iaload dL_law_455 (by repeat (first | assumption | exact hset_eq _ _ _ | refine (hset_ne _ _ (by omega)).trans ?_)) (by omega) (by omega) ?_
      refine AW.aload_n dL_law_456 rfl ?_
      refine AW.iload_n dL_law_457 rfl ?_
      refine AW.iconst dL_law_458 ?_
      refine AW.iaddR dL_law_459 (by unfold RI; omega) ?_
      refine AW.iaload dL_law_460 (by repeat (first | assumption | exact hset_eq _ _ _ | refine (hset_ne _ _ (by omega)).trans ?_)) (by omega) (by omega) ?_
      refine AW.cI3 (d' := d - 1) (cL_57 rfl) okX11_won dL_law_461 (by repeat (first | assumption | exact hset_eq _ _ _ | refine (hset_ne _ _ (by omega)).trans ?_)) (by omega) (C_won HC (by omega) (fun r1 S1 h1 e1 C1 F1 => ?_))
      obtain ⟨M1, g1, s5, vs1, o1⟩ := H.n F1 C1
      refine AW.aload_n dL_law_464 rfl ?_
      refine AW.aload_n dL_law_465 rfl ?_
      refine AW.iload_n dL_law_466 rfl ?_
      refine AW.iconst dL_law_467 ?_
      refine AW.iaddR dL_law_468 (by unfold RI; omega) ?_
      refine AW.iaload dL_law_469 (by repeat (first | assumption | exact hset_eq _ _ _ | refine (hset_ne _ _ (by omega)).trans ?_)) (by omega) (by omega) ?_
      refine AW.aload_n dL_law_470 rfl ?_
      refine AW.iload_n dL_law_471 rfl ?_
      refine AW.iconst dL_law_472 ?_
      refine AW.iaddR dL_law_473 (by unfold RI; omega) ?_
      refine AW.iaload dL_law_474 (by repeat (first | assumption | exact hset_eq _ _ _ | refine (hset_ne _ _ (by omega)).trans ?_)) (by omega) (by omega) ?_
      refine AW.cI3 (d' := d - 1) (cL_60 rfl) okX12_won dL_law_475 (by repeat (first | assumption | exact hset_eq _ _ _ | refine (hset_ne _ _ (by omega)).trans ?_)) (by omega) (W_won M1 (by omega) (fun r2 S2 h2 e2 M2 => ?_))
      refine AW.if_icmpeq (tgt := 994) dL_law_478 (by decide) (fun c478 => ?_) (fun c478 => absurd (congrArg Prod.fst (e1.trans e2.symm)) c478)
      exact nx h2 S1 (LWS.fin C1 g1 (by rw [show S1 = S2 from congrArg Prod.snd (e1.trans e2.symm)]; exact M2))
    | 11, hi =>
      cases hi
      refine AW.aload_n dL_law_483 rfl ?_
      refine AW.aload_n dL_law_484 rfl ?_
      refine AW.iload_n dL_law_485 rfl ?_
      refine AW.iconst dL_law_486 ?_
      refine AW.iaddR dL_law_487 (by unfold RI; omega) ?_
      refine AW.iaload dL_law_488 (by repeat (first | assumption | exact hset_eq _ _ _ | refine (hset_ne _ _ (by omega)).trans ?_)) (by omega) (by omega) ?_
      refine AW.cI2 (d' := d - 1) (cL_61 rfl) okX11_masters dL_law_489 (by repeat (first | assumption | exact hset_eq _ _ _ | refine (hset_ne _ _ (by omega)).trans ?_)) (by omega) (C_masters HC (by omega) (fun r1 S1 h1 e1 C1 F1 => ?_))
      obtain ⟨M1, g1, s5, vs1, o1⟩ := H.n F1 C1
      refine AW.aload_n dL_law_492 rfl ?_
      refine AW.aload_n dL_law_493 rfl ?_
      refine AW.iload_n dL_law_494 rfl ?_
      refine AW.iconst dL_law_495 ?_
      refine AW.iaddR dL_law_496 (by unfold RI; omega) ?_
      refine AW.iaload dL_law_497 (by repeat (first | assumption | exact hset_eq _ _ _ | refine (hset_ne _ _ (by omega)).trans ?_)) (by omega) (by omega) ?_
      refine AW.cI2 (d' := d - 1) (cL_64 rfl) okX12_masters dL_law_498 (by repeat (first | assumption | exact hset_eq _ _ _ | refine (hset_ne _ _ (by omega)).trans ?_)) (by omega) (W_masters M1 (by omega) (fun r2 S2 h2 e2 M2 => ?_))
      refine AW.if_icmpeq (tgt := 994) dL_law_501 (by decide) (fun c501 => ?_) (fun c501 => absurd (congrArg Prod.fst (e1.trans e2.symm)) c501)
      exact nx h2 S1 (LWS.fin C1 g1 (by rw [show S1 = S2 from congrArg Prod.snd (e1.trans e2.symm)]; exact M2))
    | 12, hi =>
      cases hi
      refine AW.aload_n dL_law_506 rfl ?_
      refine AW.aload_n dL_law_507 rfl ?_
      refine AW.iload_n dL_law_508 rfl ?_
      refine AW.iconst dL_law_509 ?_
      refine AW.iaddR dL_law_510 (by unfold RI; omega) ?_
      refine AW.iaload dL_law_511 (by repeat (first | assumption | exact hset_eq _ _ _ | refine (hset_ne _ _ (by omega)).trans ?_)) (by omega) (by omega) ?_
      refine AW.aload_n dL_law_512 rfl ?_
      refine AW.iload_n dL_law_513 rfl ?_
      refine AW.iconst dL_law_514 ?_
      refine AW.iaddR dL_law_515 (by unfold RI; omega) ?_
      refine AW.iaload dL_law_516 (by repeat (first | assumption | exact hset_eq _ _ _ | refine (hset_ne _ _ (by omega)).trans ?_)) (by omega) (by omega) ?_
      refine AW.cI3 (d' := d - 1) (cL_65 rfl) okX11_shortest dL_law_517 (by repeat (first | assumption | exact hset_eq _ _ _ | refine (hset_ne _ _ (by omega)).trans ?_)) (by omega) (C_shortest HC (by omega) (fun r1 S1 h1 e1 C1 F1 => ?_))
      obtain ⟨M1, g1, s5, vs1, o1⟩ := H.n F1 C1
      refine AW.aload_n dL_law_520 rfl ?_
      refine AW.aload_n dL_law_521 rfl ?_
      refine AW.iload_n dL_law_522 rfl ?_
      refine AW.iconst dL_law_523 ?_
      refine AW.iaddR dL_law_524 (by unfold RI; omega) ?_
      refine AW.iaload dL_law_525 (by repeat (first | assumption | exact hset_eq _ _ _ | refine (hset_ne _ _ (by omega)).trans ?_)) (by omega) (by omega) ?_
      refine AW.aload_n dL_law_526 rfl ?_
      refine AW.iload_n dL_law_527 rfl ?_
      refine AW.iconst dL_law_528 ?_
      refine AW.iaddR dL_law_529 (by unfold RI; omega) ?_
      refine AW.iaload dL_law_530 (by repeat (first | assumption | exact hset_eq _ _ _ | refine (hset_ne _ _ (by omega)).trans ?_)) (by omega) (by omega) ?_
      refine AW.cI3 (d' := d - 1) (cL_68 rfl) okX12_shortest dL_law_531 (by repeat (first | assumption | exact hset_eq _ _ _ | refine (hset_ne _ _ (by omega)).trans ?_)) (by omega) (W_shortest M1 (by omega) (fun r2 S2 h2 e2 M2 => ?_))
      refine AW.if_icmpeq (tgt := 994) dL_law_534 (by decide) (fun c534 => ?_) (fun c534 => absurd (congrArg Prod.fst (e1.trans e2.symm)) c534)
      exact nx h2 S1 (LWS.fin C1 g1 (by rw [show S1 = S2 from congrArg Prod.snd (e1.trans e2.symm)]; exact M2))
    | 13, hi =>
      cases hi
      refine AW.aload_n dL_law_539 rfl ?_
      refine AW.aload_n dL_law_540 rfl ?_
      refine AW.iload_n dL_law_541 rfl ?_
      refine AW.iconst dL_law_542 ?_
      refine AW.iaddR dL_law_543 (by unfold RI; omega) ?_
      refine AW.iaload dL_law_544 (by repeat (first | assumption | exact hset_eq _ _ _ | refine (hset_ne _ _ (by omega)).trans ?_)) (by omega) (by omega) ?_
      refine AW.aload_n dL_law_545 rfl ?_
      refine AW.iload_n dL_law_546 rfl ?_
      refine AW.iconst dL_law_547 ?_
      refine AW.iaddR dL_law_548 (by unfold RI; omega) ?_
      refine AW.iaload dL_law_549 (by repeat (first | assumption | exact hset_eq _ _ _ | refine (hset_ne _ _ (by omega)).trans ?_)) (by omega) (by omega) ?_
      refine AW.cI3 (d' := d - 1) (cL_69 rfl) okX11_cut dL_law_550 (by repeat (first | assumption | exact hset_eq _ _ _ | refine (hset_ne _ _ (by omega)).trans ?_)) (by omega) (C_cut HC (by omega) (fun r1 S1 h1 e1 C1 F1 => ?_))
      obtain ⟨M1, g1, s5, vs1, o1⟩ := H.n F1 C1
      refine AW.aload_n dL_law_553 rfl ?_
      refine AW.aload_n dL_law_554 rfl ?_
      refine AW.iload_n dL_law_555 rfl ?_
      refine AW.iconst dL_law_556 ?_
      refine AW.iaddR dL_law_557 (by unfold RI; omega) ?_
      refine AW.iaload dL_law_558 (by repeat (first | assumption | exact hset_eq _ _ _ | refine (hset_ne _ _ (by omega)).trans ?_)) (by omega) (by omega) ?_
      refine AW.aload_n dL_law_559 rfl ?_
      refine AW.iload_n dL_law_560 rfl ?_
      refine AW.iconst dL_law_561 ?_
      refine AW.iaddR dL_law_562 (by unfold RI; omega) ?_
      refine AW.iaload dL_law_563 (by repeat (first | assumption | exact hset_eq _ _ _ | refine (hset_ne _ _ (by omega)).trans ?_)) (by omega) (by omega) ?_
      refine AW.cI3 (d' := d - 1) (cL_72 rfl) okX12_cut dL_law_564 (by repeat (first | assumption | exact hset_eq _ _ _ | refine (hset_ne _ _ (by omega)).trans ?_)) (by omega) (W_cut M1 (by omega) (fun r2 S2 h2 e2 M2 => ?_))
      refine AW.if_icmpeq (tgt := 994) dL_law_567 (by decide) (fun c567 => ?_) (fun c567 => absurd (congrArg Prod.fst (e1.trans e2.symm)) c567)
      exact nx h2 S1 (LWS.fin C1 g1 (by rw [show S1 = S2 from congrArg Prod.snd (e1.trans e2.symm)]; exact M2))
    | 14, hi =>
      cases hi
      refine AW.aload_n dL_law_572 rfl ?_
      refine AW.aload_n dL_law_573 rfl ?_
      refine AW.iload_n dL_law_574 rfl ?_
      refine AW.iconst dL_law_575 ?_
      refine AW.iaddR dL_law_576 (by unfold RI; omega) ?_
      refine AW.iaload dL_law_577 (by repeat (first | assumption | exact hset_eq _ _ _ | refine (hset_ne _ _ (by omega)).trans ?_)) (by omega) (by omega) ?_
      refine AW.aload_n dL_law_578 rfl ?_
      refine AW.iload_n dL_law_579 rfl ?_
      refine AW.iconst dL_law_580 ?_
      refine AW.iaddR dL_law_581 (by unfold RI; omega) ?_
      refine AW.iaload dL_law_582 (by repeat (first | assumption | exact hset_eq _ _ _ | refine (hset_ne _ _ (by omega)).trans ?_)) (by omega) (by omega) ?_
      refine AW.cI3 (d' := d - 1) (cL_73 rfl) okX11_many dL_law_583 (by repeat (first | assumption | exact hset_eq _ _ _ | refine (hset_ne _ _ (by omega)).trans ?_)) (by omega) (C_many HC (by omega) (fun r1 S1 h1 e1 C1 F1 => ?_))
      obtain ⟨M1, g1, s5, vs1, o1⟩ := H.n F1 C1
      refine AW.aload_n dL_law_586 rfl ?_
      refine AW.aload_n dL_law_587 rfl ?_
      refine AW.iload_n dL_law_588 rfl ?_
      refine AW.iconst dL_law_589 ?_
      refine AW.iaddR dL_law_590 (by unfold RI; omega) ?_
      refine AW.iaload dL_law_591 (by repeat (first | assumption | exact hset_eq _ _ _ | refine (hset_ne _ _ (by omega)).trans ?_)) (by omega) (by omega) ?_
      refine AW.aload_n dL_law_592 rfl ?_
      refine AW.iload_n dL_law_593 rfl ?_
      refine AW.iconst dL_law_594 ?_
      refine AW.iaddR dL_law_595 (by unfold RI; omega) ?_
      refine AW.iaload dL_law_596 (by repeat (first | assumption | exact hset_eq _ _ _ | refine (hset_ne _ _ (by omega)).trans ?_)) (by omega) (by omega) ?_
      refine AW.cI3 (d' := d - 1) (cL_76 rfl) okX12_many dL_law_597 (by repeat (first | assumption | exact hset_eq _ _ _ | refine (hset_ne _ _ (by omega)).trans ?_)) (by omega) (W_many M1 (by omega) (fun r2 S2 h2 e2 M2 => ?_))
      refine AW.if_icmpeq (tgt := 994) dL_law_600 (by decide) (fun c600 => ?_) (fun c600 => absurd (congrArg Prod.fst (e1.trans e2.symm)) c600)
      exact nx h2 S1 (LWS.fin C1 g1 (by rw [show S1 = S2 from congrArg Prod.snd (e1.trans e2.symm)]; exact M2))
    | 15, hi =>
      cases hi
      refine AW.aload_n dL_law_605 rfl ?_
      refine AW.aload_n dL_law_606 rfl ?_
      refine AW.iload_n dL_law_607 rfl ?_
      refine AW.iconst dL_law_608 ?_
      refine AW.iaddR dL_law_609 (by unfold RI; omega) ?_
      refine AW.iaload dL_law_610 (by repeat (first | assumption | exact hset_eq _ _ _ | refine (hset_ne _ _ (by omega)).trans ?_)) (by omega) (by omega) ?_
      refine AW.aload_n dL_law_611 rfl ?_
      refine AW.iload_n dL_law_612 rfl ?_
      refine AW.iconst dL_law_613 ?_
      refine AW.iaddR dL_law_614 (by unfold RI; omega) ?_
      refine AW.iaload dL_law_615 (by repeat (first | assumption | exact hset_eq _ _ _ | refine (hset_ne _ _ (by omega)).trans ?_)) (by omega) (by omega) ?_
      refine AW.cI3 (d' := d - 1) (cL_77 rfl) okX11_farthest dL_law_616 (by repeat (first | assumption | exact hset_eq _ _ _ | refine (hset_ne _ _ (by omega)).trans ?_)) (by omega) (C_farthest HC (by omega) (fun r1 S1 h1 e1 C1 F1 => ?_))
      obtain ⟨M1, g1, s5, vs1, o1⟩ := H.n F1 C1
      refine AW.aload_n dL_law_619 rfl ?_
      refine AW.aload_n dL_law_620 rfl ?_
      refine AW.iload_n dL_law_621 rfl ?_
      refine AW.iconst dL_law_622 ?_
      refine AW.iaddR dL_law_623 (by unfold RI; omega) ?_
      refine AW.iaload dL_law_624 (by repeat (first | assumption | exact hset_eq _ _ _ | refine (hset_ne _ _ (by omega)).trans ?_)) (by omega) (by omega) ?_
      refine AW.aload_n dL_law_625 rfl ?_
      refine AW.iload_n dL_law_626 rfl ?_
      refine AW.iconst dL_law_627 ?_
      refine AW.iaddR dL_law_628 (by unfold RI; omega) ?_
      refine AW.iaload dL_law_629 (by repeat (first | assumption | exact hset_eq _ _ _ | refine (hset_ne _ _ (by omega)).trans ?_)) (by omega) (by omega) ?_
      refine AW.cI3 (d' := d - 1) (cL_80 rfl) okX12_farthest dL_law_630 (by repeat (first | assumption | exact hset_eq _ _ _ | refine (hset_ne _ _ (by omega)).trans ?_)) (by omega) (W_farthest M1 (by omega) (fun r2 S2 h2 e2 M2 => ?_))
      refine AW.if_icmpeq (tgt := 994) dL_law_633 (by decide) (fun c633 => ?_) (fun c633 => absurd (congrArg Prod.fst (e1.trans e2.symm)) c633)
      exact nx h2 S1 (LWS.fin C1 g1 (by rw [show S1 = S2 from congrArg Prod.snd (e1.trans e2.symm)]; exact M2))
    | 16, hi =>
      cases hi
      refine AW.aload_n dL_law_638 rfl ?_
      refine AW.aload_n dL_law_639 rfl ?_
      refine AW.iload_n dL_law_640 rfl ?_
      refine AW.iconst dL_law_641 ?_
      refine AW.iaddR dL_law_642 (by unfold RI; omega) ?_
      refine AW.iaload dL_law_643 (by repeat (first | assumption | exact hset_eq _ _ _ | refine (hset_ne _ _ (by omega)).trans ?_)) (by omega) (by omega) ?_
      refine AW.aload_n dL_law_644 rfl ?_
      refine AW.iload_n dL_law_645 rfl ?_
      refine AW.iconst dL_law_646 ?_
      refine AW.iaddR dL_law_647 (by unfold RI; omega) ?_
      refine AW.iaload dL_law_648 (by repeat (first | assumption | exact hset_eq _ _ _ | refine (hset_ne _ _ (by omega)).trans ?_)) (by omega) (by omega) ?_
      refine AW.cI3 (d' := d - 1) (cL_81 rfl) okX11_saves dL_law_649 (by repeat (first | assumption | exact hset_eq _ _ _ | refine (hset_ne _ _ (by omega)).trans ?_)) (by omega) (C_saves HC (by omega) (fun r1 S1 h1 e1 C1 F1 => ?_))
      obtain ⟨M1, g1, s5, vs1, o1⟩ := H.n F1 C1
      refine AW.aload_n dL_law_652 rfl ?_
      refine AW.aload_n dL_law_653 rfl ?_
      refine AW.iload_n dL_law_654 rfl ?_
      refine AW.iconst dL_law_655 ?_
      refine AW.iaddR dL_law_656 (by unfold RI; omega) ?_
      refine AW.iaload dL_law_657 (by repeat (first | assumption | exact hset_eq _ _ _ | refine (hset_ne _ _ (by omega)).trans ?_)) (by omega) (by omega) ?_
      refine AW.aload_n dL_law_658 rfl ?_
      refine AW.iload_n dL_law_659 rfl ?_
      refine AW.iconst dL_law_660 ?_
      refine AW.iaddR dL_law_661 (by unfold RI; omega) ?_
      refine AW.iaload dL_law_662 (by repeat (first | assumption | exact hset_eq _ _ _ | refine (hset_ne _ _ (by omega)).trans ?_)) (by omega) (by omega) ?_
      refine AW.cI3 (d' := d - 1) (cL_84 rfl) okX12_saves dL_law_663 (by repeat (first | assumption | exact hset_eq _ _ _ | refine (hset_ne _ _ (by omega)).trans ?_)) (by omega) (W_saves M1 (by omega) (fun r2 S2 h2 e2 M2 => ?_))
      refine AW.if_icmpeq (tgt := 994) dL_law_666 (by decide) (fun c666 => ?_) (fun c666 => absurd (congrArg Prod.fst (e1.trans e2.symm)) c666)
      exact nx h2 S1 (LWS.fin C1 g1 (by rw [show S1 = S2 from congrArg Prod.snd (e1.trans e2.symm)]; exact M2))
    | 17, hi =>
      cases hi
      refine AW.aload_n dL_law_671 rfl ?_
      refine AW.aload_n dL_law_672 rfl ?_
      refine AW.iload_n dL_law_673 rfl ?_
      refine AW.iconst dL_law_674 ?_
      refine AW.iaddR dL_law_675 (by unfold RI; omega) ?_
      refine AW.iaload dL_law_676 (by repeat (first | assumption | exact hset_eq _ _ _ | refine (hset_ne _ _ (by omega)).trans ?_)) (by omega) (by omega) ?_
      refine AW.aload_n dL_law_677 rfl ?_
      refine AW.iload_n dL_law_678 rfl ?_
      refine AW.iconst dL_law_679 ?_
      refine AW.iaddR dL_law_680 (by unfold RI; omega) ?_
      refine AW.iaload dL_law_681 (by repeat (first | assumption | exact hset_eq _ _ _ | refine (hset_ne _ _ (by omega)).trans ?_)) (by omega) (by omega) ?_
      refine AW.aload_n dL_law_682 rfl ?_
      refine AW.iload_n dL_law_683 rfl ?_
      refine AW.iconst dL_law_684 ?_
      refine AW.iaddR dL_law_685 (by unfold RI; omega) ?_
      refine AW.iaload dL_law_686 (by repeat (first | assumption | exact hset_eq _ _ _ | refine (hset_ne _ _ (by omega)).trans ?_)) (by omega) (by omega) ?_
      refine AW.cI4 (d' := d - 1) (cL_85 rfl) okX11_joined dL_law_687 (by repeat (first | assumption | exact hset_eq _ _ _ | refine (hset_ne _ _ (by omega)).trans ?_)) (by omega) (C_joined HC (by omega) (fun r1 S1 h1 e1 C1 F1 => ?_))
      obtain ⟨M1, g1, s5, vs1, o1⟩ := H.n F1 C1
      refine AW.aload_n dL_law_690 rfl ?_
      refine AW.aload_n dL_law_691 rfl ?_
      refine AW.iload_n dL_law_692 rfl ?_
      refine AW.iconst dL_law_693 ?_
      refine AW.iaddR dL_law_694 (by unfold RI; omega) ?_
      refine AW.iaload dL_law_695 (by repeat (first | assumption | exact hset_eq _ _ _ | refine (hset_ne _ _ (by omega)).trans ?_)) (by omega) (by omega) ?_
      refine AW.aload_n dL_law_696 rfl ?_
      refine AW.iload_n dL_law_697 rfl ?_
      refine AW.iconst dL_law_698 ?_
      refine AW.iaddR dL_law_699 (by unfold RI; omega) ?_
      refine AW.iaload dL_law_700 (by repeat (first | assumption | exact hset_eq _ _ _ | refine (hset_ne _ _ (by omega)).trans ?_)) (by omega) (by omega) ?_
      refine AW.aload_n dL_law_701 rfl ?_
      refine AW.iload_n dL_law_702 rfl ?_
      refine AW.iconst dL_law_703 ?_
      refine AW.iaddR dL_law_704 (by unfold RI; omega) ?_
      refine AW.iaload dL_law_705 (by repeat (first | assumption | exact hset_eq _ _ _ | refine (hset_ne _ _ (by omega)).trans ?_)) (by omega) (by omega) ?_
      refine AW.cI4 (d' := d - 1) (cL_88 rfl) okX12_joined dL_law_706 (by repeat (first | assumption | exact hset_eq _ _ _ | refine (hset_ne _ _ (by omega)).trans ?_)) (by omega) (W_joined M1 (by omega) (fun r2 S2 h2 e2 M2 => ?_))
      refine AW.if_icmpeq (tgt := 994) dL_law_709 (by decide) (fun c709 => ?_) (fun c709 => absurd (congrArg Prod.fst (e1.trans e2.symm)) c709)
      exact nx h2 S1 (LWS.fin C1 g1 (by rw [show S1 = S2 from congrArg Prod.snd (e1.trans e2.symm)]; exact M2))
    | 18, hi =>
      cases hi
      refine AW.aload_n dL_law_714 rfl ?_
      refine AW.aload_n dL_law_715 rfl ?_
      refine AW.iload_n dL_law_716 rfl ?_
      refine AW.iconst dL_law_717 ?_
      refine AW.iaddR dL_law_718 (by unfold RI; omega) ?_
      refine AW.iaload dL_law_719 (by repeat (first | assumption | exact hset_eq _ _ _ | refine (hset_ne _ _ (by omega)).trans ?_)) (by omega) (by omega) ?_
      refine AW.aload_n dL_law_720 rfl ?_
      refine AW.iload_n dL_law_721 rfl ?_
      refine AW.iconst dL_law_722 ?_
      refine AW.iaddR dL_law_723 (by unfold RI; omega) ?_
      refine AW.iaload dL_law_724 (by repeat (first | assumption | exact hset_eq _ _ _ | refine (hset_ne _ _ (by omega)).trans ?_)) (by omega) (by omega) ?_
      refine AW.aload_n dL_law_725 rfl ?_
      refine AW.iload_n dL_law_726 rfl ?_
      refine AW.iconst dL_law_727 ?_
      refine AW.iaddR dL_law_728 (by unfold RI; omega) ?_
      refine AW.iaload dL_law_729 (by repeat (first | assumption | exact hset_eq _ _ _ | refine (hset_ne _ _ (by omega)).trans ?_)) (by omega) (by omega) ?_
      refine AW.cI4 (d' := d - 1) (cL_89 rfl) okX11_drops dL_law_730 (by repeat (first | assumption | exact hset_eq _ _ _ | refine (hset_ne _ _ (by omega)).trans ?_)) (by omega) (C_drops HC (by omega) (fun r1 S1 h1 e1 C1 F1 => ?_))
      obtain ⟨M1, g1, s5, vs1, o1⟩ := H.n F1 C1
      refine AW.aload_n dL_law_733 rfl ?_
      refine AW.aload_n dL_law_734 rfl ?_
      refine AW.iload_n dL_law_735 rfl ?_
      refine AW.iconst dL_law_736 ?_
      refine AW.iaddR dL_law_737 (by unfold RI; omega) ?_
      refine AW.iaload dL_law_738 (by repeat (first | assumption | exact hset_eq _ _ _ | refine (hset_ne _ _ (by omega)).trans ?_)) (by omega) (by omega) ?_
      refine AW.aload_n dL_law_739 rfl ?_
      refine AW.iload_n dL_law_740 rfl ?_
      refine AW.iconst dL_law_741 ?_
      refine AW.iaddR dL_law_742 (by unfold RI; omega) ?_
      refine AW.iaload dL_law_743 (by repeat (first | assumption | exact hset_eq _ _ _ | refine (hset_ne _ _ (by omega)).trans ?_)) (by omega) (by omega) ?_
      refine AW.aload_n dL_law_744 rfl ?_
      refine AW.iload_n dL_law_745 rfl ?_
      refine AW.iconst dL_law_746 ?_
      refine AW.iaddR dL_law_747 (by unfold RI; omega) ?_
      refine AW.iaload dL_law_748 (by repeat (first | assumption | exact hset_eq _ _ _ | refine (hset_ne _ _ (by omega)).trans ?_)) (by omega) (by omega) ?_
      refine AW.cI4 (d' := d - 1) (cL_92 rfl) okX12_drops dL_law_749 (by repeat (first | assumption | exact hset_eq _ _ _ | refine (hset_ne _ _ (by omega)).trans ?_)) (by omega) (W_drops M1 (by omega) (fun r2 S2 h2 e2 M2 => ?_))
      refine AW.if_icmpeq (tgt := 994) dL_law_752 (by decide) (fun c752 => ?_) (fun c752 => absurd (congrArg Prod.fst (e1.trans e2.symm)) c752)
      exact nx h2 S1 (LWS.fin C1 g1 (by rw [show S1 = S2 from congrArg Prod.snd (e1.trans e2.symm)]; exact M2))
    | 19, hi =>
      cases hi
      refine AW.aload_n dL_law_757 rfl ?_
      refine AW.aload_n dL_law_758 rfl ?_
      refine AW.iload_n dL_law_759 rfl ?_
      refine AW.iconst dL_law_760 ?_
      refine AW.iaddR dL_law_761 (by unfold RI; omega) ?_
      refine AW.iaload dL_law_762 (by repeat (first | assumption | exact hset_eq _ _ _ | refine (hset_ne _ _ (by omega)).trans ?_)) (by omega) (by omega) ?_
      refine AW.aload_n dL_law_763 rfl ?_
      refine AW.iload_n dL_law_764 rfl ?_
      refine AW.iconst dL_law_765 ?_
      refine AW.iaddR dL_law_766 (by unfold RI; omega) ?_
      refine AW.iaload dL_law_767 (by repeat (first | assumption | exact hset_eq _ _ _ | refine (hset_ne _ _ (by omega)).trans ?_)) (by omega) (by omega) ?_
      refine AW.aload_n dL_law_768 rfl ?_
      refine AW.iload_n dL_law_769 rfl ?_
      refine AW.iconst dL_law_770 ?_
      refine AW.iaddR dL_law_771 (by unfold RI; omega) ?_
      refine AW.iaload dL_law_772 (by repeat (first | assumption | exact hset_eq _ _ _ | refine (hset_ne _ _ (by omega)).trans ?_)) (by omega) (by omega) ?_
      refine AW.aload_n dL_law_773 rfl ?_
      refine AW.iload_n dL_law_774 rfl ?_
      refine AW.iconst dL_law_775 ?_
      refine AW.iaddR dL_law_776 (by unfold RI; omega) ?_
      refine AW.iaload dL_law_777 (by repeat (first | assumption | exact hset_eq _ _ _ | refine (hset_ne _ _ (by omega)).trans ?_)) (by omega) (by omega) ?_
      refine AW.cI5 (d' := d - 1) (cL_93 rfl) okX11_heard dL_law_778 (by repeat (first | assumption | exact hset_eq _ _ _ | refine (hset_ne _ _ (by omega)).trans ?_)) (by omega) (C_heard HC (by omega) (fun r1 S1 h1 e1 C1 F1 => ?_))
      obtain ⟨M1, g1, s5, vs1, o1⟩ := H.n F1 C1
      refine AW.aload_n dL_law_781 rfl ?_
      refine AW.aload_n dL_law_782 rfl ?_
      refine AW.iload_n dL_law_783 rfl ?_
      refine AW.iconst dL_law_784 ?_
      refine AW.iaddR dL_law_785 (by unfold RI; omega) ?_
      refine AW.iaload dL_law_786 (by repeat (first | assumption | exact hset_eq _ _ _ | refine (hset_ne _ _ (by omega)).trans ?_)) (by omega) (by omega) ?_
      refine AW.aload_n dL_law_787 rfl ?_
      refine AW.iload_n dL_law_788 rfl ?_
      refine AW.iconst dL_law_789 ?_
      refine AW.iaddR dL_law_790 (by unfold RI; omega) ?_
      refine AW.iaload dL_law_791 (by repeat (first | assumption | exact hset_eq _ _ _ | refine (hset_ne _ _ (by omega)).trans ?_)) (by omega) (by omega) ?_
      refine AW.aload_n dL_law_792 rfl ?_
      refine AW.iload_n dL_law_793 rfl ?_
      refine AW.iconst dL_law_794 ?_
      refine AW.iaddR dL_law_795 (by unfold RI; omega) ?_
      refine AW.iaload dL_law_796 (by repeat (first | assumption | exact hset_eq _ _ _ | refine (hset_ne _ _ (by omega)).trans ?_)) (by omega) (by omega) ?_
      refine AW.aload_n dL_law_797 rfl ?_
      refine AW.iload_n dL_law_798 rfl ?_
      refine AW.iconst dL_law_799 ?_
      refine AW.iaddR dL_law_800 (by unfold RI; omega) ?_
      refine AW.iaload dL_law_801 (by repeat (first | assumption | exact hset_eq _ _ _ | refine (hset_ne _ _ (by omega)).trans ?_)) (by omega) (by omega) ?_
      refine AW.cI5 (d' := d - 1) (cL_97 rfl) okX12_heard dL_law_802 (by repeat (first | assumption | exact hset_eq _ _ _ | refine (hset_ne _ _ (by omega)).trans ?_)) (by omega) (W_heard M1 (by omega) (fun r2 S2 h2 e2 M2 => ?_))
      refine AW.if_icmpeq (tgt := 994) dL_law_805 (by decide) (fun c805 => ?_) (fun c805 => absurd (congrArg Prod.fst (e1.trans e2.symm)) c805)
      exact nx h2 S1 (LWS.fin C1 g1 (by rw [show S1 = S2 from congrArg Prod.snd (e1.trans e2.symm)]; exact M2))
    | 20, hi =>
      cases hi
      refine AW.aload_n dL_law_810 rfl ?_
      refine AW.aload_n dL_law_811 rfl ?_
      refine AW.iload_n dL_law_812 rfl ?_
      refine AW.iconst dL_law_813 ?_
      refine AW.iaddR dL_law_814 (by unfold RI; omega) ?_
      refine AW.iaload dL_law_815 (by repeat (first | assumption | exact hset_eq _ _ _ | refine (hset_ne _ _ (by omega)).trans ?_)) (by omega) (by omega) ?_
      refine AW.cI2 (d' := d - 1) (cL_98 rfl) okX11_unlike dL_law_816 (by repeat (first | assumption | exact hset_eq _ _ _ | refine (hset_ne _ _ (by omega)).trans ?_)) (by omega) (C_unlike HC (by omega) (fun r1 S1 h1 e1 C1 F1 => ?_))
      obtain ⟨M1, g1, s5, vs1, o1⟩ := H.n F1 C1
      refine AW.aload_n dL_law_819 rfl ?_
      refine AW.aload_n dL_law_820 rfl ?_
      refine AW.iload_n dL_law_821 rfl ?_
      refine AW.iconst dL_law_822 ?_
      refine AW.iaddR dL_law_823 (by unfold RI; omega) ?_
      refine AW.iaload dL_law_824 (by repeat (first | assumption | exact hset_eq _ _ _ | refine (hset_ne _ _ (by omega)).trans ?_)) (by omega) (by omega) ?_
      refine AW.cI2 (d' := d - 1) (cL_101 rfl) okX12_unlike dL_law_825 (by repeat (first | assumption | exact hset_eq _ _ _ | refine (hset_ne _ _ (by omega)).trans ?_)) (by omega) (W_unlike M1 (by omega) (fun r2 S2 h2 e2 M2 => ?_))
      refine AW.if_icmpeq (tgt := 994) dL_law_828 (by decide) (fun c828 => ?_) (fun c828 => absurd (congrArg Prod.fst (e1.trans e2.symm)) c828)
      exact nx h2 S1 (LWS.fin C1 g1 (by rw [show S1 = S2 from congrArg Prod.snd (e1.trans e2.symm)]; exact M2))
    | 21, hi =>
      cases hi
      refine AW.aload_n dL_law_833 rfl ?_
      refine AW.cI1 (d' := d - 1) (cL_102 rfl) okX11_agree dL_law_834 (by repeat (first | assumption | exact hset_eq _ _ _ | refine (hset_ne _ _ (by omega)).trans ?_)) (by omega) (C_agree HC (by omega) (fun r1 S1 h1 e1 C1 F1 => ?_))
      obtain ⟨M1, g1, s5, vs1, o1⟩ := H.n F1 C1
      refine AW.aload_n dL_law_837 rfl ?_
      refine AW.cI1 (d' := d - 1) (cL_105 rfl) okX12_agree dL_law_838 (by repeat (first | assumption | exact hset_eq _ _ _ | refine (hset_ne _ _ (by omega)).trans ?_)) (by omega) (W_agree M1 (by omega) (fun r2 S2 h2 e2 M2 => ?_))
      refine AW.if_icmpeq (tgt := 994) dL_law_841 (by decide) (fun c841 => ?_) (fun c841 => absurd (congrArg Prod.fst (e1.trans e2.symm)) c841)
      exact nx h2 S1 (LWS.fin C1 g1 (by rw [show S1 = S2 from congrArg Prod.snd (e1.trans e2.symm)]; exact M2))
    | 22, hi =>
      cases hi
      refine AW.aload_n dL_law_846 rfl ?_
      refine AW.aload_n dL_law_847 rfl ?_
      refine AW.iload_n dL_law_848 rfl ?_
      refine AW.iconst dL_law_849 ?_
      refine AW.iaddR dL_law_850 (by unfold RI; omega) ?_
      refine AW.iaload dL_law_851 (by repeat (first | assumption | exact hset_eq _ _ _ | refine (hset_ne _ _ (by omega)).trans ?_)) (by omega) (by omega) ?_
      refine AW.cI2 (d' := d - 1) (cL_106 rfl) okX11_row dL_law_852 (by repeat (first | assumption | exact hset_eq _ _ _ | refine (hset_ne _ _ (by omega)).trans ?_)) (by omega) (C_row HC (by omega) (fun r1 S1 h1 e1 C1 F1 => ?_))
      obtain ⟨M1, g1, s5, vs1, o1⟩ := H.n F1 C1
      refine AW.aload_n dL_law_855 rfl ?_
      refine AW.aload_n dL_law_856 rfl ?_
      refine AW.iload_n dL_law_857 rfl ?_
      refine AW.iconst dL_law_858 ?_
      refine AW.iaddR dL_law_859 (by unfold RI; omega) ?_
      refine AW.iaload dL_law_860 (by repeat (first | assumption | exact hset_eq _ _ _ | refine (hset_ne _ _ (by omega)).trans ?_)) (by omega) (by omega) ?_
      refine AW.cI2 (d' := d - 1) (cL_109 rfl) okX12_row dL_law_861 (by repeat (first | assumption | exact hset_eq _ _ _ | refine (hset_ne _ _ (by omega)).trans ?_)) (by omega) (W_row M1 (by omega) (fun r2 S2 h2 e2 M2 => ?_))
      refine AW.if_icmpeq (tgt := 994) dL_law_864 (by decide) (fun c864 => ?_) (fun c864 => absurd (congrArg Prod.fst (e1.trans e2.symm)) c864)
      exact nx h2 S1 (LWS.fin C1 g1 (by rw [show S1 = S2 from congrArg Prod.snd (e1.trans e2.symm)]; exact M2))
    | 23, hi =>
      cases hi
      refine AW.aload_n dL_law_869 rfl ?_
      refine AW.aload_n dL_law_870 rfl ?_
      refine AW.iload_n dL_law_871 rfl ?_
      refine AW.iconst dL_law_872 ?_
      refine AW.iaddR dL_law_873 (by unfold RI; omega) ?_
      refine AW.iaload dL_law_874 (by repeat (first | assumption | exact hset_eq _ _ _ | refine (hset_ne _ _ (by omega)).trans ?_)) (by omega) (by omega) ?_
      refine AW.cI2 (d' := d - 1) (cL_110 rfl) okX11_judge dL_law_875 (by repeat (first | assumption | exact hset_eq _ _ _ | refine (hset_ne _ _ (by omega)).trans ?_)) (by omega) (C_judge HC (by omega) (fun r1 S1 h1 e1 C1 F1 => ?_))
      obtain ⟨M1, g1, s5, vs1, o1⟩ := H.n F1 C1
      refine AW.aload_n dL_law_878 rfl ?_
      refine AW.aload_n dL_law_879 rfl ?_
      refine AW.iload_n dL_law_880 rfl ?_
      refine AW.iconst dL_law_881 ?_
      refine AW.iaddR dL_law_882 (by unfold RI; omega) ?_
      refine AW.iaload dL_law_883 (by repeat (first | assumption | exact hset_eq _ _ _ | refine (hset_ne _ _ (by omega)).trans ?_)) (by omega) (by omega) ?_
      refine AW.cI2 (d' := d - 1) (cL_113 rfl) okX12_judge dL_law_884 (by repeat (first | assumption | exact hset_eq _ _ _ | refine (hset_ne _ _ (by omega)).trans ?_)) (by omega) (W_judge M1 (by omega) (fun r2 S2 h2 e2 M2 => ?_))
      refine AW.if_icmpeq (tgt := 994) dL_law_887 (by decide) (fun c887 => ?_) (fun c887 => absurd (congrArg Prod.fst (e1.trans e2.symm)) c887)
      exact nx h2 S1 (LWS.fin C1 g1 (by rw [show S1 = S2 from congrArg Prod.snd (e1.trans e2.symm)]; exact M2))
    | 24, hi =>
      cases hi
      refine AW.aload_n dL_law_892 rfl ?_
      refine AW.aload_n dL_law_893 rfl ?_
      refine AW.iload_n dL_law_894 rfl ?_
      refine AW.iconst dL_law_895 ?_
      refine AW.iaddR dL_law_896 (by unfold RI; omega) ?_
      refine AW.iaload dL_law_897 (by repeat (first | assumption | exact hset_eq _ _ _ | refine (hset_ne _ _ (by omega)).trans ?_)) (by omega) (by omega) ?_
      refine AW.aload_n dL_law_898 rfl ?_
      refine AW.iload_n dL_law_899 rfl ?_
      refine AW.iconst dL_law_900 ?_
      refine AW.iaddR dL_law_901 (by unfold RI; omega) ?_
      refine AW.iaload dL_law_902 (by repeat (first | assumption | exact hset_eq _ _ _ | refine (hset_ne _ _ (by omega)).trans ?_)) (by omega) (by omega) ?_
      refine AW.aload_n dL_law_903 rfl ?_
      refine AW.iload_n dL_law_904 rfl ?_
      refine AW.iconst dL_law_905 ?_
      refine AW.iaddR dL_law_906 (by unfold RI; omega) ?_
      refine AW.iaload dL_law_907 (by repeat (first | assumption | exact hset_eq _ _ _ | refine (hset_ne _ _ (by omega)).trans ?_)) (by omega) (by omega) ?_
      refine AW.aload_n dL_law_908 rfl ?_
      refine AW.iload_n dL_law_909 rfl ?_
      refine AW.iconst dL_law_910 ?_
      refine AW.iaddR dL_law_911 (by unfold RI; omega) ?_
      refine AW.iaload dL_law_912 (by repeat (first | assumption | exact hset_eq _ _ _ | refine (hset_ne _ _ (by omega)).trans ?_)) (by omega) (by omega) ?_
      refine AW.cI5 (d' := d - 1) (cL_114 rfl) okX11_seeds dL_law_913 (by repeat (first | assumption | exact hset_eq _ _ _ | refine (hset_ne _ _ (by omega)).trans ?_)) (by omega) (C_seeds HC (by omega) (fun r1 S1 h1 e1 C1 F1 => ?_))
      obtain ⟨M1, g1, s5, vs1, o1⟩ := H.n F1 C1
      refine AW.aload_n dL_law_916 rfl ?_
      refine AW.aload_n dL_law_917 rfl ?_
      refine AW.iload_n dL_law_918 rfl ?_
      refine AW.iconst dL_law_919 ?_
      refine AW.iaddR dL_law_920 (by unfold RI; omega) ?_
      refine AW.iaload dL_law_921 (by repeat (first | assumption | exact hset_eq _ _ _ | refine (hset_ne _ _ (by omega)).trans ?_)) (by omega) (by omega) ?_
      refine AW.aload_n dL_law_922 rfl ?_
      refine AW.iload_n dL_law_923 rfl ?_
      refine AW.iconst dL_law_924 ?_
      refine AW.iaddR dL_law_925 (by unfold RI; omega) ?_
      refine AW.iaload dL_law_926 (by repeat (first | assumption | exact hset_eq _ _ _ | refine (hset_ne _ _ (by omega)).trans ?_)) (by omega) (by omega) ?_
      refine AW.aload_n dL_law_927 rfl ?_
      refine AW.iload_n dL_law_928 rfl ?_
      refine AW.iconst dL_law_929 ?_
      refine AW.iaddR dL_law_930 (by unfold RI; omega) ?_
      refine AW.iaload dL_law_931 (by repeat (first | assumption | exact hset_eq _ _ _ | refine (hset_ne _ _ (by omega)).trans ?_)) (by omega) (by omega) ?_
      refine AW.aload_n dL_law_932 rfl ?_
      refine AW.iload_n dL_law_933 rfl ?_
      refine AW.iconst dL_law_934 ?_
      refine AW.iaddR dL_law_935 (by unfold RI; omega) ?_
      refine AW.iaload dL_law_936 (by repeat (first | assumption | exact hset_eq _ _ _ | refine (hset_ne _ _ (by omega)).trans ?_)) (by omega) (by omega) ?_
      refine AW.cI5 (d' := d - 1) (cL_117 rfl) okX12_seeds dL_law_937 (by repeat (first | assumption | exact hset_eq _ _ _ | refine (hset_ne _ _ (by omega)).trans ?_)) (by omega) (W_seeds M1 (by omega) (fun r2 S2 h2 e2 M2 => ?_))
      refine AW.if_icmpeq (tgt := 994) dL_law_940 (by decide) (fun c940 => ?_) (fun c940 => absurd (congrArg Prod.fst (e1.trans e2.symm)) c940)
      exact nx h2 S1 (LWS.fin C1 g1 (by rw [show S1 = S2 from congrArg Prod.snd (e1.trans e2.symm)]; exact M2))
    | 25, hi =>
      cases hi
      refine AW.aload_n dL_law_945 rfl ?_
      refine AW.cI1 (d' := d - 1) (cL_118 rfl) okX11_image dL_law_946 (by repeat (first | assumption | exact hset_eq _ _ _ | refine (hset_ne _ _ (by omega)).trans ?_)) (by omega) (C_image HC (by omega) (fun r1 S1 h1 e1 C1 F1 => ?_))
      obtain ⟨M1, g1, s5, vs1, o1⟩ := H.n F1 C1
      refine AW.aload_n dL_law_949 rfl ?_
      refine AW.cI1 (d' := d - 1) (cL_121 rfl) okX12_image dL_law_950 (by repeat (first | assumption | exact hset_eq _ _ _ | refine (hset_ne _ _ (by omega)).trans ?_)) (by omega) (W_image M1 (by omega) (fun r2 S2 h2 e2 M2 => ?_))
      refine AW.if_icmpeq (tgt := 994) dL_law_953 (by decide) (fun c953 => ?_) (fun c953 => absurd (congrArg Prod.fst (e1.trans e2.symm)) c953)
      exact nx h2 S1 (LWS.fin C1 g1 (by rw [show S1 = S2 from congrArg Prod.snd (e1.trans e2.symm)]; exact M2))
    | 26, hi =>
      cases hi
      refine AW.aload_n dL_law_958 rfl ?_
      refine AW.cI1 (d' := d - 1) (cL_122 rfl) okX11_restore dL_law_959 (by repeat (first | assumption | exact hset_eq _ _ _ | refine (hset_ne _ _ (by omega)).trans ?_)) (by omega) (C_restore HC (by omega) (fun r1 S1 h1 e1 C1 F1 => ?_))
      obtain ⟨M1, g1, s5, vs1, o1⟩ := H.n F1 C1
      refine AW.aload_n dL_law_962 rfl ?_
      refine AW.cI1 (d' := d - 1) (cL_125 rfl) okX12_restore dL_law_963 (by repeat (first | assumption | exact hset_eq _ _ _ | refine (hset_ne _ _ (by omega)).trans ?_)) (by omega) (W_restore M1 (by omega) (fun r2 S2 h2 e2 M2 => ?_))
      refine AW.if_icmpeq (tgt := 994) dL_law_966 (by decide) (fun c966 => ?_) (fun c966 => absurd (congrArg Prod.fst (e1.trans e2.symm)) c966)
      exact nx h2 S1 (LWS.fin C1 g1 (by rw [show S1 = S2 from congrArg Prod.snd (e1.trans e2.symm)]; exact M2))
    | 27, hi =>
      cases hi
      refine AW.aload_n dL_law_971 rfl ?_
      refine AW.aload_n dL_law_972 rfl ?_
      refine AW.iload_n dL_law_973 rfl ?_
      refine AW.iconst dL_law_974 ?_
      refine AW.iaddR dL_law_975 (by unfold RI; omega) ?_
      refine AW.iaload dL_law_976 (by repeat (first | assumption | exact hset_eq _ _ _ | refine (hset_ne _ _ (by omega)).trans ?_)) (by omega) (by omega) ?_
      refine AW.cI2 (d' := d - 1) (cL_126 rfl) okX11_count dL_law_977 (by repeat (first | assumption | exact hset_eq _ _ _ | refine (hset_ne _ _ (by omega)).trans ?_)) (by omega) (C_count HC (by omega) (fun r1 S1 h1 e1 C1 F1 => ?_))
      obtain ⟨M1, g1, s5, vs1, o1⟩ := H.n F1 C1
      refine AW.aload_n dL_law_980 rfl ?_
      refine AW.aload_n dL_law_981 rfl ?_
      refine AW.iload_n dL_law_982 rfl ?_
      refine AW.iconst dL_law_983 ?_
      refine AW.iaddR dL_law_984 (by unfold RI; omega) ?_
      refine AW.iaload dL_law_985 (by repeat (first | assumption | exact hset_eq _ _ _ | refine (hset_ne _ _ (by omega)).trans ?_)) (by omega) (by omega) ?_
      refine AW.cI2 (d' := d - 1) (cL_129 rfl) okX12_count dL_law_986 (by repeat (first | assumption | exact hset_eq _ _ _ | refine (hset_ne _ _ (by omega)).trans ?_)) (by omega) (W_count M1 (by omega) (fun r2 S2 h2 e2 M2 => ?_))
      refine AW.if_icmpeq (tgt := 994) dL_law_989 (by decide) (fun c989 => ?_) (fun c989 => absurd (congrArg Prod.fst (e1.trans e2.symm)) c989)
      exact nx h2 S1 (LWS.fin C1 g1 (by rw [show S1 = S2 from congrArg Prod.snd (e1.trans e2.symm)]; exact M2))
    | i + 28, hi => simp at hi
  · exact nx h S H
end Law

