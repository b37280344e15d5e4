section Lets2
variable {d bc bs : Nat} {Q : Option AV → AH → Prop} {h h' : AH} {L : List Int} {p b : Nat} {P : Nat → Prop} {x y z : Int}
theorem endP_y {sm : SM} {q : Nat} (e : ltr L q = 59) : endP L q sm = (true, q + 1, sm) := if_pos e
theorem endP_n {sm : SM} {q : Nat} (e : ¬ ltr L q = 59) : endP L q sm = badP q := if_neg e
theorem V_passStatement (hL : L.length ≤ 80) (hp : p ≤ 80) (H : LetA h L (p : Int)) (hd : 2 ≤ d) (f1 : ∀ q sm h', stP L p = (true, q, sm) → LetA h' L (q : Int) → Fr h h' P17 → Q (some (.inl 1)) h') (f0 : ∀ q h', stP L p = badP q → LetA h' L (q : Int) → Fr h h' P17 → Q (some (.inl 0)) h') : MW d 0 0 mX5_passStatement [.inr 17] h Q := by
  obtain ⟨g17, -⟩ := id H
  have go : ∀ x, ltr L p = x → True := fun _ _ => trivial
  have H1 : LetA (hset h 17 (.inl (5 + 1, [.inr 18, .inl (L.length : Int), .inl ((p : Int) + 1)]))) L ((p + 1 : Nat) : Int) := H.up
  have F1 : Fr h (hset h 17 (.inl (5 + 1, [.inr 18, .inl (L.length : Int), .inl ((p : Int) + 1)]))) P17 := Fr.set rfl
  show AW d 0 0 mX5_passStatement Q 0 [some (.inr 17)] [] h
  refine AW.aload_n dX5_passStatement_0 rfl ?_
  refine AW.cI1 (d' := d - 1) (cX5_29 rfl) okX5_here dX5_passStatement_1 (by repeat (first | assumption | exact hset_eq _ _ _ | refine (hset_ne _ _ (by omega)).trans ?_)) (by omega) (V_here hL H ?_)
  refine AW.lk dX5_passStatement_4 (by decide) 225 (by decide) (List.forall_mem_cons.mpr ⟨fun c4 => ?_, (List.forall_mem_cons.mpr ⟨fun c4 => ?_, (List.forall_mem_cons.mpr ⟨fun c4 => ?_, (List.forall_mem_cons.mpr ⟨fun c4 => ?_, (fun q hq => nomatch hq)⟩)⟩)⟩)⟩) (fun c4 => ?_)
  · dsimp only at c4
    show AW _ _ _ _ _ 131 _ _ _
    have hp1 := ltr_lt (L := L) (p := p) (by omega)
    refine AW.aload_n dX5_passStatement_131 rfl ?_
    refine AW.dup dX5_passStatement_132 ?_
    refine AW.getf dX5_passStatement_133 gX5_19 (by repeat (first | assumption | exact hset_eq _ _ _ | refine (hset_ne _ _ (by omega)).trans ?_)) rfl ?_
    refine AW.iconst dX5_passStatement_136 ?_
    refine AW.iaddR dX5_passStatement_137 (by unfold RI; omega) ?_
    refine AW.putf dX5_passStatement_138 pX5_19 (by repeat (first | assumption | exact hset_eq _ _ _ | refine (hset_ne _ _ (by omega)).trans ?_)) trivial ?_
    show AW _ _ _ _ _ _ _ _ (hset h 17 (.inl (5 + 1, [.inr 18, .inl (L.length : Int), .inl ((p : Int) + 1)])))
    generalize hset h 17 (.inl (5 + 1, [.inr 18, .inl (L.length : Int), .inl ((p : Int) + 1)])) = h1 at H1 F1 ⊢
    obtain ⟨g1, -⟩ := id H1
    refine AW.aload_n dX5_passStatement_141 rfl ?_
    refine AW.bipush dX5_passStatement_142 ?_
    refine AW.bipush dX5_passStatement_144 ?_
    refine AW.cI3 (d' := d - 1) (cX5_49 rfl) okX5_passWithin dX5_passStatement_146 (by repeat (first | assumption | exact hset_eq _ _ _ | refine (hset_ne _ _ (by omega)).trans ?_)) (by omega) (V_within hL (by omega) H1 (by omega) (fun a1 a2 h2 H2 F2 => ?_) (fun a1 => ?_))
    · refine AW.ifeq_f (tgt := 174) dX5_passStatement_149 (by decide) (by decide) ?_
      have hp2 := ltr_lt (L := L) (p := p + 1) (by omega)
      have hpl := sayP_pl (L := L) 20 1 (p + 2) (by omega)
      obtain ⟨g2, -⟩ := id H2
      refine AW.aload_n dX5_passStatement_152 rfl ?_
      refine AW.cI1 (d' := d - 1) (cX5_53 rfl) okX5_passSaying dX5_passStatement_153 (by repeat (first | assumption | exact hset_eq _ _ _ | refine (hset_ne _ _ (by omega)).trans ?_)) (by omega) (V_passSaying hL (by omega) H2 (by omega) (fun h3 b1 H3 F3 => ?_) (fun h3 b1 H3 F3 => ?_))
      · refine AW.ifeq_f (tgt := 174) dX5_passStatement_156 (by decide) (by decide) ?_
        obtain ⟨g3, -⟩ := id H3
        refine AW.aload_n dX5_passStatement_159 rfl ?_
        refine AW.bipush dX5_passStatement_160 ?_
        refine AW.bipush dX5_passStatement_162 ?_
        refine AW.cI3 (d' := d - 1) (cX5_49 rfl) okX5_passWithin dX5_passStatement_164 (by repeat (first | assumption | exact hset_eq _ _ _ | refine (hset_ne _ _ (by omega)).trans ?_)) (by omega) (V_within hL (by have : (sayP L 20 1 (p + 1 + 1)).2.1 ≤ L.length := hpl.2; omega) H3 (by omega) (fun e1 e2 h4 H4 F4 => ?_) (fun e1 => ?_))
        · refine AW.ifeq_f (tgt := 174) dX5_passStatement_167 (by decide) (by decide) ?_
          refine AW.iconst dX5_passStatement_170 ?_
          refine AW.goto (tgt := 175) dX5_passStatement_171 (by decide) ?_
          refine AW.zreturn dX5_passStatement_175 rfl (Or.inr rfl) ?_
          first
            | exact f1 _ _ h4 (by rw [stP_99 c4, if_neg (not_not_intro ⟨a1, a2⟩), if_pos b1, endP_y (Int.le_antisymm e2 e1)]) H4 ((F1.trans F2).trans (F3.trans F4))
            | exact f0 _ h3 (by rw [stP_99 c4, if_neg (not_not_intro ⟨a1, a2⟩), if_pos b1, endP_n (fun q => e1 ⟨Int.le_of_eq q.symm, Int.le_of_eq q⟩)]) H3 ((F1.trans F2).trans F3)
        · refine AW.ifeq_t (tgt := 174) dX5_passStatement_167 (by decide) rfl ?_
          refine AW.iconst dX5_passStatement_174 ?_
          refine AW.zreturn dX5_passStatement_175 rfl (Or.inl rfl) ?_
          first
            | exact f1 _ _ h4 (by rw [stP_99 c4, if_neg (not_not_intro ⟨a1, a2⟩), if_pos b1, endP_y (Int.le_antisymm e2 e1)]) H4 ((F1.trans F2).trans (F3.trans F4))
            | exact f0 _ h3 (by rw [stP_99 c4, if_neg (not_not_intro ⟨a1, a2⟩), if_pos b1, endP_n (fun q => e1 ⟨Int.le_of_eq q.symm, Int.le_of_eq q⟩)]) H3 ((F1.trans F2).trans F3)
      · refine AW.ifeq_t (tgt := 174) dX5_passStatement_156 (by decide) rfl ?_
        refine AW.iconst dX5_passStatement_174 ?_
        refine AW.zreturn dX5_passStatement_175 rfl (Or.inl rfl) ?_
        exact f0 _ h3 (by rw [stP_99 c4, if_neg (not_not_intro ⟨a1, a2⟩), if_neg (fun q => by rw [b1] at q; cases q)]) H3 ((F1.trans F2).trans F3)
    · refine AW.ifeq_t (tgt := 174) dX5_passStatement_149 (by decide) rfl ?_
      refine AW.iconst dX5_passStatement_174 ?_
      refine AW.zreturn dX5_passStatement_175 rfl (Or.inl rfl) ?_
      exact f0 _ h1 (by rw [stP_99 c4, if_pos a1]) H1 F1
  · dsimp only at c4
    show AW _ _ _ _ _ 97 _ _ _
    have hp1 := ltr_lt (L := L) (p := p) (by omega)
    have hpl := sayP_pl (L := L) 20 1 (p + 1) (by omega)
    refine AW.aload_n dX5_passStatement_97 rfl ?_
    refine AW.dup dX5_passStatement_98 ?_
    refine AW.getf dX5_passStatement_99 gX5_19 (by repeat (first | assumption | exact hset_eq _ _ _ | refine (hset_ne _ _ (by omega)).trans ?_)) rfl ?_
    refine AW.iconst dX5_passStatement_102 ?_
    refine AW.iaddR dX5_passStatement_103 (by unfold RI; omega) ?_
    refine AW.putf dX5_passStatement_104 pX5_19 (by repeat (first | assumption | exact hset_eq _ _ _ | refine (hset_ne _ _ (by omega)).trans ?_)) trivial ?_
    show AW _ _ _ _ _ _ _ _ (hset h 17 (.inl (5 + 1, [.inr 18, .inl (L.length : Int), .inl ((p : Int) + 1)])))
    generalize hset h 17 (.inl (5 + 1, [.inr 18, .inl (L.length : Int), .inl ((p : Int) + 1)])) = h1 at H1 F1 ⊢
    obtain ⟨g1, -⟩ := id H1
    refine AW.aload_n dX5_passStatement_107 rfl ?_
    refine AW.cI1 (d' := d - 1) (cX5_53 rfl) okX5_passSaying dX5_passStatement_108 (by repeat (first | assumption | exact hset_eq _ _ _ | refine (hset_ne _ _ (by omega)).trans ?_)) (by omega) (V_passSaying hL (by omega) H1 (by omega) (fun h2 a1 H2 F2 => ?_) (fun h2 a1 H2 F2 => ?_))
    · refine AW.ifeq_f (tgt := 129) dX5_passStatement_111 (by decide) (by decide) ?_
      obtain ⟨g2, -⟩ := id H2
      refine AW.aload_n dX5_passStatement_114 rfl ?_
      refine AW.bipush dX5_passStatement_115 ?_
      refine AW.bipush dX5_passStatement_117 ?_
      refine AW.cI3 (d' := d - 1) (cX5_49 rfl) okX5_passWithin dX5_passStatement_119 (by repeat (first | assumption | exact hset_eq _ _ _ | refine (hset_ne _ _ (by omega)).trans ?_)) (by omega) (V_within hL (by omega) H2 (by omega) (fun e1 e2 h4 H4 F4 => ?_) (fun e1 => ?_))
      · refine AW.ifeq_f (tgt := 129) dX5_passStatement_122 (by decide) (by decide) ?_
        refine AW.iconst dX5_passStatement_125 ?_
        refine AW.goto (tgt := 130) dX5_passStatement_126 (by decide) ?_
        refine AW.zreturn dX5_passStatement_130 rfl (Or.inr rfl) ?_
        first
          | exact f1 _ _ h4 (by rw [stP_104 c4, if_pos a1, endP_y (Int.le_antisymm e2 e1)]) H4 ((F1.trans F2).trans F4)
          | exact f0 _ h2 (by rw [stP_104 c4, if_pos a1, endP_n (fun q => e1 ⟨Int.le_of_eq q.symm, Int.le_of_eq q⟩)]) H2 (F1.trans F2)
      · refine AW.ifeq_t (tgt := 129) dX5_passStatement_122 (by decide) rfl ?_
        refine AW.iconst dX5_passStatement_129 ?_
        refine AW.zreturn dX5_passStatement_130 rfl (Or.inl rfl) ?_
        first
          | exact f1 _ _ h4 (by rw [stP_104 c4, if_pos a1, endP_y (Int.le_antisymm e2 e1)]) H4 ((F1.trans F2).trans F4)
          | exact f0 _ h2 (by rw [stP_104 c4, if_pos a1, endP_n (fun q => e1 ⟨Int.le_of_eq q.symm, Int.le_of_eq q⟩)]) H2 (F1.trans F2)
    · refine AW.ifeq_t (tgt := 129) dX5_passStatement_111 (by decide) rfl ?_
      refine AW.iconst dX5_passStatement_129 ?_
      refine AW.zreturn dX5_passStatement_130 rfl (Or.inl rfl) ?_
      exact f0 _ h2 (by rw [stP_104 c4, if_neg (by rw [a1]; decide)]) H2 (F1.trans F2)
  · dsimp only at c4
    show AW _ _ _ _ _ 176 _ _ _
    have hp1 := ltr_lt (L := L) (p := p) (by omega)
    refine AW.aload_n dX5_passStatement_176 rfl ?_
    refine AW.dup dX5_passStatement_177 ?_
    refine AW.getf dX5_passStatement_178 gX5_19 (by repeat (first | assumption | exact hset_eq _ _ _ | refine (hset_ne _ _ (by omega)).trans ?_)) rfl ?_
    refine AW.iconst dX5_passStatement_181 ?_
    refine AW.iaddR dX5_passStatement_182 (by unfold RI; omega) ?_
    refine AW.putf dX5_passStatement_183 pX5_19 (by repeat (first | assumption | exact hset_eq _ _ _ | refine (hset_ne _ _ (by omega)).trans ?_)) trivial ?_
    show AW _ _ _ _ _ _ _ _ (hset h 17 (.inl (5 + 1, [.inr 18, .inl (L.length : Int), .inl ((p : Int) + 1)])))
    generalize hset h 17 (.inl (5 + 1, [.inr 18, .inl (L.length : Int), .inl ((p : Int) + 1)])) = h1 at H1 F1 ⊢
    obtain ⟨g1, -⟩ := id H1
    refine AW.aload_n dX5_passStatement_186 rfl ?_
    refine AW.bipush dX5_passStatement_187 ?_
    refine AW.bipush dX5_passStatement_189 ?_
    refine AW.cI3 (d' := d - 1) (cX5_49 rfl) okX5_passWithin dX5_passStatement_191 (by repeat (first | assumption | exact hset_eq _ _ _ | refine (hset_ne _ _ (by omega)).trans ?_)) (by omega) (V_within hL (by omega) H1 (by omega) (fun a1 a2 h2 H2 F2 => ?_) (fun a1 => ?_))
    · refine AW.ifeq_f (tgt := 223) dX5_passStatement_194 (by decide) (by decide) ?_
      have hp2 := ltr_lt (L := L) (p := p + 1) (by omega)
      obtain ⟨g2, -⟩ := id H2
      refine AW.aload_n dX5_passStatement_197 rfl ?_
      refine AW.bipush dX5_passStatement_198 ?_
      refine AW.bipush dX5_passStatement_200 ?_
      refine AW.cI3 (d' := d - 1) (cX5_49 rfl) okX5_passWithin dX5_passStatement_202 (by repeat (first | assumption | exact hset_eq _ _ _ | refine (hset_ne _ _ (by omega)).trans ?_)) (by omega) (V_within hL (by omega) H2 (by omega) (fun b1 b2 h3 H3 F3 => ?_) (fun b1 => ?_))
      · refine AW.ifeq_f (tgt := 223) dX5_passStatement_205 (by decide) (by decide) ?_
        have hp3 := ltr_lt (L := L) (p := p + 1 + 1) (by omega)
        obtain ⟨g3, -⟩ := id H3
        refine AW.aload_n dX5_passStatement_208 rfl ?_
        refine AW.bipush dX5_passStatement_209 ?_
        refine AW.bipush dX5_passStatement_211 ?_
        refine AW.cI3 (d' := d - 1) (cX5_49 rfl) okX5_passWithin dX5_passStatement_213 (by repeat (first | assumption | exact hset_eq _ _ _ | refine (hset_ne _ _ (by omega)).trans ?_)) (by omega) (V_within hL (by omega) H3 (by omega) (fun e1 e2 h4 H4 F4 => ?_) (fun e1 => ?_))
        · refine AW.ifeq_f (tgt := 223) dX5_passStatement_216 (by decide) (by decide) ?_
          refine AW.iconst dX5_passStatement_219 ?_
          refine AW.goto (tgt := 224) dX5_passStatement_220 (by decide) ?_
          refine AW.zreturn dX5_passStatement_224 rfl (Or.inr rfl) ?_
          first
            | exact f1 _ _ h4 (by rw [stP_108 c4, if_neg (not_not_intro ⟨a1, a2⟩), if_neg (not_not_intro ⟨b1, b2⟩), endP_y (show ltr L (p + 3) = 59 from Int.le_antisymm e2 e1)]) H4 ((F1.trans F2).trans (F3.trans F4))
            | exact f0 _ h3 (by rw [stP_108 c4, if_neg (not_not_intro ⟨a1, a2⟩), if_neg (not_not_intro ⟨b1, b2⟩), endP_n (fun q => e1 ⟨Int.le_of_eq q.symm, Int.le_of_eq q⟩)]) H3 ((F1.trans F2).trans F3)
        · refine AW.ifeq_t (tgt := 223) dX5_passStatement_216 (by decide) rfl ?_
          refine AW.iconst dX5_passStatement_223 ?_
          refine AW.zreturn dX5_passStatement_224 rfl (Or.inl rfl) ?_
          first
            | exact f1 _ _ h4 (by rw [stP_108 c4, if_neg (not_not_intro ⟨a1, a2⟩), if_neg (not_not_intro ⟨b1, b2⟩), endP_y (show ltr L (p + 3) = 59 from Int.le_antisymm e2 e1)]) H4 ((F1.trans F2).trans (F3.trans F4))
            | exact f0 _ h3 (by rw [stP_108 c4, if_neg (not_not_intro ⟨a1, a2⟩), if_neg (not_not_intro ⟨b1, b2⟩), endP_n (fun q => e1 ⟨Int.le_of_eq q.symm, Int.le_of_eq q⟩)]) H3 ((F1.trans F2).trans F3)
      · refine AW.ifeq_t (tgt := 223) dX5_passStatement_205 (by decide) rfl ?_
        refine AW.iconst dX5_passStatement_223 ?_
        refine AW.zreturn dX5_passStatement_224 rfl (Or.inl rfl) ?_
        exact f0 _ h2 (by rw [stP_108 c4, if_neg (not_not_intro ⟨a1, a2⟩), if_pos b1]) H2 (F1.trans F2)
    · refine AW.ifeq_t (tgt := 223) dX5_passStatement_194 (by decide) rfl ?_
      refine AW.iconst dX5_passStatement_223 ?_
      refine AW.zreturn dX5_passStatement_224 rfl (Or.inl rfl) ?_
      exact f0 _ h1 (by rw [stP_108 c4, if_pos a1]) H1 F1
  · dsimp only at c4
    show AW _ _ _ _ _ 48 _ _ _
    have hp1 := ltr_lt (L := L) (p := p) (by omega)
    refine AW.aload_n dX5_passStatement_48 rfl ?_
    refine AW.dup dX5_passStatement_49 ?_
    refine AW.getf dX5_passStatement_50 gX5_19 (by repeat (first | assumption | exact hset_eq _ _ _ | refine (hset_ne _ _ (by omega)).trans ?_)) rfl ?_
    refine AW.iconst dX5_passStatement_53 ?_
    refine AW.iaddR dX5_passStatement_54 (by unfold RI; omega) ?_
    refine AW.putf dX5_passStatement_55 pX5_19 (by repeat (first | assumption | exact hset_eq _ _ _ | refine (hset_ne _ _ (by omega)).trans ?_)) trivial ?_
    show AW _ _ _ _ _ _ _ _ (hset h 17 (.inl (5 + 1, [.inr 18, .inl (L.length : Int), .inl ((p : Int) + 1)])))
    generalize hset h 17 (.inl (5 + 1, [.inr 18, .inl (L.length : Int), .inl ((p : Int) + 1)])) = h1 at H1 F1 ⊢
    obtain ⟨g1, -⟩ := id H1
    refine AW.aload_n dX5_passStatement_58 rfl ?_
    refine AW.bipush dX5_passStatement_59 ?_
    refine AW.bipush dX5_passStatement_61 ?_
    refine AW.cI3 (d' := d - 1) (cX5_49 rfl) okX5_passWithin dX5_passStatement_63 (by repeat (first | assumption | exact hset_eq _ _ _ | refine (hset_ne _ _ (by omega)).trans ?_)) (by omega) (V_within hL (by omega) H1 (by omega) (fun a1 a2 h2 H2 F2 => ?_) (fun a1 => ?_))
    · refine AW.ifeq_f (tgt := 95) dX5_passStatement_66 (by decide) (by decide) ?_
      have hp2 := ltr_lt (L := L) (p := p + 1) (by omega)
      obtain ⟨g2, -⟩ := id H2
      refine AW.aload_n dX5_passStatement_69 rfl ?_
      refine AW.bipush dX5_passStatement_70 ?_
      refine AW.bipush dX5_passStatement_72 ?_
      refine AW.cI3 (d' := d - 1) (cX5_49 rfl) okX5_passWithin dX5_passStatement_74 (by repeat (first | assumption | exact hset_eq _ _ _ | refine (hset_ne _ _ (by omega)).trans ?_)) (by omega) (V_within hL (by omega) H2 (by omega) (fun b1 b2 h3 H3 F3 => ?_) (fun b1 => ?_))
      · refine AW.ifeq_f (tgt := 95) dX5_passStatement_77 (by decide) (by decide) ?_
        have hp3 := ltr_lt (L := L) (p := p + 1 + 1) (by omega)
        obtain ⟨g3, -⟩ := id H3
        refine AW.aload_n dX5_passStatement_80 rfl ?_
        refine AW.bipush dX5_passStatement_81 ?_
        refine AW.bipush dX5_passStatement_83 ?_
        refine AW.cI3 (d' := d - 1) (cX5_49 rfl) okX5_passWithin dX5_passStatement_85 (by repeat (first | assumption | exact hset_eq _ _ _ | refine (hset_ne _ _ (by omega)).trans ?_)) (by omega) (V_within hL (by omega) H3 (by omega) (fun e1 e2 h4 H4 F4 => ?_) (fun e1 => ?_))
        · refine AW.ifeq_f (tgt := 95) dX5_passStatement_88 (by decide) (by decide) ?_
          refine AW.iconst dX5_passStatement_91 ?_
          refine AW.goto (tgt := 96) dX5_passStatement_92 (by decide) ?_
          refine AW.zreturn dX5_passStatement_96 rfl (Or.inr rfl) ?_
          first
            | exact f1 _ _ h4 (by rw [stP_115 c4, if_neg (not_not_intro ⟨a1, a2⟩), if_neg (not_not_intro ⟨b1, b2⟩), endP_y (show ltr L (p + 3) = 59 from Int.le_antisymm e2 e1)]) H4 ((F1.trans F2).trans (F3.trans F4))
            | exact f0 _ h3 (by rw [stP_115 c4, if_neg (not_not_intro ⟨a1, a2⟩), if_neg (not_not_intro ⟨b1, b2⟩), endP_n (fun q => e1 ⟨Int.le_of_eq q.symm, Int.le_of_eq q⟩)]) H3 ((F1.trans F2).trans F3)
        · refine AW.ifeq_t (tgt := 95) dX5_passStatement_88 (by decide) rfl ?_
          refine AW.iconst dX5_passStatement_95 ?_
          refine AW.zreturn dX5_passStatement_96 rfl (Or.inl rfl) ?_
          first
            | exact f1 _ _ h4 (by rw [stP_115 c4, if_neg (not_not_intro ⟨a1, a2⟩), if_neg (not_not_intro ⟨b1, b2⟩), endP_y (show ltr L (p + 3) = 59 from Int.le_antisymm e2 e1)]) H4 ((F1.trans F2).trans (F3.trans F4))
            | exact f0 _ h3 (by rw [stP_115 c4, if_neg (not_not_intro ⟨a1, a2⟩), if_neg (not_not_intro ⟨b1, b2⟩), endP_n (fun q => e1 ⟨Int.le_of_eq q.symm, Int.le_of_eq q⟩)]) H3 ((F1.trans F2).trans F3)
      · refine AW.ifeq_t (tgt := 95) dX5_passStatement_77 (by decide) rfl ?_
        refine AW.iconst dX5_passStatement_95 ?_
        refine AW.zreturn dX5_passStatement_96 rfl (Or.inl rfl) ?_
        exact f0 _ h2 (by rw [stP_115 c4, if_neg (not_not_intro ⟨a1, a2⟩), if_pos b1]) H2 (F1.trans F2)
    · refine AW.ifeq_t (tgt := 95) dX5_passStatement_66 (by decide) rfl ?_
      refine AW.iconst dX5_passStatement_95 ?_
      refine AW.zreturn dX5_passStatement_96 rfl (Or.inl rfl) ?_
      exact f0 _ h1 (by rw [stP_115 c4, if_pos a1]) H1 F1
  · dsimp only [lkall] at c4
    refine AW.iconst dX5_passStatement_225 ?_
    refine AW.zreturn dX5_passStatement_226 rfl (Or.inl rfl) ?_
    exact f0 p h (stP_n (fun q => by unfold isLt at q; omega)) H Fr.rfl'
theorem V_more (H : LetA h L (p : Int)) (hq1 : p < L.length → Q (some (.inl 1)) h) (hq0 : L.length ≤ p → Q (some (.inl 0)) h) : MW d 0 0 mX5_haveMore [.inr 17] h Q := by
  obtain ⟨g17, -⟩ := id H
  show AW d 0 0 mX5_haveMore Q 0 [some (.inr 17)] [] h
  refine AW.aload_n dX5_haveMore_0 rfl ?_
  refine AW.getf dX5_haveMore_1 gX5_19 (by repeat (first | assumption | exact hset_eq _ _ _ | refine (hset_ne _ _ (by omega)).trans ?_)) rfl ?_
  refine AW.aload_n dX5_haveMore_4 rfl ?_
  refine AW.getf dX5_haveMore_5 gX5_15 (by repeat (first | assumption | exact hset_eq _ _ _ | refine (hset_ne _ _ (by omega)).trans ?_)) rfl ?_
  refine AW.if_icmpge (tgt := 15) dX5_haveMore_8 (by decide) (fun c8 => ?_) (fun c8 => ?_)
  · refine AW.iconst dX5_haveMore_15 ?_
    refine AW.zreturn dX5_haveMore_16 rfl (Or.inl rfl) ?_
    first
      | exact hq1 (by omega)
      | exact hq0 (by omega)
  · refine AW.iconst dX5_haveMore_11 ?_
    refine AW.goto (tgt := 16) dX5_haveMore_12 (by decide) ?_
    refine AW.zreturn dX5_haveMore_16 rfl (Or.inr rfl) ?_
    first
      | exact hq1 (by omega)
      | exact hq0 (by omega)
theorem LC_wf0 {n : Int} (hq : Q (some (.inl 0)) h) : AW d 0 0 mX5_areWellFormed Q 12 [some (.inr 17), some (.inl 0), some (.inl n)] [] h := by
  have z0 : (0 : Int) = 0 ∨ (0 : Int) = 1 := Or.inl rfl
  refine AW.iload_n dX5_areWellFormed_12 rfl ?_
  refine AW.bipush dX5_areWellFormed_13 ?_
  refine AW.if_icmpge (tgt := 40) dX5_areWellFormed_15 (by decide) (fun c15 => ?_) (fun c15 => ?_)
  · refine AW.iload_n dX5_areWellFormed_40 rfl ?_
    refine AW.zreturn dX5_areWellFormed_41 rfl (by assumption) ?_
    exact hq
  · refine AW.iload_n dX5_areWellFormed_18 rfl ?_
    refine AW.ifeq (tgt := 40) dX5_areWellFormed_19 (by decide) (fun c19 => ?_) (fun c19 => absurd c19 (by decide))
    refine AW.iload_n dX5_areWellFormed_40 rfl ?_
    refine AW.zreturn dX5_areWellFormed_41 rfl (by assumption) ?_
    exact hq
theorem LC_wf {B : Bool × Nat × List SM} (hL : L.length ≤ 80) (hd : 3 ≤ d) (hq1 : ∀ h', B.1 = true → LetA h' L (B.2.1 : Int) → Fr h h' P17 → Q (some (.inl 1)) h') (hq0 : ∀ h', B.1 = false → LetA h' L (B.2.1 : Int) → Fr h h' P17 → Q (some (.inl 0)) h') :
    ∀ (r f n p : Nat) (h1 : AH), L.length - p ≤ r → ((L.length ≤ p ∧ B.1 = true ∧ B.2.1 = p) ∨ (p < L.length ∧ (allP L f p).1 = B.1 ∧ (allP L f p).2.1 = B.2.1)) → L.length - p ≤ f → n + (L.length - p) ≤ 80 → LetA h1 L (p : Int) → Fr h h1 P17 →
      AW d 0 0 mX5_areWellFormed Q 12 [some (.inr 17), some (.inl 1), some (.inl (n : Int))] [] h1 := by
  have z1 : (1 : Int) = 0 ∨ (1 : Int) = 1 := Or.inr rfl
  intro r
  induction r with
  | zero =>
    intro f n p h1 hr hc hf hn H F
    obtain ⟨g17, -⟩ := id H
    rcases hc with ⟨-, c1, c2⟩ | ⟨c0, -⟩
    · rw [← c2] at H
      by_cases hn80 : n < 80
      · skip
        refine AW.iload_n dX5_areWellFormed_12 rfl ?_
        refine AW.bipush dX5_areWellFormed_13 ?_
        refine AW.if_icmpge (tgt := 40) dX5_areWellFormed_15 (by decide) (fun c15 => absurd c15 (by omega)) (fun c15 => ?_)
        refine AW.iload_n dX5_areWellFormed_18 rfl ?_
        refine AW.ifeq (tgt := 40) dX5_areWellFormed_19 (by decide) (fun c19 => absurd c19 (by decide)) (fun c19 => ?_)
        refine AW.aload_n dX5_areWellFormed_22 rfl ?_
        refine AW.cI1 (d' := d - 1) (cX5_26 rfl) okX5_haveMore dX5_areWellFormed_23 (by repeat (first | assumption | exact hset_eq _ _ _ | refine (hset_ne _ _ (by omega)).trans ?_)) (by omega) (V_more H (fun c => absurd c (by omega)) (fun c => ?_))
        refine AW.ifeq_t (tgt := 40) dX5_areWellFormed_26 (by decide) rfl ?_
        refine AW.iload_n dX5_areWellFormed_40 rfl ?_
        refine AW.zreturn dX5_areWellFormed_41 rfl (by assumption) ?_
        exact hq1 h1 c1 H F
      · skip
        refine AW.iload_n dX5_areWellFormed_12 rfl ?_
        refine AW.bipush dX5_areWellFormed_13 ?_
        refine AW.if_icmpge (tgt := 40) dX5_areWellFormed_15 (by decide) (fun c15 => ?_) (fun c15 => absurd c15 (by omega))
        refine AW.iload_n dX5_areWellFormed_40 rfl ?_
        refine AW.zreturn dX5_areWellFormed_41 rfl (by assumption) ?_
        exact hq1 h1 c1 H F
    · omega
  | succ r ih =>
    intro f n p h1 hr hc hf hn H F
    obtain ⟨g17, -⟩ := id H
    rcases hc with ⟨c0, c1, c2⟩ | ⟨c0, c1, c2⟩
    · rw [← c2] at H
      by_cases hn80 : n < 80
      · skip
        refine AW.iload_n dX5_areWellFormed_12 rfl ?_
        refine AW.bipush dX5_areWellFormed_13 ?_
        refine AW.if_icmpge (tgt := 40) dX5_areWellFormed_15 (by decide) (fun c15 => absurd c15 (by omega)) (fun c15 => ?_)
        refine AW.iload_n dX5_areWellFormed_18 rfl ?_
        refine AW.ifeq (tgt := 40) dX5_areWellFormed_19 (by decide) (fun c19 => absurd c19 (by decide)) (fun c19 => ?_)
        refine AW.aload_n dX5_areWellFormed_22 rfl ?_
        refine AW.cI1 (d' := d - 1) (cX5_26 rfl) okX5_haveMore dX5_areWellFormed_23 (by repeat (first | assumption | exact hset_eq _ _ _ | refine (hset_ne _ _ (by omega)).trans ?_)) (by omega) (V_more H (fun c => absurd c (by omega)) (fun c => ?_))
        refine AW.ifeq_t (tgt := 40) dX5_areWellFormed_26 (by decide) rfl ?_
        refine AW.iload_n dX5_areWellFormed_40 rfl ?_
        refine AW.zreturn dX5_areWellFormed_41 rfl (by assumption) ?_
        exact hq1 h1 c1 H F
      · skip
        refine AW.iload_n dX5_areWellFormed_12 rfl ?_
        refine AW.bipush dX5_areWellFormed_13 ?_
        refine AW.if_icmpge (tgt := 40) dX5_areWellFormed_15 (by decide) (fun c15 => ?_) (fun c15 => absurd c15 (by omega))
        refine AW.iload_n dX5_areWellFormed_40 rfl ?_
        refine AW.zreturn dX5_areWellFormed_41 rfl (by assumption) ?_
        exact hq1 h1 c1 H F
    · obtain ⟨f, rfl⟩ : ∃ f', f = f' + 1 := ⟨f - 1, by omega⟩
      rw [allP_s] at c1 c2
      refine AW.iload_n dX5_areWellFormed_12 rfl ?_
      refine AW.bipush dX5_areWellFormed_13 ?_
      refine AW.if_icmpge (tgt := 40) dX5_areWellFormed_15 (by decide) (fun c15 => absurd c15 (by omega)) (fun c15 => ?_)
      refine AW.iload_n dX5_areWellFormed_18 rfl ?_
      refine AW.ifeq (tgt := 40) dX5_areWellFormed_19 (by decide) (fun c19 => absurd c19 (by decide)) (fun c19 => ?_)
      refine AW.aload_n dX5_areWellFormed_22 rfl ?_
      refine AW.cI1 (d' := d - 1) (cX5_26 rfl) okX5_haveMore dX5_areWellFormed_23 (by repeat (first | assumption | exact hset_eq _ _ _ | refine (hset_ne _ _ (by omega)).trans ?_)) (by omega) (V_more H (fun c => ?_) (fun c => absurd c (by omega)))
      refine AW.ifeq_f (tgt := 40) dX5_areWellFormed_26 (by decide) (by decide) ?_
      refine AW.aload_n dX5_areWellFormed_29 rfl ?_
      refine AW.cI1 (d' := d - 1) (cX5_22 rfl) okX5_passStatement dX5_areWellFormed_30 (by repeat (first | assumption | exact hset_eq _ _ _ | refine (hset_ne _ _ (by omega)).trans ?_)) (by omega) (V_passStatement hL (by omega) H (by omega) (fun q sm h2 e H2 F2 => ?_) (fun q h2 e H2 F2 => ?_))
      · refine AW.ist1 dX5_areWellFormed_33 (by decide) ?_
        refine AW.inc2 dX5_areWellFormed_34 (by decide) (by unfold RI; omega) ?_
        refine AW.goto (tgt := 12) dX5_areWellFormed_37 (by decide) ?_
        first
          | (have e1 := congrArg Prod.fst e
             have e2 := congrArg (fun u : RD => u.2.1) e
             have ok := stP_ok (L := L) (p := p) e1
             simp only at e1 e2
             rw [e2] at ok
             rw [if_pos e1, e2] at c1 c2
             refine ih f (n + 1) q h2 (by omega) ?_ (by omega) (by omega) H2 (F.trans F2)
             by_cases z : L.length ≤ q
             · rw [if_pos z] at c1 c2
               exact Or.inl ⟨z, c1.symm, c2.symm⟩
             · rw [if_neg z] at c1 c2
               exact Or.inr ⟨by omega, c1, c2⟩)
          | (have e1 : (stP L p).1 = false := congrArg Prod.fst e
             have e2 : (stP L p).2.1 = q := congrArg (fun u : RD => u.2.1) e
             rw [if_neg (by rw [e1]; decide)] at c1 c2
             refine LC_wf0 (hq0 h2 c1.symm ?_ (F.trans F2))
             rw [← c2, e2]
             exact H2)
      · refine AW.ist1 dX5_areWellFormed_33 (by decide) ?_
        refine AW.inc2 dX5_areWellFormed_34 (by decide) (by unfold RI; omega) ?_
        refine AW.goto (tgt := 12) dX5_areWellFormed_37 (by decide) ?_
        first
          | (have e1 := congrArg Prod.fst e
             have e2 := congrArg (fun u : RD => u.2.1) e
             have ok := stP_ok (L := L) (p := p) e1
             simp only at e1 e2
             rw [e2] at ok
             rw [if_pos e1, e2] at c1 c2
             refine ih f (n + 1) q h2 (by omega) ?_ (by omega) (by omega) H2 (F.trans F2)
             by_cases z : L.length ≤ q
             · rw [if_pos z] at c1 c2
               exact Or.inl ⟨z, c1.symm, c2.symm⟩
             · rw [if_neg z] at c1 c2
               exact Or.inr ⟨by omega, c1, c2⟩)
          | (have e1 : (stP L p).1 = false := congrArg Prod.fst e
             have e2 : (stP L p).2.1 = q := congrArg (fun u : RD => u.2.1) e
             rw [if_neg (by rw [e1]; decide)] at c1 c2
             refine LC_wf0 (hq0 h2 c1.symm ?_ (F.trans F2))
             rw [← c2, e2]
             exact H2)
theorem V_wf (hL : L.length ≤ 80) (H : LetA h L x) (hd : 3 ≤ d) (hq1 : ∀ h', (allP L 80 0).1 = true → LetA h' L ((allP L 80 0).2.1 : Int) → Fr h h' P17 → Q (some (.inl 1)) h') (hq0 : ∀ h', (allP L 80 0).1 = false → LetA h' L ((allP L 80 0).2.1 : Int) → Fr h h' P17 → Q (some (.inl 0)) h') : MW d 0 0 mX5_areWellFormed [.inr 17] h Q := by
  obtain ⟨g17, -⟩ := id H
  have H1 : LetA (hset h 17 (.inl (5 + 1, [.inr 18, .inl (L.length : Int), .inl 0]))) L ((0 : Nat) : Int) := H.up
  have F1 : Fr h (hset h 17 (.inl (5 + 1, [.inr 18, .inl (L.length : Int), .inl 0]))) P17 := Fr.set rfl
  show AW d 0 0 mX5_areWellFormed Q 0 [some (.inr 17), none, none] [] h
  refine AW.aload_n dX5_areWellFormed_0 rfl ?_
  refine AW.iconst dX5_areWellFormed_1 ?_
  refine AW.putf dX5_areWellFormed_2 pX5_19 (by repeat (first | assumption | exact hset_eq _ _ _ | refine (hset_ne _ _ (by omega)).trans ?_)) trivial ?_
  show AW _ _ _ _ _ _ _ _ (hset h 17 (.inl (5 + 1, [.inr 18, .inl (L.length : Int), .inl 0])))
  generalize hset h 17 (.inl (5 + 1, [.inr 18, .inl (L.length : Int), .inl 0])) = h1 at H1 F1 ⊢
  obtain ⟨g1, -⟩ := id H1
  have c0 := allP_s (L := L) (p := 0) 79
  refine AW.aload_n dX5_areWellFormed_5 rfl ?_
  refine AW.cI1 (d' := d - 1) (cX5_22 rfl) okX5_passStatement dX5_areWellFormed_6 (by repeat (first | assumption | exact hset_eq _ _ _ | refine (hset_ne _ _ (by omega)).trans ?_)) (by omega) (V_passStatement hL (by omega) H1 (by omega) (fun q sm h2 e H2 F2 => ?_) (fun q h2 e H2 F2 => ?_))
  · refine AW.ist1 dX5_areWellFormed_9 (by decide) ?_
    refine AW.iconst dX5_areWellFormed_10 ?_
    refine AW.ist2 dX5_areWellFormed_11 (by decide) ?_
    first
      | (have e1 : (stP L 0).1 = true := congrArg Prod.fst e
         have e2 : (stP L 0).2.1 = q := congrArg (fun u : RD => u.2.1) e
         have ok := stP_ok (L := L) (p := 0) e1
         rw [e2] at ok
         rw [if_pos e1, e2] at c0
         refine LC_wf (B := allP L 80 0) hL hd hq1 hq0 80 79 0 q h2 (by omega) ?_ (by omega) (by omega) H2 (F1.trans F2)
         by_cases z : L.length ≤ q
         · rw [if_pos z] at c0
           exact Or.inl ⟨z, by rw [c0], by rw [c0]⟩
         · rw [if_neg z] at c0
           exact Or.inr ⟨by omega, by rw [c0], by rw [c0]⟩)
      | (have e1 : (stP L 0).1 = false := congrArg Prod.fst e
         have e2 : (stP L 0).2.1 = q := congrArg (fun u : RD => u.2.1) e
         rw [if_neg (by rw [e1]; decide)] at c0
         refine LC_wf0 (hq0 h2 (by rw [c0]) ?_ (F1.trans F2))
         rw [c0]
         show LetA h2 L (((stP L 0).2.1 : Nat) : Int)
         rw [e2]
         exact H2)
  · refine AW.ist1 dX5_areWellFormed_9 (by decide) ?_
    refine AW.iconst dX5_areWellFormed_10 ?_
    refine AW.ist2 dX5_areWellFormed_11 (by decide) ?_
    first
      | (have e1 : (stP L 0).1 = true := congrArg Prod.fst e
         have e2 : (stP L 0).2.1 = q := congrArg (fun u : RD => u.2.1) e
         have ok := stP_ok (L := L) (p := 0) e1
         rw [e2] at ok
         rw [if_pos e1, e2] at c0
         refine LC_wf (B := allP L 80 0) hL hd hq1 hq0 80 79 0 q h2 (by omega) ?_ (by omega) (by omega) H2 (F1.trans F2)
         by_cases z : L.length ≤ q
         · rw [if_pos z] at c0
           exact Or.inl ⟨z, by rw [c0], by rw [c0]⟩
         · rw [if_neg z] at c0
           exact Or.inr ⟨by omega, by rw [c0], by rw [c0]⟩)
      | (have e1 : (stP L 0).1 = false := congrArg Prod.fst e
         have e2 : (stP L 0).2.1 = q := congrArg (fun u : RD => u.2.1) e
         rw [if_neg (by rw [e1]; decide)] at c0
         refine LC_wf0 (hq0 h2 (by rw [c0]) ?_ (F1.trans F2))
         rw [c0]
         show LetA h2 L (((stP L 0).2.1 : Nat) : Int)
         rw [e2]
         exact H2)
theorem wdO_inv {x : Int} {w : Nat} (h : wdO x = (w : Int)) : x = LETT w := by
  unfold wdO at h
  split at h
  · have : w = 3 ∨ w = 4 ∨ w = 5 ∨ w = 6 := by omega
    rcases this with rfl | rfl | rfl | rfl
    · show x = 65; omega
    · show x = 66; omega
    · show x = 67; omega
    · show x = 68; omega
  split at h
  · obtain rfl : w = 0 := by omega
    assumption
  split at h
  · obtain rfl : w = 1 := by omega
    assumption
  split at h
  · obtain rfl : w = 2 := by omega
    assumption
  split at h
  · obtain rfl : w = 7 := by omega
    assumption
  split at h
  · obtain rfl : w = 8 := by omega
    assumption
  split at h
  · obtain rfl : w = 9 := by omega
    assumption
  · omega
def P178 (a : Nat) : Prop := a = 17 ∨ a = 84 ∨ a = 85
theorem LC_read {e : Nat} {full : List Nat} (hL : L.length ≤ 80) (h9 : 120 ≤ h.1) (hd : 2 ≤ d) (hq : ∀ h', LetA h' L (e : Int) → SyA h' 84 full → Fr h h' P178 → Q none h') :
    ∀ (r n k p : Nat) (c : List Nat) (h1 : AH) (z : Option AV), n + r = 20 → k ≤ n + 1 → p ≤ 100 + n → (sayP L r k p).1 = true → (sayP L r k p).2.1 = e → c ++ (sayP L r k p).2.2 = full → c.length = n → LetA h1 L (p : Int) → SyA h1 84 c → Fr h h1 P178 →
      AW d 0 0 mX5_readSaying Q 9 [some (.inr 17), some (.inr 84), some (.inl (k : Int)), some (.inl (n : Int)), z] [] h1 := by
  intro r
  induction r with
  | zero =>
    intro n k p c h1 z hn hk hp e1 e2 e3 e4 H Y F
    obtain rfl : n = 20 := by omega
    cases k with
    | zero =>
      rw [sayP_0] at e1 e2 e3
      rw [List.append_nil] at e3
      obtain rfl : p = e := e2
      subst e3
      refine AW.iload_n dX5_readSaying_9 rfl ?_
      refine AW.bipush dX5_readSaying_10 ?_
      refine AW.if_icmpge (tgt := 47) dX5_readSaying_12 (by decide) (fun c12 => ?_) (fun c12 => absurd c12 (by decide))
      refine AW.vreturn dX5_readSaying_47 rfl ?_
      exact hq h1 H Y F
    | succ k => cases e1
  | succ r ih =>
    intro n k p c h1 z hn hk hp e1 e2 e3 e4 H Y F
    obtain ⟨g17, -⟩ := id H
    have F1 := F.1
    cases k with
    | zero =>
      rw [sayP_0] at e1 e2 e3
      rw [List.append_nil] at e3
      obtain rfl : p = e := e2
      subst e3
      refine AW.iload_n dX5_readSaying_9 rfl ?_
      refine AW.bipush dX5_readSaying_10 ?_
      refine AW.if_icmpge (tgt := 47) dX5_readSaying_12 (by decide) (fun c12 => absurd c12 (by omega)) (fun c12 => ?_)
      refine AW.iload_n dX5_readSaying_15 rfl ?_
      refine AW.ifle (tgt := 47) dX5_readSaying_16 (by decide) (fun c16 => ?_) (fun c16 => absurd c16 (by decide))
      refine AW.vreturn dX5_readSaying_47 rfl ?_
      exact hq h1 H Y F
    | succ k =>
      by_cases q : wdO (ltr L p) < 0
      · rw [sayP_n q] at e1
        cases e1
      · rw [sayP_s q] at e1 e2 e3
        have hb := wdO_b (ltr L p)
        obtain ⟨w, ew⟩ : ∃ w : Nat, wdO (ltr L p) = (w : Int) := ⟨(wdO (ltr L p)).toNat, by omega⟩
        rw [ew, show ((w : Int)).toNat = w by omega] at e1 e2 e3
        have el := wdO_inv ew
        have pw := ptW_le w
        have hw9 : w ≤ 9 := by omega
        refine AW.iload_n dX5_readSaying_9 rfl ?_
        refine AW.bipush dX5_readSaying_10 ?_
        refine AW.if_icmpge (tgt := 47) dX5_readSaying_12 (by decide) (fun c12 => absurd c12 (by omega)) (fun c12 => ?_)
        refine AW.iload_n dX5_readSaying_15 rfl ?_
        refine AW.ifle (tgt := 47) dX5_readSaying_16 (by decide) (fun c16 => absurd c16 (by omega)) (fun c16 => ?_)
        refine AW.aload_n dX5_readSaying_19 rfl ?_
        refine AW.cI1 (d' := d - 1) (cX5_33 rfl) okX5_next dX5_readSaying_20 (by repeat (first | assumption | exact hset_eq _ _ _ | refine (hset_ne _ _ (by omega)).trans ?_)) (by omega) (V_next hL (by omega) H (by omega) (fun h2 H2 F2 => ?_))
        have F21 := F2.1
        have Y2 := Y.fr F2 (by omega) ⟨by unfold P17; omega, by unfold P17; omega⟩
        obtain ⟨f2, y2, -⟩ := id Y2
        rw [el]
        refine AW.ist4 dX5_readSaying_23 (by decide) ?_
        refine AW.aload_n dX5_readSaying_25 rfl ?_
        refine AW.iload dX5_readSaying_26 rfl ?_
        refine AW.cI2 (d' := d - 1) (cX5_41 rfl) okX7_add dX5_readSaying_28 (by repeat (first | assumption | exact hset_eq _ _ _ | refine (hset_ne _ _ (by omega)).trans ?_)) (by omega) (W_add (by omega) Y2 (by omega) hw9 (fun h3 Y3 F3 => ?_))
        refine AW.iload_n dX5_readSaying_31 rfl ?_
        refine AW.iload dX5_readSaying_32 rfl ?_
        refine AW.cS1 (d' := d - 1) (cX5_45 rfl) okX7_partsOf dX5_readSaying_34 (by omega) (W_partsOf ?_)
        rw [ptL_LETT hw9]
        have H3 := H2.fr F3 (by omega) ⟨by unfold PB; omega, by unfold PB; omega⟩
        refine AW.iconst dX5_readSaying_37 ?_
        refine AW.isubR dX5_readSaying_38 (by unfold RI; omega) ?_
        refine AW.iaddR dX5_readSaying_39 (by unfold RI; omega) ?_
        refine AW.ist2 dX5_readSaying_40 (by decide) ?_
        refine AW.inc3 dX5_readSaying_41 (by decide) (by unfold RI; omega) ?_
        refine AW.goto (tgt := 9) dX5_readSaying_44 (by decide) ?_
        rw [show ((k + 1 : Nat) : Int) + ((ptW w : Int) - 1) = ((k + ptW w : Nat) : Int) by omega]
        exact ih (n + 1) _ (p + 1) (c ++ [w]) h3 _ (by omega) (by omega) (by omega) e1 e2 (by rw [List.append_assoc]; exact e3) (by rw [List.length_append, e4]; rfl) H3 Y3 (F.trans ((F2.mono (fun a ha => Or.inl ha)).trans (F3.mono (fun a ha => Or.inr ha))))
theorem V_readSaying (hL : L.length ≤ 80) (h9 : 120 ≤ h.1) (hp : p ≤ 100) (H : LetA h L (p : Int)) (Y : SyR h 84) (hs : (sayP L 20 1 p).1 = true) (hd : 2 ≤ d) (hq : ∀ h', LetA h' L ((sayP L 20 1 p).2.1 : Int) → SyA h' 84 (sayP L 20 1 p).2.2 → Fr h h' P178 → Q none h') : MW d 0 0 mX5_readSaying [.inr 17, .inr 84] h Q := by
  obtain ⟨n0, f0, y1, y2⟩ := id Y
  have Z : SyA (hset h 84 (.inl (7 + 1, [.inr (84 + 1), .inl 0]))) 84 [] := Y.zero _ y1
  have FZ : Fr h (hset h 84 (.inl (7 + 1, [.inr (84 + 1), .inl 0]))) (PB 84) := Fr.set (Or.inl rfl)
  show AW d 0 0 mX5_readSaying Q 0 [some (.inr 17), some (.inr 84), none, none, none] [] h
  refine AW.aload_n dX5_readSaying_0 rfl ?_
  refine AW.iconst dX5_readSaying_1 ?_
  refine AW.putf dX5_readSaying_2 pX5_36 (by repeat (first | assumption | exact hset_eq _ _ _ | refine (hset_ne _ _ (by omega)).trans ?_)) trivial ?_
  refine AW.iconst dX5_readSaying_5 ?_
  refine AW.ist2 dX5_readSaying_6 (by decide) ?_
  refine AW.iconst dX5_readSaying_7 ?_
  refine AW.ist3 dX5_readSaying_8 (by decide) ?_
  exact LC_read hL h9 hd hq 20 0 1 p [] _ _ (by omega) (by omega) (by omega) hs rfl (List.nil_append _) rfl (H.fr FZ h9 ⟨by unfold PB; omega, by unfold PB; omega⟩) Z (FZ.mono (fun a ha => Or.inr ha))
end Lets2

