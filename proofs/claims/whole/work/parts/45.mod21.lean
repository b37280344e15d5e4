/-! lookups -/
def lkall (x : Int) : List (Int × Int) → Prop
  | [] => True
  | q :: t => x ≠ q.1 ∧ lkall x t
theorem lk_none {x : Int} : ∀ {l : List (Int × Int)}, (∀ q ∈ l, x ≠ q.1) → lkall x l
  | [], _ => trivial
  | q :: _, h => ⟨h q List.mem_cons_self, lk_none (fun y hy => h y (List.mem_cons_of_mem _ hy))⟩
theorem lk_off {x dd : Int} : ∀ {l : List (Int × Int)}, (∃ q ∈ l, x = q.1 ∧ Op.lookupswitch.offset l dd x = q.2) ∨ ((∀ q ∈ l, x ≠ q.1) ∧ Op.lookupswitch.offset l dd x = dd)
  | [] => Or.inr ⟨fun _ hq => (nomatch hq), rfl⟩
  | (a, o) :: t => by
    by_cases e : a = x
    · exact Or.inl ⟨(a, o), List.mem_cons_self, e.symm, by rw [Op.lookupswitch.offset_cons, if_pos e]⟩
    · rcases lk_off (x := x) (dd := dd) (l := t) with ⟨q, hq, h1, h2⟩ | ⟨h1, h2⟩
      · exact Or.inl ⟨q, List.mem_cons_of_mem _ hq, h1, by rw [Op.lookupswitch.offset_cons, if_neg e]; exact h2⟩
      · exact Or.inr ⟨List.forall_mem_cons.mpr ⟨fun h => e h.symm, h1⟩, by rw [Op.lookupswitch.offset_cons, if_neg e]; exact h2⟩
theorem AW.lk {d bc bs : Nat} {M : MT} {Q : Option AV → AH → Prop} {pc : Nat} {ls : List (Option AV)} {st : List AV} {h : AH} {x : Int} {dflt : Int} {ps : Array (Int × Int)} {len : Nat} (hd : decode M.2.1 pc = .ok (.lookupswitch dflt ps, len))
    (hp : ((ps.toList.zip (ps.toList.drop 1)).all (fun (a, next) => a.1 < next.1) = true) ∧ ∀ q ∈ ps.toList, 0 ≤ (pc : Int) + q.2) (td : Nat) (htd : (pc : Int) + dflt = (td : Int))
    (kin : ∀ q ∈ ps.toList, x = q.1 → AW d bc bs M Q ((pc : Int) + q.2).toNat ls st h) (kd : lkall x ps.toList → AW d bc bs M Q td ls st h) : AW d bc bs M Q pc ls (.inl x :: st) h := by
  rcases lk_off (x := x) (dd := dflt) (l := ps.toList) with ⟨q, hq, h1, h2⟩ | ⟨h1, h2⟩
  · refine AW.lookup hd hp.1 (fun _ => ((pc : Int) + q.2).toNat) ?_ (kin q hq h1)
    rw [h2]
    have := hp.2 q hq
    show _ = (((pc : Int) + q.2).toNat : Int)
    omega
  · refine AW.lookup hd hp.1 (fun _ => td) ?_ (kd (lk_none h1))
    rw [h2]
    exact htd
/-- which word a letter is; -1: none -/
def wdO (x : Int) : Int := if 65 ≤ x ∧ x ≤ 68 then x - 62 else if x = 112 then 0 else if x = 113 then 1 else if x = 114 then 2 else if x = 110 then 7 else if x = 97 then 8 else if x = 111 then 9 else -1
theorem wdO_b (x : Int) : -1 ≤ wdO x ∧ wdO x ≤ 9 := by
  unfold wdO
  repeat' split
  all_goals omega
section Mod21
variable {d : Nat} {Q : Option AV → AH → Prop} {h h0 : AH} {m : Nat → Int} {A : Nat → Nat → Int} {x : Int}
theorem W_wordOf (hx : -1 ≤ x) (hx2 : x ≤ 255) (hd : 1 ≤ d) (hq : Q (some (.inl (wdO x))) h) : MW d 0 0 mX12_wordOf [.inl x] h Q := by
  have e : ∀ v, wdO x = v → Q (some (.inl v)) h := fun v hv => hv ▸ hq
  show AW d 0 0 mX12_wordOf Q 0 [some (.inl x)] [] h
  refine AW.iload_n dX12_wordOf_0 rfl ?_
  refine AW.bipush dX12_wordOf_1 ?_
  refine AW.bipush dX12_wordOf_3 ?_
  refine AW.cS3 (d' := d - 1) (cX12_89 rfl) okX12_isIn dX12_wordOf_5 (by omega) (W_isIn (fun c5 c5b => ?_) (fun c5 => ?_))
  · refine AW.ifeq_f (tgt := 18) dX12_wordOf_8 (by decide) (by decide) ?_
    refine AW.iconst dX12_wordOf_11 ?_
    refine AW.iload_n dX12_wordOf_12 rfl ?_
    refine AW.iaddR dX12_wordOf_13 (by unfold RI; omega) ?_
    refine AW.bipush dX12_wordOf_14 ?_
    refine AW.isubR dX12_wordOf_16 (by unfold RI; omega) ?_
    refine AW.ireturn dX12_wordOf_17 rfl ?_
    refine e _ ?_
    unfold wdO
    first
      | (rw [if_pos (by omega)]; omega)
      | (rw [if_neg (by omega), if_pos (by omega)])
      | (rw [if_neg (by omega), if_neg (by omega), if_pos (by omega)])
      | (rw [if_neg (by omega), if_neg (by omega), if_neg (by omega), if_pos (by omega)])
      | (rw [if_neg (by omega), if_neg (by omega), if_neg (by omega), if_neg (by omega), if_pos (by omega)])
      | (rw [if_neg (by omega), if_neg (by omega), if_neg (by omega), if_neg (by omega), if_neg (by omega), if_pos (by omega)])
      | (rw [if_neg (by omega), if_neg (by omega), if_neg (by omega), if_neg (by omega), if_neg (by omega), if_neg (by omega), if_pos (by omega)])
      | (rw [if_neg (by omega), if_neg (by omega), if_neg (by omega), if_neg (by omega), if_neg (by omega), if_neg (by omega), if_neg (by omega)])
  · refine AW.ifeq_t (tgt := 18) dX12_wordOf_8 (by decide) rfl ?_
    refine AW.iload_n dX12_wordOf_18 rfl ?_
    refine AW.tab (tgt := 119) [113, 119, 119, 119, 119, 119, 119, 119, 119, 119, 119, 119, 119, 110, 116, 104, 106, 108] dX12_wordOf_19 (by decide) (by decide) (by decide) (fun i t hi c19 => ?_) (fun c19 => ?_)
    · match i, hi with
      | 0, hi =>
        cases hi
        refine AW.bipush dX12_wordOf_113 ?_
        refine AW.ireturn dX12_wordOf_115 rfl ?_
        refine e _ ?_
        unfold wdO
        first
          | (rw [if_pos (by omega)]; omega)
          | (rw [if_neg (by omega), if_pos (by omega)])
          | (rw [if_neg (by omega), if_neg (by omega), if_pos (by omega)])
          | (rw [if_neg (by omega), if_neg (by omega), if_neg (by omega), if_pos (by omega)])
          | (rw [if_neg (by omega), if_neg (by omega), if_neg (by omega), if_neg (by omega), if_pos (by omega)])
          | (rw [if_neg (by omega), if_neg (by omega), if_neg (by omega), if_neg (by omega), if_neg (by omega), if_pos (by omega)])
          | (rw [if_neg (by omega), if_neg (by omega), if_neg (by omega), if_neg (by omega), if_neg (by omega), if_neg (by omega), if_pos (by omega)])
          | (rw [if_neg (by omega), if_neg (by omega), if_neg (by omega), if_neg (by omega), if_neg (by omega), if_neg (by omega), if_neg (by omega)])
      | 1, hi =>
        cases hi
        refine AW.iconst dX12_wordOf_119 ?_
        refine AW.ireturn dX12_wordOf_120 rfl ?_
        refine e _ ?_
        unfold wdO
        first
          | (rw [if_pos (by omega)]; omega)
          | (rw [if_neg (by omega), if_pos (by omega)])
          | (rw [if_neg (by omega), if_neg (by omega), if_pos (by omega)])
          | (rw [if_neg (by omega), if_neg (by omega), if_neg (by omega), if_pos (by omega)])
          | (rw [if_neg (by omega), if_neg (by omega), if_neg (by omega), if_neg (by omega), if_pos (by omega)])
          | (rw [if_neg (by omega), if_neg (by omega), if_neg (by omega), if_neg (by omega), if_neg (by omega), if_pos (by omega)])
          | (rw [if_neg (by omega), if_neg (by omega), if_neg (by omega), if_neg (by omega), if_neg (by omega), if_neg (by omega), if_pos (by omega)])
          | (rw [if_neg (by omega), if_neg (by omega), if_neg (by omega), if_neg (by omega), if_neg (by omega), if_neg (by omega), if_neg (by omega)])
      | 2, hi =>
        cases hi
        refine AW.iconst dX12_wordOf_119 ?_
        refine AW.ireturn dX12_wordOf_120 rfl ?_
        refine e _ ?_
        unfold wdO
        first
          | (rw [if_pos (by omega)]; omega)
          | (rw [if_neg (by omega), if_pos (by omega)])
          | (rw [if_neg (by omega), if_neg (by omega), if_pos (by omega)])
          | (rw [if_neg (by omega), if_neg (by omega), if_neg (by omega), if_pos (by omega)])
          | (rw [if_neg (by omega), if_neg (by omega), if_neg (by omega), if_neg (by omega), if_pos (by omega)])
          | (rw [if_neg (by omega), if_neg (by omega), if_neg (by omega), if_neg (by omega), if_neg (by omega), if_pos (by omega)])
          | (rw [if_neg (by omega), if_neg (by omega), if_neg (by omega), if_neg (by omega), if_neg (by omega), if_neg (by omega), if_pos (by omega)])
          | (rw [if_neg (by omega), if_neg (by omega), if_neg (by omega), if_neg (by omega), if_neg (by omega), if_neg (by omega), if_neg (by omega)])
      | 3, hi =>
        cases hi
        refine AW.iconst dX12_wordOf_119 ?_
        refine AW.ireturn dX12_wordOf_120 rfl ?_
        refine e _ ?_
        unfold wdO
        first
          | (rw [if_pos (by omega)]; omega)
          | (rw [if_neg (by omega), if_pos (by omega)])
          | (rw [if_neg (by omega), if_neg (by omega), if_pos (by omega)])
          | (rw [if_neg (by omega), if_neg (by omega), if_neg (by omega), if_pos (by omega)])
          | (rw [if_neg (by omega), if_neg (by omega), if_neg (by omega), if_neg (by omega), if_pos (by omega)])
          | (rw [if_neg (by omega), if_neg (by omega), if_neg (by omega), if_neg (by omega), if_neg (by omega), if_pos (by omega)])
          | (rw [if_neg (by omega), if_neg (by omega), if_neg (by omega), if_neg (by omega), if_neg (by omega), if_neg (by omega), if_pos (by omega)])
          | (rw [if_neg (by omega), if_neg (by omega), if_neg (by omega), if_neg (by omega), if_neg (by omega), if_neg (by omega), if_neg (by omega)])
      | 4, hi =>
        cases hi
        refine AW.iconst dX12_wordOf_119 ?_
        refine AW.ireturn dX12_wordOf_120 rfl ?_
        refine e _ ?_
        unfold wdO
        first
          | (rw [if_pos (by omega)]; omega)
          | (rw [if_neg (by omega), if_pos (by omega)])
          | (rw [if_neg (by omega), if_neg (by omega), if_pos (by omega)])
          | (rw [if_neg (by omega), if_neg (by omega), if_neg (by omega), if_pos (by omega)])
          | (rw [if_neg (by omega), if_neg (by omega), if_neg (by omega), if_neg (by omega), if_pos (by omega)])
          | (rw [if_neg (by omega), if_neg (by omega), if_neg (by omega), if_neg (by omega), if_neg (by omega), if_pos (by omega)])
          | (rw [if_neg (by omega), if_neg (by omega), if_neg (by omega), if_neg (by omega), if_neg (by omega), if_neg (by omega), if_pos (by omega)])
          | (rw [if_neg (by omega), if_neg (by omega), if_neg (by omega), if_neg (by omega), if_neg (by omega), if_neg (by omega), if_neg (by omega)])
      | 5, hi =>
        cases hi
        refine AW.iconst dX12_wordOf_119 ?_
        refine AW.ireturn dX12_wordOf_120 rfl ?_
        refine e _ ?_
        unfold wdO
        first
          | (rw [if_pos (by omega)]; omega)
          | (rw [if_neg (by omega), if_pos (by omega)])
          | (rw [if_neg (by omega), if_neg (by omega), if_pos (by omega)])
          | (rw [if_neg (by omega), if_neg (by omega), if_neg (by omega), if_pos (by omega)])
          | (rw [if_neg (by omega), if_neg (by omega), if_neg (by omega), if_neg (by omega), if_pos (by omega)])
          | (rw [if_neg (by omega), if_neg (by omega), if_neg (by omega), if_neg (by omega), if_neg (by omega), if_pos (by omega)])
          | (rw [if_neg (by omega), if_neg (by omega), if_neg (by omega), if_neg (by omega), if_neg (by omega), if_neg (by omega), if_pos (by omega)])
          | (rw [if_neg (by omega), if_neg (by omega), if_neg (by omega), if_neg (by omega), if_neg (by omega), if_neg (by omega), if_neg (by omega)])
      | 6, hi =>
        cases hi
        refine AW.iconst dX12_wordOf_119 ?_
        refine AW.ireturn dX12_wordOf_120 rfl ?_
        refine e _ ?_
        unfold wdO
        first
          | (rw [if_pos (by omega)]; omega)
          | (rw [if_neg (by omega), if_pos (by omega)])
          | (rw [if_neg (by omega), if_neg (by omega), if_pos (by omega)])
          | (rw [if_neg (by omega), if_neg (by omega), if_neg (by omega), if_pos (by omega)])
          | (rw [if_neg (by omega), if_neg (by omega), if_neg (by omega), if_neg (by omega), if_pos (by omega)])
          | (rw [if_neg (by omega), if_neg (by omega), if_neg (by omega), if_neg (by omega), if_neg (by omega), if_pos (by omega)])
          | (rw [if_neg (by omega), if_neg (by omega), if_neg (by omega), if_neg (by omega), if_neg (by omega), if_neg (by omega), if_pos (by omega)])
          | (rw [if_neg (by omega), if_neg (by omega), if_neg (by omega), if_neg (by omega), if_neg (by omega), if_neg (by omega), if_neg (by omega)])
      | 7, hi =>
        cases hi
        refine AW.iconst dX12_wordOf_119 ?_
        refine AW.ireturn dX12_wordOf_120 rfl ?_
        refine e _ ?_
        unfold wdO
        first
          | (rw [if_pos (by omega)]; omega)
          | (rw [if_neg (by omega), if_pos (by omega)])
          | (rw [if_neg (by omega), if_neg (by omega), if_pos (by omega)])
          | (rw [if_neg (by omega), if_neg (by omega), if_neg (by omega), if_pos (by omega)])
          | (rw [if_neg (by omega), if_neg (by omega), if_neg (by omega), if_neg (by omega), if_pos (by omega)])
          | (rw [if_neg (by omega), if_neg (by omega), if_neg (by omega), if_neg (by omega), if_neg (by omega), if_pos (by omega)])
          | (rw [if_neg (by omega), if_neg (by omega), if_neg (by omega), if_neg (by omega), if_neg (by omega), if_neg (by omega), if_pos (by omega)])
          | (rw [if_neg (by omega), if_neg (by omega), if_neg (by omega), if_neg (by omega), if_neg (by omega), if_neg (by omega), if_neg (by omega)])
      | 8, hi =>
        cases hi
        refine AW.iconst dX12_wordOf_119 ?_
        refine AW.ireturn dX12_wordOf_120 rfl ?_
        refine e _ ?_
        unfold wdO
        first
          | (rw [if_pos (by omega)]; omega)
          | (rw [if_neg (by omega), if_pos (by omega)])
          | (rw [if_neg (by omega), if_neg (by omega), if_pos (by omega)])
          | (rw [if_neg (by omega), if_neg (by omega), if_neg (by omega), if_pos (by omega)])
          | (rw [if_neg (by omega), if_neg (by omega), if_neg (by omega), if_neg (by omega), if_pos (by omega)])
          | (rw [if_neg (by omega), if_neg (by omega), if_neg (by omega), if_neg (by omega), if_neg (by omega), if_pos (by omega)])
          | (rw [if_neg (by omega), if_neg (by omega), if_neg (by omega), if_neg (by omega), if_neg (by omega), if_neg (by omega), if_pos (by omega)])
          | (rw [if_neg (by omega), if_neg (by omega), if_neg (by omega), if_neg (by omega), if_neg (by omega), if_neg (by omega), if_neg (by omega)])
      | 9, hi =>
        cases hi
        refine AW.iconst dX12_wordOf_119 ?_
        refine AW.ireturn dX12_wordOf_120 rfl ?_
        refine e _ ?_
        unfold wdO
        first
          | (rw [if_pos (by omega)]; omega)
          | (rw [if_neg (by omega), if_pos (by omega)])
          | (rw [if_neg (by omega), if_neg (by omega), if_pos (by omega)])
          | (rw [if_neg (by omega), if_neg (by omega), if_neg (by omega), if_pos (by omega)])
          | (rw [if_neg (by omega), if_neg (by omega), if_neg (by omega), if_neg (by omega), if_pos (by omega)])
          | (rw [if_neg (by omega), if_neg (by omega), if_neg (by omega), if_neg (by omega), if_neg (by omega), if_pos (by omega)])
          | (rw [if_neg (by omega), if_neg (by omega), if_neg (by omega), if_neg (by omega), if_neg (by omega), if_neg (by omega), if_pos (by omega)])
          | (rw [if_neg (by omega), if_neg (by omega), if_neg (by omega), if_neg (by omega), if_neg (by omega), if_neg (by omega), if_neg (by omega)])
      | 10, hi =>
        cases hi
        refine AW.iconst dX12_wordOf_119 ?_
        refine AW.ireturn dX12_wordOf_120 rfl ?_
        refine e _ ?_
        unfold wdO
        first
          | (rw [if_pos (by omega)]; omega)
          | (rw [if_neg (by omega), if_pos (by omega)])
          | (rw [if_neg (by omega), if_neg (by omega), if_pos (by omega)])
          | (rw [if_neg (by omega), if_neg (by omega), if_neg (by omega), if_pos (by omega)])
          | (rw [if_neg (by omega), if_neg (by omega), if_neg (by omega), if_neg (by omega), if_pos (by omega)])
          | (rw [if_neg (by omega), if_neg (by omega), if_neg (by omega), if_neg (by omega), if_neg (by omega), if_pos (by omega)])
          | (rw [if_neg (by omega), if_neg (by omega), if_neg (by omega), if_neg (by omega), if_neg (by omega), if_neg (by omega), if_pos (by omega)])
          | (rw [if_neg (by omega), if_neg (by omega), if_neg (by omega), if_neg (by omega), if_neg (by omega), if_neg (by omega), if_neg (by omega)])
      | 11, hi =>
        cases hi
        refine AW.iconst dX12_wordOf_119 ?_
        refine AW.ireturn dX12_wordOf_120 rfl ?_
        refine e _ ?_
        unfold wdO
        first
          | (rw [if_pos (by omega)]; omega)
          | (rw [if_neg (by omega), if_pos (by omega)])
          | (rw [if_neg (by omega), if_neg (by omega), if_pos (by omega)])
          | (rw [if_neg (by omega), if_neg (by omega), if_neg (by omega), if_pos (by omega)])
          | (rw [if_neg (by omega), if_neg (by omega), if_neg (by omega), if_neg (by omega), if_pos (by omega)])
          | (rw [if_neg (by omega), if_neg (by omega), if_neg (by omega), if_neg (by omega), if_neg (by omega), if_pos (by omega)])
          | (rw [if_neg (by omega), if_neg (by omega), if_neg (by omega), if_neg (by omega), if_neg (by omega), if_neg (by omega), if_pos (by omega)])
          | (rw [if_neg (by omega), if_neg (by omega), if_neg (by omega), if_neg (by omega), if_neg (by omega), if_neg (by omega), if_neg (by omega)])
      | 12, hi =>
        cases hi
        refine AW.iconst dX12_wordOf_119 ?_
        refine AW.ireturn dX12_wordOf_120 rfl ?_
        refine e _ ?_
        unfold wdO
        first
          | (rw [if_pos (by omega)]; omega)
          | (rw [if_neg (by omega), if_pos (by omega)])
          | (rw [if_neg (by omega), if_neg (by omega), if_pos (by omega)])
          | (rw [if_neg (by omega), if_neg (by omega), if_neg (by omega), if_pos (by omega)])
          | (rw [if_neg (by omega), if_neg (by omega), if_neg (by omega), if_neg (by omega), if_pos (by omega)])
          | (rw [if_neg (by omega), if_neg (by omega), if_neg (by omega), if_neg (by omega), if_neg (by omega), if_pos (by omega)])
          | (rw [if_neg (by omega), if_neg (by omega), if_neg (by omega), if_neg (by omega), if_neg (by omega), if_neg (by omega), if_pos (by omega)])
          | (rw [if_neg (by omega), if_neg (by omega), if_neg (by omega), if_neg (by omega), if_neg (by omega), if_neg (by omega), if_neg (by omega)])
      | 13, hi =>
        cases hi
        refine AW.bipush dX12_wordOf_110 ?_
        refine AW.ireturn dX12_wordOf_112 rfl ?_
        refine e _ ?_
        unfold wdO
        first
          | (rw [if_pos (by omega)]; omega)
          | (rw [if_neg (by omega), if_pos (by omega)])
          | (rw [if_neg (by omega), if_neg (by omega), if_pos (by omega)])
          | (rw [if_neg (by omega), if_neg (by omega), if_neg (by omega), if_pos (by omega)])
          | (rw [if_neg (by omega), if_neg (by omega), if_neg (by omega), if_neg (by omega), if_pos (by omega)])
          | (rw [if_neg (by omega), if_neg (by omega), if_neg (by omega), if_neg (by omega), if_neg (by omega), if_pos (by omega)])
          | (rw [if_neg (by omega), if_neg (by omega), if_neg (by omega), if_neg (by omega), if_neg (by omega), if_neg (by omega), if_pos (by omega)])
          | (rw [if_neg (by omega), if_neg (by omega), if_neg (by omega), if_neg (by omega), if_neg (by omega), if_neg (by omega), if_neg (by omega)])
      | 14, hi =>
        cases hi
        refine AW.bipush dX12_wordOf_116 ?_
        refine AW.ireturn dX12_wordOf_118 rfl ?_
        refine e _ ?_
        unfold wdO
        first
          | (rw [if_pos (by omega)]; omega)
          | (rw [if_neg (by omega), if_pos (by omega)])
          | (rw [if_neg (by omega), if_neg (by omega), if_pos (by omega)])
          | (rw [if_neg (by omega), if_neg (by omega), if_neg (by omega), if_pos (by omega)])
          | (rw [if_neg (by omega), if_neg (by omega), if_neg (by omega), if_neg (by omega), if_pos (by omega)])
          | (rw [if_neg (by omega), if_neg (by omega), if_neg (by omega), if_neg (by omega), if_neg (by omega), if_pos (by omega)])
          | (rw [if_neg (by omega), if_neg (by omega), if_neg (by omega), if_neg (by omega), if_neg (by omega), if_neg (by omega), if_pos (by omega)])
          | (rw [if_neg (by omega), if_neg (by omega), if_neg (by omega), if_neg (by omega), if_neg (by omega), if_neg (by omega), if_neg (by omega)])
      | 15, hi =>
        cases hi
        refine AW.iconst dX12_wordOf_104 ?_
        refine AW.ireturn dX12_wordOf_105 rfl ?_
        refine e _ ?_
        unfold wdO
        first
          | (rw [if_pos (by omega)]; omega)
          | (rw [if_neg (by omega), if_pos (by omega)])
          | (rw [if_neg (by omega), if_neg (by omega), if_pos (by omega)])
          | (rw [if_neg (by omega), if_neg (by omega), if_neg (by omega), if_pos (by omega)])
          | (rw [if_neg (by omega), if_neg (by omega), if_neg (by omega), if_neg (by omega), if_pos (by omega)])
          | (rw [if_neg (by omega), if_neg (by omega), if_neg (by omega), if_neg (by omega), if_neg (by omega), if_pos (by omega)])
          | (rw [if_neg (by omega), if_neg (by omega), if_neg (by omega), if_neg (by omega), if_neg (by omega), if_neg (by omega), if_pos (by omega)])
          | (rw [if_neg (by omega), if_neg (by omega), if_neg (by omega), if_neg (by omega), if_neg (by omega), if_neg (by omega), if_neg (by omega)])
      | 16, hi =>
        cases hi
        refine AW.iconst dX12_wordOf_106 ?_
        refine AW.ireturn dX12_wordOf_107 rfl ?_
        refine e _ ?_
        unfold wdO
        first
          | (rw [if_pos (by omega)]; omega)
          | (rw [if_neg (by omega), if_pos (by omega)])
          | (rw [if_neg (by omega), if_neg (by omega), if_pos (by omega)])
          | (rw [if_neg (by omega), if_neg (by omega), if_neg (by omega), if_pos (by omega)])
          | (rw [if_neg (by omega), if_neg (by omega), if_neg (by omega), if_neg (by omega), if_pos (by omega)])
          | (rw [if_neg (by omega), if_neg (by omega), if_neg (by omega), if_neg (by omega), if_neg (by omega), if_pos (by omega)])
          | (rw [if_neg (by omega), if_neg (by omega), if_neg (by omega), if_neg (by omega), if_neg (by omega), if_neg (by omega), if_pos (by omega)])
          | (rw [if_neg (by omega), if_neg (by omega), if_neg (by omega), if_neg (by omega), if_neg (by omega), if_neg (by omega), if_neg (by omega)])
      | 17, hi =>
        cases hi
        refine AW.iconst dX12_wordOf_108 ?_
        refine AW.ireturn dX12_wordOf_109 rfl ?_
        refine e _ ?_
        unfold wdO
        first
          | (rw [if_pos (by omega)]; omega)
          | (rw [if_neg (by omega), if_pos (by omega)])
          | (rw [if_neg (by omega), if_neg (by omega), if_pos (by omega)])
          | (rw [if_neg (by omega), if_neg (by omega), if_neg (by omega), if_pos (by omega)])
          | (rw [if_neg (by omega), if_neg (by omega), if_neg (by omega), if_neg (by omega), if_pos (by omega)])
          | (rw [if_neg (by omega), if_neg (by omega), if_neg (by omega), if_neg (by omega), if_neg (by omega), if_pos (by omega)])
          | (rw [if_neg (by omega), if_neg (by omega), if_neg (by omega), if_neg (by omega), if_neg (by omega), if_neg (by omega), if_pos (by omega)])
          | (rw [if_neg (by omega), if_neg (by omega), if_neg (by omega), if_neg (by omega), if_neg (by omega), if_neg (by omega), if_neg (by omega)])
      | i + 18, hi => simp at hi
    · refine AW.iconst dX12_wordOf_119 ?_
      refine AW.ireturn dX12_wordOf_120 rfl ?_
      refine e _ ?_
      unfold wdO
      first
        | (rw [if_pos (by omega)]; omega)
        | (rw [if_neg (by omega), if_pos (by omega)])
        | (rw [if_neg (by omega), if_neg (by omega), if_pos (by omega)])
        | (rw [if_neg (by omega), if_neg (by omega), if_neg (by omega), if_pos (by omega)])
        | (rw [if_neg (by omega), if_neg (by omega), if_neg (by omega), if_neg (by omega), if_pos (by omega)])
        | (rw [if_neg (by omega), if_neg (by omega), if_neg (by omega), if_neg (by omega), if_neg (by omega), if_pos (by omega)])
        | (rw [if_neg (by omega), if_neg (by omega), if_neg (by omega), if_neg (by omega), if_neg (by omega), if_neg (by omega), if_pos (by omega)])
        | (rw [if_neg (by omega), if_neg (by omega), if_neg (by omega), if_neg (by omega), if_neg (by omega), if_neg (by omega), if_neg (by omega)])
end Mod21

