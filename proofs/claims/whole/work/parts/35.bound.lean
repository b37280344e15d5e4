/-! EVERYTHING THAT CAN BE SAID can be said in at most 299 words -/
def cer1 : List (Nat × Nat × Nat) := [(0, 170, 0), (0, 204, 0), (0, 240, 0), (1, 170, 0), (1, 204, 0), (1, 240, 0), (2, 170, 204), (2, 170, 240), (2, 204, 240), (1, 136, 0), (1, 160, 0), (1, 192, 0), (2, 170, 85), (2, 170, 51), (2, 170, 15), (2, 204, 85), (2, 204, 15), (2, 240, 85), (2, 240, 51), (1, 0, 0), (1, 34, 0), (1, 10, 0), (1, 68, 0), (1, 12, 0), (1, 80, 0), (1, 48, 0), (2, 170, 192), (2, 85, 51), (2, 85, 15), (2, 51, 15), (1, 128, 0), (1, 17, 0), (1, 5, 0), (1, 3, 0), (2, 170, 63), (2, 170, 12), (2, 170, 48), (2, 204, 95), (2, 204, 80), (2, 240, 119), (1, 42, 0), (1, 8, 0), (1, 32, 0), (1, 76, 0), (1, 64, 0), (1, 112, 0), (2, 170, 243), (2, 170, 207), (2, 170, 3), (2, 204, 245), (2, 204, 175), (2, 204, 5), (2, 240, 221), (2, 240, 187), (2, 240, 17), (2, 85, 63), (2, 51, 95), (2, 15, 119), (1, 162, 0), (1, 138, 0), (1, 2, 0), (1, 196, 0), (1, 140, 0), (1, 4, 0), (1, 208, 0), (1, 176, 0), (1, 16, 0), (1, 21, 0), (1, 19, 0), (1, 7, 0), (2, 170, 252), (2, 204, 250), (2, 240, 238), (2, 85, 243), (2, 85, 207), (2, 85, 3), (2, 51, 245), (2, 51, 175), (2, 15, 221), (2, 15, 187), (1, 168, 0), (1, 200, 0), (1, 224, 0), (1, 81, 0), (1, 69, 0), (1, 1, 0), (1, 49, 0), (1, 35, 0), (1, 13, 0), (1, 11, 0), (2, 85, 252), (2, 51, 250), (2, 15, 238), (1, 84, 0), (1, 50, 0), (1, 14, 0), (2, 119, 175), (2, 119, 207), (2, 95, 187), (2, 95, 243), (2, 63, 221), (2, 63, 245), (1, 39, 0), (1, 71, 0), (1, 27, 0), (1, 83, 0), (1, 29, 0), (1, 53, 0), (2, 119, 238), (2, 119, 250), (2, 119, 252), (2, 95, 238), (2, 95, 250), (2, 95, 252), (2, 63, 238), (2, 63, 250), (2, 63, 252), (2, 221, 187), (2, 221, 243), (2, 221, 175), (2, 245, 187), (2, 245, 175), (2, 245, 207), (2, 187, 207), (2, 243, 175), (2, 243, 207), (2, 170, 60), (2, 170, 195), (2, 204, 90), (2, 204, 165), (2, 240, 102), (2, 240, 153), (2, 119, 239), (2, 119, 234), (2, 119, 236), (2, 95, 251), (2, 95, 234), (2, 95, 248), (2, 63, 253), (2, 63, 236), (2, 63, 248), (2, 221, 179), (2, 221, 191), (2, 245, 191), (2, 245, 143), (2, 187, 223), (2, 243, 223), (2, 243, 143), (2, 175, 247), (2, 207, 247), (2, 127, 238), (2, 127, 250), (2, 127, 252), (1, 40, 0), (1, 130, 0), (1, 72, 0), (1, 132, 0), (1, 96, 0), (1, 144, 0), (1, 103, 0), (1, 91, 0), (1, 61, 0), (2, 85, 60), (2, 85, 195), (2, 51, 90), (2, 51, 165), (2, 15, 102), (2, 15, 153), (2, 119, 31), (2, 119, 174), (2, 119, 254), (2, 119, 206), (2, 95, 186), (2, 95, 254), (2, 95, 242), (2, 63, 254), (2, 63, 220), (2, 63, 244), (2, 221, 59), (2, 221, 251), (2, 221, 79), (2, 245, 115), (2, 245, 47), (2, 245, 239), (2, 187, 253), (2, 187, 47), (2, 243, 79), (2, 243, 239), (2, 175, 253), (2, 207, 251), (2, 238, 247), (2, 238, 143), (2, 250, 223), (2, 250, 179), (2, 252, 213), (2, 252, 191), (1, 20, 0), (1, 65, 0), (1, 18, 0), (1, 33, 0), (1, 6, 0), (1, 9, 0), (1, 23, 0), (1, 118, 0), (1, 94, 0), (1, 62, 0), (2, 127, 234), (2, 127, 236), (2, 127, 248), (2, 213, 191), (2, 247, 143), (2, 223, 179), (2, 119, 172), (2, 119, 202), (2, 95, 184), (2, 127, 254), (2, 247, 239), (2, 223, 251), (2, 191, 253), (1, 126, 0), (2, 247, 174), (2, 247, 206), (2, 223, 186), (2, 223, 242), (2, 191, 220), (2, 191, 244), (2, 93, 251), (2, 117, 239), (2, 253, 59), (2, 253, 47), (2, 115, 239), (2, 251, 79), (2, 119, 94), (2, 119, 62), (2, 95, 62), (2, 253, 171), (2, 251, 205), (2, 239, 241), (2, 127, 235), (2, 127, 237), (2, 127, 249), (2, 127, 232), (2, 238, 135), (2, 250, 147), (2, 252, 149), (2, 247, 159), (2, 221, 75), (2, 245, 99), (2, 187, 45), (2, 247, 190), (2, 247, 222), (2, 223, 190), (2, 119, 30), (2, 253, 235), (2, 215, 190), (2, 125, 235)]
def cer2 : List (Nat × Nat × Nat) := [(0, 170, 0), (0, 204, 0), (0, 240, 0), (1, 170, 0), (1, 204, 0), (1, 240, 0), (2, 170, 170), (2, 170, 204), (2, 170, 240), (2, 204, 170), (2, 204, 240), (2, 240, 170), (2, 240, 204), (1, 0, 0), (1, 34, 0), (1, 10, 0), (1, 68, 0), (1, 12, 0), (1, 80, 0), (1, 48, 0), (2, 170, 51), (2, 170, 15), (2, 204, 15), (2, 85, 204), (2, 85, 240), (2, 51, 240), (1, 136, 0), (1, 160, 0), (1, 192, 0), (1, 17, 0), (1, 5, 0), (1, 3, 0), (2, 170, 12), (2, 170, 48), (2, 204, 10), (2, 204, 80), (2, 240, 34), (2, 240, 68), (2, 34, 240), (2, 68, 240), (2, 80, 204), (1, 162, 0), (1, 138, 0), (1, 196, 0), (1, 140, 0), (1, 208, 0), (1, 176, 0), (1, 2, 0), (1, 4, 0), (1, 16, 0), (2, 170, 243), (2, 170, 207), (2, 170, 192), (2, 170, 3), (2, 204, 175), (2, 204, 160), (2, 204, 5), (2, 240, 136), (2, 240, 17), (2, 85, 12), (2, 85, 48), (2, 51, 10), (2, 51, 80), (2, 15, 34), (2, 15, 68), (2, 17, 240), (1, 8, 0), (1, 32, 0), (1, 42, 0), (1, 168, 0), (1, 64, 0), (1, 76, 0), (1, 200, 0), (1, 112, 0), (1, 224, 0), (1, 81, 0), (1, 69, 0), (1, 49, 0), (1, 35, 0), (1, 13, 0), (1, 11, 0), (1, 1, 0), (2, 170, 63), (2, 85, 192), (2, 85, 3), (2, 51, 160), (2, 51, 5), (2, 15, 136), (2, 15, 17), (1, 128, 0), (1, 21, 0), (1, 84, 0), (1, 19, 0), (1, 50, 0), (1, 7, 0), (1, 14, 0), (2, 221, 68), (2, 221, 12), (2, 221, 80), (2, 245, 68), (2, 245, 80), (2, 245, 48), (2, 187, 48), (2, 243, 80), (2, 243, 48), (1, 153, 0), (1, 209, 0), (1, 141, 0), (1, 177, 0), (1, 165, 0), (1, 197, 0), (1, 139, 0), (1, 163, 0), (1, 195, 0), (2, 221, 192), (2, 221, 5), (2, 245, 192), (2, 245, 17), (2, 187, 160), (2, 187, 3), (2, 243, 160), (2, 243, 17), (2, 175, 136), (2, 175, 3), (2, 207, 136), (2, 207, 5), (2, 162, 48), (2, 196, 80), (2, 208, 68), (1, 130, 0), (1, 132, 0), (1, 144, 0), (2, 170, 195), (2, 204, 165), (2, 240, 153), (2, 221, 196), (2, 221, 176), (2, 221, 4), (2, 245, 140), (2, 245, 208), (2, 245, 16), (2, 187, 208), (2, 187, 2), (2, 243, 176), (2, 243, 16), (2, 175, 2), (2, 207, 4), (2, 81, 48), (2, 49, 80), (2, 13, 68), (1, 40, 0), (1, 72, 0), (1, 96, 0), (1, 25, 0), (1, 77, 0), (1, 217, 0), (1, 113, 0), (1, 37, 0), (1, 229, 0), (1, 43, 0), (1, 185, 0), (1, 67, 0), (1, 227, 0), (1, 173, 0), (1, 203, 0), (1, 65, 0), (1, 33, 0), (1, 9, 0), (2, 85, 195), (2, 51, 165), (2, 15, 153), (2, 221, 64), (2, 221, 76), (2, 221, 69), (2, 245, 64), (2, 245, 112), (2, 245, 81), (2, 187, 32), (2, 243, 32), (2, 243, 112), (2, 243, 49), (2, 175, 8), (2, 207, 8), (2, 119, 16), (2, 95, 4), (2, 63, 2), (2, 238, 138), (2, 238, 140), (2, 250, 162), (2, 250, 176), (2, 252, 196), (2, 252, 208), (1, 20, 0), (1, 18, 0), (1, 6, 0), (1, 145, 0), (1, 133, 0), (1, 131, 0), (2, 221, 84), (2, 245, 84), (2, 243, 50), (2, 119, 224), (2, 119, 1), (2, 95, 1), (2, 63, 1), (2, 93, 4), (2, 117, 16), (2, 59, 2), (2, 115, 16), (2, 47, 2), (2, 79, 4), (2, 209, 80), (1, 23, 0), (1, 89, 0), (1, 101, 0), (1, 57, 0), (1, 99, 0), (1, 45, 0), (1, 75, 0), (1, 129, 0), (2, 221, 197), (2, 245, 209), (2, 243, 177), (2, 253, 64), (2, 251, 32), (2, 239, 8), (2, 253, 84), (2, 251, 50), (2, 239, 14), (2, 247, 112), (2, 223, 76), (2, 213, 64), (2, 87, 1), (2, 55, 1), (2, 31, 1), (1, 135, 0), (1, 147, 0), (1, 149, 0), (2, 253, 132), (2, 253, 144), (2, 251, 144), (2, 77, 4), (2, 113, 16), (2, 43, 2), (1, 121, 0), (1, 109, 0), (1, 107, 0), (1, 73, 0), (1, 97, 0), (1, 41, 0), (2, 253, 20), (2, 247, 96), (2, 87, 65), (2, 234, 130), (2, 125, 20), (2, 215, 65)]
def ck (f2 : Nat → Nat → Nat) : List (Nat × Nat × Nat) → List (Nat × Nat) → List (Nat × Nat)
  | [], t => t
  | (0, a, _) :: r, t => if a = 170 ∨ a = 204 ∨ a = 240 then ck f2 r ((a, 1) :: t) else []
  | (1, a, _) :: r, t => match t.lookup a with
    | some n => ck f2 r ((255 - a, n + 1) :: t)
    | none => []
  | (_ + 2, a, b) :: r, t => match t.lookup a, t.lookup b with
    | some n, some m => ck f2 r ((f2 a b, n + m + 1) :: t)
    | _, _ => []
def ckAll (t : List (Nat × Nat)) : Bool := (List.range 256).all (fun v => match t.lookup v with | some n => decide (n ≤ 299) | none => false)
theorem ck1 : ckAll (ck (fun a b => a &&& b) cer1 []) = true := by decide +kernel
theorem ck2 : ckAll (ck (fun a b => a &&& (255 - b)) cer2 []) = true := by decide +kernel
theorem lookup_mem {t : List (Nat × Nat)} {a n : Nat} (h : t.lookup a = some n) : (a, n) ∈ t := by
  induction t with
  | nil => cases h
  | cons x r ih =>
    obtain ⟨b, m⟩ := x
    rw [List.lookup_cons] at h
    split at h
    · rename_i e
      cases h
      have : a = b := by simpa using e
      subst this
      exact List.mem_cons_self
    · exact List.mem_cons_of_mem _ (ih h)
theorem ck_ok {f2 : Nat → Nat → Nat} {P : Nat → Nat → Prop} (hl : P 1 170 ∧ P 1 204 ∧ P 1 240) (hn : ∀ n a, a < 256 → P n a → P (n + 1) (255 - a)) (h2 : ∀ n m a b, a < 256 → b < 256 → P n a → P m b → P (n + m + 1) (f2 a b)) (hf : ∀ a b, a < 256 → b < 256 → f2 a b < 256) :
    ∀ (c : List (Nat × Nat × Nat)) (t : List (Nat × Nat)), (∀ x ∈ t, x.1 < 256 ∧ P x.2 x.1) → ∀ x ∈ ck f2 c t, x.1 < 256 ∧ P x.2 x.1 := by
  intro c
  induction c with
  | nil => intro t ht x hx; exact ht x hx
  | cons e r ih =>
    intro t ht x hx
    obtain ⟨op, a, b⟩ := e
    match op, hx with
    | 0, hx =>
      unfold ck at hx
      split at hx
      · rename_i q
        refine ih _ (fun y hy => ?_) x hx
        rcases List.mem_cons.mp hy with rfl | hy
        · rcases q with rfl | rfl | rfl
          · exact ⟨by decide, hl.1⟩
          · exact ⟨by decide, hl.2.1⟩
          · exact ⟨by decide, hl.2.2⟩
        · exact ht y hy
      · cases hx
    | 1, hx =>
      unfold ck at hx
      split at hx
      · rename_i n q
        refine ih _ (fun y hy => ?_) x hx
        rcases List.mem_cons.mp hy with rfl | hy
        · have := ht _ (lookup_mem q)
          exact ⟨by show 255 - a < 256; omega, hn n a this.1 this.2⟩
        · exact ht y hy
      · cases hx
    | op + 2, hx =>
      unfold ck at hx
      split at hx
      · rename_i n m q1 q2
        refine ih _ (fun y hy => ?_) x hx
        rcases List.mem_cons.mp hy with rfl | hy
        · have h3 := ht _ (lookup_mem q1)
          have h4 := ht _ (lookup_mem q2)
          exact ⟨hf a b h3.1 h4.1, h2 n m a b h3.1 h4.1 h3.2 h4.2⟩
        · exact ht y hy
      · cases hx
theorem ckAll_ok {t : List (Nat × Nat)} (h : ckAll t = true) {v : Nat} (hv : v < 256) : ∃ n, n ≤ 299 ∧ (v, n) ∈ t := by
  have := List.all_eq_true.mp h v (List.mem_range.mpr hv)
  split at this
  · rename_i n q
    exact ⟨n, of_decide_eq_true this, lookup_mem q⟩
  · cases this
theorem not_nat : ∀ a : Nat, a < 256 → a_and 255 (a_xor (a : Int) (-1)) = ((255 - a : Nat) : Int) := by decide +kernel
theorem in8_nat {a : Nat} (h : a < 256) : in8 (a : Int) := ⟨by omega, by omega⟩
theorem land_lt {a b : Nat} (h : a < 256) : a &&& b < 256 := Nat.lt_of_le_of_lt Nat.and_le_left h
theorem and_nat {a b : Nat} (ha : a < 256) (hb : b < 256) : a_and (a : Int) (b : Int) = ((a &&& b : Nat) : Int) := by
  refine tb_ext (ri_and _ _) (in8_nat (land_lt ha)).ri (fun w hw => ?_)
  rw [tb_and, tb_nat _ _ hw, tb_nat _ _ hw, tb_nat _ _ hw, Nat.testBit_and]
theorem andn_nat {a b : Nat} (ha : a < 256) (hb : b < 256) : a_and (a : Int) (a_xor (b : Int) (-1)) = ((a &&& (255 - b) : Nat) : Int) := by
  rw [← and_nat ha (show 255 - b < 256 by omega), ← not_nat b hb]
  refine tb_ext (ri_and _ _) (ri_and _ _) (fun w hw => ?_)
  rw [tb_and, tb_and, tb_and, tb_255 w hw]
  by_cases h8 : w < 8
  · simp [h8]
  · rw [(in8_nat ha).hi (by omega) hw]
    rfl
section BT
variable {k g : Int} {lv : Int → Prop}
theorem BT1 (hk2 : k ≠ 2) (hk5 : k ≠ 5) (hp : lv 170) (hq : lv 204) (hr : lv 240) {m : Int} (hm : in8 m) : ∃ n, n ≤ 299 ∧ RS k g lv n m := by
  have e : m = ((m.toNat : Nat) : Int) := by have := hm.1; omega
  have hm2 : m.toNat < 256 := by have := hm.2; omega
  have hn : ∀ n a, a < 256 → RS k g lv n ((a : Nat) : Int) → RS k g lv (n + 1) ((255 - a : Nat) : Int) := by
    intro n a ha h
    have := h.not
    unfold notF at this
    rw [if_neg hk2, if_neg hk5, not_nat a ha] at this
    exact this
  rw [e]
  by_cases h3 : k = 3
  · obtain ⟨n, hn9, hmem⟩ := ckAll_ok ck2 hm2
    refine ⟨n, hn9, (ck_ok (P := fun n a => RS k g lv n ((a : Nat) : Int)) ⟨RS.leaf hp, RS.leaf hq, RS.leaf hr⟩ hn (fun n m a b ha hb h1 h2 => ?_) (fun a b ha _ => land_lt ha) cer2 [] (fun x hx => by cases hx) _ hmem).2⟩
    have := h1.and h2
    unfold andF at this
    rw [if_pos h3, andn_nat ha hb] at this
    exact this
  · obtain ⟨n, hn9, hmem⟩ := ckAll_ok ck1 hm2
    refine ⟨n, hn9, (ck_ok (P := fun n a => RS k g lv n ((a : Nat) : Int)) ⟨RS.leaf hp, RS.leaf hq, RS.leaf hr⟩ hn (fun n m a b ha hb h1 h2 => ?_) (fun a b ha _ => land_lt ha) cer1 [] (fun x hx => by cases hx) _ hmem).2⟩
    have := h1.and h2
    unfold andF at this
    rw [if_neg h3, and_nat ha hb] at this
    exact this
/-! the deaf and the dull: joins of meets of leaves -/
def mt : List Int → Int
  | [] => 255
  | l :: t => a_and l (mt t)
theorem mt_in8 (t : List Int) (h : ∀ l ∈ t, in8 l) : in8 (mt t) := by
  cases t with
  | nil => exact in8_255
  | cons l t => exact in8_and (h l List.mem_cons_self)
theorem mt_tb {t : List Int} {w : Nat} (hw : w < 8) : tb (mt t) w = true ↔ ∀ l ∈ t, tb l w = true := by
  induction t with
  | nil =>
    show tb 255 w = true ↔ _
    rw [tb_255 w (by omega)]
    simp [hw]
  | cons l t ih =>
    show tb (a_and l (mt t)) w = true ↔ _
    rw [tb_and, Bool.and_eq_true, ih]
    simp
theorem and_255 {x : Int} (h : in8 x) : a_and x 255 = x := by
  refine tb_ext (ri_and _ _) h.ri (fun w hw => ?_)
  rw [tb_and, tb_255 w hw]
  by_cases h8 : w < 8
  · simp [h8]
  · rw [h.hi (by omega) hw]
    rfl
theorem mt_say (hk : k ≠ 3) (hi : ∀ x, lv x → in8 x) : ∀ (t : List Int), t ≠ [] → (∀ l ∈ t, lv l) → ∃ n, n + 1 ≤ 2 * t.length ∧ RS k g lv n (mt t) := by
  intro t
  induction t with
  | nil => intro h; exact absurd rfl h
  | cons l t ih =>
    intro _ hl
    have hll := hl l List.mem_cons_self
    by_cases ht : t = []
    · subst ht
      refine ⟨1, by simp, ?_⟩
      show RS k g lv 1 (a_and l 255)
      rw [and_255 (hi l hll)]
      exact RS.leaf hll
    · obtain ⟨n, hn, hr⟩ := ih ht (fun x hx => hl x (List.mem_cons_of_mem _ hx))
      refine ⟨1 + n + 1, by simp only [List.length_cons]; omega, ?_⟩
      have := (RS.leaf (k := k) (g := g) hll).and hr
      unfold andF at this
      rw [if_neg hk] at this
      exact this
/-- the least that holds in world w -/
noncomputable def Mw (k g : Int) (L : List Int) (w : Nat) : Int := if k = 5 ∧ w ≠ g.toNat % 8 then notF k g (mt (L.filter (fun l => tb l w))) else mt (L.filter (fun l => tb l w))
theorem not5_tb (hg0 : 0 ≤ g) (hg9 : g ≤ 9) {x : Int} {w : Nat} (hw : w < 8) : tb (notF 5 g x) w = (tb x w && !decide (w = g.toNat % 8)) := by
  unfold notF
  rw [if_neg (by decide), if_pos rfl, tb_and, tb_xor, tb_wd hg0 hg9 (by omega), tb_m1 w (by omega)]
  simp
theorem Mw_self (hg0 : 0 ≤ g) (hg9 : g ≤ 9) {L : List Int} {w : Nat} (hw : w < 8) : tb (Mw k g L w) w = true := by
  have h1 : tb (mt (L.filter (fun l => tb l w))) w = true := (mt_tb hw).mpr (fun l hl => (List.mem_filter.mp hl).2)
  unfold Mw
  split
  · rename_i q
    rw [q.1, not5_tb hg0 hg9 hw, h1]
    simp [q.2]
  · exact h1
theorem Mw_sub (hg0 : 0 ≤ g) (hg9 : g ≤ 9) {L : List Int} {w v : Nat} (hw : w < 8) (hv : v < 8) (h : tb (Mw k g L w) v = true) : (∀ l ∈ L, tb l w = true → tb l v = true) ∧ (k = 5 → w ≠ g.toNat % 8 → v ≠ g.toNat % 8) := by
  unfold Mw at h
  split at h
  · rename_i q
    rw [q.1, not5_tb hg0 hg9 hv, Bool.and_eq_true] at h
    refine ⟨fun l hl hlw => (mt_tb hv).mp h.1 l (List.mem_filter.mpr ⟨hl, hlw⟩), fun _ _ => ?_⟩
    have := h.2
    simpa using this
  · rename_i q
    exact ⟨fun l hl hlw => (mt_tb hv).mp h l (List.mem_filter.mpr ⟨hl, hlw⟩), fun h5 hne => absurd ⟨h5, hne⟩ q⟩
theorem lat_inv (hk : k = 2 ∨ k = 5) (hg0 : 0 ≤ g) (hg9 : g ≤ 9) {L : List Int} (hL : ∀ x, lv x ↔ x ∈ L) {n : Nat} {m : Int} (h : RS k g lv n m) : ∀ w, w < 8 → tb m w = true → (∃ l ∈ L, tb l w = true) ∧ ∀ v, v < 8 → tb (Mw k g L w) v = true → tb m v = true := by
  refine h (fun _ m => ∀ w, w < 8 → tb m w = true → (∃ l ∈ L, tb l w = true) ∧ ∀ v, v < 8 → tb (Mw k g L w) v = true → tb m v = true) ⟨?_, ?_, ?_⟩
  · intro x hx w hw hxw
    exact ⟨⟨x, (hL x).mp hx, hxw⟩, fun v hv hM => (Mw_sub hg0 hg9 hw hv hM).1 x ((hL x).mp hx) hxw⟩
  · intro n x ih w hw hxw
    rcases hk with rfl | rfl
    · exact ih w hw hxw
    · rw [not5_tb hg0 hg9 hw, Bool.and_eq_true] at hxw
      have hne : w ≠ g.toNat % 8 := by simpa using hxw.2
      obtain ⟨h1, h2⟩ := ih w hw hxw.1
      refine ⟨h1, fun v hv hM => ?_⟩
      rw [not5_tb hg0 hg9 hv, h2 v hv hM]
      have := (Mw_sub hg0 hg9 hw hv hM).2 rfl hne
      simp [this]
  · intro i j x y ih1 ih2
    have e1 : andF k x y = a_and x y := by unfold andF; rw [if_neg (by omega)]
    have e2 : orF k g x y = a_or x y := by unfold orF; rw [if_neg (by omega), if_neg (by omega)]
    rw [e1, e2]
    refine ⟨fun w hw hxw => ?_, fun w hw hxw => ?_⟩
    · rw [tb_and, Bool.and_eq_true] at hxw
      obtain ⟨h1, h2⟩ := ih1 w hw hxw.1
      obtain ⟨h3, h4⟩ := ih2 w hw hxw.2
      exact ⟨h1, fun v hv hM => by rw [tb_and, h2 v hv hM, h4 v hv hM]; rfl⟩
    · rw [tb_or, Bool.or_eq_true] at hxw
      rcases hxw with q | q
      · obtain ⟨h1, h2⟩ := ih1 w hw q
        exact ⟨h1, fun v hv hM => by rw [tb_or, h2 v hv hM]; rfl⟩
      · obtain ⟨h1, h2⟩ := ih2 w hw q
        exact ⟨h1, fun v hv hM => by rw [tb_or, h2 v hv hM, Bool.or_true]⟩
theorem Mw_say (hk : k = 2 ∨ k = 5) (hi : ∀ x, lv x → in8 x) {L : List Int} (hL : ∀ x, lv x ↔ x ∈ L) (h8 : L.length ≤ 8) {w : Nat} (hw : ∃ l ∈ L, tb l w = true) : ∃ n, n ≤ 16 ∧ RS k g lv n (Mw k g L w) := by
  obtain ⟨l, hl, hlw⟩ := hw
  have hlen : (L.filter (fun l => tb l w)).length ≤ 8 := Nat.le_trans (List.length_filter_le _ _) h8
  obtain ⟨n, hn, hr⟩ := mt_say (k := k) (g := g) (by omega) hi (L.filter (fun l => tb l w)) (fun e => by
    have : l ∈ L.filter (fun l => tb l w) := List.mem_filter.mpr ⟨hl, hlw⟩
    rw [e] at this
    cases this) (fun x hx => (hL x).mpr (List.mem_filter.mp hx).1)
  unfold Mw
  split
  · exact ⟨n + 1, by omega, hr.not⟩
  · exact ⟨n, by omega, hr⟩
noncomputable def jn (k g : Int) (L : List Int) : List Nat → Int
  | [] => 0
  | w :: t => a_or (Mw k g L w) (jn k g L t)
theorem jn_tb {L : List Int} {t : List Nat} {v : Nat} (hv : v < 32) : tb (jn k g L t) v = true ↔ ∃ w ∈ t, tb (Mw k g L w) v = true := by
  induction t with
  | nil =>
    show tb 0 v = true ↔ _
    rw [tb_0 v hv]
    simp
  | cons w t ih =>
    show tb (a_or (Mw k g L w) (jn k g L t)) v = true ↔ _
    rw [tb_or, Bool.or_eq_true, ih]
    simp
theorem or_0' {x : Int} (h : RI x) : a_or x 0 = x := by
  refine tb_ext (ri_or _ _) h (fun w hw => ?_)
  rw [tb_or, tb_0 w hw, Bool.or_false]
theorem jn_say (hk : k = 2 ∨ k = 5) (hg0 : 0 ≤ g) (hg9 : g ≤ 9) (hi : ∀ x, lv x → in8 x) {L : List Int} (hL : ∀ x, lv x ↔ x ∈ L) (h8 : L.length ≤ 8) : ∀ (t : List Nat), t ≠ [] → (∀ w ∈ t, ∃ l ∈ L, tb l w = true) → ∃ n, n + 1 ≤ 17 * t.length ∧ RS k g lv n (jn k g L t) := by
  intro t
  induction t with
  | nil => intro h; exact absurd rfl h
  | cons w t ih =>
    intro _ hw
    obtain ⟨n1, hn1, hr1⟩ := Mw_say (g := g) hk hi hL h8 (hw w List.mem_cons_self)
    by_cases ht : t = []
    · subst ht
      refine ⟨n1, by simp; omega, ?_⟩
      show RS k g lv n1 (a_or _ 0)
      rw [or_0' (RS_in8 hg0 hg9 hi hr1).ri]
      exact hr1
    · obtain ⟨n, hn, hr⟩ := ih ht (fun x hx => hw x (List.mem_cons_of_mem _ hx))
      refine ⟨n1 + n + 1, by simp only [List.length_cons]; omega, ?_⟩
      have := hr1.or hr
      unfold orF at this
      rw [if_neg (by omega), if_neg (by omega)] at this
      exact this
theorem least_inv (hk : k = 2 ∨ k = 5) (hg0 : 0 ≤ g) (hg9 : g ≤ 9) {L : List Int} (hL : ∀ x, lv x ↔ x ∈ L) {n : Nat} {m : Int} (h : RS k g lv n m) : ∀ v, v < 8 → tb (if k = 5 then notF k g (mt L) else mt L) v = true → tb m v = true := by
  have sub : ∀ v, v < 8 → tb (if k = 5 then notF k g (mt L) else mt L) v = true → (∀ l ∈ L, tb l v = true) ∧ (k = 5 → v ≠ g.toNat % 8) := by
    intro v hv hb
    split at hb
    · rename_i q
      rw [q, not5_tb hg0 hg9 hv, Bool.and_eq_true] at hb
      exact ⟨(mt_tb hv).mp hb.1, fun _ => by simpa using hb.2⟩
    · rename_i q
      exact ⟨(mt_tb hv).mp hb, fun h5 => absurd h5 q⟩
  refine h (fun _ m => ∀ v, v < 8 → tb (if k = 5 then notF k g (mt L) else mt L) v = true → tb m v = true) ⟨?_, ?_, ?_⟩
  · intro x hx v hv hb
    exact (sub v hv hb).1 x ((hL x).mp hx)
  · intro n x ih v hv hb
    rcases hk with rfl | rfl
    · exact ih v hv hb
    · rw [not5_tb hg0 hg9 hv, ih v hv hb]
      have := (sub v hv hb).2 rfl
      simp [this]
  · intro i j x y ih1 ih2
    have e1 : andF k x y = a_and x y := by unfold andF; rw [if_neg (by omega)]
    have e2 : orF k g x y = a_or x y := by unfold orF; rw [if_neg (by omega), if_neg (by omega)]
    rw [e1, e2]
    exact ⟨fun v hv hb => by rw [tb_and, ih1 v hv hb, ih2 v hv hb]; rfl, fun v hv hb => by rw [tb_or, ih1 v hv hb]; rfl⟩
theorem BT2 (hk : k = 2 ∨ k = 5) (hg0 : 0 ≤ g) (hg9 : g ≤ 9) (hi : ∀ x, lv x → in8 x) {L : List Int} (hL : ∀ x, lv x ↔ x ∈ L) (h8 : L.length ≤ 8) (hne : L ≠ []) {n : Nat} {m : Int} (h : RS k g lv n m) : ∃ j, j ≤ 299 ∧ RS k g lv j m := by
  have hm := RS_in8 hg0 hg9 hi h
  by_cases hw : ((List.range 8).filter (fun w => tb m w)) = []
  · have hz : ∀ v, v < 8 → tb m v = false := fun v hv => by
      cases hb : tb m v with
      | false => rfl
      | true =>
        have : v ∈ (List.range 8).filter (fun w => tb m w) := List.mem_filter.mpr ⟨List.mem_range.mpr hv, hb⟩
        rw [hw] at this
        cases this
    obtain ⟨j, hj, hr⟩ := mt_say (k := k) (g := g) (by omega) hi L hne (fun l hl => (hL l).mpr hl)
    have key : ∃ j, j ≤ 299 ∧ RS k g lv j (if k = 5 then notF k g (mt L) else mt L) := by
      split
      · exact ⟨j + 1, by omega, hr.not⟩
      · exact ⟨j, by omega, hr⟩
    obtain ⟨j2, hj2, hr2⟩ := key
    have he : (if k = 5 then notF k g (mt L) else mt L) = m := by
      refine tb_ext (RS_in8 hg0 hg9 hi hr2).ri hm.ri (fun v hv => ?_)
      by_cases h8 : v < 8
      · rw [hz v h8]
        cases hb : tb (if k = 5 then notF k g (mt L) else mt L) v with
        | false => rfl
        | true =>
          have := least_inv hk hg0 hg9 hL h v h8 hb
          rw [hz v h8] at this
          cases this
      · rw [hm.hi (by omega) hv, (RS_in8 hg0 hg9 hi hr2).hi (by omega) hv]
    rw [he] at hr2
    exact ⟨j2, hj2, hr2⟩
  · have hin : ∀ w ∈ (List.range 8).filter (fun w => tb m w), w < 8 ∧ tb m w = true := fun w hw => ⟨List.mem_range.mp (List.mem_filter.mp hw).1, (List.mem_filter.mp hw).2⟩
    obtain ⟨j, hj, hr⟩ := jn_say (k := k) (g := g) hk hg0 hg9 hi hL h8 _ hw (fun w hw => (lat_inv hk hg0 hg9 hL h w (hin w hw).1 (hin w hw).2).1)
    have hl8 : ((List.range 8).filter (fun w => tb m w)).length ≤ 8 := by
      have := List.length_filter_le (fun w => tb m w) (List.range 8)
      simpa using this
    have he : jn k g L ((List.range 8).filter (fun w => tb m w)) = m := by
      refine tb_ext (RS_in8 hg0 hg9 hi hr).ri hm.ri (fun v hv => ?_)
      by_cases h8 : v < 8
      · have h1 : tb (jn k g L ((List.range 8).filter (fun w => tb m w))) v = true ↔ tb m v = true := by
          rw [jn_tb hv]
          constructor
          · rintro ⟨w, hw, hb⟩
            exact (lat_inv hk hg0 hg9 hL h w (hin w hw).1 (hin w hw).2).2 v h8 hb
          · intro hb
            exact ⟨v, List.mem_filter.mpr ⟨List.mem_range.mpr h8, hb⟩, Mw_self hg0 hg9 h8⟩
        cases ha : tb (jn k g L ((List.range 8).filter (fun w => tb m w))) v <;> cases hb : tb m v <;> simp_all
      · rw [hm.hi (by omega) hv, (RS_in8 hg0 hg9 hi hr).hi (by omega) hv]
    rw [he] at hr
    exact ⟨j, by omega, hr⟩
/-- THE BOUND -/
theorem BT (hk0 : 0 ≤ k) (hk5 : k ≤ 5) (hg0 : 0 ≤ g) (hg9 : g ≤ 9) (hi : ∀ x, lv x → in8 x) (hp : lv 170) (hq : lv 204) (hr : lv 240) {L : List Int} (hL : ∀ x, lv x ↔ x ∈ L) (h8 : L.length ≤ 8) {n : Nat} {m : Int} (h : RS k g lv n m) : ∃ j, j ≤ 299 ∧ RS k g lv j m := by
  by_cases hk : k = 2 ∨ k = 5
  · refine BT2 hk hg0 hg9 hi hL h8 (fun e => ?_) h
    have := (hL 170).mp hp
    rw [e] at this
    cases this
  · exact BT1 (by omega) (by omega) hp hq hr (RS_in8 hg0 hg9 hi h)
end BT

