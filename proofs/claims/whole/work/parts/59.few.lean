/-! FEWEST: lengths one by one -/
theorem sum_pick {F : Nat → Int} {m : Nat} (N : Nat) (hm : m < N) {P : Nat → Prop} (hP : ¬ P m) : sumN N (fun j => iv (P j ∨ j = m) (F j)) = sumN N (fun j => iv (P j) (F j)) + F m := by
  induction N with
  | zero => omega
  | succ N ih =>
    rw [sumN_succ, sumN_succ]
    by_cases e : m = N
    · subst e
      rw [iv_pos (Or.inr rfl), iv_neg hP]
      have : sumN m (fun j => iv (P j ∨ j = m) (F j)) = sumN m (fun j => iv (P j) (F j)) := by
        have hh : ∀ K, K ≤ m → sumN K (fun j => iv (P j ∨ j = m) (F j)) = sumN K (fun j => iv (P j) (F j)) := by
          intro K
          induction K with
          | zero => intro _; rfl
          | succ K ihK =>
            intro hK
            rw [sumN_succ, sumN_succ, ihK (by omega)]
            congr 1
            by_cases q : P K
            · rw [iv_pos (Or.inl q), iv_pos q]
            · rw [iv_neg (fun z => z.elim q (fun y => by omega)), iv_neg q]
        exact hh m (Nat.le_refl _)
      rw [this]
      omega
    · rw [ih (by omega)]
      by_cases q : P N
      · rw [iv_pos (Or.inl q), iv_pos q]; omega
      · rw [iv_neg (fun z => z.elim q (fun y => by omega)), iv_neg q]; omega
theorem sum_found {F : Nat → Int} {D : Nat → Nat} : ∀ n, (∀ i, i < n → D i < 256) → (∀ i j, i < n → j < n → D i = D j → i = j) → sumN n (fun i => F (D i)) = sumN 256 (fun m => iv (∃ i, i < n ∧ D i = m) (F m)) := by
  intro n
  induction n with
  | zero =>
    intro _ _
    have hh : ∀ K, sumN K (fun m => iv (∃ i, i < 0 ∧ D i = m) (F m)) = 0 := by
      intro K
      induction K with
      | zero => rfl
      | succ K ih => rw [sumN_succ, ih, iv_neg (by omega)]; rfl
    rw [hh 256]
    rfl
  | succ n ih =>
    intro h1 h2
    rw [sumN_succ, ih (fun i hi => h1 i (by omega)) (fun i j hi hj => h2 i j (by omega) (by omega))]
    rw [← sum_pick (F := F) 256 (h1 n (by omega)) (P := fun m => ∃ i, i < n ∧ D i = m) (fun ⟨i, q1, q2⟩ => by have := h2 i n (by omega) (by omega) q2; omega)]
    congr 1
    funext m
    have : ((∃ i, i < n ∧ D i = m) ∨ m = D n) ↔ ∃ i, i < n + 1 ∧ D i = m := by
      constructor
      · rintro (⟨i, q1, q2⟩ | q)
        · exact ⟨i, by omega, q2⟩
        · exact ⟨n, by omega, q.symm⟩
      · rintro ⟨i, q1, q2⟩
        by_cases e : i = n
        · exact Or.inr (by rw [← q2, e])
        · exact Or.inl ⟨i, by omega, q2⟩
    rw [this]
theorem sum_one (N : Nat) : sumN N (fun _ => 1) = (N : Int) := by
  induction N with
  | zero => rfl
  | succ N ih => rw [sumN_succ, ih]; omega
theorem pigeon {D : Nat → Nat} (h1 : ∀ i, i < 256 → D i < 256) (h2 : ∀ i j, i < 256 → j < 256 → D i = D j → i = j) {m : Nat} (hm : m < 256) : ∃ i, i < 256 ∧ D i = m := by
  apply Classical.byContradiction
  intro hc
  have e := sum_found (F := fun _ => 1) 256 h1 h2
  rw [sum_one] at e
  have h3 : sumN 256 (fun m => iv (∃ i, i < 256 ∧ D i = m) 1) < sumN 256 (fun _ => 1) := sumN_lt (fun j hj => by
    by_cases q : ∃ i, i < 256 ∧ D i = j
    · rw [iv_pos q]; exact Int.le_refl _
    · rw [iv_neg q]; decide) ⟨m, hm, by rw [iv_neg hc]; decide⟩
  rw [sum_one] at h3
  omega
/-- all lengths below L have been looked at, L is being looked at: words, found, starts, how many -/
def Mid (k g : Int) (lv : Int → Prop) (L : Nat) (W FD ST : Nat → Int) (cnt : Nat) : Prop := (1 ≤ L ∧ L ≤ 299 ∧ cnt ≤ 256) ∧
  (∀ m : Nat, m < 256 → W m = -9 ∨ ∃ j : Nat, 1 ≤ j ∧ j ≤ L ∧ W m = (j : Int) ∧ SH k g lv j (m : Int)) ∧
  (∀ m : Nat, m < 256 → ∀ j : Nat, j < L → RS k g lv j (m : Int) → W m ≠ -9) ∧
  (∀ i, i < cnt → ∃ m : Nat, m < 256 ∧ FD i = (m : Int) ∧ W m ≠ -9) ∧
  (∀ m : Nat, m < 256 → W m ≠ -9 → ∃ i, i < cnt ∧ FD i = (m : Int)) ∧
  (∀ i j, i < cnt → j < cnt → FD i = FD j → i = j) ∧
  (∀ j : Nat, 1 ≤ j → j ≤ L → 0 ≤ ST j ∧ ST j ≤ (cnt : Int)) ∧
  ∀ i, i < cnt → ∀ j : Nat, 1 ≤ j → j ≤ L → (W (FD i).toNat = (j : Int) ↔ (ST j ≤ (i : Int) ∧ (j < L → (i : Int) < ST (j + 1))))
section Few
variable {k g : Int} {lv : Int → Prop} {L : Nat} {W FD ST : Nat → Int} {cnt : Nat}
theorem Mid.all (H : Mid k g lv L W FD ST 256) {m : Nat} (hm : m < 256) : W m ≠ -9 := by
  obtain ⟨⟨a1, a2, a3⟩, b, c, e, f, g', s1, s2⟩ := H
  have h1 : ∀ i, i < 256 → (FD i).toNat < 256 := fun i hi => by obtain ⟨m, q1, q2, q3⟩ := e i hi; omega
  obtain ⟨i, hi, hd⟩ := pigeon (D := fun i => (FD i).toNat) h1 (fun i j hi hj hij => by
    obtain ⟨m, q1, q2, q3⟩ := e i hi
    obtain ⟨m2, r1, r2, r3⟩ := e j hj
    have hij' : (FD i).toNat = (FD j).toNat := hij
    exact g' i j hi hj (by omega)) hm
  obtain ⟨m2, q1, q2, q3⟩ := e i hi
  have hd' : (FD i).toNat = m := hd
  have : m2 = m := by omega
  rw [← this]
  exact q3
/-- what is not found, and can be said with L words, is added -/
theorem Mid.add (H : Mid k g lv L W FD ST cnt) {x : Nat} (hx : x < 256) (hr : RS k g lv L (x : Int)) (hW : W x = -9) : cnt < 256 ∧ Mid k g lv L (updI W x (L : Int)) (updI FD cnt (x : Int)) ST (cnt + 1) := by
  have hc : cnt < 256 := by
    have := H.1.2.2
    rcases Nat.lt_or_ge cnt 256 with q | q
    · exact q
    · have : cnt = 256 := by omega
      subst this
      exact absurd hW (H.all hx)
  obtain ⟨⟨a1, a2, a3⟩, b, c, e, f, g', s1, s2⟩ := H
  have hsh : SH k g lv L (x : Int) := ⟨hr, fun j hj q => c x hx j hj q hW⟩
  refine ⟨hc, ⟨a1, a2, by omega⟩, fun m hm => ?_, fun m hm j hj q => ?_, fun i hi => ?_, fun m hm q => ?_, fun i j hi hj q => ?_, fun j j1 j2 => ?_, fun i hi j j1 j2 => ?_⟩
  · by_cases z : m = x
    · subst z
      exact Or.inr ⟨L, a1, Nat.le_refl _, updI_eq _ _ _, hsh⟩
    · rw [updI_ne _ _ z]; exact b m hm
  · by_cases z : m = x
    · subst z; rw [updI_eq]; omega
    · rw [updI_ne _ _ z]; exact c m hm j hj q
  · by_cases z : i = cnt
    · subst z
      exact ⟨x, hx, updI_eq _ _ _, by rw [updI_eq]; omega⟩
    · obtain ⟨m, q1, q2, q3⟩ := e i (by omega)
      refine ⟨m, q1, by rw [updI_ne _ _ z]; exact q2, ?_⟩
      by_cases y : m = x
      · subst y; rw [updI_eq]; omega
      · rw [updI_ne _ _ y]; exact q3
  · by_cases z : m = x
    · subst z
      exact ⟨cnt, by omega, updI_eq _ _ _⟩
    · rw [updI_ne _ _ z] at q
      obtain ⟨i, q1, q2⟩ := f m hm q
      exact ⟨i, by omega, by rw [updI_ne _ _ (by omega)]; exact q2⟩
  · have key : ∀ i, i < cnt → FD i ≠ (x : Int) := fun i hi y => by
      obtain ⟨m, q1, q2, q3⟩ := e i hi
      have : m = x := by omega
      rw [this] at q3
      exact q3 hW
    by_cases zi : i = cnt
    · by_cases zj : j = cnt
      · omega
      · rw [zi, updI_eq, updI_ne _ _ zj] at q
        exact absurd q.symm (key j (by omega))
    · by_cases zj : j = cnt
      · rw [zj, updI_eq, updI_ne _ _ zi] at q
        exact absurd q (key i (by omega))
      · rw [updI_ne _ _ zi, updI_ne _ _ zj] at q
        exact g' i j (by omega) (by omega) q
  · have := s1 j j1 j2
    omega
  · by_cases z : i = cnt
    · subst z
      rw [updI_eq, show ((x : Int)).toNat = x by omega, updI_eq]
      have h1 := s1 j j1 j2
      constructor
      · intro q
        have : j = L := by omega
        subst this
        exact ⟨h1.2, fun q => by omega⟩
      · rintro ⟨q1, q2⟩
        by_cases y : j = L
        · rw [y]
        · have h3 := s1 (j + 1) (by omega) (by omega)
          have := q2 (by omega)
          omega
    · rw [updI_ne _ _ z]
      obtain ⟨m, q1, q2, q3⟩ := e i (by omega)
      have hmx : (FD i).toNat ≠ x := by
        intro y
        have : m = x := by omega
        rw [this] at q3
        exact q3 hW
      rw [updI_ne _ _ hmx]
      exact s2 i (by omega) j j1 j2
/-- one length more -/
def FI (k g : Int) (lv : Int → Prop) (L lg : Nat) (W FD ST : Nat → Int) (cnt : Nat) : Prop := Mid k g lv L W FD ST cnt ∧ (∀ m : Nat, m < 256 → RS k g lv L (m : Int) → W m ≠ -9) ∧ 1 ≤ lg ∧ lg ≤ L ∧ ∀ m : Nat, m < 256 → W m ≤ (lg : Int)
theorem FI.next {lg : Nat} (H : FI k g lv L lg W FD ST cnt) (h3 : L < 299) : Mid k g lv (L + 1) W FD (updI ST (L + 1) (cnt : Int)) cnt := by
  obtain ⟨⟨⟨a1, a2, a3⟩, b, c, e, f, g', s1, s2⟩, c2, -⟩ := H
  refine ⟨⟨by omega, by omega, a3⟩, fun m hm => ?_, fun m hm j hj q => ?_, e, f, g', fun j j1 j2 => ?_, fun i hi j j1 j2 => ?_⟩
  · rcases b m hm with q | ⟨j, q1, q2, q3⟩
    · exact Or.inl q
    · exact Or.inr ⟨j, q1, by omega, q3⟩
  · by_cases z : j = L
    · rw [z] at q; exact c2 m hm q
    · exact c m hm j (by omega) q
  · by_cases z : j = L + 1
    · rw [z, updI_eq]; omega
    · rw [updI_ne _ _ z]; exact s1 j j1 (by omega)
  · obtain ⟨m, q1, q2, q3⟩ := e i hi
    by_cases z : j = L + 1
    · subst z
      rw [updI_eq]
      constructor
      · intro q
        rcases b m q1 with y | ⟨j, y1, y2, y3, -⟩
        · exact absurd y q3
        · have : (FD i).toNat = m := by omega
          rw [this] at q
          omega
      · rintro ⟨q, -⟩
        omega
    · rw [updI_ne _ _ z, s2 i hi j j1 (by omega)]
      by_cases y : j = L
      · subst y
        rw [updI_eq]
        constructor
        · rintro ⟨r1, r2⟩; exact ⟨r1, fun _ => by omega⟩
        · rintro ⟨r1, r2⟩; exact ⟨r1, fun q => by omega⟩
      · rw [updI_ne _ _ (by omega)]
        constructor
        · rintro ⟨r1, r2⟩; exact ⟨r1, fun _ => r2 (by omega)⟩
        · rintro ⟨r1, r2⟩; exact ⟨r1, fun _ => r2 (by omega)⟩
/-- when a length is done: all that can be said with it is found -/
def Joi (k g : Int) (lv : Int → Prop) (W : Nat → Int) (L i : Nat) : Prop := ∀ x y : Nat, x < 256 → y < 256 → SH k g lv i (x : Int) → SH k g lv (L - 1 - i) (y : Int) → W (andF k (x : Int) (y : Int)).toNat ≠ -9 ∧ W (orF k g (x : Int) (y : Int)).toNat ≠ -9 ∧ W (andF k (y : Int) (x : Int)).toNat ≠ -9
theorem orF_comm (k g x y : Int) : orF k g x y = orF k g y x := by
  unfold orF
  have e1 : a_xor x y = a_xor y x := tb_ext (ri_xor _ _) (ri_xor _ _) (fun w _ => by rw [tb_xor, tb_xor, Bool.xor_comm])
  have e2 : a_or x y = a_or y x := tb_ext (ri_or _ _) (ri_or _ _) (fun w _ => by rw [tb_or, tb_or, Bool.or_comm])
  rw [e1, e2]
theorem andF_comm (k x y : Int) (h3 : k ≠ 3) : andF k x y = andF k y x := by
  unfold andF
  rw [if_neg h3, if_neg h3]
  exact tb_ext (ri_and _ _) (ri_and _ _) (fun w _ => by rw [tb_and, tb_and, Bool.and_comm])
theorem SH.sh (hg0 : 0 ≤ g) (hg9 : g ≤ 9) (hi : ∀ x, lv x → in8 x) {n : Nat} {m : Int} (h : RS k g lv n m) : ∃ (j x : Nat), j ≤ n ∧ x < 256 ∧ m = (x : Int) ∧ SH k g lv j m := by
  obtain ⟨j, hj, hs⟩ := SH.ex h
  have h8 := RS_in8 hg0 hg9 hi h
  exact ⟨j, m.toNat, hj, by have := h8.2; omega, by have := h8.1; omega, hs⟩
theorem Mid.close (hg0 : 0 ≤ g) (hg9 : g ≤ 9) (hi : ∀ x, lv x → in8 x) (H : Mid k g lv L W FD ST cnt) (h2 : 2 ≤ L)
    (hn : ∀ x : Nat, x < 256 → SH k g lv (L - 1) (x : Int) → W (notF k g (x : Int)).toNat ≠ -9) (hj : ∀ i, 1 ≤ i → 2 * i ≤ L - 1 → Joi k g lv W L i) : ∀ m : Nat, m < 256 → RS k g lv L (m : Int) → W m ≠ -9 := by
  intro m hm hr
  have hc := H.2.2.1
  rcases hr.inv with ⟨e, -⟩ | ⟨i, x, e, hx, em⟩ | ⟨i, j, x, y, e, hx, hy, em⟩
  · omega
  · obtain ⟨i', x', q1, q2, q3, q4⟩ := SH.sh hg0 hg9 hi hx
    by_cases z : i' = i
    · have := hn x' q2 (by rw [← q3]; rw [z] at q4; rw [show L - 1 = i by omega]; exact q4)
      rw [← q3, ← em] at this
      simpa using this
    · refine hc m hm (i' + 1) (by omega) ?_
      rw [em]
      exact q4.1.not
  · obtain ⟨i', x', q1, q2, q3, q4⟩ := SH.sh hg0 hg9 hi hx
    obtain ⟨j', y', r1, r2, r3, r4⟩ := SH.sh hg0 hg9 hi hy
    by_cases z : i' = i ∧ j' = j
    · rw [z.1] at q4
      rw [z.2] at r4
      have pi := q4.1.pos
      have pj := r4.1.pos
      have fin : (W (andF k (x' : Int) (y' : Int)).toNat ≠ -9 ∧ W (orF k g (x' : Int) (y' : Int)).toNat ≠ -9) → W m ≠ -9 := by
        rintro ⟨t1, t2⟩
        rcases em with em | em
        · rw [← q3, ← r3, ← em] at t1
          simpa using t1
        · rw [← q3, ← r3, ← em] at t2
          simpa using t2
      by_cases hij : i ≤ j
      · obtain ⟨t1, t2, t3⟩ := hj i pi (by omega) x' y' q2 r2 (by rw [← q3]; exact q4) (by rw [← r3, show L - 1 - i = j by omega]; exact r4)
        exact fin ⟨t1, t2⟩
      · obtain ⟨t1, t2, t3⟩ := hj j pj (by omega) y' x' r2 q2 (by rw [← r3]; exact r4) (by rw [← q3, show L - 1 - j = i by omega]; exact q4)
        exact fin ⟨t3, by rw [orF_comm]; exact t2⟩
    · refine hc m hm (i' + j' + 1) (by omega) ?_
      rcases em with em | em
      · rw [em]; exact q4.1.and r4.1
      · rw [em]; exact q4.1.or r4.1
/-- nothing more is to come -/
theorem FI.done {lg : Nat} (hg0 : 0 ≤ g) (hg9 : g ≤ 9) (hi : ∀ x, lv x → in8 x) (hB : ∀ (n : Nat) (x : Int), RS k g lv n x → ∃ j, j ≤ 299 ∧ RS k g lv j x) (H : FI k g lv L lg W FD ST cnt) (hd : 256 ≤ cnt ∨ 2 * lg < L ∨ 299 ≤ L) {m : Nat} (hm : m < 256) (hW : W m = -9) : ∀ n, ¬ RS k g lv n (m : Int) := by
  have hu : ∀ (j : Nat) (x : Nat), x < 256 → j ≤ L → RS k g lv j (x : Int) → W x ≠ -9 := by
    intro j x hx hj hr
    by_cases z : j = L
    · rw [z] at hr; exact H.2.1 x hx hr
    · exact H.1.2.2.1 x hx j (by omega) hr
  rcases hd with q | q | q
  · have : cnt = 256 := by have := H.1.1.2.2; omega
    subst this
    exact absurd hW (H.1.all hm)
  · intro n hr
    have hcl : ∃ j : Nat, j ≤ lg ∧ RS k g lv j (m : Int) := by
      refine hr (fun _ x => ∃ j : Nat, j ≤ lg ∧ RS k g lv j x) ⟨fun x hx => ⟨1, H.2.2.1, RS.leaf hx⟩, ?_, ?_⟩
      · rintro n x ⟨j, j1, j2⟩
        obtain ⟨j', x', q1, q2, q3, q4⟩ := SH.sh hg0 hg9 hi j2.not
        have hw := hu j' x' q2 (by omega) (by rw [← q3]; exact q4.1)
        rcases H.1.2.1 x' q2 with y | ⟨i, i1, i2, i3, i4⟩
        · exact absurd y hw
        · have := H.2.2.2.2 x' q2
          exact ⟨i, by omega, by rw [q3]; exact i4.1⟩
      · rintro i j x y ⟨i', i1, i2⟩ ⟨j', j1, j2⟩
        have key : ∀ z : Int, RS k g lv (i' + j' + 1) z → ∃ j : Nat, j ≤ lg ∧ RS k g lv j z := by
          intro z hz
          obtain ⟨j2, x', q1, q2, q3, q4⟩ := SH.sh hg0 hg9 hi hz
          have hw := hu j2 x' q2 (by omega) (by rw [← q3]; exact q4.1)
          rcases H.1.2.1 x' q2 with y | ⟨i, i1, i2, i3, i4⟩
          · exact absurd y hw
          · have := H.2.2.2.2 x' q2
            exact ⟨i, by omega, by rw [q3]; exact i4.1⟩
        exact ⟨key _ (i2.and j2), key _ (i2.or j2)⟩
    obtain ⟨j, j1, j2⟩ := hcl
    exact hu j m hm (by have := H.2.2.2.1; omega) j2 hW
  · intro n hr
    obtain ⟨j, j1, j2⟩ := hB n _ hr
    have := H.1.1.2.1
    exact hu j m hm (by omega) j2 hW
end Few

