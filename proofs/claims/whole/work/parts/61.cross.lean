/-! uncross: crossing sets -/
def cr (N x y : Nat) : Prop := (∃ i, i < N ∧ x.testBit i = true ∧ y.testBit i = true) ∧ (∃ i, i < N ∧ x.testBit i = true ∧ y.testBit i = false) ∧ (∃ i, i < N ∧ x.testBit i = false ∧ y.testBit i = true) ∧ (∃ i, i < N ∧ x.testBit i = false ∧ y.testBit i = false)
def sb (x y : Nat) : Prop := ∀ i, x.testBit i = true → y.testBit i = true
theorem cr_sym {N x y : Nat} (h : cr N x y) : cr N y x := by
  obtain ⟨⟨i1, a1, b1, c1⟩, ⟨i2, a2, b2, c2⟩, ⟨i3, a3, b3, c3⟩, ⟨i4, a4, b4, c4⟩⟩ := h
  exact ⟨⟨i1, a1, c1, b1⟩, ⟨i3, a3, c3, b3⟩, ⟨i2, a2, c2, b2⟩, ⟨i4, a4, c4, b4⟩⟩
theorem cr_nsub {N x y : Nat} (h : cr N x y) : ¬ sb x y := by
  obtain ⟨_, ⟨i2, a2, b2, c2⟩, _, _⟩ := h
  intro q
  rw [q i2 b2] at c2; cases c2
theorem cr_nsub2 {N x y : Nat} (h : cr N x y) : ¬ sb y x := cr_nsub (cr_sym h)
theorem tb_or {a b i : Nat} : (a ||| b).testBit i = true ↔ a.testBit i = true ∨ b.testBit i = true := by rw [Nat.testBit_or, Bool.or_eq_true]
theorem tb_and {a b i : Nat} : (a &&& b).testBit i = true ↔ a.testBit i = true ∧ b.testBit i = true := by rw [Nat.testBit_and, Bool.and_eq_true]
theorem tb_orf {a b i : Nat} : (a ||| b).testBit i = false ↔ a.testBit i = false ∧ b.testBit i = false := by rw [Nat.testBit_or, Bool.or_eq_false_iff]
theorem tb_andf {a b i : Nat} : (a &&& b).testBit i = false ↔ a.testBit i = false ∨ b.testBit i = false := by rw [Nat.testBit_and, Bool.and_eq_false_iff]
theorem tb_cases (a i : Nat) : a.testBit i = true ∨ a.testBit i = false := by cases a.testBit i <;> simp
theorem tb_not {a i : Nat} (h : ¬ a.testBit i = true) : a.testBit i = false := by simpa using h
/-- a set that crosses neither of two crossing sets crosses neither their meet nor their join -/
theorem cr_meet {N S x y : Nat} (h : cr N x y) (h1 : ¬ cr N S x) (h2 : ¬ cr N S y) : ¬ cr N S (x &&& y) := by
  rintro ⟨⟨i1, a1, b1, c1⟩, ⟨i2, a2, b2, c2⟩, ⟨i3, a3, b3, c3⟩, ⟨i4, a4, b4, c4⟩⟩
  obtain ⟨_, _, _, ⟨o, o1, o2, o3⟩⟩ := h
  obtain ⟨x1, y1⟩ := tb_and.mp c1
  obtain ⟨x3, y3⟩ := tb_and.mp c3
  have kx : (∀ i, i < N → S.testBit i = true → x.testBit i = true) ∨ (∀ i, i < N → S.testBit i = false → x.testBit i = true) := by
    apply Classical.byContradiction
    intro q
    rw [not_or] at q
    obtain ⟨q1, q2⟩ := q
    obtain ⟨i, hi⟩ := Classical.not_forall.mp q1
    obtain ⟨hi1, hi⟩ := Classical.not_imp.mp hi
    obtain ⟨hi2, hi3⟩ := Classical.not_imp.mp hi
    obtain ⟨j, hj⟩ := Classical.not_forall.mp q2
    obtain ⟨hj1, hj⟩ := Classical.not_imp.mp hj
    obtain ⟨hj2, hj3⟩ := Classical.not_imp.mp hj
    exact h1 ⟨⟨i1, a1, b1, x1⟩, ⟨i, hi1, hi2, tb_not hi3⟩, ⟨i3, a3, b3, x3⟩, ⟨j, hj1, hj2, tb_not hj3⟩⟩
  have ky : (∀ i, i < N → S.testBit i = true → y.testBit i = true) ∨ (∀ i, i < N → S.testBit i = false → y.testBit i = true) := by
    apply Classical.byContradiction
    intro q
    rw [not_or] at q
    obtain ⟨q1, q2⟩ := q
    obtain ⟨i, hi⟩ := Classical.not_forall.mp q1
    obtain ⟨hi1, hi⟩ := Classical.not_imp.mp hi
    obtain ⟨hi2, hi3⟩ := Classical.not_imp.mp hi
    obtain ⟨j, hj⟩ := Classical.not_forall.mp q2
    obtain ⟨hj1, hj⟩ := Classical.not_imp.mp hj
    obtain ⟨hj2, hj3⟩ := Classical.not_imp.mp hj
    exact h2 ⟨⟨i1, a1, b1, y1⟩, ⟨i, hi1, hi2, tb_not hi3⟩, ⟨i3, a3, b3, y3⟩, ⟨j, hj1, hj2, tb_not hj3⟩⟩
  rcases kx with kx | kx
  · rcases ky with ky | ky
    · rcases tb_andf.mp c2 with q | q
      · rw [kx i2 a2 b2] at q; cases q
      · rw [ky i2 a2 b2] at q; cases q
    · rcases tb_cases S o with q | q
      · rw [kx o o1 q] at o2; cases o2
      · rw [ky o o1 q] at o3; cases o3
  · rcases ky with ky | ky
    · rcases tb_cases S o with q | q
      · rw [ky o o1 q] at o3; cases o3
      · rw [kx o o1 q] at o2; cases o2
    · rcases tb_andf.mp c4 with q | q
      · rw [kx i4 a4 b4] at q; cases q
      · rw [ky i4 a4 b4] at q; cases q
theorem cr_join {N S x y : Nat} (h : cr N x y) (h1 : ¬ cr N S x) (h2 : ¬ cr N S y) : ¬ cr N S (x ||| y) := by
  rintro ⟨⟨i1, a1, b1, c1⟩, ⟨i2, a2, b2, c2⟩, ⟨i3, a3, b3, c3⟩, ⟨i4, a4, b4, c4⟩⟩
  obtain ⟨⟨o, o1, o2, o3⟩, _, _, _⟩ := h
  obtain ⟨x2, y2⟩ := tb_orf.mp c2
  obtain ⟨x4, y4⟩ := tb_orf.mp c4
  have kx : (∀ i, i < N → S.testBit i = true → x.testBit i = false) ∨ (∀ i, i < N → x.testBit i = true → S.testBit i = true) := by
    apply Classical.byContradiction
    intro q
    rw [not_or] at q
    obtain ⟨q1, q2⟩ := q
    obtain ⟨i, hi⟩ := Classical.not_forall.mp q1
    obtain ⟨hi1, hi⟩ := Classical.not_imp.mp hi
    obtain ⟨hi2, hi3⟩ := Classical.not_imp.mp hi
    obtain ⟨j, hj⟩ := Classical.not_forall.mp q2
    obtain ⟨hj1, hj⟩ := Classical.not_imp.mp hj
    obtain ⟨hj2, hj3⟩ := Classical.not_imp.mp hj
    exact h1 ⟨⟨i, hi1, hi2, by simpa using hi3⟩, ⟨i2, a2, b2, x2⟩, ⟨j, hj1, tb_not hj3, hj2⟩, ⟨i4, a4, b4, x4⟩⟩
  have ky : (∀ i, i < N → S.testBit i = true → y.testBit i = false) ∨ (∀ i, i < N → y.testBit i = true → S.testBit i = true) := by
    apply Classical.byContradiction
    intro q
    rw [not_or] at q
    obtain ⟨q1, q2⟩ := q
    obtain ⟨i, hi⟩ := Classical.not_forall.mp q1
    obtain ⟨hi1, hi⟩ := Classical.not_imp.mp hi
    obtain ⟨hi2, hi3⟩ := Classical.not_imp.mp hi
    obtain ⟨j, hj⟩ := Classical.not_forall.mp q2
    obtain ⟨hj1, hj⟩ := Classical.not_imp.mp hj
    obtain ⟨hj2, hj3⟩ := Classical.not_imp.mp hj
    exact h2 ⟨⟨i, hi1, hi2, by simpa using hi3⟩, ⟨i2, a2, b2, y2⟩, ⟨j, hj1, tb_not hj3, hj2⟩, ⟨i4, a4, b4, y4⟩⟩
  rcases kx with kx | kx
  · rcases ky with ky | ky
    · rcases tb_or.mp c1 with q | q
      · rw [kx i1 a1 b1] at q; cases q
      · rw [ky i1 a1 b1] at q; cases q
    · have := kx o o1 (ky o o1 o3)
      rw [o2] at this; cases this
  · rcases ky with ky | ky
    · have := ky o o1 (kx o o1 o2)
      rw [o3] at this; cases this
    · rcases tb_or.mp c3 with q | q
      · rw [kx i3 a3 q] at b3; cases b3
      · rw [ky i3 a3 q] at b3; cases b3
/-- a set below z, met by w, which isn't below z: if z doesn't cross w, it doesn't cross their join -/
theorem cr_up {N z a w : Nat} (h1 : sb a z) (h2 : ∃ i, i < N ∧ a.testBit i = true ∧ w.testBit i = true) (h3 : ∃ i, i < N ∧ z.testBit i = false ∧ w.testBit i = true) (h : ¬ cr N z w) : ¬ cr N z (a ||| w) := by
  rintro ⟨_, ⟨i2, a2, b2, c2⟩, _, ⟨i4, a4, b4, c4⟩⟩
  obtain ⟨i, p1, p2, p3⟩ := h2
  exact h ⟨⟨i, p1, h1 i p2, p3⟩, ⟨i2, a2, b2, (tb_orf.mp c2).2⟩, h3, ⟨i4, a4, b4, (tb_orf.mp c4).2⟩⟩
theorem sb_ncr {N a z : Nat} (h : sb a z) : ¬ cr N z a := fun q => cr_nsub2 q h
theorem sb_le {a b : Nat} (h : sb a b) : a ≤ b := sub_le h
theorem gt_out {N x w : Nat} (hw : w < 2 ^ N) (h : x < w) : ∃ i, i < N ∧ x.testBit i = false ∧ w.testBit i = true := by
  apply Classical.byContradiction
  intro q
  have : sb w x := by
    intro i hi
    have hiN : i < N := by
      rcases Nat.lt_or_ge i N with z | z
      · exact z
      · rw [Nat.testBit_lt_two_pow (Nat.lt_of_lt_of_le hw (Nat.pow_le_pow_right (by decide) z))] at hi; cases hi
    rcases tb_cases x i with z | z
    · exact z
    · exact absurd ⟨i, hiN, z, hi⟩ q
  have := sb_le this
  omega
theorem cr_meet_lt {N x y : Nat} (h : cr N x y) : x &&& y < x := by
  have h1 : x &&& y ≤ x := Nat.and_le_left
  have h2 : x &&& y ≠ x := by
    intro q
    refine cr_nsub h (fun i hi => ?_)
    rw [← q] at hi
    exact (tb_and.mp hi).2
  omega
theorem cr_join_gt {N x y : Nat} (h : cr N x y) : y < x ||| y := by
  have h1 : y ≤ x ||| y := Nat.right_le_or
  have h2 : x ||| y ≠ y := by
    intro q
    refine cr_nsub h (fun i hi => ?_)
    rw [← q]
    exact tb_or.mpr (Or.inl hi)
  omega
theorem cr_meet_pos {N x y : Nat} (h : cr N x y) : 1 ≤ x &&& y := by
  obtain ⟨⟨i, a, b, c⟩, _⟩ := h
  rcases Nat.eq_zero_or_pos (x &&& y) with q | q
  · have := tb_and.mpr ⟨b, c⟩
    rw [q, Nat.zero_testBit] at this; cases this
  · exact q
theorem cr_join_lt {N x y : Nat} (hx : x < 2 ^ N) (hy : y < 2 ^ N) (h : cr N x y) : x ||| y < 2 ^ N - 1 := by
  have h1 : x ||| y < 2 ^ N := Nat.or_lt_two_pow hx hy
  obtain ⟨_, _, _, ⟨i, a, b, c⟩⟩ := h
  have h2 : x ||| y ≠ 2 ^ N - 1 := by
    intro q
    have := tb_orf.mpr ⟨b, c⟩
    rw [q, Nat.testBit_two_pow_sub_one] at this
    simp [a] at this
  omega
/-- crossing as both programs test it -/
theorem cr_iff {N x y : Nat} (hx : x < 2 ^ N) (hy : y < 2 ^ N) : cr N x y ↔ x &&& y ≠ 0 ∧ x &&& y ≠ x ∧ x &&& y ≠ y ∧ x ||| y ≠ 2 ^ N - 1 := by
  have lt : ∀ {s i : Nat}, s < 2 ^ N → s.testBit i = true → i < N := by
    intro s i hs hi
    rcases Nat.lt_or_ge i N with z | z
    · exact z
    · rw [Nat.testBit_lt_two_pow (Nat.lt_of_lt_of_le hs (Nat.pow_le_pow_right (by decide) z))] at hi; cases hi
  constructor
  · intro h
    refine ⟨?_, ?_, ?_, ?_⟩
    · have := cr_meet_pos h; omega
    · have := cr_meet_lt h; omega
    · have := cr_meet_lt (cr_sym h); rw [Nat.and_comm] at this; omega
    · have := cr_join_lt hx hy h; omega
  · rintro ⟨h1, h2, h3, h4⟩
    refine ⟨?_, ?_, ?_, ?_⟩
    · apply Classical.byContradiction
      intro q
      apply h1
      apply Nat.eq_of_testBit_eq
      intro i
      rw [Nat.zero_testBit]
      apply tb_not
      intro z
      obtain ⟨z1, z2⟩ := tb_and.mp z
      exact q ⟨i, lt hx z1, z1, z2⟩
    · apply Classical.byContradiction
      intro q
      apply h2
      apply Nat.eq_of_testBit_eq
      intro i
      rw [Bool.eq_iff_iff]
      constructor
      · intro z; exact (tb_and.mp z).1
      · intro z
        rcases tb_cases y i with u | u
        · exact tb_and.mpr ⟨z, u⟩
        · exact absurd ⟨i, lt hx z, z, u⟩ q
    · apply Classical.byContradiction
      intro q
      apply h3
      apply Nat.eq_of_testBit_eq
      intro i
      rw [Bool.eq_iff_iff]
      constructor
      · intro z; exact (tb_and.mp z).2
      · intro z
        rcases tb_cases x i with u | u
        · exact tb_and.mpr ⟨u, z⟩
        · exact absurd ⟨i, lt hy z, u, z⟩ q
    · apply Classical.byContradiction
      intro q
      apply h4
      apply Nat.eq_of_testBit_eq
      intro i
      rw [Nat.testBit_two_pow_sub_one, Bool.eq_iff_iff, decide_eq_true_eq]
      constructor
      · intro z
        exact (tb_or.mp z).elim (lt hx) (lt hy)
      · intro z
        apply Classical.byContradiction
        intro u
        have := tb_orf.mp (tb_not u)
        exact q ⟨i, z, this.1, this.2⟩
/-! how many nodes a set has -/
def pc (s : Nat) : Nat := ctr (fun i => s.testBit i) 8
theorem ctr_ao (p q : Nat → Bool) : ∀ m, ctr (fun i => p i && q i) m + ctr (fun i => p i || q i) m = ctr p m + ctr q m := by
  intro m
  induction m with
  | zero => rfl
  | succ m ih =>
    show ctr (fun i => p i && q i) m + (if (p m && q m) then 1 else 0) + (ctr (fun i => p i || q i) m + (if (p m || q m) then 1 else 0)) = ctr p m + (if p m then 1 else 0) + (ctr q m + (if q m then 1 else 0))
    have : (if (p m && q m) then 1 else 0) + (if (p m || q m) then 1 else 0) = (if p m then 1 else 0) + (if q m then 1 else 0) := by cases p m <;> cases q m <;> rfl
    omega
theorem pc_ao (x y : Nat) : pc (x &&& y) + pc (x ||| y) = pc x + pc y := by
  have h := ctr_ao (fun i => x.testBit i) (fun i => y.testBit i) 8
  unfold pc
  have e1 : (fun i => (x &&& y).testBit i) = (fun i => x.testBit i && y.testBit i) := by funext i; exact Nat.testBit_and ..
  have e2 : (fun i => (x ||| y).testBit i) = (fun i => x.testBit i || y.testBit i) := by funext i; exact Nat.testBit_or ..
  rw [e1, e2]
  exact h
theorem ctr_le {p q : Nat → Bool} : ∀ m, (∀ i, i < m → p i = true → q i = true) → ctr p m ≤ ctr q m := by
  intro m
  induction m with
  | zero => exact fun _ => Nat.le_refl _
  | succ m ih =>
    intro h
    have h1 := ih (fun i hi => h i (by omega))
    have h2 := h m (by omega)
    show ctr p m + (if p m then 1 else 0) ≤ ctr q m + (if q m then 1 else 0)
    cases hp : p m with
    | false => simp; omega
    | true => rw [h2 hp]; simp; omega
theorem ctr_lt {p q : Nat → Bool} {j : Nat} : ∀ m, (∀ i, i < m → p i = true → q i = true) → j < m → p j = false → q j = true → ctr p m < ctr q m := by
  intro m
  induction m with
  | zero => intro _ h; omega
  | succ m ih =>
    intro h hj hp hq
    show ctr p m + (if p m then 1 else 0) < ctr q m + (if q m then 1 else 0)
    rcases (show j = m ∨ j < m by omega) with z | z
    · subst z
      have h1 := ctr_le (p := p) (q := q) j (fun i hi => h i (by omega))
      rw [hp, hq]; simp; omega
    · have h1 := ih (fun i hi => h i (by omega)) z hp hq
      have h2 := h m (by omega)
      cases hpm : p m with
      | false => simp; omega
      | true => rw [h2 hpm]; simp; omega
theorem ctr_max (p : Nat → Bool) : ∀ m, ctr p m ≤ m := by
  intro m
  induction m with
  | zero => exact Nat.le_refl _
  | succ m ih =>
    show ctr p m + (if p m then 1 else 0) ≤ m + 1
    cases p m <;> simp <;> omega
/-- the four numbers of nodes of two crossing sets -/
theorem cr_pc {N x y : Nat} (hN : N ≤ 8) (h : cr N x y) : 1 ≤ pc (x &&& y) ∧ pc (x &&& y) < pc x ∧ pc (x &&& y) < pc y ∧ pc (x ||| y) ≤ 7 ∧ pc (x &&& y) + pc (x ||| y) = pc x + pc y := by
  obtain ⟨⟨i1, a1, b1, c1⟩, ⟨i2, a2, b2, c2⟩, ⟨i3, a3, b3, c3⟩, ⟨i4, a4, b4, c4⟩⟩ := h
  refine ⟨?_, ?_, ?_, ?_, pc_ao x y⟩
  · have := ctr_lt (p := fun _ => false) (q := fun i => (x &&& y).testBit i) (j := i1) 8 (fun i _ h => by cases h) (by omega) rfl (tb_and.mpr ⟨b1, c1⟩)
    unfold pc
    omega
  · exact ctr_lt (j := i2) 8 (fun i _ h => (tb_and.mp h).1) (by omega) (tb_andf.mpr (Or.inr c2)) b2
  · exact ctr_lt (j := i3) 8 (fun i _ h => (tb_and.mp h).2) (by omega) (tb_andf.mpr (Or.inl b3)) c3
  · have := ctr_lt (p := fun i => (x ||| y).testBit i) (q := fun _ => true) (j := i4) 8 (fun i _ _ => rfl) (by omega) (tb_orf.mpr ⟨b4, c4⟩) rfl
    have h8 := ctr_max (fun _ => true) 8
    unfold pc
    omega
