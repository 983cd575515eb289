/-! at most 12870 least sets -/
theorem missB_iff {v : NV} {d : Nat} : missB v d = true ↔ ∃ s, s ∈ sidesOf v ∧ bor v s &&& d = 0 := by
  unfold missB
  rw [List.any_eq_true]
  constructor
  · rintro ⟨s, h1, h2⟩; exact ⟨s, h1, of_decide_eq_true h2⟩
  · rintro ⟨s, h1, h2⟩; exact ⟨s, h1, decide_eq_true h2⟩
theorem and_zero_sb {b d d' : Nat} (h : sb d d') (h0 : b &&& d' = 0) : b &&& d = 0 := by
  apply Nat.eq_of_testBit_eq
  intro i
  rw [Nat.zero_testBit]
  apply tb_not
  intro q
  obtain ⟨q1, q2⟩ := tb_and.mp q
  have := tb_and.mpr ⟨q1, h i q2⟩
  rw [h0, Nat.zero_testBit] at this
  cases this
theorem missB_mono {v : NV} {d d' : Nat} (h : sb d d') (hm : missB v d' = true) : missB v d = true := by
  obtain ⟨s, h1, h2⟩ := missB_iff.mp hm
  exact missB_iff.mpr ⟨s, h1, and_zero_sb h h2⟩
theorem minB_iff {v : NV} {d : Nat} : minB v d = true ↔ missB v d = false ∧ ∀ i, i < nK v → d.testBit i = true → missB v (d ^^^ 2 ^ i) = true := by
  unfold minB
  rw [Bool.and_eq_true, Bool.not_eq_true', List.all_eq_true]
  constructor
  · rintro ⟨h1, h2⟩
    refine ⟨h1, fun i hi hb => ?_⟩
    have := h2 i (List.mem_range.mpr hi)
    rw [hb] at this
    simpa using this
  · rintro ⟨h1, h2⟩
    refine ⟨h1, fun i hi => ?_⟩
    have hi := List.mem_range.mp hi
    cases q : d.testBit i with
    | false => rfl
    | true => rw [h2 i hi q]; rfl
theorem tb_xor_ne {d i j : Nat} (h : j ≠ i) : (d ^^^ 2 ^ i).testBit j = d.testBit j := by
  rw [Nat.testBit_xor, Nat.testBit_two_pow, show decide (i = j) = false from decide_eq_false (fun q => h q.symm), Bool.xor_false]
theorem tb_xor_self {d i : Nat} (h : d.testBit i = true) : (d ^^^ 2 ^ i).testBit i = false := by
  rw [Nat.testBit_xor, Nat.testBit_two_pow, h]
  simp
theorem lt_bit {d K i : Nat} (hd : d < 2 ^ K) (h : d.testBit i = true) : i < K := by
  rcases Nat.lt_or_ge i K with z | z
  · exact z
  · rw [Nat.testBit_lt_two_pow (Nat.lt_of_lt_of_le hd (Nat.pow_le_pow_right (by decide) z))] at h; cases h
theorem min_anti {v : NV} {s t : Nat} (hs : minB v s = true) (ht : minB v t = true) (htK : t < 2 ^ nK v) (h : sb s t) : s = t := by
  apply Classical.byContradiction
  intro hne
  have : ∃ i, t.testBit i = true ∧ s.testBit i = false := by
    apply Classical.byContradiction
    intro q
    apply hne
    apply Nat.eq_of_testBit_eq
    intro i
    rw [Bool.eq_iff_iff]
    refine ⟨h i, fun z => ?_⟩
    rcases tb_cases s i with y | y
    · exact y
    · exact absurd ⟨i, z, y⟩ q
  obtain ⟨i, h1, h2⟩ := this
  have hm := (minB_iff.mp ht).2 i (lt_bit htK h1) h1
  have hsb : sb s (t ^^^ 2 ^ i) := by
    intro j hj
    have hji : j ≠ i := fun q => by rw [q, h2] at hj; cases hj
    rw [tb_xor_ne hji]
    exact h j hj
  have := missB_mono hsb hm
  rw [(minB_iff.mp hs).1] at this
  cases this
def fct : Nat → Nat
  | 0 => 1
  | n + 1 => (n + 1) * fct n
theorem totTo_congr {f g : Nat → Nat} : ∀ m, (∀ i, i < m → f i = g i) → totTo f m = totTo g m := by
  intro m h
  exact Nat.le_antisymm (totTo_le m (fun i hi => by rw [h i hi]; exact Nat.le_refl _)) (totTo_le m (fun i hi => by rw [h i hi]; exact Nat.le_refl _))
theorem totTo_add (f g : Nat → Nat) : ∀ m, totTo (fun i => f i + g i) m = totTo f m + totTo g m := by
  intro m
  induction m with
  | zero => rfl
  | succ m ih => show totTo (fun i => f i + g i) m + (f m + g m) = totTo f m + f m + (totTo g m + g m); omega
theorem totTo_swap (g : Nat → Nat → Nat) (a : Nat) : ∀ b, totTo (fun t => totTo (fun i => g t i) b) a = totTo (fun i => totTo (fun t => g t i) a) b := by
  intro b
  induction b with
  | zero => exact totTo_0 a
  | succ b ih =>
    show totTo (fun t => totTo (fun i => g t i) b + g t b) a = totTo (fun i => totTo (fun t => g t i) a) b + totTo (fun t => g t b) a
    rw [totTo_add, ih]
theorem totTo_one {s c : Nat} : ∀ m, totTo (fun t => if t = s then c else 0) m = if s < m then c else 0 := by
  intro m
  have h := totTo_set (fun _ => 0) s c m
  rw [totTo_0] at h
  by_cases q : s < m
  · rw [if_pos q] at h ⊢; rw [if_pos q] at h; omega
  · rw [if_neg q] at h ⊢; rw [if_neg q] at h; omega
theorem ctr_tot (p : Nat → Bool) (c : Nat) : ∀ m, totTo (fun i => if p i then c else 0) m = ctr p m * c := by
  intro m
  induction m with
  | zero => show 0 = 0 * c; rw [Nat.zero_mul]
  | succ m ih =>
    show totTo (fun i => if p i then c else 0) m + (if p m then c else 0) = (ctr p m + if p m then 1 else 0) * c
    rw [ih, Nat.add_mul]
    congr 1
    cases p m <;> simp
theorem ctr_diff {s t : Nat} (h : sb t s) : ∀ m, ctr (fun i => s.testBit i && !t.testBit i) m + ctr (fun i => t.testBit i) m = ctr (fun i => s.testBit i) m := by
  intro m
  induction m with
  | zero => rfl
  | succ m ih =>
    show ctr (fun i => s.testBit i && !t.testBit i) m + (if (s.testBit m && !t.testBit m) then 1 else 0) + (ctr (fun i => t.testBit i) m + (if t.testBit m then 1 else 0)) = ctr (fun i => s.testBit i) m + (if s.testBit m then 1 else 0)
    have : (if (s.testBit m && !t.testBit m) then 1 else 0) + (if t.testBit m then 1 else 0) = (if s.testBit m then 1 else 0) := by
      cases q : t.testBit m with
      | true => rw [h m q]; rfl
      | false => cases s.testBit m <;> rfl
    omega
/-- the weight of one member t below s in the count of chains -/
noncomputable def lym (A : Nat → Prop) (s t : Nat) : Nat := @ite _ (A t ∧ sb t s) (Classical.propDecidable _) (fct (pc16 t) * fct (pc16 s - pc16 t)) 0
theorem lym_t {A : Nat → Prop} {s t : Nat} (h : A t ∧ sb t s) : lym A s t = fct (pc16 t) * fct (pc16 s - pc16 t) := by unfold lym; exact if_pos h
theorem lym_f {A : Nat → Prop} {s t : Nat} (h : ¬ (A t ∧ sb t s)) : lym A s t = 0 := by unfold lym; exact if_neg h
theorem pc16_xor {s i : Nat} (hi : i < 16) (h : s.testBit i = true) : pc16 (s ^^^ 2 ^ i) + 1 = pc16 s := by
  have hsb : sb (s ^^^ 2 ^ i) s := by
    intro j hj
    by_cases q : j = i
    · rw [q]; exact h
    · rw [tb_xor_ne q] at hj; exact hj
  have h1 := ctr_diff hsb 16
  have h2 : ctr (fun j => s.testBit j && !(s ^^^ 2 ^ i).testBit j) 16 = 1 := by
    have e : (fun j => s.testBit j && !(s ^^^ 2 ^ i).testBit j) = (fun j => decide (j = i)) := by
      funext j
      by_cases q : j = i
      · rw [q, tb_xor_self h, h]; simp
      · rw [tb_xor_ne q]; cases s.testBit j <;> simp [q]
    rw [e]
    have h3 := ctr_tot (fun j => decide (j = i)) 1 16
    have h4 := totTo_one (s := i) (c := 1) 16
    rw [if_pos hi] at h4
    have e2 : (fun j => if decide (j = i) then 1 else 0) = (fun j => if j = i then 1 else 0) := by
      funext j
      by_cases q : j = i
      · rw [if_pos q, if_pos (decide_eq_true q)]
      · rw [if_neg q, if_neg (by simp [q])]
    rw [e2] at h3
    omega
  unfold pc16
  omega
theorem lym_le {A : Nat → Prop} {M : Nat} (hM : M ≤ 2 ^ 16) (hA : ∀ t, A t → t < M) (hanti : ∀ s t, A s → A t → sb s t → s = t) : ∀ m s, pc16 s = m → s < 2 ^ 16 → totTo (lym A s) M ≤ fct m := by
  intro m
  induction m with
  | zero =>
    intro s hs hlt
    by_cases hAs : A s
    · have : totTo (lym A s) M ≤ totTo (fun t => if t = s then 1 else 0) M := by
        refine totTo_le M (fun t _ => ?_)
        by_cases q : A t ∧ sb t s
        · have := hanti t s q.1 hAs q.2
          rw [if_pos this, this, lym_t ⟨hAs, sb_refl s⟩, hs]
          exact Nat.le_refl _
        · rw [lym_f q]; exact Nat.zero_le _
      rw [totTo_one] at this
      have h2 : (if s < M then 1 else 0) ≤ 1 := by
        by_cases q : s < M
        · rw [if_pos q]; exact Nat.le_refl _
        · rw [if_neg q]; exact Nat.zero_le _
      exact Nat.le_trans this h2
    · have : totTo (lym A s) M ≤ totTo (fun _ => 0) M := by
        refine totTo_le M (fun t _ => ?_)
        by_cases q : A t ∧ sb t s
        · exfalso
          apply hAs
          have h1 := ctr_diff q.2 16
          have : t = s := by
            apply Nat.eq_of_testBit_eq
            intro i
            rw [Bool.eq_iff_iff]
            refine ⟨q.2 i, fun z => ?_⟩
            have hi := lt_bit hlt z
            have := ctr_lt (p := fun _ => false) (q := fun i => s.testBit i) (j := i) 16 (fun _ _ h => by cases h) hi rfl z
            unfold pc16 at hs
            omega
          rw [← this]; exact q.1
        · rw [lym_f q]; exact Nat.le_refl _
      rw [totTo_0] at this
      exact Nat.le_trans this (Nat.zero_le _)
  | succ m ih =>
    intro s hs hlt
    by_cases hAs : A s
    · have : totTo (lym A s) M ≤ totTo (fun t => if t = s then fct (m + 1) else 0) M := by
        refine totTo_le M (fun t _ => ?_)
        by_cases q : A t ∧ sb t s
        · have := hanti t s q.1 hAs q.2
          rw [if_pos this, this, lym_t ⟨hAs, sb_refl s⟩, hs, Nat.sub_self]
          show fct (m + 1) * 1 ≤ _
          rw [Nat.mul_one]; exact Nat.le_refl _
        · rw [lym_f q]; exact Nat.zero_le _
      rw [totTo_one] at this
      have h2 : (if s < M then fct (m + 1) else 0) ≤ fct (m + 1) := by
        by_cases q : s < M
        · rw [if_pos q]; exact Nat.le_refl _
        · rw [if_neg q]; exact Nat.zero_le _
      exact Nat.le_trans this h2
    · have hterm : ∀ t, t < M → lym A s t = totTo (fun i => if s.testBit i then lym A (s ^^^ 2 ^ i) t else 0) 16 := by
        intro t ht
        by_cases q : A t ∧ sb t s
        · have hd := ctr_diff q.2 16
          have hlt1 : pc16 t < pc16 s := by
            have hne : ∃ i, s.testBit i = true ∧ t.testBit i = false := by
              apply Classical.byContradiction
              intro z
              apply hAs
              have : t = s := by
                apply Nat.eq_of_testBit_eq
                intro i
                rw [Bool.eq_iff_iff]
                refine ⟨q.2 i, fun y => ?_⟩
                rcases tb_cases t i with u | u
                · exact u
                · exact absurd ⟨i, y, u⟩ z
              rw [← this]; exact q.1
            obtain ⟨i, h1, h2⟩ := hne
            exact ctr_lt (j := i) 16 (fun j _ h => q.2 j h) (lt_bit hlt h1) h2 h1
          have e : ∀ i, i < 16 → (if s.testBit i then lym A (s ^^^ 2 ^ i) t else 0) = (if (s.testBit i && !t.testBit i) then fct (pc16 t) * fct (m - pc16 t) else 0) := by
            intro i hi
            cases h1 : s.testBit i with
            | false => rfl
            | true =>
              have hpx := pc16_xor hi h1
              cases h2 : t.testBit i with
              | true =>
                show lym A (s ^^^ 2 ^ i) t = 0
                refine lym_f (fun z => ?_)
                have := z.2 i h2
                rw [tb_xor_self h1] at this; cases this
              | false =>
                show lym A (s ^^^ 2 ^ i) t = fct (pc16 t) * fct (m - pc16 t)
                rw [lym_t ⟨q.1, fun j hj => ?_⟩, show pc16 (s ^^^ 2 ^ i) = m by omega]
                have hji : j ≠ i := fun y => by rw [y, h2] at hj; cases hj
                rw [tb_xor_ne hji]; exact q.2 j hj
          rw [totTo_congr 16 e, ctr_tot, lym_t q, hs]
          have hc : ctr (fun i => s.testBit i && !t.testBit i) 16 = m + 1 - pc16 t := by unfold pc16 at hs ⊢; omega
          rw [hc]
          have hle : pc16 t ≤ m := by omega
          rw [show m + 1 - pc16 t = (m - pc16 t) + 1 by omega]
          show fct (pc16 t) * ((m - pc16 t + 1) * fct (m - pc16 t)) = (m - pc16 t + 1) * (fct (pc16 t) * fct (m - pc16 t))
          rw [Nat.mul_left_comm]
        · rw [lym_f q]
          have e : ∀ i, i < 16 → (if s.testBit i then lym A (s ^^^ 2 ^ i) t else 0) = 0 := by
            intro i hi
            cases h1 : s.testBit i with
            | false => rfl
            | true =>
              show lym A (s ^^^ 2 ^ i) t = 0
              refine lym_f (fun z => q ⟨z.1, fun j hj => ?_⟩)
              have := z.2 j hj
              by_cases y : j = i
              · rw [y]; exact h1
              · rw [tb_xor_ne y] at this; exact this
          rw [totTo_congr 16 e, totTo_0]
      rw [totTo_congr M hterm, totTo_swap]
      have hb : ∀ i, i < 16 → totTo (fun t => if s.testBit i then lym A (s ^^^ 2 ^ i) t else 0) M ≤ (if s.testBit i then fct m else 0) := by
        intro i hi
        cases h1 : s.testBit i with
        | false =>
          show totTo (fun _ => 0) M ≤ 0
          rw [totTo_0]; exact Nat.le_refl _
        | true =>
          show totTo (lym A (s ^^^ 2 ^ i)) M ≤ fct m
          have hpx := pc16_xor hi h1
          exact ih (s ^^^ 2 ^ i) (by omega) (Nat.xor_lt_two_pow hlt (Nat.pow_lt_pow_right (by decide) hi))
      refine Nat.le_trans (totTo_le 16 hb) ?_
      rw [ctr_tot]
      show pc16 s * fct m ≤ (m + 1) * fct m
      rw [hs]; exact Nat.le_refl _
theorem fct_mid {k : Nat} (hk : k < 17) : 1625702400 ≤ fct k * fct (16 - k) := by
  have h : ((List.range 17).all fun k => Nat.ble 1625702400 (fct k * fct (16 - k))) = true := by decide +kernel
  exact Nat.le_of_ble_eq_true (List.all_eq_true.mp h k (List.mem_range.mpr hk))
theorem fct_16 : fct 16 = 20922789888000 := by decide +kernel
theorem filter_tot (p : Nat → Bool) : ∀ m, ((List.range m).filter p).length = totTo (fun t => if p t then 1 else 0) m := by
  intro m
  induction m with
  | zero => rfl
  | succ m ih =>
    rw [List.range_succ, List.filter_append, List.length_append, ih]
    show _ = totTo (fun t => if p t then 1 else 0) m + (if p m then 1 else 0)
    congr 1
    by_cases q : p m = true
    · rw [if_pos q, List.filter_cons_of_pos q]; rfl
    · rw [if_neg q, List.filter_cons_of_neg q]; rfl
theorem pc16_full : pc16 65535 = 16 := by decide +kernel
theorem least_le {v : NV} (k16 : nK v ≤ 16) : (leastOf v).length ≤ 12870 := by
  have hM : 2 ^ nK v ≤ 2 ^ 16 := Nat.pow_le_pow_right (by decide) k16
  have h := lym_le (A := fun t => minB v t = true ∧ t < 2 ^ nK v) (M := 2 ^ nK v) hM (fun t h => h.2) (fun s t h1 h2 h3 => min_anti h1.1 h2.1 h2.2 h3) 16 65535 pc16_full (by decide)
  have hlow : totTo (fun t => 1625702400 * (if minB v t then 1 else 0)) (2 ^ nK v) ≤ totTo (lym (fun t => minB v t = true ∧ t < 2 ^ nK v) 65535) (2 ^ nK v) := by
    refine totTo_le _ (fun t ht => ?_)
    by_cases q : minB v t = true
    · have hsb : sb t 65535 := by
        intro i hi
        have h16 := lt_bit (Nat.lt_of_lt_of_le ht hM) hi
        rw [show (65535 : Nat) = 2 ^ 16 - 1 from rfl, Nat.testBit_two_pow_sub_one]
        exact decide_eq_true h16
      rw [if_pos q, lym_t ⟨⟨q, ht⟩, hsb⟩, pc16_full, Nat.mul_one]
      exact fct_mid (by have := ctr_max (fun i => t.testBit i) 16; unfold pc16; omega)
    · rw [if_neg q, Nat.mul_zero]; exact Nat.zero_le _
  rw [totTo_mul, ← filter_tot] at hlow
  have e : (leastOf v).length = ((List.range (2 ^ nK v)).filter (fun t => minB v t)).length := rfl
  rw [fct_16] at h
  rw [← e] at hlow
  omega
