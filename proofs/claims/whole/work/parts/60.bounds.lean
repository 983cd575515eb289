/-! bounds -/
theorem bof_0 {i : Nat} (hi : i < 32) : bof 0 i = false := by
  unfold bof
  have : (jshr (0 : Int32) (nI i) &&& (1 : Int32)) = 0 := by
    rw [show (0 : Int32) = nI 0 from rfl]
    exact (bit_nI (by decide) hi).mpr (Nat.zero_testBit _)
  simp [this]
theorem cl_of_side {v : NV} (k16 : nK v ≤ 16) {s : Nat} (h : sideB v s = true) : clP v (bof 0) true (fun w => s.testBit w = true) := by
  intro i hi
  have h1 := sideB_true.mp h i hi
  unfold lv at h1
  refine ⟨fun q => ?_, fun q => by rw [bof_0 (by omega)] at q; cases q⟩
  have q : s.testBit (nT v i) = true := q
  rw [q] at h1
  show s.testBit (nH v i) = true
  simpa using h1
theorem side_of_cl {v : NV} {s : Nat} (h : clP v (bof 0) true (fun w => s.testBit w = true)) : sideB v s = true := by
  rw [sideB_true]
  intro i hi
  have h1 := (h i hi).1
  unfold lv
  cases q : s.testBit (nT v i) with
  | false => rfl
  | true =>
    have h2 : s.testBit (nH v i) = true := h1 q
    rw [h2]; rfl
theorem bor_bit {v : NV} {s i : Nat} : (bor v s).testBit i = (decide (i < nK v) && en v s i) := by
  unfold bor; rw [bord_gb, gb_bit]
/-- what the loop over the sides has found behind k of them -/
def entd (v : NV) (i k : Nat) : Prop := ∃ x, x < k ∧ x < (sidesOf v).length ∧ en v ((sidesOf v).getD x 0) i = true
def bacc (v : NV) (i : Nat) (g : Bool) (k w : Nat) : Prop := if g then ∃ x, x < k ∧ x < (sidesOf v).length ∧ en v ((sidesOf v).getD x 0) i = true ∧ ((sidesOf v).getD x 0).testBit w = true else ∀ x, x < k → x < (sidesOf v).length → en v ((sidesOf v).getD x 0) i = true → ((sidesOf v).getD x 0).testBit w = true
theorem p_mbounds {τ : ST} {v : NV} (ok : okN v) (h25 : τ.1 25 = nI (sidesOf v).length) (hs : ∀ x, x < (sidesOf v).length → τ.2 18 x = nI ((sidesOf v).getD x 0) ∧ τ.2 19 x = nI (bor v ((sidesOf v).getD x 0))) (n : Nat) (hn : 1000 ≤ n) {i : Nat} (hi : i < nK v) (ha : f_m_isArc n τ (nI i) = some 1) (g : Bool) : ∃ (A : Nat) (f : Int32), lp (b_m_bounds_28 n τ (nI i) (if g then 1 else 0)) n (nI (if g then 0 else 2 ^ nN v - 1), (0 : Int32), (0 : Int32)) = some (nI A, f) ∧ A < 2 ^ nN v ∧ (∀ w, A.testBit w = true ↔ w < nN v ∧ bacc v i g (sidesOf v).length w) ∧ (f = 0 ↔ ¬ entd v i (sidesOf v).length) := by
  have n8 := ok.2.1
  have k16 := ok.2.2.1
  have hp : 2 ^ nN v ≤ 2 ^ 8 := Nat.pow_le_pow_right (by decide) n8
  have h1p : 1 ≤ 2 ^ nN v := Nat.one_le_two_pow
  have hk : 2 ^ nK v ≤ 2 ^ 16 := Nat.pow_le_pow_right (by decide) k16
  have hl := sides_le v ok
  obtain ⟨e, he, A, f, rfl, q1, q2, q3⟩ := lp_inv (body := b_m_bounds_28 n τ (nI i) (if g then 1 else 0)) (fun (k : Nat) (t : Int32 × Int32 × Int32) => ∃ A : Nat, t.1 = nI A ∧ t.2.2 = nI k ∧ A < 2 ^ nN v ∧ (∀ w, A.testBit w = true ↔ w < nN v ∧ bacc v i g k w) ∧ (t.2.1 = 0 ↔ ¬ entd v i k)) (fun (e : Int32 × Int32) => ∃ (A : Nat) (f : Int32), e = (nI A, f) ∧ A < 2 ^ nN v ∧ (∀ w, A.testBit w = true ↔ w < nN v ∧ bacc v i g (sidesOf v).length w) ∧ (f = 0 ↔ ¬ entd v i (sidesOf v).length)) (sidesOf v).length (by
      rintro k ⟨t1, t2, t3⟩ hkl ⟨A, h1, h2, h3, h4, h5⟩
      have h1 : t1 = nI A := h1
      have h2 : t3 = nI k := h2
      have h5 : t2 = 0 ↔ ¬ entd v i k := h5
      subst h1 h2
      obtain ⟨r18, r19⟩ := hs k hkl
      obtain ⟨m1, m2, m3⟩ := mem_sides.mp (getD_mem hkl)
      have hb := bor_lt v ((sidesOf v).getD k 0)
      have hbt : (bor v ((sidesOf v).getD k 0)).testBit i = en v ((sidesOf v).getD k 0) i := by rw [bor_bit]; simp [hi]
      have gk : jin (nI k) 256 = true := jin_nI (by omega) (by omega)
      have jk : jix (nI k) = k := jix_nI (by omega)
      have hbody : b_m_bounds_28 n τ (nI i) (if g then 1 else 0) (nI A, t2, nI k) = some (.inl (if en v ((sidesOf v).getD k 0) i = true then (nI (if g then A ||| (sidesOf v).getD k 0 else A &&& (sidesOf v).getD k 0), (1 : Int32), nI (k + 1)) else (nI A, t2, nI (k + 1)))) := by
        unfold b_m_bounds_28 j_m_bounds_84_28 j_m_bounds_88_28
        show (if τ.1 25 ≤ nI k then _ else _) = _
        rw [h25, if_neg (nI_ge hkl (by omega)), bnd_s ha, if_neg (by decide)]
        simp only [gk, grd_tt, jk, r18, r19]
        rw [show nI k + (1 : Int32) = nI (k + 1) from nI_1 k, and_nI, or_nI]
        by_cases q : en v ((sidesOf v).getD k 0) i = true
        · rw [if_neg (fun z => by rw [(bit_nI (by omega) (by omega)).mp z] at hbt; rw [q] at hbt; cases hbt), if_pos q]
          cases g
          · rfl
          · rfl
        · rw [if_pos ((bit_nI (by omega) (by omega)).mpr (by rw [hbt]; simpa using q)), if_neg q]
      by_cases q : en v ((sidesOf v).getD k 0) i = true
      · rw [if_pos q] at hbody
        refine ⟨_, hbody, (if g then A ||| (sidesOf v).getD k 0 else A &&& (sidesOf v).getD k 0), rfl, rfl, ?_, fun w => ?_, ?_⟩
        · cases g
          · exact Nat.lt_of_le_of_lt Nat.and_le_left h3
          · exact Nat.or_lt_two_pow h3 (by omega)
        · cases g
          · show (A &&& (sidesOf v).getD k 0).testBit w = true ↔ w < nN v ∧ ∀ x, x < k + 1 → x < (sidesOf v).length → en v ((sidesOf v).getD x 0) i = true → ((sidesOf v).getD x 0).testBit w = true
            have h4w : A.testBit w = true ↔ w < nN v ∧ ∀ x, x < k → x < (sidesOf v).length → en v ((sidesOf v).getD x 0) i = true → ((sidesOf v).getD x 0).testBit w = true := h4 w
            rw [Nat.testBit_and, Bool.and_eq_true, h4w]
            constructor
            · rintro ⟨⟨z1, z2⟩, z3⟩
              refine ⟨z1, fun x x1 x2 x3 => ?_⟩
              rcases (show x < k ∨ x = k by omega) with y | y
              · exact z2 x y x2 x3
              · rw [y]; exact z3
            · rintro ⟨z1, z2⟩
              exact ⟨⟨z1, fun x x1 => z2 x (by omega)⟩, z2 k (by omega) hkl q⟩
          · show (A ||| (sidesOf v).getD k 0).testBit w = true ↔ w < nN v ∧ ∃ x, x < k + 1 ∧ x < (sidesOf v).length ∧ en v ((sidesOf v).getD x 0) i = true ∧ ((sidesOf v).getD x 0).testBit w = true
            have h4w : A.testBit w = true ↔ w < nN v ∧ ∃ x, x < k ∧ x < (sidesOf v).length ∧ en v ((sidesOf v).getD x 0) i = true ∧ ((sidesOf v).getD x 0).testBit w = true := h4 w
            rw [Nat.testBit_or, Bool.or_eq_true, h4w]
            constructor
            · rintro (⟨z1, x, x1, x2⟩ | z)
              · exact ⟨z1, x, by omega, x2⟩
              · refine ⟨?_, k, by omega, hkl, q, z⟩
                rcases Nat.lt_or_ge w (nN v) with y | y
                · exact y
                · rw [Nat.testBit_lt_two_pow (Nat.lt_of_lt_of_le (show (sidesOf v).getD k 0 < 2 ^ nN v by omega) (Nat.pow_le_pow_right (by decide) y))] at z; cases z
            · rintro ⟨z1, x, x1, x2, x3, x4⟩
              rcases (show x < k ∨ x = k by omega) with y | y
              · exact Or.inl ⟨z1, x, y, x2, x3, x4⟩
              · rw [y] at x4; exact Or.inr x4
        · show (1 : Int32) = 0 ↔ ¬ entd v i (k + 1)
          constructor
          · intro z; exact absurd z (by decide)
          · intro z; exact absurd ⟨k, by omega, hkl, q⟩ z
      · rw [if_neg q] at hbody
        refine ⟨_, hbody, A, rfl, rfl, h3, fun w => ?_, ?_⟩
        · cases g
          · show A.testBit w = true ↔ w < nN v ∧ ∀ x, x < k + 1 → x < (sidesOf v).length → en v ((sidesOf v).getD x 0) i = true → ((sidesOf v).getD x 0).testBit w = true
            have h4w : A.testBit w = true ↔ w < nN v ∧ ∀ x, x < k → x < (sidesOf v).length → en v ((sidesOf v).getD x 0) i = true → ((sidesOf v).getD x 0).testBit w = true := h4 w
            rw [h4w]
            constructor
            · rintro ⟨z1, z2⟩
              refine ⟨z1, fun x x1 x2 x3 => ?_⟩
              rcases (show x < k ∨ x = k by omega) with y | y
              · exact z2 x y x2 x3
              · rw [y] at x3; exact absurd x3 q
            · rintro ⟨z1, z2⟩
              exact ⟨z1, fun x x1 => z2 x (by omega)⟩
          · show A.testBit w = true ↔ w < nN v ∧ ∃ x, x < k + 1 ∧ x < (sidesOf v).length ∧ en v ((sidesOf v).getD x 0) i = true ∧ ((sidesOf v).getD x 0).testBit w = true
            have h4w : A.testBit w = true ↔ w < nN v ∧ ∃ x, x < k ∧ x < (sidesOf v).length ∧ en v ((sidesOf v).getD x 0) i = true ∧ ((sidesOf v).getD x 0).testBit w = true := h4 w
            rw [h4w]
            constructor
            · rintro ⟨z1, x, x1, x2⟩
              exact ⟨z1, x, by omega, x2⟩
            · rintro ⟨z1, x, x1, x2, x3, x4⟩
              rcases (show x < k ∨ x = k by omega) with y | y
              · exact ⟨z1, x, y, x2, x3, x4⟩
              · rw [y] at x3; exact absurd x3 q
        · show t2 = 0 ↔ ¬ entd v i (k + 1)
          rw [h5]
          constructor
          · rintro z ⟨x, x1, x2, x3⟩
            rcases (show x < k ∨ x = k by omega) with y | y
            · exact z ⟨x, y, x2, x3⟩
            · rw [y] at x3; exact q x3
          · rintro z ⟨x, x1, x2⟩
            exact z ⟨x, by omega, x2⟩) (by
      rintro ⟨t1, t2, t3⟩ ⟨A, h1, h2, h3, h4, h5⟩
      have h1 : t1 = nI A := h1
      have h2 : t3 = nI (sidesOf v).length := h2
      subst h1 h2
      refine ⟨(nI A, t2), ?_, A, t2, rfl, h3, h4, h5⟩
      unfold b_m_bounds_28
      show (if τ.1 25 ≤ nI (sidesOf v).length then _ else _) = _
      rw [h25, if_pos (nI_le (Nat.le_refl _) (by omega))]) n 0 (nI (if g then 0 else 2 ^ nN v - 1), (0 : Int32), (0 : Int32)) (Nat.zero_le _) (by omega) ⟨(if g then 0 else 2 ^ nN v - 1), rfl, rfl, (by cases g <;> simp <;> omega), (fun w => by
        cases g
        · show (2 ^ nN v - 1).testBit w = true ↔ w < nN v ∧ ∀ x, x < 0 → x < (sidesOf v).length → en v ((sidesOf v).getD x 0) i = true → ((sidesOf v).getD x 0).testBit w = true
          rw [Nat.testBit_two_pow_sub_one, decide_eq_true_eq]
          exact ⟨fun z => ⟨z, fun x x1 => absurd x1 (Nat.not_lt_zero _)⟩, fun z => z.1⟩
        · show (0 : Nat).testBit w = true ↔ w < nN v ∧ ∃ x, x < 0 ∧ x < (sidesOf v).length ∧ en v ((sidesOf v).getD x 0) i = true ∧ ((sidesOf v).getD x 0).testBit w = true
          rw [Nat.zero_testBit]
          exact ⟨fun z => (by cases z), fun ⟨_, x, x1, _⟩ => absurd x1 (Nat.not_lt_zero _)⟩), ⟨fun _ ⟨x, x1, _⟩ => absurd x1 (Nat.not_lt_zero _), fun _ => rfl⟩⟩
  exact ⟨A, f, he, q1, q2, q3⟩
theorem entd_iff {v : NV} {i : Nat} : entd v i (sidesOf v).length ↔ ∃ s, s ∈ sidesOf v ∧ en v s i = true := by
  constructor
  · rintro ⟨x, x1, _, x3⟩; exact ⟨_, getD_mem x1, x3⟩
  · rintro ⟨s, s1, s2⟩
    obtain ⟨x, x1, x2⟩ := mem_getD s1
    exact ⟨x, x1, x1, by rw [x2]; exact s2⟩
theorem bacc_f {v : NV} {i w : Nat} : bacc v i false (sidesOf v).length w ↔ ∀ s, s ∈ sidesOf v → en v s i = true → s.testBit w = true := by
  show (∀ x, x < (sidesOf v).length → x < (sidesOf v).length → en v ((sidesOf v).getD x 0) i = true → ((sidesOf v).getD x 0).testBit w = true) ↔ _
  constructor
  · intro h s s1 s2
    obtain ⟨x, x1, x2⟩ := mem_getD s1
    have := h x x1 x1
    rw [x2] at this
    exact this s2
  · intro h x x1 _ x3
    exact h _ (getD_mem x1) x3
theorem bacc_t {v : NV} {i w : Nat} : bacc v i true (sidesOf v).length w ↔ ∃ s, s ∈ sidesOf v ∧ en v s i = true ∧ s.testBit w = true := by
  show (∃ x, x < (sidesOf v).length ∧ x < (sidesOf v).length ∧ en v ((sidesOf v).getD x 0) i = true ∧ ((sidesOf v).getD x 0).testBit w = true) ↔ _
  constructor
  · rintro ⟨x, x1, _, x3, x4⟩; exact ⟨_, getD_mem x1, x3, x4⟩
  · rintro ⟨s, s1, s2, s3⟩
    obtain ⟨x, x1, x2⟩ := mem_getD s1
    exact ⟨x, x1, x1, by rw [x2]; exact s2, by rw [x2]; exact s3⟩
theorem en_iff {v : NV} {s i : Nat} : en v s i = true ↔ s.testBit (nH v i) = true ∧ s.testBit (nT v i) = false := by
  unfold en; rw [Bool.and_eq_true, Bool.not_eq_true']
theorem in_side {v : NV} {s h t : Nat} (hlt : s < 2 ^ nN v) (hh : s.testBit h = true) (ht : s.testBit t = false) (htn : t < nN v) (hc : sideB v s = true) : s ∈ sidesOf v := by
  refine mem_sides.mpr ⟨?_, ?_, hc⟩
  · rcases Nat.eq_zero_or_pos s with q | q
    · rw [q, Nat.zero_testBit] at hh; cases hh
    · exact q
  · have : s ≠ 2 ^ nN v - 1 := by
      intro q
      rw [q, Nat.testBit_two_pow_sub_one] at ht
      simp [htn] at ht
    omega
theorem sim_bounds (n : Nat) (hn : 1000 ≤ n) : Sim_bounds n TheInv := by
  intro j σ it τ bb a b hj h hb01
  obtain ⟨⟨v, c, f⟩, ji, ok, hx, hm, hi, hsx⟩ := h
  have okv : okN v := ok.1
  have hxv : isNet (σ.1 128) (σ.1 129) (σ.2 3) (σ.2 4) (σ.2 5) v := hx.1
  have n8 := okv.2.1
  have k16 := okv.2.2.1
  have hp : 2 ^ nN v ≤ 2 ^ 8 := Nat.pow_le_pow_right (by decide) n8
  have h1p : 1 ≤ 2 ^ nN v := Nat.one_le_two_pow
  obtain ⟨d, d1, d2, d3, d4, d5⟩ := p_makeSides (RF_code hm 0) okv n hn
  have hC : d.1 25 = nI (sidesOf v).length ∧ ∀ i, i < (sidesOf v).length → d.2 18 i = nI ((sidesOf v).getD i 0) ∧ d.2 19 i = nI (bor v ((sidesOf v).getD i 0)) := d2.2.1.2.2.2.1 d3
  have hsl := sides_le v okv
  have stay : TheInv (j + 1) σ it d := ⟨(v, c, f), ji, okB_up ok, hx, d2, ImOK_up hi, hsx⟩
  obtain ⟨g, rfl⟩ : ∃ g : Bool, b = if g then 1 else 0 := by
    rcases hb01 with q | q
    · exact ⟨false, q⟩
    · exact ⟨true, q⟩
  have mstart : f_m_bounds n τ a (if g then 1 else 0) = j_m_bounds_21 n d a (if g then 1 else 0) (nI (if g then 0 else 2 ^ nN v - 1)) := by
    unfold f_m_bounds
    rw [nam_e, bnd_s d1]
    cases g
    · rw [if_pos (by decide), bnd_s (p_m_all d2.1.1.1 n8)]; rfl
    · rw [if_neg (by decide)]; rfl
  rw [mstart]
  rcases arc_both n (σ := σ) (τ := d) hxv.2.1 d2.1.1.2.1 k16 a with ⟨i, hik, rfl, e1, e2⟩ | ⟨e1, e2⟩
  · have hik : i < nK v := hik
    obtain ⟨t1, t2, t3⟩ := okv.2.2.2 i hik
    obtain ⟨x3, x4, x5⟩ := hxv.2.2 i hik
    obtain ⟨A, ff, m1, m2, m3, m4⟩ := p_mbounds okv hC.1 hC.2 n hn hik e2 g
    obtain ⟨e, f1, f2, f3, f4, f5⟩ := p_follow hxv okv n hn 0
    have l1 := hl_lt v (bof 0) true (nH v i)
    have l2 := hl_lt v (bof 0) false (nT v i)
    have st : TheInv (j + 1) e it d := ⟨(v, c, f), ji, okB_up ok, RX_paths hx f2 f4, d2, ImOK_up hi, SX_paths hsx f4⟩
    have gi : jin (nI i) 16 = true := jin_nI (by omega) (by omega)
    have gH : jin (nI (nH v i)) 8 = true := jin_nI (by omega) (by omega)
    have gT : jin (nI (nT v i)) 8 = true := jin_nI (by omega) (by omega)
    have ji' : jix (nI i) = i := jix_nI (by omega)
    have jH : jix (nI (nH v i)) = nH v i := jix_nI (by omega)
    have jT : jix (nI (nT v i)) = nT v i := jix_nI (by omega)
    have mj : ∀ r, (ff = 0 → r = 0) → (ff ≠ 0 → r = nI A) → j_m_bounds_21 n d (nI i) (if g then 1 else 0) (nI (if g then 0 else 2 ^ nN v - 1)) = some (r, d) := by
      intro r r1 r2
      unfold j_m_bounds_21 j_m_bounds_104
      rw [bnd_s m1]
      by_cases q : ff = 0
      · rw [if_pos q, r1 q]
      · rw [if_neg q, r2 q]
    have xstart : f_x_bounds n σ (nI i) (if g then 1 else 0) = (if (hl v (bof 0) true (nH v i)).testBit (nT v i) = true then some ((0 : Int32), e) else some (nI (if g then 2 ^ nN v - 1 &&& (hl v (bof 0) false (nT v i) ^^^ (2 ^ 32 - 1)) else hl v (bof 0) true (nH v i)), e)) := by
      unfold f_x_bounds j_x_bounds_116
      rw [bnd_s e1, if_neg (by decide)]
      simp only [gi, grd_tt, ji', x3, x4]
      rw [bnd_s f1, jH, jT, (f5 _ t2).1, (f5 _ t1).2, grd_t gH, grd_t gH]
      rw [bnd_s (p_contains n (by omega) (by omega))]
      by_cases q : (hl v (bof 0) true (nH v i)).testBit (nT v i) = true
      · rw [if_pos q, if_neg (by decide), if_pos q]
      · rw [if_neg q, if_pos rfl, if_neg q]
        cases g
        · rw [if_pos (by decide)]; rfl
        · rw [if_neg (by decide), bnd_s (p_allNodes (by rw [f2 128 (by decide)]; exact hxv.1) n8), grd_t gT, show (-1 : Int32) = nI (2 ^ 32 - 1) from by decide, xor_nI, and_nI]; rfl
    rw [xstart]
    by_cases hr : HR v (bof 0) true (nH v i) (nT v i)
    · have hne : ¬ entd v i (sidesOf v).length := by
        rw [entd_iff]
        rintro ⟨s, s1, s2⟩
        obtain ⟨_, _, s3⟩ := mem_sides.mp s1
        obtain ⟨s4, s5⟩ := en_iff.mp s2
        have : s.testBit (nT v i) = true := hr _ (cl_of_side k16 s3) s4
        rw [s5] at this; cases this
      rw [if_pos (hl_bit.mpr ⟨t1, hr⟩)]
      exact ⟨0, e, d, rfl, mj 0 (fun _ => rfl) (fun q => absurd (m4.mpr hne) q), st⟩
    · have hbit : ¬ (hl v (bof 0) true (nH v i)).testBit (nT v i) = true := fun q => hr (hl_bit.mp q).2
      rw [if_neg hbit]
      cases g with
      | false =>
        have hs1 : hl v (bof 0) true (nH v i) ∈ sidesOf v := by
          refine in_side l1 (hl_bit.mpr ⟨t2, HR_refl _⟩) (by simpa using hbit) t1 (side_of_cl ?_)
          intro k hk
          obtain ⟨u1, u2, _⟩ := okv.2.2.2 k hk
          refine ⟨fun q => ?_, fun q => by rw [bof_0 (by omega)] at q; cases q⟩
          exact hl_bit.mpr ⟨u2, HR_trans (hl_bit.mp q).2 (HR_arc hk)⟩
        have hs2 : en v (hl v (bof 0) true (nH v i)) i = true := en_iff.mpr ⟨hl_bit.mpr ⟨t2, HR_refl _⟩, by simpa using hbit⟩
        have hA : A = hl v (bof 0) true (nH v i) := by
          apply Nat.eq_of_testBit_eq
          intro w
          rw [Bool.eq_iff_iff, m3 w, bacc_f]
          constructor
          · rintro ⟨_, q⟩; exact q _ hs1 hs2
          · intro q
            refine ⟨(hl_bit.mp q).1, fun s s1 s2 => ?_⟩
            exact (hl_bit.mp q).2 _ (cl_of_side k16 (mem_sides.mp s1).2.2) (en_iff.mp s2).1
        refine ⟨_, e, d, rfl, mj _ (fun q => ?_) (fun _ => by rw [hA]; rfl), st⟩
        exact absurd (entd_iff.mpr ⟨_, hs1, hs2⟩) (m4.mp q)
      | true =>
        have hbb : ∀ w, (2 ^ nN v - 1 &&& (hl v (bof 0) false (nT v i) ^^^ (2 ^ 32 - 1))).testBit w = true ↔ w < nN v ∧ ¬ HR v (bof 0) true w (nT v i) := by
          intro w
          rw [Nat.testBit_and, Nat.testBit_xor, Nat.testBit_two_pow_sub_one, Nat.testBit_two_pow_sub_one, Bool.and_eq_true, decide_eq_true_eq]
          constructor
          · rintro ⟨q1, q2⟩
            refine ⟨q1, fun q3 => ?_⟩
            rw [show (hl v (bof 0) false (nT v i)).testBit w = true from hl_bit.mpr ⟨q1, HR_dual.mpr q3⟩] at q2
            simp [show w < 32 by omega] at q2
          · rintro ⟨q1, q2⟩
            refine ⟨q1, ?_⟩
            have : (hl v (bof 0) false (nT v i)).testBit w = false := by
              cases q3 : (hl v (bof 0) false (nT v i)).testBit w with
              | false => rfl
              | true => exact absurd (HR_dual.mp (hl_bit.mp q3).2) q2
            rw [this]
            simp [show w < 32 by omega]
        have hlt : 2 ^ nN v - 1 &&& (hl v (bof 0) false (nT v i) ^^^ (2 ^ 32 - 1)) < 2 ^ nN v := Nat.lt_of_le_of_lt Nat.and_le_left (by omega)
        have hT : (2 ^ nN v - 1 &&& (hl v (bof 0) false (nT v i) ^^^ (2 ^ 32 - 1))).testBit (nT v i) = false := by
          cases q : (2 ^ nN v - 1 &&& (hl v (bof 0) false (nT v i) ^^^ (2 ^ 32 - 1))).testBit (nT v i) with
          | false => rfl
          | true => exact absurd (HR_refl _) ((hbb _).mp q).2
        have hs1 : 2 ^ nN v - 1 &&& (hl v (bof 0) false (nT v i) ^^^ (2 ^ 32 - 1)) ∈ sidesOf v := by
          refine in_side hlt ((hbb _).mpr ⟨t2, hr⟩) hT t1 (side_of_cl ?_)
          intro k hk
          obtain ⟨u1, u2, _⟩ := okv.2.2.2 k hk
          refine ⟨fun q => ?_, fun q => by rw [bof_0 (by omega)] at q; cases q⟩
          exact (hbb _).mpr ⟨u2, fun z => ((hbb _).mp q).2 (HR_trans (HR_arc hk) z)⟩
        have hs2 : en v (2 ^ nN v - 1 &&& (hl v (bof 0) false (nT v i) ^^^ (2 ^ 32 - 1))) i = true := en_iff.mpr ⟨(hbb _).mpr ⟨t2, hr⟩, hT⟩
        have hA : A = 2 ^ nN v - 1 &&& (hl v (bof 0) false (nT v i) ^^^ (2 ^ 32 - 1)) := by
          apply Nat.eq_of_testBit_eq
          intro w
          rw [Bool.eq_iff_iff, m3 w, bacc_t]
          constructor
          · rintro ⟨q0, s, s1, s2, s3⟩
            refine (hbb w).mpr ⟨q0, fun z => ?_⟩
            have : s.testBit (nT v i) = true := z _ (cl_of_side k16 (mem_sides.mp s1).2.2) s3
            rw [(en_iff.mp s2).2] at this; cases this
          · intro q
            exact ⟨((hbb w).mp q).1, _, hs1, hs2, q⟩
        refine ⟨_, e, d, rfl, mj _ (fun q => ?_) (fun _ => by rw [hA]; rfl), st⟩
        exact absurd (entd_iff.mpr ⟨_, hs1, hs2⟩) (m4.mp q)
  · refine ⟨0, σ, d, ?_, ?_, stay⟩
    · unfold f_x_bounds; rw [bnd_s e1, if_pos rfl]
    · have hlp : lp (b_m_bounds_28 n d a (if g then 1 else 0)) n (nI (if g then 0 else 2 ^ nN v - 1), (0 : Int32), (0 : Int32)) = some (nI (if g then 0 else 2 ^ nN v - 1), (0 : Int32)) := by
        refine lp_for (fun _ => (nI (if g then 0 else 2 ^ nN v - 1), (0 : Int32), (0 : Int32))) 0 (fun s hs => absurd hs (Nat.not_lt_zero _)) ?_ n (by omega)
        unfold b_m_bounds_28
        rw [bnd_s e2]
        by_cases q : d.1 25 ≤ 0
        · rw [if_pos q]
        · rw [if_neg q, if_pos rfl]
      unfold j_m_bounds_21 j_m_bounds_104
      rw [bnd_s hlp, if_pos rfl]
