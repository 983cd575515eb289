/-! Sides.find -/
theorem andnot_0 {a b : Nat} (ha : a < 2 ^ 16) : (nI a &&& (nI b ^^^ (-1 : Int32))) = 0 ↔ ∀ i, a.testBit i = true → b.testBit i = true := by
  rw [show (-1 : Int32) = nI (2 ^ 32 - 1) from by decide, xor_nI, and_nI]
  have hlt : a &&& (b ^^^ (2 ^ 32 - 1)) < 2 ^ 16 := Nat.lt_of_le_of_lt Nat.and_le_left ha
  rw [show (0 : Int32) = nI 0 from rfl, nI_eq (by omega) (by omega)]
  constructor
  · intro h i hi
    have h1 : (a &&& (b ^^^ (2 ^ 32 - 1))).testBit i = false := by rw [h]; exact Nat.zero_testBit _
    rw [Nat.testBit_and, Nat.testBit_xor, Nat.testBit_two_pow_sub_one, hi] at h1
    have h16 : i < 16 := by
      rcases Nat.lt_or_ge i 16 with q | q
      · exact q
      · rw [Nat.testBit_lt_two_pow (Nat.lt_of_lt_of_le ha (Nat.pow_le_pow_right (by decide) q))] at hi; cases hi
    simp [show i < 32 by omega] at h1
    exact h1
  · intro h
    apply Nat.eq_of_testBit_eq
    intro i
    rw [Nat.testBit_and, Nat.testBit_xor, Nat.testBit_two_pow_sub_one, Nat.zero_testBit]
    cases ha1 : a.testBit i with
    | false => rfl
    | true =>
      have h16 : i < 16 := by
        rcases Nat.lt_or_ge i 16 with q | q
        · exact q
        · rw [Nat.testBit_lt_two_pow (Nat.lt_of_lt_of_le ha (Nat.pow_le_pow_right (by decide) q))] at ha1; cases ha1
      rw [h i ha1]
      simp [show i < 32 by omega]
theorem tw_lt (v : NV) (ok : okN v) (s : Nat) : tw v s < 2 ^ 16 := Nat.lt_of_lt_of_le (gb_lt _ _) (Nat.pow_le_pow_right (by decide) ok.2.2.1)
theorem hw_lt (v : NV) (ok : okN v) (s : Nat) : hw v s < 2 ^ 16 := Nat.lt_of_lt_of_le (gb_lt _ _) (Nat.pow_le_pow_right (by decide) ok.2.2.1)
theorem find_side {v : NV} (ok : okN v) (s : Nat) : (nI (tw v s) &&& (nI (hw v s) ^^^ (-1 : Int32))) = 0 ↔ sideB v s = true := by
  rw [andnot_0 (tw_lt v ok s), sideB_true]
  constructor
  · intro h i hi
    have h1 := h i
    unfold tw hw at h1
    rw [gb_bit, gb_bit] at h1
    simp only [hi, decide_true, Bool.true_and] at h1
    unfold lv
    cases hT : s.testBit (nT v i) with
    | false => rfl
    | true => rw [h1 hT]; rfl
  · intro h i hi
    unfold tw at hi
    rw [gb_bit, Bool.and_eq_true, decide_eq_true_eq] at hi
    have h1 := h i hi.1
    unfold hw
    rw [gb_bit, Bool.and_eq_true, decide_eq_true_eq]
    refine ⟨hi.1, ?_⟩
    unfold lv at h1
    rw [hi.2] at h1
    simpa using h1
theorem find_bor {v : NV} (ok : okN v) (s : Nat) : (nI (hw v s) &&& (nI (tw v s) ^^^ (-1 : Int32))) = nI (bor v s) := by
  rw [show (-1 : Int32) = nI (2 ^ 32 - 1) from by decide, xor_nI, and_nI]
  congr 1
  apply Nat.eq_of_testBit_eq
  intro i
  have k16 := ok.2.2.1
  unfold bor
  rw [bord_gb, Nat.testBit_and, Nat.testBit_xor, Nat.testBit_two_pow_sub_one]
  unfold tw hw
  rw [gb_bit, gb_bit, gb_bit]
  by_cases hi : i < nK v
  · simp [hi, show i < 32 by omega, en]
  · simp [hi]
