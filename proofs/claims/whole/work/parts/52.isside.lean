/-! the class's isSide -/
theorem gb_zero {p : Nat → Bool} {m : Nat} : gb p m = 0 ↔ ∀ i, i < m → p i = false := by
  constructor
  · intro h i hi
    have h1 := gb_bit p m i
    rw [h, Nat.zero_testBit] at h1
    simpa [hi] using h1.symm
  · intro h
    rw [gb_congr (q := fun _ => false) m h]
    exact gb_false m
theorem co_bit {N s t : Nat} (ht : t < N) (hN : N ≤ 8) (hs : s < 2 ^ N) : (2 ^ N - 1 &&& (s ^^^ (2 ^ 32 - 1))).testBit t = !s.testBit t := by
  rw [Nat.testBit_and, Nat.testBit_xor, Nat.testBit_two_pow_sub_one, Nat.testBit_two_pow_sub_one]
  simp [ht, show t < 32 by omega]
theorem p_Net_isSide {σ : ST} {v : NV} (hv : isNet (σ.1 128) (σ.1 129) (σ.2 3) (σ.2 4) (σ.2 5) v) (ok : okN v) (n : Nat) (hn : 1000 ≤ n) (a : Int32) : (∃ s, 1 ≤ s ∧ s < 2 ^ nN v - 1 ∧ a = nI s ∧ f_Net_isSide n σ a = some (if sideB v s then 1 else 0)) ∨ ((a ≤ 0 ∨ nI (2 ^ nN v - 1) ≤ a) ∧ f_Net_isSide n σ a = some 0) := by
  have hp8 : 2 ^ nN v ≤ 2 ^ 8 := Nat.pow_le_pow_right (by decide) ok.2.1
  have hp1 : 2 ^ 1 ≤ 2 ^ nN v := Nat.pow_le_pow_right (by decide) ok.1
  unfold f_Net_isSide j_Net_isSide_24 j_Net_isSide_25
  by_cases h0 : a ≤ 0
  · refine Or.inr ⟨Or.inl h0, ?_⟩
    rw [if_pos h0]; rfl
  rw [if_neg h0, bnd_s (p_allNodes hv.1 ok.2.1)]
  by_cases h1 : nI (2 ^ nN v - 1) ≤ a
  · refine Or.inr ⟨Or.inr h1, ?_⟩
    rw [if_pos h1]; rfl
  rw [if_neg h1]
  have hneg : ¬ a < 0 := fun q => h0 (Int32.le_of_lt q)
  obtain ⟨s, hs31, rfl⟩ := nI_of hneg
  have hs1 : 1 ≤ s := by
    rcases Nat.eq_zero_or_pos s with q | q
    · subst q; exact absurd (show nI 0 ≤ 0 by decide) h0
    · exact q
  have hs2 : s < 2 ^ nN v - 1 := by
    rcases Nat.lt_or_ge s (2 ^ nN v - 1) with q | q
    · exact q
    · exact absurd (nI_le q hs31) h1
  refine Or.inl ⟨s, hs1, hs2, rfl, ?_⟩
  have hco : nI (2 ^ nN v - 1) &&& (nI s ^^^ (-1 : Int32)) = nI (2 ^ nN v - 1 &&& (s ^^^ (2 ^ 32 - 1))) := by
    rw [show (-1 : Int32) = nI (2 ^ 32 - 1) from by decide, xor_nI, and_nI]
  have hlt : 2 ^ nN v - 1 &&& (s ^^^ (2 ^ 32 - 1)) < 2 ^ 31 := Nat.lt_of_le_of_lt Nat.and_le_left (by omega)
  have hlv : f_Net_leaving n σ (nI s) = some (nI (bor v (2 ^ nN v - 1 &&& (s ^^^ (2 ^ 32 - 1))))) := by
    unfold f_Net_leaving
    rw [bnd_s (p_allNodes hv.1 ok.2.1), hco, bnd_s (p_entering hv ok n hn hlt)]
  have key : bor v (2 ^ nN v - 1 &&& (s ^^^ (2 ^ 32 - 1))) = 0 ↔ sideB v s = true := by
    unfold bor
    rw [bord_gb, gb_zero, sideB_true]
    have e : ∀ i, i < nK v → en v (2 ^ nN v - 1 &&& (s ^^^ (2 ^ 32 - 1))) i = lv v s i := by
      intro i hi
      obtain ⟨g1, g2, g3⟩ := ok.2.2.2 i hi
      unfold en lv
      rw [co_bit g1 ok.2.1 (by omega), co_bit g2 ok.2.1 (by omega), Bool.not_not, Bool.and_comm]
    exact ⟨fun h i hi => by rw [← e i hi]; exact h i hi, fun h i hi => by rw [e i hi]; exact h i hi⟩
  have hb := bor_lt v (2 ^ nN v - 1 &&& (s ^^^ (2 ^ 32 - 1)))
  have hk : 2 ^ nK v ≤ 2 ^ 16 := Nat.pow_le_pow_right (by decide) ok.2.2.1
  rw [bnd_s hlv]
  by_cases hsd : sideB v s = true
  · rw [key.mpr hsd, if_pos (show nI 0 = (0 : Int32) from rfl), if_pos hsd]; rfl
  · rw [if_neg (show ¬ nI (bor v (2 ^ nN v - 1 &&& (s ^^^ (2 ^ 32 - 1)))) = (0 : Int32) from fun q => hsd (key.mp (nI_inj (by omega) (by decide) q))), if_neg hsd]; rfl
