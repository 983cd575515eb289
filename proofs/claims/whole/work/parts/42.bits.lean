/-! sets of numbers as bits, built one by one -/
def gb (p : Nat → Bool) : Nat → Nat
  | 0 => 0
  | m + 1 => gb p m + if p m then 2 ^ m else 0
theorem gb_lt (p : Nat → Bool) : ∀ m, gb p m < 2 ^ m := by
  intro m
  induction m with
  | zero => exact Nat.one_pos
  | succ m ih =>
    show gb p m + (if p m then 2 ^ m else 0) < 2 ^ (m + 1)
    rw [Nat.pow_succ]
    by_cases h : p m = true
    · rw [if_pos h]; omega
    · rw [if_neg h]; omega
theorem add_pow_or {a m : Nat} (h : a < 2 ^ m) : a + 2 ^ m = a ||| 2 ^ m := by
  have h1 := Nat.two_pow_add_eq_or_of_lt h 1
  rw [Nat.mul_one] at h1
  rw [Nat.add_comm, h1, Nat.or_comm]
theorem gb_bit (p : Nat → Bool) : ∀ m i, (gb p m).testBit i = (decide (i < m) && p i) := by
  intro m
  induction m with
  | zero => intro i; show (0 : Nat).testBit i = _; simp
  | succ m ih =>
    intro i
    show (gb p m + (if p m then 2 ^ m else 0)).testBit i = _
    by_cases h : p m = true
    · rw [if_pos h, add_pow_or (gb_lt p m), Nat.testBit_or, ih, Nat.testBit_two_pow]
      by_cases hi : m = i
      · subst hi
        simp [h]
      · have h1 : decide (i < m + 1) = decide (i < m) := by
          apply decide_eq_decide.mpr; omega
        rw [h1]
        simp [hi]
    · rw [if_neg h, Nat.add_zero, ih]
      by_cases hi : i = m
      · subst hi
        simp [h]
      · have h1 : decide (i < m + 1) = decide (i < m) := by
          apply decide_eq_decide.mpr; omega
        rw [h1]
theorem bord_gb (v : NV) (s : Nat) : ∀ m, bord v s m = gb (en v s) m := by
  intro m
  induction m with
  | zero => rfl
  | succ m ih => show bord v s m + _ = gb (en v s) m + _; rw [ih]
theorem or_bit {a m : Nat} (h : a < 2 ^ m) (hm : m < 31) : nI a ||| jshl (1 : Int32) (nI m) = nI (a + 2 ^ m) := by
  have hp : 2 ^ m ≤ 2 ^ 30 := Nat.pow_le_pow_right (by decide) (by omega)
  rw [show (1 : Int32) = nI 1 from rfl, jshl_nI (by omega) (by omega), Nat.one_mul, or_nI, add_pow_or h]
theorem bor_lt (v : NV) (s : Nat) : bor v s < 2 ^ nK v := by unfold bor; rw [bord_gb]; exact gb_lt _ _
theorem p_entering {σ : ST} {v : NV} (hv : isNet (σ.1 128) (σ.1 129) (σ.2 3) (σ.2 4) (σ.2 5) v) (ok : okN v) (n : Nat) (hn : 1000 ≤ n) {s : Nat} (hs : s < 2 ^ 31) : f_Net_entering n σ (nI s) = some (nI (bor v s)) := by
  obtain ⟨hN, hK, har⟩ := hv
  obtain ⟨o1, o2, o3, o4⟩ := ok
  have hl : lp (b_Net_entering_4 n σ (nI s)) n ((0 : Int32), (0 : Int32)) = some (nI (bor v s)) := by
    refine lp_for (fun i => (nI (bord v s i), nI i)) (nK v) (fun i hi => ?_) ?_ n (by omega)
    · obtain ⟨h1, h2, h3⟩ := har i hi
      obtain ⟨g1, g2, g3⟩ := o4 i hi
      unfold b_Net_entering_4 j_Net_entering_44_4
      show (if σ.1 129 ≤ nI i then _ else _) = _
      rw [hK, if_neg (nI_ge hi (by omega))]
      show grd (jin (nI i) 16) _ = _
      have gi : jin (nI i) 16 = true := jin_nI (by omega) (by omega)
      rw [grd_t gi]
      show bnd (f_contains n (nI s) (σ.2 4 (jix (nI i)))) _ = _
      rw [jix_nI (by omega), h2, bnd_s (p_contains n hs (by omega))]
      have hlt : bord v s i < 2 ^ i := by rw [bord_gb]; exact gb_lt _ _
      have hb : bord v s (i + 1) = bord v s i + if en v s i then 2 ^ i else 0 := rfl
      by_cases hH : s.testBit (nH v i) = true
      · rw [if_pos hH, if_neg (by decide)]
        show grd (jin (nI i) 16) (bnd (f_contains n (nI s) (σ.2 3 i)) _) = _
        rw [grd_t gi, h1, bnd_s (p_contains n hs (by omega))]
        by_cases hT : s.testBit (nT v i) = true
        · rw [if_pos hT, if_neg (by decide), hb, if_neg (by simp [en, hT])]
          show some (Sum.inl (nI (bord v s i), nI i + 1)) = _
          rw [show nI i + (1 : Int32) = nI (i + 1) from nI_1 i]
          rfl
        · rw [if_neg hT, if_pos rfl, hb, if_pos (by simp [en, hH, hT]), nam_e]
          show some (Sum.inl (nI (bord v s i) ||| jshl 1 (nI i), nI i + 1)) = _
          rw [or_bit hlt (by omega), show nI i + (1 : Int32) = nI (i + 1) from nI_1 i]
      · rw [if_neg hH, if_pos rfl, hb, if_neg (by simp [en, hH])]
        show some (Sum.inl (nI (bord v s i), nI i + 1)) = _
        rw [show nI i + (1 : Int32) = nI (i + 1) from nI_1 i]
        rfl
    · unfold b_Net_entering_4
      show (if σ.1 129 ≤ nI (nK v) then _ else _) = _
      rw [hK, if_pos (nI_le (Nat.le_refl _) (by omega))]
      rfl
  unfold f_Net_entering
  rw [bnd_s hl]
