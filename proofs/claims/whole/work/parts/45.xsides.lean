/-! the class's sides -/
theorem gb_or (p q : Nat → Bool) (m : Nat) : gb p m ||| gb q m = gb (fun i => p i || q i) m := by
  apply Nat.eq_of_testBit_eq
  intro i
  rw [Nat.testBit_or, gb_bit, gb_bit, gb_bit]
  cases decide (i < m) <;> simp
theorem gb_congr {p q : Nat → Bool} : ∀ m, (∀ i, i < m → p i = q i) → gb p m = gb q m := by
  intro m
  induction m with
  | zero => exact fun _ => rfl
  | succ m ih =>
    intro h
    show gb p m + _ = gb q m + _
    rw [ih (fun i hi => h i (by omega)), h m (by omega)]
theorem p_arcsAt_t {σ : ST} {v : NV} (hK : σ.1 129 = nI (nK v)) (k16 : nK v ≤ 16) (har : ∀ i, i < nK v → σ.2 3 i = nI (nT v i) ∧ nT v i < 8) (n : Nat) (hn : 1000 ≤ n) {u : Nat} (hu : u < 8) : f_Net_arcsAt_t n σ (nI u) = some (nI (gb (fun i => decide (nT v i = u)) (nK v))) := by
  have hl : lp (b_Net_arcsAt_t_5 n σ (nI u)) n ((0 : Int32), (0 : Int32)) = some (nI (gb (fun i => decide (nT v i = u)) (nK v))) := by
    refine lp_for (fun i => (nI (gb (fun i => decide (nT v i = u)) i), nI i)) (nK v) (fun i hi => ?_) ?_ n (by omega)
    · obtain ⟨h1, h2⟩ := har i hi
      have gi : jin (nI i) 16 = true := jin_nI (by omega) (by omega)
      have hlt := gb_lt (fun i => decide (nT v i = u)) i
      have hb : gb (fun i => decide (nT v i = u)) (i + 1) = gb (fun i => decide (nT v i = u)) i + if decide (nT v i = u) then 2 ^ i else 0 := rfl
      unfold b_Net_arcsAt_t_5 j_Net_arcsAt_t_29_5
      show (if σ.1 129 ≤ nI i then _ else grd (jin (nI i) 16) (if σ.2 3 (jix (nI i)) = nI u then nam (nI (gb (fun i => decide (nT v i = u)) i) ||| jshl 1 (nI i)) (fun x => some (Sum.inl (x, nI i + 1))) else some (Sum.inl (nI (gb (fun i => decide (nT v i = u)) i), nI i + 1)))) = _
      rw [hK, if_neg (nI_ge hi (by omega)), grd_t gi, jix_nI (by omega), h1, nam_e, or_bit hlt (by omega), show nI i + (1 : Int32) = nI (i + 1) from nI_1 i, hb]
      by_cases hT : nT v i = u
      · rw [if_pos (by rw [hT]), if_pos (by simpa using hT)]
      · rw [if_neg (fun q => hT (nI_inj (by omega) (by omega) q)), if_neg (by simpa using hT)]; rfl
    · unfold b_Net_arcsAt_t_5
      show (if σ.1 129 ≤ nI (nK v) then _ else _) = _
      rw [hK, if_pos (nI_le (Nat.le_refl _) (by omega))]
  unfold f_Net_arcsAt_t
  rw [bnd_s hl]
theorem p_arcsAt_h {σ : ST} {v : NV} (hK : σ.1 129 = nI (nK v)) (k16 : nK v ≤ 16) (har : ∀ i, i < nK v → σ.2 4 i = nI (nH v i) ∧ nH v i < 8) (n : Nat) (hn : 1000 ≤ n) {u : Nat} (hu : u < 8) : f_Net_arcsAt_h n σ (nI u) = some (nI (gb (fun i => decide (nH v i = u)) (nK v))) := by
  have hl : lp (b_Net_arcsAt_h_5 n σ (nI u)) n ((0 : Int32), (0 : Int32)) = some (nI (gb (fun i => decide (nH v i = u)) (nK v))) := by
    refine lp_for (fun i => (nI (gb (fun i => decide (nH v i = u)) i), nI i)) (nK v) (fun i hi => ?_) ?_ n (by omega)
    · obtain ⟨h1, h2⟩ := har i hi
      have gi : jin (nI i) 16 = true := jin_nI (by omega) (by omega)
      have hlt := gb_lt (fun i => decide (nH v i = u)) i
      have hb : gb (fun i => decide (nH v i = u)) (i + 1) = gb (fun i => decide (nH v i = u)) i + if decide (nH v i = u) then 2 ^ i else 0 := rfl
      unfold b_Net_arcsAt_h_5 j_Net_arcsAt_h_29_5
      show (if σ.1 129 ≤ nI i then _ else grd (jin (nI i) 16) (if σ.2 4 (jix (nI i)) = nI u then nam (nI (gb (fun i => decide (nH v i = u)) i) ||| jshl 1 (nI i)) (fun x => some (Sum.inl (x, nI i + 1))) else some (Sum.inl (nI (gb (fun i => decide (nH v i = u)) i), nI i + 1)))) = _
      rw [hK, if_neg (nI_ge hi (by omega)), grd_t gi, jix_nI (by omega), h1, nam_e, or_bit hlt (by omega), show nI i + (1 : Int32) = nI (i + 1) from nI_1 i, hb]
      by_cases hT : nH v i = u
      · rw [if_pos (by rw [hT]), if_pos (by simpa using hT)]
      · rw [if_neg (fun q => hT (nI_inj (by omega) (by omega) q)), if_neg (by simpa using hT)]; rfl
    · unfold b_Net_arcsAt_h_5
      show (if σ.1 129 ≤ nI (nK v) then _ else _) = _
      rw [hK, if_pos (nI_le (Nat.le_refl _) (by omega))]
  unfold f_Net_arcsAt_h
  rw [bnd_s hl]
