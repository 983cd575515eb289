/-! the reference's sides and borders -/
theorem sideB_true {v : NV} {s : Nat} : sideB v s = true ↔ ∀ i, i < nK v → lv v s i = false := by
  unfold sideB
  rw [List.all_eq_true]
  constructor
  · intro h i hi
    have := h i (List.mem_range.mpr hi)
    simpa using this
  · intro h i hi
    have := h i (List.mem_range.mp hi)
    simp [this]
theorem p_m_isSide {τ : ST} {v : NV} (hv : isNet (τ.1 1) (τ.1 2) (τ.2 1) (τ.2 2) (τ.2 3) v) (ok : okN v) (n : Nat) (hn : 1000 ≤ n) {s : Nat} (hs : s < 2 ^ 31) : f_m_isSide n τ (nI s) = some (if sideB v s then 1 else 0) := by
  obtain ⟨hN, hK, har⟩ := hv
  obtain ⟨o1, o2, o3, o4⟩ := ok
  have one : ∀ i, i < nK v → b_m_isSide_2 n τ (nI s) (nI i) = if lv v s i then some (.inr (.inr 0)) else some (.inl (nI (i + 1))) := by
    intro i hi
    obtain ⟨h1, h2, h3⟩ := har i hi
    obtain ⟨g1, g2, g3⟩ := o4 i hi
    have gi : jin (nI i) 16 = true := jin_nI (by omega) (by omega)
    unfold b_m_isSide_2 j_m_isSide_38_2
    rw [hK, if_neg (nI_ge hi (by omega)), grd_t gi, jix_nI (by omega), h1, h2, grd_t gi, show nI i + (1 : Int32) = nI (i + 1) from nI_1 i]
    by_cases hT : s.testBit (nT v i) = true
    · rw [if_neg (fun q => by rw [(bit_nI hs (by omega)).mp q] at hT; cases hT)]
      by_cases hH : s.testBit (nH v i) = true
      · rw [if_neg (fun q => by rw [(bit_nI hs (by omega)).mp q] at hH; cases hH), if_neg (by simp [lv, hH])]
      · rw [if_pos ((bit_nI hs (by omega)).mpr (by simpa using hH)), if_pos (by simp [lv, hT, hH])]
    · rw [if_pos ((bit_nI hs (by omega)).mpr (by simpa using hT)), if_neg (by simp [lv, hT])]
  by_cases hall : sideB v s = true
  · have hl : lp (b_m_isSide_2 n τ (nI s)) n (0 : Int32) = some (.inl ()) := by
      refine lp_for (fun i => nI i) (nK v) (fun i hi => ?_) ?_ n (by omega)
      · rw [one i hi, if_neg (by rw [sideB_true.mp hall i hi]; decide)]
      · unfold b_m_isSide_2
        rw [hK, if_pos (nI_le (Nat.le_refl _) (by omega))]
    unfold f_m_isSide
    rw [bnd_s hl, if_pos hall]
    rfl
  · have hex : ∃ i, i < nK v ∧ lv v s i = true := by
      apply Classical.byContradiction
      intro hno
      apply hall
      rw [sideB_true]
      intro i hi
      cases hc : lv v s i with
      | false => rfl
      | true => exact absurd ⟨i, hi, hc⟩ hno
    obtain ⟨i, ⟨hi, hli⟩, hmin⟩ := pk_least (fun i => i < nK v ∧ lv v s i = true) hex
    have hl : lp (b_m_isSide_2 n τ (nI s)) n (0 : Int32) = some (.inr 0) := by
      refine lp_for (fun i => nI i) i (fun q hq => ?_) ?_ n (by omega)
      · have hq1 : q < nK v := by omega
        rw [one q hq1, if_neg (fun hc => hmin q hq ⟨hq1, hc⟩)]
      · rw [one i hi, if_pos hli]
    unfold f_m_isSide
    rw [bnd_s hl, if_neg hall]
    rfl
theorem p_m_borderOf {τ : ST} {v : NV} (hv : isNet (τ.1 1) (τ.1 2) (τ.2 1) (τ.2 2) (τ.2 3) v) (ok : okN v) (n : Nat) (hn : 1000 ≤ n) {s : Nat} (hs : s < 2 ^ 31) : f_m_borderOf n τ (nI s) = some (nI (bor v s)) := by
  obtain ⟨hN, hK, har⟩ := hv
  obtain ⟨o1, o2, o3, o4⟩ := ok
  have hl : lp (b_m_borderOf_4 n τ (nI s)) n ((0 : Int32), (0 : Int32)) = some (nI (bor v s)) := by
    refine lp_for (fun i => (nI (bord v s i), nI i)) (nK v) (fun i hi => ?_) ?_ n (by omega)
    · obtain ⟨h1, h2, h3⟩ := har i hi
      obtain ⟨g1, g2, g3⟩ := o4 i hi
      have gi : jin (nI i) 16 = true := jin_nI (by omega) (by omega)
      have hlt : bord v s i < 2 ^ i := by rw [bord_gb]; exact gb_lt _ _
      have hb : bord v s (i + 1) = bord v s i + if en v s i then 2 ^ i else 0 := rfl
      unfold b_m_borderOf_4 j_m_borderOf_45_4 j_m_borderOf_46_4
      show (if τ.1 2 ≤ nI i then _ else grd (jin (nI i) 16) (if (jshr (nI s) (τ.2 2 (jix (nI i))) &&& 1) = 0 then some (Sum.inl (nI (bord v s i) ||| 0, nI i + 1)) else grd (jin (nI i) 16) (if (jshr (nI s) (τ.2 1 (jix (nI i))) &&& 1) = 0 then some (Sum.inl (nI (bord v s i) ||| jshl 1 (nI i), nI i + 1)) else some (Sum.inl (nI (bord v s i) ||| 0, nI i + 1))))) = _
      rw [hK, if_neg (nI_ge hi (by omega)), grd_t gi, grd_t gi, jix_nI (by omega), h1, h2, show nI i + (1 : Int32) = nI (i + 1) from nI_1 i, or_bit hlt (by omega), show nI (bord v s i) ||| (0 : Int32) = nI (bord v s i) from by rw [show (0 : Int32) = nI 0 from rfl, or_nI, Nat.or_zero], hb]
      by_cases hH : s.testBit (nH v i) = true
      · rw [if_neg (fun q => by rw [(bit_nI hs (by omega)).mp q] at hH; cases hH)]
        by_cases hT : s.testBit (nT v i) = true
        · rw [if_neg (fun q => by rw [(bit_nI hs (by omega)).mp q] at hT; cases hT), if_neg (by simp [en, hT])]; rfl
        · rw [if_pos ((bit_nI hs (by omega)).mpr (by simpa using hT)), if_pos (by simp [en, hH, hT])]
      · rw [if_pos ((bit_nI hs (by omega)).mpr (by simpa using hH)), if_neg (by simp [en, hH])]; rfl
    · unfold b_m_borderOf_4
      show (if τ.1 2 ≤ nI (nK v) then _ else _) = _
      rw [hK, if_pos (nI_le (Nat.le_refl _) (by omega))]
      rfl
  unfold f_m_borderOf
  rw [bnd_s hl]
