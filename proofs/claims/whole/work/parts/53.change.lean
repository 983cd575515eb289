/-! Family.change -/
theorem p_change {σ : ST} {s B : Nat} (hs : s < 256) (hB : B < 2 ^ 31) (m : Int32) (n : Nat) (hn : 1000 ≤ n) : ∃ e, f_Fam_change n σ (nI s) (nI B) m = some e ∧ e.1 = σ.1 ∧ e.2 7 = upd (σ.2 7) s (σ.2 7 s + m) ∧ (∀ a, a < 16 → e.2 8 a = if B.testBit a then σ.2 8 a + m else σ.2 8 a) ∧ ∀ q, q ≠ 7 → q ≠ 8 → e.2 q = σ.2 q := by
  obtain ⟨e, he, h1, h2, h3⟩ := lp_inv (body := b_Fam_change_13 n (nI B) m) (fun (i : Nat) (t : ST × Int32) => t.2 = nI i ∧ t.1.1 = σ.1 ∧ (∀ a, a < 16 → t.1.2 8 a = if a < i ∧ B.testBit a = true then σ.2 8 a + m else σ.2 8 a) ∧ ∀ q, q ≠ 8 → t.1.2 q = (sA σ 7 (upd (σ.2 7) s (σ.2 7 s + m))).2 q) (fun (e : ST) => e.1 = σ.1 ∧ (∀ a, a < 16 → e.2 8 a = if B.testBit a then σ.2 8 a + m else σ.2 8 a) ∧ ∀ q, q ≠ 8 → e.2 q = (sA σ 7 (upd (σ.2 7) s (σ.2 7 s + m))).2 q) 16 (by
      intro i t hi ⟨g1, g2, g3, g4⟩
      obtain ⟨ρ, y⟩ := t
      subst g1
      have g3 : ∀ a, a < 16 → ρ.2 8 a = if a < i ∧ B.testBit a = true then σ.2 8 a + m else σ.2 8 a := g3
      have gi : jin (nI i) 16 = true := jin_nI hi (by omega)
      have e1 : jix (nI i) = i := jix_nI (by omega)
      have r8 : ρ.2 8 i = σ.2 8 i := by rw [g3 i hi, if_neg (fun q => Nat.lt_irrefl _ q.1)]
      by_cases hb : B.testBit i = true
      · refine ⟨(sA ρ 8 (upd (ρ.2 8) i (ρ.2 8 i + m)), nI (i + 1)), ?_, rfl, g2, ?_, ?_⟩
        · unfold b_Fam_change_13 j_Fam_change_40_13
          show (if (16 : Int32) ≤ nI i then _ else bnd (f_contains n (nI B) (nI i)) _) = _
          rw [if_neg (show ¬ (16 : Int32) ≤ nI i from nI_ge (b := 16) hi (by decide)), bnd_s (p_contains n hB (by omega)), if_pos hb, if_neg (by decide)]
          simp only [nam_e, e1, grd_t gi]
          rw [show nI i + (1 : Int32) = nI (i + 1) from nI_1 i]
        · intro a ha
          show upd (ρ.2 8) i (ρ.2 8 i + m) a = _
          by_cases hai : a = i
          · subst hai; rw [upd_s, r8, if_pos ⟨Nat.lt_succ_self _, hb⟩]
          · rw [upd_n hai, g3 a ha]
            by_cases h5 : a < i ∧ B.testBit a = true
            · rw [if_pos h5, if_pos ⟨by omega, h5.2⟩]
            · rw [if_neg h5, if_neg (fun q => h5 ⟨by omega, q.2⟩)]
        · intro q hq
          show (sA ρ 8 _).2 q = _
          rw [sA2n _ _ hq]; exact g4 q hq
      · refine ⟨(ρ, nI (i + 1)), ?_, rfl, g2, ?_, g4⟩
        · unfold b_Fam_change_13 j_Fam_change_40_13
          show (if (16 : Int32) ≤ nI i then _ else bnd (f_contains n (nI B) (nI i)) _) = _
          rw [if_neg (show ¬ (16 : Int32) ≤ nI i from nI_ge (b := 16) hi (by decide)), bnd_s (p_contains n hB (by omega)), if_neg hb, if_pos rfl, show nI i + (1 : Int32) = nI (i + 1) from nI_1 i]
        · intro a ha
          show ρ.2 8 a = _
          rw [g3 a ha]
          by_cases h5 : a < i ∧ B.testBit a = true
          · rw [if_pos h5, if_pos ⟨by omega, h5.2⟩]
          · rw [if_neg h5, if_neg]
            intro q
            rcases (show a < i ∨ a = i by omega) with q1 | q1
            · exact h5 ⟨q1, q.2⟩
            · subst q1; exact hb q.2) (by
      intro t ⟨g1, g2, g3, g4⟩
      refine ⟨t.1, ?_, g2, fun a ha => ?_, g4⟩
      · unfold b_Fam_change_13
        rw [g1, if_pos (by decide)]
      · rw [g3 a ha]
        by_cases hb : B.testBit a = true
        · rw [if_pos ⟨ha, hb⟩, if_pos hb]
        · rw [if_neg (fun q => hb q.2), if_neg hb]) n 0 (sA σ 7 (upd (σ.2 7) s (σ.2 7 s + m)), (0 : Int32)) (Nat.zero_le _) (by omega) ⟨rfl, rfl, fun a ha => by rw [if_neg (fun q => Nat.not_lt_zero _ q.1)]; rfl, fun _ _ => rfl⟩
  refine ⟨e, ?_, h1, ?_, h2, fun q q7 q8 => ?_⟩
  · unfold f_Fam_change
    rw [grd_t (jin_nI hs (by omega)), grd_t (jin_nI hs (by omega)), nam_e, jix_nI (by omega), bnd_s he]
  · rw [h3 7 (by decide), sA2s]
  · rw [h3 q q8, sA2n _ _ q7]
