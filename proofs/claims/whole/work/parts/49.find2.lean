theorem p_allNodes {σ : ST} {N : Nat} (h : σ.1 128 = nI N) (hN : N ≤ 8) : f_Net_allNodes σ = some (nI (2 ^ N - 1)) := by
  unfold f_Net_allNodes
  have hp : 2 ^ N ≤ 2 ^ 8 := Nat.pow_le_pow_right (by decide) hN
  have h1 : 1 ≤ 2 ^ N := Nat.one_le_two_pow
  rw [h, show (1 : Int32) = nI 1 from rfl, jshl_nI (by omega) (by omega), Nat.one_mul, pk_sub h1]
theorem p_find {σ : ST} {v : NV} (hv : isNet (σ.1 128) (σ.1 129) (σ.2 3) (σ.2 4) (σ.2 5) v) (ok : okN v) (hsx : SX σ) (n : Nat) (hn : 1000 ≤ n) : ∃ e, f_Sides_find n σ = some e ∧ (∀ c, c ≠ 832 → e.1 c = σ.1 c) ∧ e.1 832 = nI (sidesOf v).length ∧ (∀ x, x < (sidesOf v).length → e.2 14 x = nI ((sidesOf v).getD x 0) ∧ e.2 15 x = nI (bor v ((sidesOf v).getD x 0))) ∧ (∀ q, q < 14 ∨ 17 < q → e.2 q = σ.2 q) ∧ SX e := by
  obtain ⟨g, hg, hg1, hg2, hg3⟩ := p_gather hv ok hsx n hn
  have hp8 : 2 ^ nN v ≤ 2 ^ 8 := Nat.pow_le_pow_right (by decide) ok.2.1
  have hp1 : 2 ^ 1 ≤ 2 ^ nN v := Nat.pow_le_pow_right (by decide) ok.1
  have hall : f_Net_allNodes (sS g 832 0) = some (nI (2 ^ nN v - 1)) := p_allNodes (by show g.1 128 = _; rw [hg1]; exact hv.1) ok.2.1
  obtain ⟨e, he, h1, h2, h3, h4⟩ := lp_inv (body := b_Sides_find_17 n (nI (2 ^ nN v - 1))) (fun (i : Nat) (s : ST × Int32) => s.2 = nI i ∧ 1 ≤ i ∧ (∀ c, c ≠ 832 → s.1.1 c = σ.1 c) ∧ s.1.1 832 = nI (sidesTo v i).length ∧ (∀ x, x < (sidesTo v i).length → s.1.2 14 x = nI ((sidesTo v i).getD x 0) ∧ s.1.2 15 x = nI (bor v ((sidesTo v i).getD x 0))) ∧ ∀ q, q ≠ 14 → q ≠ 15 → s.1.2 q = g.2 q) (fun (e : ST) => (∀ c, c ≠ 832 → e.1 c = σ.1 c) ∧ e.1 832 = nI (sidesOf v).length ∧ (∀ x, x < (sidesOf v).length → e.2 14 x = nI ((sidesOf v).getD x 0) ∧ e.2 15 x = nI (bor v ((sidesOf v).getD x 0))) ∧ ∀ q, q ≠ 14 → q ≠ 15 → e.2 q = g.2 q) (2 ^ nN v - 1) (by
      intro i s hi ⟨g1, g2, g3, g4, g5, g6⟩
      obtain ⟨ρ, t⟩ := s
      subst g1
      have g3 : ∀ c, c ≠ 832 → ρ.1 c = σ.1 c := g3
      have g4 : ρ.1 832 = nI (sidesTo v i).length := g4
      have g6 : ∀ q, q ≠ 14 → q ≠ 15 → ρ.2 q = g.2 q := g6
      have hlen := sidesTo_len v i
      have hj : jix (nI (sidesTo v i).length) = (sidesTo v i).length := jix_nI (by omega)
      have hjn : jin (nI (sidesTo v i).length) 256 = true := jin_nI (by omega) (by omega)
      have hin : jin (nI i) 256 = true := jin_nI (by omega) (by omega)
      have r16 : ρ.2 16 i = nI (tw v i) := by rw [g6 16 (by decide) (by decide)]; exact (hg2 i (by omega)).1
      have r17 : ρ.2 17 i = nI (hw v i) := by rw [g6 17 (by decide) (by decide)]; exact (hg2 i (by omega)).2
      have e1 : jix (nI i) = i := jix_nI (by omega)
      by_cases hsd : sideB v i = true
      · refine ⟨(sS (sA (sA ρ 14 (upd (ρ.2 14) (sidesTo v i).length (nI i))) 15 (upd (ρ.2 15) (sidesTo v i).length (nI (bor v i)))) 832 (nI ((sidesTo v i).length + 1)), nI (i + 1)), ?_, rfl, by omega, ?_, ?_, ?_, ?_⟩
        · unfold b_Sides_find_17 j_Sides_find_84_17
          show (if nI (2 ^ nN v - 1) ≤ nI i then _ else _) = _
          rw [if_neg (nI_ge hi (by omega))]
          simp only [nam_e, e1, grd_t hin]
          show (if (ρ.2 16 i &&& (ρ.2 17 i ^^^ -1)) = 0 then grd (jin (ρ.1 832) 256) (grd (jin (ρ.1 832) 256) (some (Sum.inl (sS (sA (sA ρ 14 (upd (ρ.2 14) (jix (ρ.1 832)) (nI i))) 15 (upd (ρ.2 15) (jix (ρ.1 832)) (ρ.2 17 i &&& (ρ.2 16 i ^^^ -1)))) 832 (ρ.1 832 + 1), nI i + 1)))) else some (Sum.inl (ρ, nI i + 1))) = _
          rw [r16, r17, if_pos ((find_side ok i).mpr hsd), find_bor ok i, g4, grd_t hjn, grd_t hjn, hj, show nI i + (1 : Int32) = nI (i + 1) from nI_1 i, show nI (sidesTo v i).length + (1 : Int32) = nI ((sidesTo v i).length + 1) from nI_1 _]
        · intro c hc
          show (sS _ 832 _).1 c = _
          rw [sS1n _ _ hc]; exact g3 c hc
        · rw [sS1s, sidesTo_s1 g2 hsd, List.length_append]; rfl
        · intro x hx
          rw [sidesTo_s1 g2 hsd] at hx ⊢
          rw [List.length_append] at hx
          show upd (ρ.2 14) (sidesTo v i).length (nI i) x = _ ∧ upd (ρ.2 15) (sidesTo v i).length (nI (bor v i)) x = _
          by_cases hxl : x = (sidesTo v i).length
          · subst hxl; rw [upd_s, upd_s, getD_last]; exact ⟨rfl, rfl⟩
          · have hx1 : x < (sidesTo v i).length := by
              have : x < (sidesTo v i).length + 1 := hx
              omega
            rw [upd_n hxl, upd_n hxl, getD_app hx1]; exact g5 x hx1
        · intro q q1 q2
          show (sA (sA ρ 14 _) 15 _).2 q = _
          rw [sA2n _ _ q2, sA2n _ _ q1]; exact g6 q q1 q2
      · refine ⟨(ρ, nI (i + 1)), ?_, rfl, by omega, g3, ?_, ?_, g6⟩
        · unfold b_Sides_find_17 j_Sides_find_84_17
          show (if nI (2 ^ nN v - 1) ≤ nI i then _ else _) = _
          rw [if_neg (nI_ge hi (by omega))]
          simp only [nam_e, e1, grd_t hin]
          show (if (ρ.2 16 i &&& (ρ.2 17 i ^^^ -1)) = 0 then _ else some (Sum.inl (ρ, nI i + 1))) = _
          rw [r16, r17, if_neg (fun q => hsd ((find_side ok i).mp q)), show nI i + (1 : Int32) = nI (i + 1) from nI_1 i]
        · rw [sidesTo_s0 (fun q => hsd q.2)]; exact g4
        · rw [sidesTo_s0 (fun q => hsd q.2)]; exact g5) (by
      intro s ⟨g1, g2, g3, g4, g5, g6⟩
      refine ⟨s.1, ?_, g3, g4, g5, g6⟩
      unfold b_Sides_find_17
      rw [g1, if_pos (nI_le (Nat.le_refl _) (by omega))]) n 1 (sS g 832 0, (1 : Int32)) (by omega) (by omega) ⟨rfl, Nat.le_refl _, fun c hc => by rw [sS1n _ _ hc, hg1], rfl, fun x hx => absurd hx (Nat.not_lt_zero _), fun _ _ _ => rfl⟩
  refine ⟨e, ?_, h1, h2, h3, fun q hq => ?_, ?_, ?_⟩
  · unfold f_Sides_find
    rw [bnd_s hg, nam_e, bnd_s hall, bnd_s he]
  · rw [h4 q (by omega) (by omega), hg3 q (by omega) (by omega)]
  · rw [h4 16 (by decide) (by decide), (hg2 0 (by omega)).1, tw_0]; rfl
  · rw [h4 17 (by decide) (by decide), (hg2 0 (by omega)).2, hw_0]; rfl
