theorem sidesTo_s0 {v : NV} {i : Nat} (h : ¬ (1 ≤ i ∧ sideB v i = true)) : sidesTo v (i + 1) = sidesTo v i := by
  unfold sidesTo
  rw [List.range_succ, List.filter_append]
  have : ([i].filter (fun s => decide (1 ≤ s) && sideB v s)) = [] := by
    rw [List.filter_cons_of_neg]
    · rfl
    · intro q
      simp only [Bool.and_eq_true, decide_eq_true_eq] at q
      exact h q
  rw [this, List.append_nil]
theorem sidesTo_s1 {v : NV} {i : Nat} (h1 : 1 ≤ i) (h2 : sideB v i = true) : sidesTo v (i + 1) = sidesTo v i ++ [i] := by
  unfold sidesTo
  rw [List.range_succ, List.filter_append]
  have : ([i].filter (fun s => decide (1 ≤ s) && sideB v s)) = [i] := by
    rw [List.filter_cons_of_pos]
    · rfl
    · simp [h1, h2]
  rw [this]
theorem sidesTo_len (v : NV) : ∀ i, (sidesTo v i).length ≤ i := by
  intro i
  unfold sidesTo
  have := List.length_filter_le (fun s => decide (1 ≤ s) && sideB v s) (List.range i)
  rw [List.length_range] at this
  exact this
theorem getD_app {l : List Nat} {x y : Nat} (h : x < l.length) : (l ++ [y]).getD x 0 = l.getD x 0 := by
  rw [List.getD_eq_getElem?_getD, List.getD_eq_getElem?_getD, List.getElem?_append_left h]
theorem getD_last {l : List Nat} {y : Nat} : (l ++ [y]).getD l.length 0 = y := by
  rw [List.getD_eq_getElem?_getD, List.getElem?_append_right (Nat.le_refl _), Nat.sub_self]
  rfl
theorem p_m_all {τ : ST} {N : Nat} (h : τ.1 1 = nI N) (hN : N ≤ 8) : f_m_all τ = some (nI (2 ^ N - 1)) := by
  unfold f_m_all
  have hp : 2 ^ N ≤ 2 ^ 8 := Nat.pow_le_pow_right (by decide) hN
  have h1 : 1 ≤ 2 ^ N := Nat.one_le_two_pow
  rw [h, show (1 : Int32) = nI 1 from rfl, jshl_nI (by omega) (by omega), Nat.one_mul, pk_sub h1]
theorem p_makeSides {τ : ST} {v : BV} {ji : Nat → Option BV} (hm : RF τ v ji) (ok : okN v.1) (n : Nat) (hn : 1000 ≤ n) : ∃ e, f_m_makeSides n τ = some e ∧ RF e v ji ∧ e.1 24 = 1 ∧ (∀ c, c ≠ 24 → c ≠ 25 → e.1 c = τ.1 c) ∧ ∀ q, q ≠ 18 → q ≠ 19 → e.2 q = τ.2 q := by
  obtain ⟨hM, hC, hI⟩ := hm
  obtain ⟨c1, c2, c3, c4, c5⟩ := hC
  unfold f_m_makeSides
  by_cases h24 : τ.1 24 = 0
  · rw [if_pos h24]
    simp only [nam_e]
    have hp8 : 2 ^ nN v.1 ≤ 2 ^ 8 := Nat.pow_le_pow_right (by decide) ok.2.1
    have hp1 : 2 ^ 1 ≤ 2 ^ nN v.1 := Nat.pow_le_pow_right (by decide) ok.1
    obtain ⟨e, he, h1, h2, h3, h4⟩ := lp_inv (body := b_m_makeSides_20 n) (fun (i : Nat) (s : ST × Int32) => s.2 = nI i ∧ 1 ≤ i ∧ (∀ c, c ≠ 25 → s.1.1 c = (sS (sS τ 24 1) 25 0).1 c) ∧ s.1.1 25 = nI (sidesTo v.1 i).length ∧ (∀ x, x < (sidesTo v.1 i).length → s.1.2 18 x = nI ((sidesTo v.1 i).getD x 0) ∧ s.1.2 19 x = nI (bor v.1 ((sidesTo v.1 i).getD x 0))) ∧ ∀ q, q ≠ 18 → q ≠ 19 → s.1.2 q = τ.2 q) (fun (e : ST) => (∀ c, c ≠ 25 → e.1 c = (sS (sS τ 24 1) 25 0).1 c) ∧ e.1 25 = nI (sidesOf v.1).length ∧ (∀ x, x < (sidesOf v.1).length → e.2 18 x = nI ((sidesOf v.1).getD x 0) ∧ e.2 19 x = nI (bor v.1 ((sidesOf v.1).getD x 0))) ∧ ∀ q, q ≠ 18 → q ≠ 19 → e.2 q = τ.2 q) (2 ^ nN v.1 - 1) (by
        intro i s hi ⟨g1, g2, g3, g4, g5, g6⟩
        obtain ⟨ρ, t⟩ := s
        subst g1
        have g3 : ∀ c, c ≠ 25 → ρ.1 c = (sS (sS τ 24 1) 25 0).1 c := g3
        have g4 : ρ.1 25 = nI (sidesTo v.1 i).length := g4
        have g6 : ∀ q, q ≠ 18 → q ≠ 19 → ρ.2 q = τ.2 q := g6
        have hlen := sidesTo_len v.1 i
        have hnet : isNet (ρ.1 1) (ρ.1 2) (ρ.2 1) (ρ.2 2) (ρ.2 3) v.1 := by
          rw [g3 1 (by decide), g3 2 (by decide), g6 1 (by decide) (by decide), g6 2 (by decide) (by decide), g6 3 (by decide) (by decide)]
          exact hM.1
        have hj : jix (nI (sidesTo v.1 i).length) = (sidesTo v.1 i).length := jix_nI (by omega)
        have hjn : jin (nI (sidesTo v.1 i).length) 256 = true := jin_nI (by omega) (by omega)
        by_cases hsd : sideB v.1 i = true
        · refine ⟨(sS (sA (sA ρ 18 (upd (ρ.2 18) (sidesTo v.1 i).length (nI i))) 19 (upd (ρ.2 19) (sidesTo v.1 i).length (nI (bor v.1 i)))) 25 (nI ((sidesTo v.1 i).length + 1)), nI (i + 1)), ?_, rfl, by omega, ?_, ?_, ?_, ?_⟩
          · unfold b_m_makeSides_20 j_m_makeSides_70_20
            rw [bnd_s (p_m_all hnet.1 ok.2.1), if_neg (nI_ge hi (by omega)), bnd_s (p_m_isSide hnet ok n hn (by omega)), if_neg (by rw [if_pos hsd]; decide)]
            show grd (jin (ρ.1 25) 256) _ = _
            rw [g4, grd_t hjn, nam_e, hj]
            rw [bnd_s (p_m_borderOf (τ := sA ρ 18 (upd (ρ.2 18) (sidesTo v.1 i).length (nI i))) hnet ok n hn (by omega))]
            show grd (jin (ρ.1 25) 256) _ = _
            rw [g4, grd_t hjn, nam_e, nam_e]
            show some (Sum.inl (sS (sA (sA ρ 18 _) 19 (upd (ρ.2 19) (jix (ρ.1 25)) _)) 25 (ρ.1 25 + 1), nI i + 1)) = _
            rw [g4, hj, show nI i + (1 : Int32) = nI (i + 1) from nI_1 i, show nI (sidesTo v.1 i).length + (1 : Int32) = nI ((sidesTo v.1 i).length + 1) from nI_1 _]
          · intro c hc
            show (sS _ 25 _).1 c = _
            rw [sS1n _ _ hc]; exact g3 c hc
          · rw [sS1s, sidesTo_s1 g2 hsd, List.length_append]; rfl
          · intro x hx
            rw [sidesTo_s1 g2 hsd] at hx ⊢
            rw [List.length_append] at hx
            show upd (ρ.2 18) (sidesTo v.1 i).length (nI i) x = _ ∧ upd (ρ.2 19) (sidesTo v.1 i).length (nI (bor v.1 i)) x = _
            by_cases hxl : x = (sidesTo v.1 i).length
            · subst hxl; rw [upd_s, upd_s, getD_last]; exact ⟨rfl, rfl⟩
            · have hx1 : x < (sidesTo v.1 i).length := by
                have : x < (sidesTo v.1 i).length + 1 := hx
                omega
              rw [upd_n hxl, upd_n hxl, getD_app hx1]; exact g5 x hx1
          · intro q q1 q2
            show (sA (sA ρ 18 _) 19 _).2 q = _
            rw [sA2n _ _ q2, sA2n _ _ q1]; exact g6 q q1 q2
        · refine ⟨(ρ, nI (i + 1)), ?_, rfl, by omega, g3, ?_, ?_, g6⟩
          · unfold b_m_makeSides_20 j_m_makeSides_70_20
            rw [bnd_s (p_m_all hnet.1 ok.2.1), if_neg (nI_ge hi (by omega)), bnd_s (p_m_isSide hnet ok n hn (by omega)), if_pos (by rw [if_neg hsd]), show nI i + (1 : Int32) = nI (i + 1) from nI_1 i]
          · rw [sidesTo_s0 (fun q => hsd q.2)]; exact g4
          · rw [sidesTo_s0 (fun q => hsd q.2)]; exact g5) (by
        intro s ⟨g1, g2, g3, g4, g5, g6⟩
        refine ⟨s.1, ?_, g3, g4, g5, g6⟩
        unfold b_m_makeSides_20
        rw [bnd_s (p_m_all (by rw [g3 1 (by decide)]; exact hM.1.1) ok.2.1), g1, if_pos (nI_le (Nat.le_refl _) (by omega))]) n 1 (sS (sS τ 24 1) 25 0, (1 : Int32)) (by omega) (by omega) ⟨rfl, Nat.le_refl _, fun _ _ => rfl, rfl, fun x hx => absurd hx (Nat.not_lt_zero _), fun _ _ _ => rfl⟩
    have e24 : e.1 24 = 1 := h1 24 (by decide)
    have eo : ∀ c, c ≠ 24 → c ≠ 25 → e.1 c = τ.1 c := fun c q1 q2 => by rw [h1 c q2, sS1n _ _ q2, sS1n _ _ q1]
    have h31 : e.1 31 = 0 := by
      rw [eo 31 (by decide) (by decide)]
      rcases c2 with q | q
      · exact q
      · have := c3 q; rw [h24] at this; exact absurd this (by decide)
    refine ⟨e, by rw [bnd_s he], ⟨⟨?_, ?_, ?_⟩, ⟨Or.inr e24, Or.inl h31, (fun q => by rw [h31] at q; exact absurd q (by decide)), fun _ => ⟨h2, h3⟩, (fun q => by rw [h31] at q; exact absurd q (by decide))⟩, ?_⟩, e24, eo, h4⟩
    · rw [eo 1 (by decide) (by decide), eo 2 (by decide) (by decide), h4 1 (by decide) (by decide), h4 2 (by decide) (by decide), h4 3 (by decide) (by decide)]; exact hM.1
    · rw [eo 6 (by decide) (by decide), eo 7 (by decide) (by decide)]; exact hM.2.1
    · rw [eo 8 (by decide) (by decide), eo 9 (by decide) (by decide), h4 5 (by decide) (by decide), h4 4 (by decide) (by decide)]; exact hM.2.2
    · intro k hk
      have h5 := hI k hk
      revert h5
      cases ji k with
      | none => intro h5; show e.2 6 k = 0; rw [h4 6 (by decide) (by decide)]; exact h5
      | some w =>
        intro h5
        show e.2 6 k = 1 ∧ RI e k w
        unfold RI
        rw [h4 6 (by decide) (by decide), h4 7 (by decide) (by decide), h4 8 (by decide) (by decide), h4 9 (by decide) (by decide), h4 10 (by decide) (by decide), h4 11 (by decide) (by decide), h4 12 (by decide) (by decide), h4 13 (by decide) (by decide), h4 14 (by decide) (by decide), h4 15 (by decide) (by decide), h4 16 (by decide) (by decide), h4 17 (by decide) (by decide)]
        exact h5
  · rw [if_neg h24]
    exact ⟨τ, rfl, ⟨hM, ⟨c1, c2, c3, c4, c5⟩, hI⟩, c1.resolve_left h24, fun _ _ _ => rfl, fun _ _ _ => rfl⟩
