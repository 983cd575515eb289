/-! side -/
theorem in_mG (n : Nat) {k : Nat} (hk : k ≤ 1000) (a : Int32) : (∃ i, i < k ∧ a = nI i ∧ f_m_in n a 0 (nI k - 1) = some 1) ∨ ((a < 0 ∨ nI k ≤ a) ∧ f_m_in n a 0 (nI k - 1) = some 0) := by
  rw [p_in]
  have hs : (nI k - 1).toInt = (k : Int) - 1 := by rw [show (1 : Int32) = nI 1 from rfl, pk_sub_toInt (by omega) (by omega)]; rfl
  rcases pk_ix a (show k < 2 ^ 31 by omega) with h1 | h1 | ⟨i, hi, rfl⟩
  · exact Or.inr ⟨Or.inl h1, by rw [if_pos (Or.inl h1)]⟩
  · refine Or.inr ⟨Or.inr h1, ?_⟩
    rw [if_pos (Or.inr ?_)]
    rw [Int32.lt_iff_toInt_lt, hs]
    have h2 := Int32.le_iff_toInt_le.mp h1
    rw [nI_toInt (by omega)] at h2
    omega
  · refine Or.inl ⟨i, hi, rfl, ?_⟩
    rw [if_neg]
    rintro (q | q)
    · exact nI_pos (by omega) q
    · rw [Int32.lt_iff_toInt_lt, hs, nI_toInt (by omega)] at q
      omega
theorem sim_side (n : Nat) (hn : 1000 ≤ n) : Sim_side n TheInv := by
  intro j σ it τ bb a b hj h
  obtain ⟨v, ji, ok, hx, hm, hi, hsx⟩ := h
  obtain ⟨e, e1, e2, e3, e4, e5, e6⟩ := p_find hx.1 ok.1 hsx n hn
  obtain ⟨d, d1, d2, d3, d4, d5⟩ := p_makeSides (RF_code hm 0) ok.1 n hn
  have hl := sides_le v.1 ok.1
  have hC := d2.2.1.2.2.2.1 d3
  have stay1 : TheInv (j + 1) e it d := ⟨v, ji, okB_up ok, RX_find hx e2 e5, d2, ImOK_up hi, e6⟩
  have stay0 : TheInv (j + 1) σ it d := ⟨v, ji, okB_up ok, hx, d2, ImOK_up hi, hsx⟩
  have hd25 : d.1 25 - 1 = nI (sidesOf v.1).length - 1 := by rw [hC.1]
  rcases in_mG n (show (sidesOf v.1).length ≤ 1000 by omega) a with ⟨x, hx0, rfl, i1⟩ | ⟨hout, i1⟩
  · have hjn : jin (nI x) 256 = true := jin_nI (by omega) (by omega)
    have hjx : jix (nI x) = x := jix_nI (by omega)
    have ha0 : ¬ nI x < 0 := nI_pos (by omega)
    by_cases b0 : b = 0
    · refine ⟨nI ((sidesOf v.1).getD x 0), e, d, ?_, ?_, stay1⟩
      · unfold f_x_side j_x_side_67
        rw [if_neg ha0, if_neg (by rw [b0]; decide), if_pos (by rw [b0]; decide), bnd_s e1, e3, if_pos (nI_lt hx0 (by omega)), if_pos b0, grd_t hjn, hjx, (e4 x hx0).1]
      · unfold f_m_side j_m_side_55
        rw [nam_e, bnd_s d1, hd25, bnd_s i1, if_neg (by decide), if_pos b0, grd_t hjn, hjx, (hC.2 x hx0).1]
    by_cases b1 : b = 1
    · refine ⟨nI (bor v.1 ((sidesOf v.1).getD x 0)), e, d, ?_, ?_, stay1⟩
      · unfold f_x_side j_x_side_67
        rw [if_neg ha0, if_neg (by rw [b1]; decide), if_pos (by rw [b1]; decide), bnd_s e1, e3, if_pos (nI_lt hx0 (by omega)), if_neg b0, grd_t hjn, hjx, (e4 x hx0).2]
      · unfold f_m_side j_m_side_55
        rw [nam_e, bnd_s d1, hd25, bnd_s i1, if_neg (by decide), if_neg b0, if_pos b1, grd_t hjn, hjx, (hC.2 x hx0).2]
    · refine ⟨-1, σ, d, ?_, ?_, stay0⟩
      · unfold f_x_side j_x_side_13
        rw [if_neg ha0]
        by_cases hb : b < 0
        · rw [if_pos hb]
        · rw [if_neg hb, if_neg]
          intro hb1
          obtain ⟨y, hy, rfl⟩ := nI_of2 (M := 1) (n := 1) (by decide) hb hb1
          rcases (show y = 0 ∨ y = 1 by omega) with rfl | rfl
          · exact b0 rfl
          · exact b1 rfl
      · unfold f_m_side j_m_side_55
        rw [nam_e, bnd_s d1, hd25, bnd_s i1, if_neg (by decide), if_neg b0, if_neg b1]
  · have mside : f_m_side n τ a b = some (-1, d) := by
      unfold f_m_side j_m_side_55
      rw [nam_e, bnd_s d1, hd25, bnd_s i1, if_pos rfl]
    by_cases ha0 : a < 0
    · refine ⟨-1, σ, d, ?_, mside, stay0⟩
      unfold f_x_side j_x_side_13; rw [if_pos ha0]
    by_cases hb : b < 0
    · refine ⟨-1, σ, d, ?_, mside, stay0⟩
      unfold f_x_side j_x_side_13; rw [if_neg ha0, if_pos hb]
    by_cases hb1 : b ≤ 1
    · refine ⟨-1, e, d, ?_, mside, stay1⟩
      unfold f_x_side
      rw [if_neg ha0, if_neg hb, if_pos hb1, bnd_s e1, e3, if_neg]
      intro q
      exact absurd (Int32.lt_of_lt_of_le q (hout.resolve_left ha0)) Int32.lt_irrefl
    · refine ⟨-1, σ, d, ?_, mside, stay0⟩
      unfold f_x_side j_x_side_13; rw [if_neg ha0, if_neg hb, if_neg hb1]
