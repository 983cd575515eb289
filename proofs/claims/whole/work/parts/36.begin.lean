/-! begin: rows filled with one number -/
def gfill (q L : Nat) (v1 v3 : Int32) (s : ST × Int32) : Option ((ST × Int32) ⊕ (ST)) :=
  if v3 ≤ s.2 then
    some (.inr s.1)
  else
    grd (jin s.2 L) <|
    nam (sA s.1 q (upd (s.1.2 q) (jix s.2) v1)) fun σ1 =>
    some (.inl (σ1, s.2 + (1 : Int32)))
theorem fill_t (n : Nat) (v1 v3 : Int32) : b_fill_times_5 n v1 v3 = gfill 7 256 v1 v3 := rfl
theorem fill_l (n : Nat) (v1 v3 : Int32) : b_fill_load_5 n v1 v3 = gfill 8 16 v1 v3 := rfl
theorem p_fill {q L : Nat} {σ : ST} {x : Int32} (hL : L < 2 ^ 30) (n : Nat) (hn : L < n) : ∃ e, lp (gfill q L x (nI L)) n (σ, (0 : Int32)) = some e ∧ e.1 = σ.1 ∧ (∀ s, s < L → e.2 q s = x) ∧ ∀ r, r ≠ q → e.2 r = σ.2 r := by
  refine lp_inv (fun (i : Nat) (s : ST × Int32) => s.2 = nI i ∧ s.1.1 = σ.1 ∧ (∀ y, y < i → s.1.2 q y = x) ∧ ∀ r, r ≠ q → s.1.2 r = σ.2 r) (fun (e : ST) => e.1 = σ.1 ∧ (∀ s, s < L → e.2 q s = x) ∧ ∀ r, r ≠ q → e.2 r = σ.2 r) L ?_ ?_ n 0 (σ, 0) (Nat.zero_le _) (by omega) ⟨rfl, rfl, fun y hy => absurd hy (Nat.not_lt_zero _), fun _ _ => rfl⟩
  · intro i s hi ⟨h1, h2, h3, h4⟩
    obtain ⟨ρ, t⟩ := s
    subst h1
    refine ⟨(sA ρ q (upd (ρ.2 q) i x), nI (i + 1)), ?_, rfl, h2, ?_, ?_⟩
    · unfold gfill
      show (if nI L ≤ nI i then _ else _) = _
      rw [if_neg (nI_ge hi (by omega)), grd_t (jin_nI hi (by omega)), nam_e, jix_nI (by omega), show nI i + (1 : Int32) = nI (i + 1) from nI_1 i]
    · intro y hy
      show (sA ρ q _).2 q y = x
      rw [sA2s]
      by_cases hyi : y = i
      · subst hyi; exact upd_s
      · rw [upd_n hyi]; exact h3 y (by omega)
    · intro r hr
      show (sA ρ q _).2 r = _
      rw [sA2n _ _ hr]; exact h4 r hr
  · intro s ⟨h1, h2, h3, h4⟩
    refine ⟨s.1, ?_, h2, h3, h4⟩
    unfold gfill
    rw [h1, if_pos (nI_le (Nat.le_refl _) (by omega))]
/-- Family.open -/
theorem p_open (n : Nat) (hn : 1000 ≤ n) (σ : ST) (x : Int32) : ∃ e, f_Fam_open n σ x = some e ∧ e.1 = (sS (sS σ 384 1) 385 x).1 ∧ (∀ s, s < 256 → e.2 7 s = 0) ∧ (∀ s, s < 16 → e.2 8 s = 0) ∧ ∀ r, r ≠ 7 → r ≠ 8 → e.2 r = σ.2 r := by
  obtain ⟨e1, a1, a2, a3, a4⟩ := p_fill (q := 7) (L := 256) (σ := sS (sS σ 384 1) 385 x) (x := 0) (by decide) n (by omega)
  obtain ⟨e2, b1, b2, b3, b4⟩ := p_fill (q := 8) (L := 16) (σ := e1) (x := 0) (by decide) n (by omega)
  refine ⟨e2, ?_, b2.trans a2, fun s hs => ?_, b3, fun r h7 h8 => ?_⟩
  · unfold f_Fam_open f_fill_times f_fill_load
    simp only [nam_e]
    rw [fill_t, show (256 : Int32) = nI 256 from rfl, bnd_s a1, bnd_s rfl, fill_l, show (16 : Int32) = nI 16 from rfl, bnd_s b1, bnd_s rfl]
  · rw [b4 7 (by decide)]; exact a3 s hs
  · rw [b4 r h8, a4 r h7]; rfl
theorem sim_begin (n : Nat) (hn : 1000 ≤ n) : Sim_begin n TheInv := by
  intro j σ it τ bb a hj h
  obtain ⟨⟨⟨N, k, T, H, W⟩, c, f⟩, ji, ok, hx, hm, hi, hsx⟩ := h
  have hm1 := RF_code hm 0
  have stay : TheInv (j + 1) σ it (sS τ 0 0) := ⟨((N, k, T, H, W), c, f), ji, okB_up ok, hx, hm1, ImOK_up hi, hsx⟩
  by_cases h1 : a < 1
  · refine ⟨0, σ, sS τ 0 0, ?_, ?_, stay⟩
    · unfold f_x_begin j_x_begin_11; rw [if_pos h1]
    · unfold f_m_begin; rw [nam_e, bnd_s (p_in n a 1 8), if_pos (if_pos (Or.inl h1))]
  by_cases h8 : a ≤ 8
  · have h0 : ¬ a < 0 := fun q => h1 (Int32.lt_of_lt_of_le q (by decide))
    obtain ⟨m, hm8, rfl⟩ := nI_of2 (M := 8) (n := 8) (by decide) h0 h8
    have hm0 : 1 ≤ m := by
      rcases Nat.lt_or_ge m 1 with q | q
      · exact absurd (show nI m < 1 from nI_lt q (by decide)) h1
      · exact q
    have h8' : ¬ (nI m < 1 ∨ (8 : Int32) < nI m) := fun q => q.elim h1 (fun q => absurd h8 (Int32.not_le.mpr q))
    obtain ⟨e, e1, e2, e3, e4, e5⟩ := p_open n hn (sS (sS (sS σ 128 (nI m)) 129 0) 66 0) 0
    refine ⟨1, sS e 384 0, sS (sS (sS (sS (sS (sS (sS τ 0 0) 1 (nI m)) 2 0) 6 0) 8 0) 24 0) 31 0, ?_, ?_, ((m, 0, T, H, W), none, none), ji, ⟨⟨hm0, hm8, (by show 0 ≤ 16; omega), fun q hq => absurd hq (Nat.not_lt_zero _)⟩, (fun c h => by cases h), (fun f h => by cases h)⟩, ⟨⟨?_, ?_, fun q hq => absurd hq (Nat.not_lt_zero _)⟩, ?_, ?_, e3, e4⟩, ⟨⟨⟨rfl, rfl, fun q hq => absurd hq (Nat.not_lt_zero _)⟩, rfl, rfl⟩, RC_fresh rfl rfl, hm.2.2⟩, ImOK_up hi, (by show e.2 16 0 = 0; rw [e5 16 (by decide) (by decide)]; exact hsx.1), (by show e.2 17 0 = 0; rw [e5 17 (by decide) (by decide)]; exact hsx.2)⟩
    · unfold f_x_begin f_Net_clear f_Fam_putAway
      rw [if_neg h1, if_pos h8]
      simp only [nam_e]
      rw [bnd_s rfl, bnd_s (show bnd (f_Fam_open n (sS (sS (sS σ 128 (nI m)) 129 0) 66 0) 0) (fun o1 => some (sS o1 384 0)) = some (sS e 384 0) by rw [bnd_s e1])]
    · unfold f_m_begin f_m_changed
      rw [nam_e, bnd_s (p_in n _ 1 8), if_neg (by rw [if_neg h8']; decide)]
      rfl
    · show e.1 128 = _; rw [e2]; rfl
    · show e.1 129 = _; rw [e2]; rfl
    · show e.1 66 = _; rw [e2]; rfl
    · exact sS1s _ _ _
  · have h8' : (8 : Int32) < a := Int32.not_le.mp h8
    refine ⟨0, σ, sS τ 0 0, ?_, ?_, stay⟩
    · unfold f_x_begin j_x_begin_11; rw [if_neg h1, if_neg h8]
    · unfold f_m_begin; rw [nam_e, bnd_s (p_in n a 1 8), if_pos (if_pos (Or.inr h8'))]
