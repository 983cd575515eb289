/-! again -/
theorem p_ag16 {σ : ST} {k : Nat} (hk : k < 4) (n : Nat) (hn : 1000 ≤ n) : ∃ e, lp (b_m_again_87 n (nI k)) n (σ, (0 : Int32)) = some e ∧ e.1 = σ.1 ∧ (∀ x, x < 16 → e.2 1 x = σ.2 9 (16 * k + x) ∧ e.2 2 x = σ.2 10 (16 * k + x) ∧ e.2 3 x = σ.2 11 (16 * k + x) ∧ e.2 4 x = σ.2 16 (16 * k + x)) ∧ ∀ q, q ≠ 1 → q ≠ 2 → q ≠ 3 → q ≠ 4 → e.2 q = σ.2 q := by
  refine lp_inv (fun (i : Nat) (s : ST × Int32) => s.2 = nI i ∧ s.1.1 = σ.1 ∧ (∀ x, x < i → s.1.2 1 x = σ.2 9 (16 * k + x) ∧ s.1.2 2 x = σ.2 10 (16 * k + x) ∧ s.1.2 3 x = σ.2 11 (16 * k + x) ∧ s.1.2 4 x = σ.2 16 (16 * k + x)) ∧ ∀ q, q ≠ 1 → q ≠ 2 → q ≠ 3 → q ≠ 4 → s.1.2 q = σ.2 q) (fun (e : ST) => e.1 = σ.1 ∧ (∀ x, x < 16 → e.2 1 x = σ.2 9 (16 * k + x) ∧ e.2 2 x = σ.2 10 (16 * k + x) ∧ e.2 3 x = σ.2 11 (16 * k + x) ∧ e.2 4 x = σ.2 16 (16 * k + x)) ∧ ∀ q, q ≠ 1 → q ≠ 2 → q ≠ 3 → q ≠ 4 → e.2 q = σ.2 q) 16 ?_ ?_ n 0 (σ, 0) (Nat.zero_le _) (by omega) ⟨rfl, rfl, fun x hx => absurd hx (Nat.not_lt_zero _), fun _ _ _ _ _ => rfl⟩
  · intro i s hi ⟨h1, h2, h3, h7⟩
    obtain ⟨ρ, t⟩ := s
    subst h1
    have h3 : ∀ x, x < i → ρ.2 1 x = σ.2 9 (16 * k + x) ∧ ρ.2 2 x = σ.2 10 (16 * k + x) ∧ ρ.2 3 x = σ.2 11 (16 * k + x) ∧ ρ.2 4 x = σ.2 16 (16 * k + x) := h3
    have h7 : ∀ q, q ≠ 1 → q ≠ 2 → q ≠ 3 → q ≠ 4 → ρ.2 q = σ.2 q := h7
    have r1 := h7 9 (by decide) (by decide) (by decide) (by decide)
    have r2 := h7 10 (by decide) (by decide) (by decide) (by decide)
    have r3 := h7 11 (by decide) (by decide) (by decide) (by decide)
    have r4 := h7 16 (by decide) (by decide) (by decide) (by decide)
    have g1 : jin (nI i) 16 = true := jin_nI hi (by omega)
    have g2 : jin ((16 : Int32) * nI k + nI i) 64 = true := by rw [show (16 : Int32) = nI 16 from rfl, ix_mul]; exact jin_nI (by omega) (by omega)
    have e2 : jix ((16 : Int32) * nI k + nI i) = 16 * k + i := by rw [show (16 : Int32) = nI 16 from rfl, ix_mul]; exact jix_nI (by omega)
    have e1 : jix (nI i) = i := jix_nI (by omega)
    refine ⟨(sA (sA (sA (sA ρ 1 (upd (ρ.2 1) i (ρ.2 9 (16 * k + i)))) 2 (upd (ρ.2 2) i (ρ.2 10 (16 * k + i)))) 3 (upd (ρ.2 3) i (ρ.2 11 (16 * k + i)))) 4 (upd (ρ.2 4) i (ρ.2 16 (16 * k + i))), nI (i + 1)), ?_, rfl, h2, ?_, ?_⟩
    · unfold b_m_again_87
      show (if (16 : Int32) ≤ nI i then _ else _) = _
      rw [if_neg (show ¬ (16 : Int32) ≤ nI i from nI_ge (b := 16) hi (by decide))]
      simp only [nam_e, e1, e2, grd_t g1, grd_t g2]
      rw [show nI i + (1 : Int32) = nI (i + 1) from nI_1 i]
      rfl
    · intro x hx
      show upd (ρ.2 1) i (ρ.2 9 (16 * k + i)) x = _ ∧ upd (ρ.2 2) i (ρ.2 10 (16 * k + i)) x = _ ∧ upd (ρ.2 3) i (ρ.2 11 (16 * k + i)) x = _ ∧ upd (ρ.2 4) i (ρ.2 16 (16 * k + i)) x = _
      by_cases hxi : x = i
      · subst hxi; rw [upd_s, upd_s, upd_s, upd_s, r1, r2, r3, r4]; exact ⟨rfl, rfl, rfl, rfl⟩
      · rw [upd_n hxi, upd_n hxi, upd_n hxi, upd_n hxi]; exact h3 x (by omega)
    · intro q q1 q2 q3 q4
      show (sA (sA (sA (sA ρ 1 _) 2 _) 3 _) 4 _).2 q = _
      rw [sA2n _ _ q4, sA2n _ _ q3, sA2n _ _ q2, sA2n _ _ q1]
      exact h7 q q1 q2 q3 q4
  · intro s ⟨h1, h2, h3⟩
    refine ⟨s.1, ?_, h2, h3⟩
    unfold b_m_again_87
    rw [h1, if_pos (by decide)]
theorem p_ag256 {σ : ST} {k : Nat} (hk : k < 4) (n : Nat) (hn : 1000 ≤ n) : ∃ e, lp (b_m_again_169 n (nI k)) n (σ, (0 : Int32)) = some e ∧ e.1 = σ.1 ∧ (∀ x, x < 256 → e.2 5 x = σ.2 17 (256 * k + x)) ∧ ∀ q, q ≠ 5 → e.2 q = σ.2 q := by
  refine lp_inv (fun (i : Nat) (s : ST × Int32) => s.2 = nI i ∧ s.1.1 = σ.1 ∧ (∀ x, x < i → s.1.2 5 x = σ.2 17 (256 * k + x)) ∧ ∀ q, q ≠ 5 → s.1.2 q = σ.2 q) (fun (e : ST) => e.1 = σ.1 ∧ (∀ x, x < 256 → e.2 5 x = σ.2 17 (256 * k + x)) ∧ ∀ q, q ≠ 5 → e.2 q = σ.2 q) 256 ?_ ?_ n 0 (σ, 0) (Nat.zero_le _) (by omega) ⟨rfl, rfl, fun x hx => absurd hx (Nat.not_lt_zero _), fun _ _ => rfl⟩
  · intro i s hi ⟨h1, h2, h3, h7⟩
    obtain ⟨ρ, t⟩ := s
    subst h1
    have h3 : ∀ x, x < i → ρ.2 5 x = σ.2 17 (256 * k + x) := h3
    have h7 : ∀ q, q ≠ 5 → ρ.2 q = σ.2 q := h7
    have r5 := h7 17 (by decide)
    have g1 : jin (nI i) 256 = true := jin_nI hi (by omega)
    have g2 : jin ((256 : Int32) * nI k + nI i) 1024 = true := by rw [show (256 : Int32) = nI 256 from rfl, ix_mul]; exact jin_nI (by omega) (by omega)
    have e2 : jix ((256 : Int32) * nI k + nI i) = 256 * k + i := by rw [show (256 : Int32) = nI 256 from rfl, ix_mul]; exact jix_nI (by omega)
    have e1 : jix (nI i) = i := jix_nI (by omega)
    refine ⟨(sA ρ 5 (upd (ρ.2 5) i (ρ.2 17 (256 * k + i))), nI (i + 1)), ?_, rfl, h2, ?_, ?_⟩
    · unfold b_m_again_169
      show (if (256 : Int32) ≤ nI i then _ else _) = _
      rw [if_neg (show ¬ (256 : Int32) ≤ nI i from nI_ge (b := 256) hi (by decide))]
      simp only [nam_e, e1, e2, grd_t g1, grd_t g2]
      rw [show nI i + (1 : Int32) = nI (i + 1) from nI_1 i]
    · intro x hx
      show upd (ρ.2 5) i (ρ.2 17 (256 * k + i)) x = _
      by_cases hxi : x = i
      · subst hxi; rw [upd_s, r5]
      · rw [upd_n hxi]; exact h3 x (by omega)
    · intro q q1
      show (sA ρ 5 _).2 q = _
      rw [sA2n _ _ q1]
      exact h7 q q1
  · intro s ⟨h1, h2, h3⟩
    refine ⟨s.1, ?_, h2, h3⟩
    unfold b_m_again_169
    rw [h1, if_pos (by decide)]
theorem isSet_jz {a b : Int32} {c : Option Nat} (h : isSet a b c) : jz a = true := by
  cases c with
  | none => rw [show a = 0 from h]; decide
  | some c => rw [h.1]; decide
theorem isFam_jz {a b : Int32} {t l : Nat → Int32} {f : Option FV} (h : isFam a b t l f) : jz a = true := by
  cases f with
  | none => rw [show a = 0 from h]; decide
  | some f => rw [h.1]; decide
theorem p_again (n : Nat) (hn : 1000 ≤ n) (τ : ST) {k : Nat} (hk : k < 4) (h6 : τ.2 6 k = 1) (z1 : jz (τ.2 12 k) = true) (z2 : jz (τ.2 14 k) = true) : ∃ e, f_m_again n τ (nI k) = some (1, e) ∧ e.1 = (sS (sS (sS (sS (sS (sS (sS (sS (sS τ 0 0) 1 (τ.2 7 k)) 2 (τ.2 8 k)) 6 (τ.2 12 k)) 7 (τ.2 13 k)) 8 (τ.2 14 k)) 9 (τ.2 15 k)) 24 0) 31 0).1 ∧ (∀ x, x < 16 → e.2 1 x = τ.2 9 (16 * k + x) ∧ e.2 2 x = τ.2 10 (16 * k + x) ∧ e.2 3 x = τ.2 11 (16 * k + x) ∧ e.2 4 x = τ.2 16 (16 * k + x)) ∧ (∀ x, x < 256 → e.2 5 x = τ.2 17 (256 * k + x)) ∧ ∀ q, 6 ≤ q → e.2 q = τ.2 q := by
  have g : jin (nI k) 4 = true := jin_nI hk (by omega)
  have gk : jix (nI k) = k := jix_nI (by omega)
  obtain ⟨e, a1, a2, a3, a4⟩ := p_ag16 (σ := sS (sS (sS (sS (sS (sS (sS τ 0 0) 1 (τ.2 7 k)) 2 (τ.2 8 k)) 6 (τ.2 12 k)) 7 (τ.2 13 k)) 8 (τ.2 14 k)) 9 (τ.2 15 k)) hk n hn
  obtain ⟨e2, b1, b2, b3, b4⟩ := p_ag256 (σ := e) hk n hn
  have hin : ¬ (nI k < 0 ∨ (3 : Int32) < nI k) := fun q => q.elim (nI_pos (by omega)) (fun q => nI_nlt (a := 3) (b := k) (by omega) (by decide) q)
  refine ⟨sS (sS e2 24 0) 31 0, ?_, ?_, fun x hx => ?_, fun x hx => ?_, fun q hq => ?_⟩
  · unfold f_m_again f_m_changed
    rw [nam_e, bnd_s (p_in n _ 0 3), if_neg (by rw [if_neg hin]; decide)]
    simp only [nam_e, grd_t g, gk, sS2]
    rw [h6, if_neg (by decide), grd_t z1, grd_t z2]
    exact (bnd_s a1).trans ((bnd_s b1).trans rfl)
  · show upd (upd e2.1 24 0) 31 0 = _
    rw [b2, a2]; rfl
  · show e2.2 1 x = _ ∧ e2.2 2 x = _ ∧ e2.2 3 x = _ ∧ e2.2 4 x = _
    rw [b4 1 (by decide), b4 2 (by decide), b4 3 (by decide), b4 4 (by decide)]
    exact a3 x hx
  · show e2.2 5 x = _
    rw [b3 x hx, a4 17 (by decide) (by decide) (by decide) (by decide)]; rfl
  · show e2.2 q = _
    rw [b4 q (by omega), a4 q (by omega) (by omega) (by omega) (by omega)]; rfl
theorem sim_again (n : Nat) (hn : 1000 ≤ n) : Sim_again n TheInv := by
  intro j σ it τ bb a hj h
  obtain ⟨v, ji, ok, hx, hm, hi, hsx⟩ := h
  have hm1 := RF_code hm 0
  have stay : TheInv (j + 1) σ it (sS τ 0 0) := ⟨v, ji, okB_up ok, hx, hm1, ImOK_up hi, hsx⟩
  rcases pk_ix a (show 4 < 2 ^ 31 by decide) with h1 | h1 | ⟨k, hk, rfl⟩
  · refine ⟨0, sS τ 0 0, ?_, Or.inl ⟨?_, rfl, stay⟩⟩
    · unfold f_m_again j_m_again_23; rw [nam_e, bnd_s (p_in n a 0 3), if_pos (if_pos (Or.inl h1))]
    · unfold f_x_again; rw [if_pos h1]
  · have h0 : ¬ a < 0 := fun q => absurd (Int32.lt_of_le_of_lt h1 q) (by decide)
    have h3 : (3 : Int32) < a := Int32.lt_of_lt_of_le (show (3 : Int32) < nI 4 by decide) h1
    refine ⟨0, sS τ 0 0, ?_, Or.inl ⟨?_, rfl, stay⟩⟩
    · unfold f_m_again j_m_again_23; rw [nam_e, bnd_s (p_in n a 0 3), if_pos (if_pos (Or.inr h3))]
    · unfold f_x_again; rw [if_neg h0, if_pos (show (4 : Int32) ≤ a from h1)]
  · have hjk : jix (nI k) = k := jix_nI (by omega)
    have hjn : jin (nI k) 4 = true := jin_nI hk (by omega)
    have hin : ¬ (nI k < 0 ∨ (3 : Int32) < nI k) := fun q => q.elim (nI_pos (by omega)) (fun q => nI_nlt (a := 3) (b := k) (by omega) (by decide) q)
    have hxa : ∀ b, (it k).isSome = b → f_x_again (imF bb it) (nI k) = some b := by
      intro b hb
      unfold f_x_again
      rw [if_neg (nI_pos (by omega)), if_neg (show ¬ (4 : Int32) ≤ nI k from nI_ge (b := 4) hk (by decide)), grd_t hjn, hjk, imF_is, hb]
      cases b <;> rfl
    have h2 := hm.2.2 k hk
    have h3 := hi k hk
    cases hjik : ji k with
    | none =>
      rw [hjik] at h2 h3
      have h3 : it k = none := h3
      have h2 : τ.2 6 k = 0 := h2
      refine ⟨0, sS τ 0 0, ?_, Or.inl ⟨hxa false (by rw [h3]; rfl), rfl, stay⟩⟩
      unfold f_m_again j_m_again_23
      rw [nam_e, bnd_s (p_in n _ 0 3), if_neg (by rw [if_neg hin]; decide), grd_t hjn, hjk, if_pos (show (sS τ 0 0).2 6 k = 0 from h2)]
    | some w =>
      rw [hjik] at h2 h3
      obtain ⟨okw, σi, hit, hxi⟩ := h3
      obtain ⟨h6, hn1, hs1, hf1⟩ := h2
      obtain ⟨e, p0, p1, p2, p3, p4⟩ := p_again n hn τ hk h6 (isSet_jz hs1) (isFam_jz hf1)
      refine ⟨1, e, p0, Or.inr ⟨hxa true (by rw [hit]; rfl), rfl, hjn, σi, by rw [hjk]; exact hit, RX_jz hxi, w, ji, okB_up okw, RX_cpx hxi okw.1 σ, ⟨⟨⟨?_, ?_, fun i hi1 => ?_⟩, ?_, ?_⟩, RC_fresh (by rw [p1]; rfl) (by rw [p1]; rfl), ?_⟩, ImOK_up hi, hsx⟩⟩
      · rw [p1]; exact hn1.1
      · rw [p1]; exact hn1.2.1
      · have h16 : i < 16 := Nat.lt_of_lt_of_le hi1 okw.1.2.2.1
        obtain ⟨x1, x2, x3, x4⟩ := p2 i h16
        rw [x1, x2, x3]
        exact hn1.2.2 i hi1
      · rw [p1]; exact hs1
      · rw [p1]
        exact isFam_of hf1 (Or.inr rfl) rfl (fun s hs => p3 s hs) (fun s hs => (p2 s hs).2.2.2)
      · intro k1 hk1
        have h5 := hm.2.2 k1 hk1
        revert h5
        cases ji k1 with
        | none => intro h5; show e.2 6 k1 = 0; rw [p4 6 (by decide)]; exact h5
        | some w1 =>
          intro h5
          show e.2 6 k1 = 1 ∧ RI e k1 w1
          unfold RI
          rw [p4 6 (by decide), p4 7 (by decide), p4 8 (by decide), p4 9 (by decide), p4 10 (by decide), p4 11 (by decide), p4 12 (by decide), p4 13 (by decide), p4 14 (by decide), p4 15 (by decide), p4 16 (by decide), p4 17 (by decide)]
          exact h5
