/-! image -/
def cpA (f g : Nat → Int32) (d i : Nat) : Nat → Int32 := fun y => if d ≤ y ∧ y < d + i then f (y - d) else g y
theorem cpA_0 {f g : Nat → Int32} {d : Nat} : cpA f g d 0 = g := by
  funext y; unfold cpA; rw [if_neg (by omega)]
theorem cpA_step {f g : Nat → Int32} {d i : Nat} : upd (cpA f g d i) (d + i) (f i) = cpA f g d (i + 1) := by
  funext y
  unfold upd cpA
  by_cases h : y = d + i
  · subst h
    rw [if_pos rfl, if_pos ⟨by omega, by omega⟩, show d + i - d = i by omega]
  · rw [if_neg h]
    by_cases h1 : d ≤ y ∧ y < d + i
    · rw [if_pos h1, if_pos ⟨h1.1, by omega⟩]
    · rw [if_neg h1, if_neg (fun q => h1 ⟨q.1, by omega⟩)]
theorem cpA_in {f g : Nat → Int32} {d i x : Nat} (h : x < i) : cpA f g d i (d + x) = f x := by
  unfold cpA; rw [if_pos ⟨by omega, by omega⟩, show d + x - d = x by omega]
theorem cpA_out {f g : Nat → Int32} {d i x : Nat} (h : x < d ∨ d + i ≤ x) : cpA f g d i x = g x := by
  unfold cpA; rw [if_neg (by omega)]
theorem ix_mul {c k i : Nat} : nI c * nI k + nI i = nI (c * k + i) := by rw [pk_mul, nI_add]
theorem p_im16 {σ : ST} {k : Nat} (hk : k < 4) (n : Nat) (hn : 1000 ≤ n) : ∃ e, lp (b_m_image_85 n (nI k)) n (σ, (0 : Int32)) = some e ∧ e.1 = σ.1 ∧ e.2 9 = cpA (σ.2 1) (σ.2 9) (16 * k) 16 ∧ e.2 10 = cpA (σ.2 2) (σ.2 10) (16 * k) 16 ∧ e.2 11 = cpA (σ.2 3) (σ.2 11) (16 * k) 16 ∧ e.2 16 = cpA (σ.2 4) (σ.2 16) (16 * k) 16 ∧ ∀ q, q ≠ 9 → q ≠ 10 → q ≠ 11 → q ≠ 16 → e.2 q = σ.2 q := by
  refine lp_inv (fun (i : Nat) (s : ST × Int32) => s.2 = nI i ∧ s.1.1 = σ.1 ∧ s.1.2 9 = cpA (σ.2 1) (σ.2 9) (16 * k) i ∧ s.1.2 10 = cpA (σ.2 2) (σ.2 10) (16 * k) i ∧ s.1.2 11 = cpA (σ.2 3) (σ.2 11) (16 * k) i ∧ s.1.2 16 = cpA (σ.2 4) (σ.2 16) (16 * k) i ∧ ∀ q, q ≠ 9 → q ≠ 10 → q ≠ 11 → q ≠ 16 → s.1.2 q = σ.2 q) (fun (e : ST) => e.1 = σ.1 ∧ e.2 9 = cpA (σ.2 1) (σ.2 9) (16 * k) 16 ∧ e.2 10 = cpA (σ.2 2) (σ.2 10) (16 * k) 16 ∧ e.2 11 = cpA (σ.2 3) (σ.2 11) (16 * k) 16 ∧ e.2 16 = cpA (σ.2 4) (σ.2 16) (16 * k) 16 ∧ ∀ q, q ≠ 9 → q ≠ 10 → q ≠ 11 → q ≠ 16 → e.2 q = σ.2 q) 16 ?_ ?_ n 0 (σ, 0) (Nat.zero_le _) (by omega) ⟨rfl, rfl, cpA_0.symm, cpA_0.symm, cpA_0.symm, cpA_0.symm, fun _ _ _ _ _ => rfl⟩
  · intro i s hi ⟨h1, h2, h3, h4, h5, h6, h7⟩
    obtain ⟨ρ, t⟩ := s
    subst h1
    have h7 : ∀ q, q ≠ 9 → q ≠ 10 → q ≠ 11 → q ≠ 16 → ρ.2 q = σ.2 q := h7
    have r1 := h7 1 (by decide) (by decide) (by decide) (by decide)
    have r2 := h7 2 (by decide) (by decide) (by decide) (by decide)
    have r3 := h7 3 (by decide) (by decide) (by decide) (by decide)
    have r4 := h7 4 (by decide) (by decide) (by decide) (by decide)
    have g1 : jin (nI i) 16 = true := jin_nI hi (by omega)
    have g2 : jin ((16 : Int32) * nI k + nI i) 64 = true := by rw [show (16 : Int32) = nI 16 from rfl, ix_mul]; exact jin_nI (by omega) (by omega)
    have e2 : jix ((16 : Int32) * nI k + nI i) = 16 * k + i := by rw [show (16 : Int32) = nI 16 from rfl, ix_mul]; exact jix_nI (by omega)
    have e1 : jix (nI i) = i := jix_nI (by omega)
    refine ⟨(sA (sA (sA (sA ρ 9 (upd (ρ.2 9) (16 * k + i) (ρ.2 1 i))) 10 (upd (ρ.2 10) (16 * k + i) (ρ.2 2 i))) 11 (upd (ρ.2 11) (16 * k + i) (ρ.2 3 i))) 16 (upd (ρ.2 16) (16 * k + i) (ρ.2 4 i)), nI (i + 1)), ?_, rfl, h2, ?_, ?_, ?_, ?_, ?_⟩
    · unfold b_m_image_85
      show (if (16 : Int32) ≤ nI i then _ else _) = _
      rw [if_neg (show ¬ (16 : Int32) ≤ nI i from nI_ge (b := 16) hi (by decide))]
      simp only [nam_e, e1, e2, grd_t g1, grd_t g2]
      rw [show nI i + (1 : Int32) = nI (i + 1) from nI_1 i]
      rfl
    · show upd (ρ.2 9) (16 * k + i) (ρ.2 1 i) = _
      rw [show ρ.2 9 = _ from h3, r1]; exact cpA_step
    · show upd (ρ.2 10) (16 * k + i) (ρ.2 2 i) = _
      rw [show ρ.2 10 = _ from h4, r2]; exact cpA_step
    · show upd (ρ.2 11) (16 * k + i) (ρ.2 3 i) = _
      rw [show ρ.2 11 = _ from h5, r3]; exact cpA_step
    · show upd (ρ.2 16) (16 * k + i) (ρ.2 4 i) = _
      rw [show ρ.2 16 = _ from h6, r4]; exact cpA_step
    · intro q q1 q2 q3 q4
      show (sA (sA (sA (sA ρ 9 _) 10 _) 11 _) 16 _).2 q = _
      rw [sA2n _ _ q4, sA2n _ _ q3, sA2n _ _ q2, sA2n _ _ q1]
      exact h7 q q1 q2 q3 q4
  · intro s ⟨h1, h2, h3⟩
    refine ⟨s.1, ?_, h2, h3⟩
    unfold b_m_image_85
    rw [h1, if_pos (by decide)]
theorem p_im256 {σ : ST} {k : Nat} (hk : k < 4) (n : Nat) (hn : 1000 ≤ n) : ∃ e, lp (b_m_image_167 n (nI k)) n (σ, (0 : Int32)) = some e ∧ e.1 = σ.1 ∧ e.2 17 = cpA (σ.2 5) (σ.2 17) (256 * k) 256 ∧ ∀ q, q ≠ 17 → e.2 q = σ.2 q := by
  refine lp_inv (fun (i : Nat) (s : ST × Int32) => s.2 = nI i ∧ s.1.1 = σ.1 ∧ s.1.2 17 = cpA (σ.2 5) (σ.2 17) (256 * k) i ∧ ∀ q, q ≠ 17 → s.1.2 q = σ.2 q) (fun (e : ST) => e.1 = σ.1 ∧ e.2 17 = cpA (σ.2 5) (σ.2 17) (256 * k) 256 ∧ ∀ q, q ≠ 17 → e.2 q = σ.2 q) 256 ?_ ?_ n 0 (σ, 0) (Nat.zero_le _) (by omega) ⟨rfl, rfl, cpA_0.symm, fun _ _ => rfl⟩
  · intro i s hi ⟨h1, h2, h3, h7⟩
    obtain ⟨ρ, t⟩ := s
    subst h1
    have h7 : ∀ q, q ≠ 17 → ρ.2 q = σ.2 q := h7
    have r5 := h7 5 (by decide)
    have g1 : jin (nI i) 256 = true := jin_nI hi (by omega)
    have g2 : jin ((256 : Int32) * nI k + nI i) 1024 = true := by rw [show (256 : Int32) = nI 256 from rfl, ix_mul]; exact jin_nI (by omega) (by omega)
    have e2 : jix ((256 : Int32) * nI k + nI i) = 256 * k + i := by rw [show (256 : Int32) = nI 256 from rfl, ix_mul]; exact jix_nI (by omega)
    have e1 : jix (nI i) = i := jix_nI (by omega)
    refine ⟨(sA ρ 17 (upd (ρ.2 17) (256 * k + i) (ρ.2 5 i)), nI (i + 1)), ?_, rfl, h2, ?_, ?_⟩
    · unfold b_m_image_167
      show (if (256 : Int32) ≤ nI i then _ else _) = _
      rw [if_neg (show ¬ (256 : Int32) ≤ nI i from nI_ge (b := 256) hi (by decide))]
      simp only [nam_e, e1, e2, grd_t g1, grd_t g2]
      rw [show nI i + (1 : Int32) = nI (i + 1) from nI_1 i]
    · show upd (ρ.2 17) (256 * k + i) (ρ.2 5 i) = _
      rw [show ρ.2 17 = _ from h3, r5]; exact cpA_step
    · intro q q1
      show (sA ρ 17 _).2 q = _
      rw [sA2n _ _ q1]
      exact h7 q q1
  · intro s ⟨h1, h2, h3⟩
    refine ⟨s.1, ?_, h2, h3⟩
    unfold b_m_image_167
    rw [h1, if_pos (by decide)]
theorem jnz_0 : jnz 0 = 0 := by decide
theorem jnz_1 : jnz 1 = 1 := by decide
theorem p_image (n : Nat) (hn : 1000 ≤ n) (τ : ST) {k : Nat} (hk : k < 4) : ∃ e, f_m_image n τ (nI k) = some (1, e) ∧ e.1 = (sS τ 0 0).1 ∧ (∀ q, q < 6 → e.2 q = τ.2 q) ∧ (∀ q, 18 ≤ q → e.2 q = τ.2 q) ∧ e.2 6 = upd (τ.2 6) k 1 ∧ e.2 7 = upd (τ.2 7) k (τ.1 1) ∧ e.2 8 = upd (τ.2 8) k (τ.1 2) ∧ e.2 9 = cpA (τ.2 1) (τ.2 9) (16 * k) 16 ∧ e.2 10 = cpA (τ.2 2) (τ.2 10) (16 * k) 16 ∧ e.2 11 = cpA (τ.2 3) (τ.2 11) (16 * k) 16 ∧ e.2 12 = upd (τ.2 12) k (jnz (τ.1 6)) ∧ e.2 13 = upd (τ.2 13) k (τ.1 7) ∧ e.2 14 = upd (τ.2 14) k (jnz (τ.1 8)) ∧ e.2 15 = upd (τ.2 15) k (τ.1 9) ∧ e.2 16 = cpA (τ.2 4) (τ.2 16) (16 * k) 16 ∧ e.2 17 = cpA (τ.2 5) (τ.2 17) (256 * k) 256 := by
  have g : jin (nI k) 4 = true := jin_nI hk (by omega)
  have gk : jix (nI k) = k := jix_nI (by omega)
  obtain ⟨e, a1, a2, a3, a4, a5, a6, a7⟩ := p_im16 (σ := sA (sA (sA (sA (sA (sA (sA (sS τ 0 0) 6 (upd (τ.2 6) k (jnz 1))) 7 (upd (τ.2 7) k (τ.1 1))) 8 (upd (τ.2 8) k (τ.1 2))) 12 (upd (τ.2 12) k (jnz (τ.1 6)))) 13 (upd (τ.2 13) k (τ.1 7))) 14 (upd (τ.2 14) k (jnz (τ.1 8)))) 15 (upd (τ.2 15) k (τ.1 9))) hk n hn
  obtain ⟨e2, b1, b2, b3, b4⟩ := p_im256 (σ := e) hk n hn
  have hin : ¬ (nI k < 0 ∨ (3 : Int32) < nI k) := fun q => q.elim (nI_pos (by omega)) (fun q => nI_nlt (a := 3) (b := k) (by omega) (by decide) q)
  have hq : ∀ q, q ≠ 9 → q ≠ 10 → q ≠ 11 → q ≠ 16 → q ≠ 17 → e2.2 q = (sA (sA (sA (sA (sA (sA (sA (sS τ 0 0) 6 (upd (τ.2 6) k (jnz 1))) 7 (upd (τ.2 7) k (τ.1 1))) 8 (upd (τ.2 8) k (τ.1 2))) 12 (upd (τ.2 12) k (jnz (τ.1 6)))) 13 (upd (τ.2 13) k (τ.1 7))) 14 (upd (τ.2 14) k (jnz (τ.1 8)))) 15 (upd (τ.2 15) k (τ.1 9))).2 q := fun q q1 q2 q3 q4 q5 => (b4 q q5).trans (a7 q q1 q2 q3 q4)
  refine ⟨e2, ?_, b2.trans a2, fun q h => ?_, fun q h => ?_, ?_, ?_, ?_, ?_, ?_, ?_, ?_, ?_, ?_, ?_, ?_, ?_⟩
  · unfold f_m_image
    rw [nam_e, bnd_s (p_in n _ 0 3), if_neg (by rw [if_neg hin]; decide)]
    simp only [nam_e, grd_t g, gk]
    exact (bnd_s a1).trans ((bnd_s b1).trans rfl)
  · rw [hq q (by omega) (by omega) (by omega) (by omega) (by omega), sA2n _ _ (show q ≠ 15 by omega), sA2n _ _ (show q ≠ 14 by omega), sA2n _ _ (show q ≠ 13 by omega), sA2n _ _ (show q ≠ 12 by omega), sA2n _ _ (show q ≠ 8 by omega), sA2n _ _ (show q ≠ 7 by omega), sA2n _ _ (show q ≠ 6 by omega)]; rfl
  · rw [hq q (by omega) (by omega) (by omega) (by omega) (by omega), sA2n _ _ (show q ≠ 15 by omega), sA2n _ _ (show q ≠ 14 by omega), sA2n _ _ (show q ≠ 13 by omega), sA2n _ _ (show q ≠ 12 by omega), sA2n _ _ (show q ≠ 8 by omega), sA2n _ _ (show q ≠ 7 by omega), sA2n _ _ (show q ≠ 6 by omega)]; rfl
  · rw [hq 6 (by decide) (by decide) (by decide) (by decide) (by decide), ← jnz_1]; rfl
  · rw [hq 7 (by decide) (by decide) (by decide) (by decide) (by decide)]; rfl
  · rw [hq 8 (by decide) (by decide) (by decide) (by decide) (by decide)]; rfl
  · rw [b4 9 (by decide), a3]; rfl
  · rw [b4 10 (by decide), a4]; rfl
  · rw [b4 11 (by decide), a5]; rfl
  · rw [hq 12 (by decide) (by decide) (by decide) (by decide) (by decide)]; rfl
  · rw [hq 13 (by decide) (by decide) (by decide) (by decide) (by decide)]; rfl
  · rw [hq 14 (by decide) (by decide) (by decide) (by decide) (by decide)]; rfl
  · rw [hq 15 (by decide) (by decide) (by decide) (by decide) (by decide)]; rfl
  · rw [b4 16 (by decide), a6]; rfl
  · rw [b3, a7 5 (by decide) (by decide) (by decide) (by decide), a7 17 (by decide) (by decide) (by decide) (by decide)]; rfl
