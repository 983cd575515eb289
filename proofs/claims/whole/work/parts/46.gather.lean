/-! Sides.gatherArcs -/
def tw (v : NV) (s : Nat) : Nat := gb (fun i => s.testBit (nT v i)) (nK v)
def hw (v : NV) (s : Nat) : Nat := gb (fun i => s.testBit (nH v i)) (nK v)
theorem tb_add {u s t : Nat} (hs : s < 2 ^ u) (ht : t < 8) (hu : u < 8) : (2 ^ u + s).testBit t = (decide (t = u) || s.testBit t) := by
  rw [Nat.add_comm, add_pow_or hs, Nat.testBit_or, Nat.testBit_two_pow, Bool.or_comm]
  congr 1
  apply decide_eq_decide.mpr
  exact ⟨fun h => h.symm, fun h => h.symm⟩
theorem p_gin {ρ : ST} {u F G : Nat} {a b : Nat → Nat} (hu : u < 8) (ha : ∀ x, x < 2 ^ u → ρ.2 16 x = nI (a x) ∧ ρ.2 17 x = nI (b x)) (w : Int32) (n : Nat) (hn : 1000 ≤ n) : ∃ e, lp (b_Sides_gatherArcs_31 n w (nI F) (nI G) (nI (2 ^ u))) n (ρ, (0 : Int32)) = some e ∧ e.1 = ρ.1 ∧ (∀ x, x < 2 ^ u → e.2 16 x = nI (a x) ∧ e.2 17 x = nI (b x) ∧ e.2 16 (2 ^ u + x) = nI (a x ||| F) ∧ e.2 17 (2 ^ u + x) = nI (b x ||| G)) ∧ ∀ q, q ≠ 16 → q ≠ 17 → e.2 q = ρ.2 q := by
  have hp : 2 ^ u ≤ 2 ^ 7 := Nat.pow_le_pow_right (by decide) (by omega)
  refine lp_inv (fun (i : Nat) (s : ST × Int32) => s.2 = nI i ∧ s.1.1 = ρ.1 ∧ (∀ x, x < 2 ^ u → s.1.2 16 x = nI (a x) ∧ s.1.2 17 x = nI (b x)) ∧ (∀ x, x < i → s.1.2 16 (2 ^ u + x) = nI (a x ||| F) ∧ s.1.2 17 (2 ^ u + x) = nI (b x ||| G)) ∧ ∀ q, q ≠ 16 → q ≠ 17 → s.1.2 q = ρ.2 q) (fun (e : ST) => e.1 = ρ.1 ∧ (∀ x, x < 2 ^ u → e.2 16 x = nI (a x) ∧ e.2 17 x = nI (b x) ∧ e.2 16 (2 ^ u + x) = nI (a x ||| F) ∧ e.2 17 (2 ^ u + x) = nI (b x ||| G)) ∧ ∀ q, q ≠ 16 → q ≠ 17 → e.2 q = ρ.2 q) (2 ^ u) ?_ ?_ n 0 (ρ, 0) (Nat.zero_le _) (by omega) ⟨rfl, rfl, ha, fun x hx => absurd hx (Nat.not_lt_zero _), fun _ _ _ => rfl⟩
  · intro i s hi ⟨h1, h2, h3, h4, h5⟩
    obtain ⟨η, t⟩ := s
    subst h1
    have h3 : ∀ x, x < 2 ^ u → η.2 16 x = nI (a x) ∧ η.2 17 x = nI (b x) := h3
    have h4 : ∀ x, x < i → η.2 16 (2 ^ u + x) = nI (a x ||| F) ∧ η.2 17 (2 ^ u + x) = nI (b x ||| G) := h4
    have g1 : jin (nI i) 256 = true := jin_nI (by omega) (by omega)
    have g2 : jin (nI (2 ^ u + i)) 256 = true := jin_nI (by omega) (by omega)
    refine ⟨(sA (sA η 16 (upd (η.2 16) (2 ^ u + i) (nI (a i ||| F)))) 17 (upd (η.2 17) (2 ^ u + i) (nI (b i ||| G))), nI (i + 1)), ?_, rfl, h2, ?_, ?_, ?_⟩
    · unfold b_Sides_gatherArcs_31
      show (if nI (2 ^ u) ≤ nI i then _ else _) = _
      rw [if_neg (nI_ge hi (by omega))]
      simp only [nI_add, nam_e]
      rw [grd_t g1, grd_t g2, grd_t g1, grd_t g2, jix_nI (show i < 2 ^ 31 by omega), jix_nI (show 2 ^ u + i < 2 ^ 31 by omega)]
      show some (Sum.inl (sA (sA η 16 (upd (η.2 16) (2 ^ u + i) (η.2 16 i ||| nI F))) 17 (upd (η.2 17) (2 ^ u + i) (η.2 17 i ||| nI G)), nI i + 1)) = _
      rw [(h3 i hi).1, (h3 i hi).2, or_nI, or_nI, show nI i + (1 : Int32) = nI (i + 1) from nI_1 i]
    · intro x hx
      show upd (η.2 16) (2 ^ u + i) _ x = _ ∧ upd (η.2 17) (2 ^ u + i) _ x = _
      rw [upd_n (show x ≠ 2 ^ u + i by omega), upd_n (show x ≠ 2 ^ u + i by omega)]
      exact h3 x hx
    · intro x hx
      show upd (η.2 16) (2 ^ u + i) _ (2 ^ u + x) = _ ∧ upd (η.2 17) (2 ^ u + i) _ (2 ^ u + x) = _
      by_cases hxi : x = i
      · subst hxi; rw [upd_s, upd_s]; exact ⟨rfl, rfl⟩
      · rw [upd_n (show 2 ^ u + x ≠ 2 ^ u + i by omega), upd_n (show 2 ^ u + x ≠ 2 ^ u + i by omega)]
        exact h4 x (by omega)
    · intro q q1 q2
      show (sA (sA η 16 _) 17 _).2 q = _
      rw [sA2n _ _ q2, sA2n _ _ q1]
      exact h5 q q1 q2
  · intro s ⟨h1, h2, h3, h4, h5⟩
    refine ⟨s.1, ?_, h2, fun x hx => ⟨(h3 x hx).1, (h3 x hx).2, (h4 x hx).1, (h4 x hx).2⟩, h5⟩
    unfold b_Sides_gatherArcs_31
    rw [h1, if_pos (nI_le (Nat.le_refl _) (by omega))]
