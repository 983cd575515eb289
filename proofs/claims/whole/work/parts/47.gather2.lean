theorem gb_false : ∀ m, gb (fun _ => false) m = 0 := by
  intro m
  induction m with
  | zero => rfl
  | succ m ih => show gb (fun _ => false) m + 0 = 0; rw [ih]
theorem tw_0 (v : NV) : tw v 0 = 0 := by
  unfold tw
  rw [gb_congr (q := fun _ => false) _ (fun i _ => Nat.zero_testBit _)]
  exact gb_false _
theorem hw_0 (v : NV) : hw v 0 = 0 := by
  unfold hw
  rw [gb_congr (q := fun _ => false) _ (fun i _ => Nat.zero_testBit _)]
  exact gb_false _
theorem tw_add {v : NV} (ok : okN v) {u x : Nat} (hx : x < 2 ^ u) (hu : u < 8) : tw v (2 ^ u + x) = tw v x ||| gb (fun i => decide (nT v i = u)) (nK v) := by
  unfold tw
  rw [gb_or]
  refine gb_congr _ (fun i hi => ?_)
  have h1 := (ok.2.2.2 i hi).1
  have h2 := ok.2.1
  rw [tb_add hx (by omega) hu, Bool.or_comm]
theorem hw_add {v : NV} (ok : okN v) {u x : Nat} (hx : x < 2 ^ u) (hu : u < 8) : hw v (2 ^ u + x) = hw v x ||| gb (fun i => decide (nH v i = u)) (nK v) := by
  unfold hw
  rw [gb_or]
  refine gb_congr _ (fun i hi => ?_)
  have h1 := (ok.2.2.2 i hi).2.1
  have h2 := ok.2.1
  rw [tb_add hx (by omega) hu, Bool.or_comm]
theorem p_gather {σ : ST} {v : NV} (hv : isNet (σ.1 128) (σ.1 129) (σ.2 3) (σ.2 4) (σ.2 5) v) (ok : okN v) (hsx : SX σ) (n : Nat) (hn : 1000 ≤ n) : ∃ e, f_Sides_gatherArcs n σ = some e ∧ e.1 = σ.1 ∧ (∀ x, x < 2 ^ nN v → e.2 16 x = nI (tw v x) ∧ e.2 17 x = nI (hw v x)) ∧ ∀ q, q ≠ 16 → q ≠ 17 → e.2 q = σ.2 q := by
  obtain ⟨hN, hK, har⟩ := hv
  have hN8 := ok.2.1
  have k16 := ok.2.2.1
  obtain ⟨e, he, h1, h2, h3⟩ := lp_inv (body := b_Sides_gatherArcs_2 n) (fun (u : Nat) (s : ST × Int32) => s.2 = nI u ∧ s.1.1 = σ.1 ∧ (∀ x, x < 2 ^ u → s.1.2 16 x = nI (tw v x) ∧ s.1.2 17 x = nI (hw v x)) ∧ ∀ q, q ≠ 16 → q ≠ 17 → s.1.2 q = σ.2 q) (fun (e : ST) => e.1 = σ.1 ∧ (∀ x, x < 2 ^ nN v → e.2 16 x = nI (tw v x) ∧ e.2 17 x = nI (hw v x)) ∧ ∀ q, q ≠ 16 → q ≠ 17 → e.2 q = σ.2 q) (nN v) (by
      intro u s hu ⟨g1, g2, g3, g4⟩
      obtain ⟨ρ, t⟩ := s
      subst g1
      have g2 : ρ.1 = σ.1 := g2
      have g3 : ∀ x, x < 2 ^ u → ρ.2 16 x = nI (tw v x) ∧ ρ.2 17 x = nI (hw v x) := g3
      have g4 : ∀ q, q ≠ 16 → q ≠ 17 → ρ.2 q = σ.2 q := g4
      have hp : 2 ^ u ≤ 2 ^ 7 := Nat.pow_le_pow_right (by decide) (by omega)
      have ft : f_Net_arcsFrom n ρ (nI u) = some (nI (gb (fun i => decide (nT v i = u)) (nK v))) := by
        unfold f_Net_arcsFrom
        rw [bnd_s (p_arcsAt_t (v := v) (by rw [g2]; exact hK) k16 (fun i hi => ⟨by rw [g4 3 (by decide) (by decide)]; exact (har i hi).1, by have := (ok.2.2.2 i hi).1; omega⟩) n hn (by omega))]
      have fh : f_Net_arcsTo n ρ (nI u) = some (nI (gb (fun i => decide (nH v i = u)) (nK v))) := by
        unfold f_Net_arcsTo
        rw [bnd_s (p_arcsAt_h (v := v) (by rw [g2]; exact hK) k16 (fun i hi => ⟨by rw [g4 4 (by decide) (by decide)]; exact (har i hi).2.1, by have := (ok.2.2.2 i hi).2.1; omega⟩) n hn (by omega))]
      obtain ⟨e, e1, e2, e3, e4⟩ := p_gin (ρ := ρ) (u := u) (F := gb (fun i => decide (nT v i = u)) (nK v)) (G := gb (fun i => decide (nH v i = u)) (nK v)) (by omega) g3 (nI u) n hn
      refine ⟨(e, nI (u + 1)), ?_, rfl, e2.trans g2, ?_, fun q q1 q2 => (e4 q q1 q2).trans (g4 q q1 q2)⟩
      · unfold b_Sides_gatherArcs_2
        show (if ρ.1 128 ≤ nI u then _ else _) = _
        rw [g2, hN, if_neg (nI_ge hu (by omega)), bnd_s ft, bnd_s fh]
        show bnd (lp (b_Sides_gatherArcs_31 n (nI u) _ _ (jshl 1 (nI u))) n (ρ, 0)) _ = _
        rw [show jshl (1 : Int32) (nI u) = nI (2 ^ u) from by rw [show (1 : Int32) = nI 1 from rfl, jshl_nI (by omega) (by omega), Nat.one_mul], bnd_s e1, show nI u + (1 : Int32) = nI (u + 1) from nI_1 u]
      · intro x hx
        rw [Nat.pow_succ] at hx
        by_cases hxu : x < 2 ^ u
        · exact ⟨(e3 x hxu).1, (e3 x hxu).2.1⟩
        · obtain ⟨y, rfl⟩ : ∃ y, x = 2 ^ u + y := ⟨x - 2 ^ u, by omega⟩
          have hy : y < 2 ^ u := by omega
          rw [tw_add ok hy (by omega), hw_add ok hy (by omega)]
          exact ⟨(e3 y hy).2.2.1, (e3 y hy).2.2.2⟩) (by
      intro s ⟨g1, g2, g3, g4⟩
      refine ⟨s.1, ?_, g2, g3, g4⟩
      unfold b_Sides_gatherArcs_2
      rw [g1, g2, hN, if_pos (nI_le (Nat.le_refl _) (by omega))]) n 0 (σ, (0 : Int32)) (Nat.zero_le _) (by omega) ⟨rfl, rfl, (by
      intro x hx
      have h0 : x = 0 := by
        have : x < 1 := hx
        omega
      subst h0
      rw [tw_0, hw_0]
      exact hsx), fun _ _ _ => rfl⟩
  refine ⟨e, ?_, h1, h2, h3⟩
  unfold f_Sides_gatherArcs
  rw [bnd_s he]
