/-! Paths.turnToBack, follow as a whole, isStrong, isWhole -/
theorem bit1_nI {n k : Nat} (h : n < 2 ^ 31) (hk : k < 32) : (jshr (nI n) (nI k) &&& (1 : Int32)) = nI (if n.testBit k then 1 else 0) := by
  rw [jshr_nI h hk, lit_nI 1, and_nI, Nat.and_one_is_mod, Nat.testBit_eq_decide_div_mod_eq]
  by_cases q : n / 2 ^ k % 2 = 1
  · rw [q]; simp
  · rw [show n / 2 ^ k % 2 = 0 by omega]; simp
theorem jz_ite (c : Bool) : jz (if c then (1 : Int32) else 0) = true := by cases c <;> rfl
theorem p_back {σ : ST} {v : NV} (h642 : σ.1 642 = nI (nN v)) (ok : okN v) {o : Nat → Nat} (h11 : ∀ u, u < nN v → σ.2 11 u = nI (o u)) (hO : ∀ u, u < nN v → o u < 2 ^ nN v) (n : Nat) (hn : 1000 ≤ n) : ∃ e, f_Paths_turnToBack n σ = some e ∧ e.1 = σ.1 ∧ (∀ q, q ≠ 12 → e.2 q = σ.2 q) ∧ ∀ u, u < nN v → e.2 12 u = nI (gb (fun w => (o w).testBit u) (nN v)) := by
  have n8 := ok.2.1
  have hp : 2 ^ nN v ≤ 2 ^ 8 := Nat.pow_le_pow_right (by decide) n8
  obtain ⟨e, he, hQ⟩ := lp_inv (body := b_Paths_turnToBack_2 n) (fun (i : Nat) (t : ST × Int32) => t.2 = nI i ∧ t.1.1 = σ.1 ∧ (∀ q, q ≠ 12 → t.1.2 q = σ.2 q) ∧ ∀ u, u < i → t.1.2 12 u = nI (gb (fun w => (o w).testBit u) (nN v))) (fun (e : ST) => e.1 = σ.1 ∧ (∀ q, q ≠ 12 → e.2 q = σ.2 q) ∧ ∀ u, u < nN v → e.2 12 u = nI (gb (fun w => (o w).testBit u) (nN v))) (nN v) (by
      intro i t hi ⟨h1, h2, h3, h4⟩
      obtain ⟨ρ, y⟩ := t
      subst h1
      have h2 : ρ.1 = σ.1 := h2
      have h3 : ∀ q, q ≠ 12 → ρ.2 q = σ.2 q := h3
      have h4 : ∀ u, u < i → ρ.2 12 u = nI (gb (fun w => (o w).testBit u) (nN v)) := h4
      obtain ⟨d, hd, d1, d2, d3, d4⟩ := lp_inv (body := b_Paths_turnToBack_19 n (nI i)) (fun (y : Nat) (t : ST × Int32) => t.2 = nI y ∧ t.1.1 = σ.1 ∧ (∀ q, q ≠ 12 → t.1.2 q = σ.2 q) ∧ t.1.2 12 i = nI (gb (fun w => (o w).testBit i) y) ∧ ∀ u, u ≠ i → t.1.2 12 u = ρ.2 12 u) (fun (e : ST) => e.1 = σ.1 ∧ (∀ q, q ≠ 12 → e.2 q = σ.2 q) ∧ e.2 12 i = nI (gb (fun w => (o w).testBit i) (nN v)) ∧ ∀ u, u ≠ i → e.2 12 u = ρ.2 12 u) (nN v) (by
          intro y t hy ⟨g1, g2, g3, g4, g5⟩
          obtain ⟨π, z⟩ := t
          subst g1
          have g2 : π.1 = σ.1 := g2
          have g3 : ∀ q, q ≠ 12 → π.2 q = σ.2 q := g3
          have g4 : π.2 12 i = nI (gb (fun w => (o w).testBit i) y) := g4
          have ry : π.2 11 y = nI (o y) := by rw [g3 11 (by decide)]; exact h11 y hy
          have gy : jin (nI y) 8 = true := jin_nI (by omega) (by omega)
          have gi : jin (nI i) 8 = true := jin_nI (by omega) (by omega)
          have jy : jix (nI y) = y := jix_nI (by omega)
          have ji : jix (nI i) = i := jix_nI (by omega)
          have hoy := hO y hy
          have hpy : 2 ^ y ≤ 2 ^ 8 := Nat.pow_le_pow_right (by decide) (by omega)
          refine ⟨(sA π 12 (upd (π.2 12) i (nI (gb (fun w => (o w).testBit i) (y + 1)))), nI (y + 1)), ?_, rfl, g2, fun q hq => ?_, upd_s, fun u hu => ?_⟩
          · unfold b_Paths_turnToBack_19
            show (if π.1 642 ≤ nI y then _ else _) = _
            rw [g2, h642, if_neg (nI_ge hy (by omega))]
            simp only [nam_e, gy, gi, grd_tt, jy, ji, ry, g4]
            rw [bit1_nI (by omega) (by omega), show nI y + (1 : Int32) = nI (y + 1) from nI_1 y]
            have hb : gb (fun w => (o w).testBit i) (y + 1) = gb (fun w => (o w).testBit i) y + if (o y).testBit i then 2 ^ y else 0 := rfl
            have hlt := gb_lt (fun w => (o w).testBit i) y
            by_cases q : (o y).testBit i = true
            · rw [if_pos q, hb, if_pos q, jshl_nI (by omega) (by omega), Nat.one_mul, or_nI, add_pow_or hlt]
            · rw [if_neg q, hb, if_neg q, jshl_nI (by omega) (by omega), Nat.zero_mul, or_nI, Nat.or_zero]; rfl
          · show (sA π 12 _).2 q = _
            rw [sA2n _ _ hq]; exact g3 q hq
          · show upd (π.2 12) i _ u = _
            rw [upd_n hu]; exact g5 u hu) (by
          intro t ⟨g1, g2, g3, g4, g5⟩
          refine ⟨t.1, ?_, g2, g3, g4, g5⟩
          unfold b_Paths_turnToBack_19
          rw [g1, g2, h642, if_pos (nI_le (Nat.le_refl _) (by omega))]) n 0 (sA ρ 12 (upd (ρ.2 12) i 0), 0) (Nat.zero_le _) (by omega) ⟨rfl, h2, fun q hq => by rw [sA2n _ _ hq]; exact h3 q hq, upd_s, fun u hu => upd_n hu⟩
      refine ⟨(d, nI (i + 1)), ?_, rfl, d1, d2, fun u hu => ?_⟩
      · unfold b_Paths_turnToBack_2
        show (if ρ.1 642 ≤ nI i then _ else grd (jin (nI i) 8) (nam (sA ρ 12 (upd (ρ.2 12) (jix (nI i)) 0)) _)) = _
        rw [h2, h642, if_neg (nI_ge hi (by omega)), grd_t (jin_nI (by omega) (by omega)), nam_e, jix_nI (by omega)]
        show bnd (lp (b_Paths_turnToBack_19 n (nI i)) n _) _ = _
        rw [bnd_s hd, show nI i + (1 : Int32) = nI (i + 1) from nI_1 i]
      · show d.2 12 u = _
        rcases (show u = i ∨ u < i by omega) with q | q
        · subst q; exact d3
        · rw [d4 u (by omega)]; exact h4 u q) (by
      intro t ⟨h1, h2, h3, h4⟩
      refine ⟨t.1, ?_, h2, h3, h4⟩
      unfold b_Paths_turnToBack_2
      rw [h1, h2, h642, if_pos (nI_le (Nat.le_refl _) (by omega))]) n 0 (σ, 0) (Nat.zero_le _) (by omega) ⟨rfl, rfl, fun _ _ => rfl, fun u hu => absurd hu (Nat.not_lt_zero _)⟩
  refine ⟨e, ?_, hQ⟩
  unfold f_Paths_turnToBack
  rw [bnd_s he]
theorem p_follow {σ : ST} {v : NV} (hv : isNet (σ.1 128) (σ.1 129) (σ.2 3) (σ.2 4) (σ.2 5) v) (ok : okN v) (n : Nat) (hn : 1000 ≤ n) (b : Int32) : ∃ e, f_Paths_follow n σ b = some e ∧ (∀ c, c ≠ 642 → e.1 c = σ.1 c) ∧ e.1 642 = nI (nN v) ∧ (∀ q, q ≠ 11 → q ≠ 12 → e.2 q = σ.2 q) ∧ ∀ u, u < nN v → e.2 11 u = nI (hl v (bof b) true u) ∧ e.2 12 u = nI (hl v (bof b) false u) := by
  obtain ⟨hN, hK, har⟩ := hv
  obtain ⟨e1, a0, a1, a2, a3⟩ := p_follow1 (σ := sS σ 642 (σ.1 128)) (by rw [sS1s]; exact hN) ok n hn b
  obtain ⟨e2, b0, b1, b2, o, b3, b4, b5⟩ := p_follow2 (σ := e1) (v := v) (by rw [a1]; exact hK) (fun i hi => ⟨by rw [a2 3 (by decide)]; exact (har i hi).1, by rw [a2 4 (by decide)]; exact (har i hi).2.1⟩) ok a3 n hn b
  obtain ⟨e3, c0, c1, c2, o2, c3, c4, c5, c6⟩ := p_close (σ := e2) (by rw [b1, a1, sS1s]; exact hN) ok b3 b4 b5 n hn
  obtain ⟨e4, d0, d1, d2, d3⟩ := p_back (σ := e3) (by rw [c1, b1, a1, sS1s]; exact hN) ok c3 (fun u hu => (c4 u hu).1) n hn
  have ho : ∀ u, u < nN v → o2 u = hl v (bof b) true u := by
    intro u hu
    obtain ⟨g1, g2, g3⟩ := c4 u hu
    refine hl_uni ok hu g2 (fun i hi => ⟨fun q => ?_, fun hb q => ?_⟩) (fun P hP hPu w hw => g3 w hw P hP hPu)
    · exact c6 u (nT v i) (nH v i) hu (ok.2.2.2 i hi).1 q (c5 i hi).1
    · exact c6 u (nH v i) (nT v i) hu (ok.2.2.2 i hi).2.1 q ((c5 i hi).2 hb)
  refine ⟨e4, ?_, fun c hc => ?_, ?_, fun q q1 q2 => ?_, fun u hu => ⟨?_, ?_⟩⟩
  · unfold f_Paths_follow
    rw [nam_e, bnd_s a0, bnd_s b0, bnd_s c0, bnd_s d0]
  · rw [d1, c1, b1, a1, sS1n _ _ hc]
  · rw [d1, c1, b1, a1, sS1s]; exact hN
  · rw [d2 q q2, c2 q q1, b2 q q1, a2 q q1]; rfl
  · rw [d2 11 (by decide), c3 u hu, ho u hu]
  · rw [d3 u hu]
    congr 1
    apply Nat.eq_of_testBit_eq
    intro w
    rw [gb_bit, Bool.eq_iff_iff, hl_bit, Bool.and_eq_true, decide_eq_true_eq]
    constructor
    · rintro ⟨q1, q2⟩
      rw [ho w q1, hl_bit] at q2
      exact ⟨q1, HR_dual.mpr q2.2⟩
    · rintro ⟨q1, q2⟩
      refine ⟨q1, ?_⟩
      rw [ho w q1, hl_bit]
      exact ⟨hu, HR_dual.mp q2⟩
/-- the class's bench stays when Paths is used -/
theorem RX_paths {σ e : ST} {v : BV} (h : RX σ v) (h1 : ∀ c, c ≠ 642 → e.1 c = σ.1 c) (h2 : ∀ q, q ≠ 11 → q ≠ 12 → e.2 q = σ.2 q) : RX e v := by
  refine RX_of h ?_ rfl (h1 66 (by decide)) (h1 384 (by decide)) (h1 385 (by decide)) (h2 7 (by decide) (by decide)) (h2 8 (by decide) (by decide))
  rw [h1 128 (by decide), h1 129 (by decide), h2 3 (by decide) (by decide), h2 4 (by decide) (by decide), h2 5 (by decide) (by decide)]
  exact h.1
theorem SX_paths {σ e : ST} (h : SX σ) (h2 : ∀ q, q ≠ 11 → q ≠ 12 → e.2 q = σ.2 q) : SX e := ⟨by rw [h2 16 (by decide) (by decide)]; exact h.1, by rw [h2 17 (by decide) (by decide)]; exact h.2⟩
/-- would the net be strong? -/
noncomputable def strB (v : NV) (bo : Nat → Bool) : Bool := decide (hl v bo true 0 = 2 ^ nN v - 1) && decide (hl v bo false 0 = 2 ^ nN v - 1)
theorem p_x_isStrong {σ : ST} {v : BV} (hx : RX σ v) (ok : okN v.1) (hsx : SX σ) (n : Nat) (hn : 1000 ≤ n) (b : Int32) : ∃ e, f_x_isStrong n σ b = some (if strB v.1 (bof b) then 1 else 0, e) ∧ RX e v ∧ SX e ∧ (∀ c, c ≠ 642 → e.1 c = σ.1 c) ∧ (∀ q, q ≠ 11 → q ≠ 12 → e.2 q = σ.2 q) := by
  obtain ⟨e, e1, e2, e3, e4, e5⟩ := p_follow hx.1 ok n hn b
  have n8 := ok.2.1
  have hp : 2 ^ nN v.1 ≤ 2 ^ 8 := Nat.pow_le_pow_right (by decide) n8
  have h0 := e5 0 ok.1
  have l1 := hl_lt v.1 (bof b) true 0
  have l2 := hl_lt v.1 (bof b) false 0
  refine ⟨e, ?_, RX_paths hx e2 e4, SX_paths hsx e4, e2, e4⟩
  have hs : f_Paths_areStrong n e = some (if strB v.1 (bof b) then 1 else 0) := by
    unfold f_Paths_areStrong j_Paths_areStrong_33 j_Paths_areStrong_34 strB
    rw [nam_e, grd_t (by decide), show jix (0 : Int32) = 0 from by decide, h0.1, h0.2, e3, show (1 : Int32) = nI 1 from rfl, jshl_nI (by omega) (by omega), Nat.one_mul, pk_sub Nat.one_le_two_pow]
    by_cases q1 : hl v.1 (bof b) true 0 = 2 ^ nN v.1 - 1
    · rw [q1, if_pos rfl, grd_t (by decide)]
      by_cases q2 : hl v.1 (bof b) false 0 = 2 ^ nN v.1 - 1
      · rw [q2, if_pos rfl, grd_t (by decide), if_pos (by simp)]
      · rw [if_neg (fun z => q2 (nI_inj (by omega) (by omega) z)), grd_t (by decide), if_neg (by simp [q2])]
    · rw [if_neg (fun z => q1 (nI_inj (by omega) (by omega) z)), grd_t (by decide), if_neg (by simp [q1])]
  unfold f_x_isStrong
  rw [bnd_s e1, bnd_s hs, grd_t (jz_ite _)]
theorem p_m_isStrongWith {τ : ST} {v : NV} (hv : isNet (τ.1 1) (τ.1 2) (τ.2 1) (τ.2 2) (τ.2 3) v) (ok : okN v) (n : Nat) (hn : 1000 ≤ n) (b : Int32) : f_m_isStrongWith n τ b = some (if strB v (bof b) then 1 else 0) := by
  have n8 := ok.2.1
  have hp : 2 ^ nN v ≤ 2 ^ 8 := Nat.pow_le_pow_right (by decide) n8
  have l1 := hl_lt v (bof b) true 0
  have l2 := hl_lt v (bof b) false 0
  have r1 : f_m_reach n τ (1 : Int32) b (1 : Int32) = some (nI (hl v (bof b) true 0)) := p_reach hv ok n hn b true (u := 0) ok.1
  have r2 : f_m_reach n τ (1 : Int32) b (0 : Int32) = some (nI (hl v (bof b) false 0)) := p_reach hv ok n hn b false (u := 0) ok.1
  unfold f_m_isStrongWith j_m_isStrongWith_32 j_m_isStrongWith_33 strB
  rw [bnd_s r1, bnd_s (p_m_all hv.1 n8)]
  by_cases q1 : hl v (bof b) true 0 = 2 ^ nN v - 1
  · rw [q1, if_pos rfl, bnd_s r2, bnd_s (p_m_all hv.1 n8)]
    by_cases q2 : hl v (bof b) false 0 = 2 ^ nN v - 1
    · rw [q2, if_pos rfl, grd_t (by decide), if_pos (by simp)]
    · rw [if_neg (fun z => q2 (nI_inj (by omega) (by omega) z)), grd_t (by decide), if_neg (by simp [q2])]
  · rw [if_neg (fun z => q1 (nI_inj (by omega) (by omega) z)), grd_t (by decide), if_neg (by simp [q1])]
theorem sim_isStrong (n : Nat) (hn : 1000 ≤ n) : Sim_isStrong n TheInv := by
  intro j σ it τ bb a hj h
  obtain ⟨v, ji, ok, hx, hm, hi, hsx⟩ := h
  obtain ⟨e, e1, e2, e3, e4, e5⟩ := p_x_isStrong hx ok.1 hsx n hn a
  refine ⟨_, e, sS τ 0 0, e1, ?_, v, ji, okB_up ok, e2, RF_code hm 0, ImOK_up hi, e3⟩
  unfold f_m_isStrong
  rw [nam_e, bnd_s (p_m_isStrongWith (τ := sS τ 0 0) hm.1.1 ok.1 n hn a), grd_t (jz_ite _)]
/-- is the net whole? -/
noncomputable def whoB (v : NV) : Bool := strB v (bof 65535)
theorem bof_all {i : Nat} (hi : i < 16) : bof 65535 i = true := by
  unfold bof
  apply decide_eq_true
  rw [show (65535 : Int32) = nI 65535 from rfl, bit_nI (by decide) (by omega)]
  rw [show (65535 : Nat) = 2 ^ 16 - 1 from rfl, Nat.testBit_two_pow_sub_one]
  simp [hi]
theorem hl_sym {v : NV} (k16 : nK v ≤ 16) (u : Nat) : hl v (bof 65535) true u = hl v (bof 65535) false u := by
  apply Nat.eq_of_testBit_eq
  intro w
  rw [Bool.eq_iff_iff, hl_bit, hl_bit]
  exact ⟨fun h => ⟨h.1, HR_sym (fun i hi => bof_all (by omega)) h.2⟩, fun h => ⟨h.1, HR_sym2 (fun i hi => bof_all (by omega)) h.2⟩⟩
theorem p_m_isWhole {τ : ST} {v : NV} (hv : isNet (τ.1 1) (τ.1 2) (τ.2 1) (τ.2 2) (τ.2 3) v) (ok : okN v) (n : Nat) (hn : 1000 ≤ n) : f_m_isWhole n τ = some (if whoB v then 1 else 0) := by
  have n8 := ok.2.1
  have hp : 2 ^ nN v ≤ 2 ^ 8 := Nat.pow_le_pow_right (by decide) n8
  have l1 := hl_lt v (bof 65535) true 0
  have r1 : f_m_reach n τ (1 : Int32) 65535 (1 : Int32) = some (nI (hl v (bof 65535) true 0)) := p_reach hv ok n hn 65535 true (u := 0) ok.1
  unfold f_m_isWhole j_m_isWhole_20 whoB strB
  rw [bnd_s r1, bnd_s (p_m_all hv.1 n8), ← hl_sym ok.2.2.1, Bool.and_self]
  by_cases q1 : hl v (bof 65535) true 0 = 2 ^ nN v - 1
  · rw [q1, if_pos rfl, grd_t (by decide), if_pos (by simp)]
  · rw [if_neg (fun z => q1 (nI_inj (by omega) (by omega) z)), grd_t (by decide), if_neg (by simp [q1])]
theorem p_x_isWhole {σ : ST} {v : BV} (hx : RX σ v) (ok : okN v.1) (hsx : SX σ) (n : Nat) (hn : 1000 ≤ n) : ∃ e, f_x_isWhole n σ = some (if whoB v.1 then 1 else 0, e) ∧ RX e v ∧ SX e := by
  obtain ⟨e, e1, e2, e3, e4, e5⟩ := p_x_isStrong hx ok hsx n hn 65535
  refine ⟨e, ?_, e2, e3⟩
  unfold f_x_isWhole
  rw [bnd_s e1, grd_t (jz_ite _)]
  rfl
