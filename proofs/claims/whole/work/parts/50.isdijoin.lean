/-! isDijoin -/
def gdj (c q : Nat) (σ : ST) (v1 : Int32) (s : Int32) : Option ((Int32) ⊕ ((Unit) ⊕ (Int32 × ST))) :=
  if (σ.1 c) ≤ s then
    some (.inr (.inl ()))
  else
    grd (jin s 256) <|
    if ((σ.2 q (jix s)) &&& v1) = 0 then
      some (.inr (.inr ((0 : Int32), σ)))
    else
      some (.inl (s + (1 : Int32)))
theorem dj_x (n : Nat) (σ : ST) (a : Int32) : b_x_isDijoin_16 n σ a = gdj 832 15 σ a := rfl
theorem dj_m (n : Nat) (σ : ST) (a : Int32) : b_m_isDijoin_11 n σ a = gdj 25 19 σ a := rfl
theorem p_gdj {c q L : Nat} {σ : ST} {a : Int32} (hc : σ.1 c = nI L) (hL : L ≤ 256) (n : Nat) (hn : 1000 ≤ n) : ((∃ x, x < L ∧ σ.2 q x &&& a = 0) → lp (gdj c q σ a) n (0 : Int32) = some (.inr (0, σ))) ∧ ((¬ ∃ x, x < L ∧ σ.2 q x &&& a = 0) → lp (gdj c q σ a) n (0 : Int32) = some (.inl ())) := by
  have one : ∀ i, i < L → gdj c q σ a (nI i) = if σ.2 q i &&& a = 0 then some (.inr (.inr (0, σ))) else some (.inl (nI (i + 1))) := by
    intro i hi
    unfold gdj
    rw [hc, if_neg (nI_ge hi (by omega)), grd_t (jin_nI (by omega) (by omega)), jix_nI (by omega), show nI i + (1 : Int32) = nI (i + 1) from nI_1 i]
  constructor
  · intro hex
    obtain ⟨i, ⟨hi, h0⟩, hmin⟩ := pk_least (fun x => x < L ∧ σ.2 q x &&& a = 0) hex
    refine lp_for (fun i => nI i) i (fun y hy => ?_) ?_ n (by omega)
    · rw [one y (by omega), if_neg (fun z => hmin y hy ⟨by omega, z⟩)]
    · rw [one i hi, if_pos h0]
  · intro hno
    refine lp_for (fun i => nI i) L (fun y hy => ?_) ?_ n (by omega)
    · rw [one y hy, if_neg (fun z => hno ⟨y, hy, z⟩)]
    · unfold gdj
      rw [hc, if_pos (nI_le (Nat.le_refl _) (by omega))]
theorem sides_le (v : NV) (ok : okN v) : (sidesOf v).length ≤ 256 := by
  have h := sidesTo_len v (2 ^ nN v - 1)
  have hp : 2 ^ nN v ≤ 2 ^ 8 := Nat.pow_le_pow_right (by decide) ok.2.1
  unfold sidesOf
  omega
/-- the class's bench stays when only its search rows change -/
theorem RX_find {σ e : ST} {v : BV} (h : RX σ v) (h1 : ∀ c, c ≠ 832 → e.1 c = σ.1 c) (h2 : ∀ q, q < 14 ∨ 17 < q → e.2 q = σ.2 q) : RX e v := by
  refine RX_of h ?_ rfl (h1 66 (by decide)) (h1 384 (by decide)) (h1 385 (by decide)) (h2 7 (by decide)) (h2 8 (by decide))
  rw [h1 128 (by decide), h1 129 (by decide), h2 3 (by decide), h2 4 (by decide), h2 5 (by decide)]
  exact h.1
theorem sim_isDijoin (n : Nat) (hn : 1000 ≤ n) : Sim_isDijoin n TheInv := by
  intro j σ it τ bb a hj h
  obtain ⟨v, ji, ok, hx, hm, hi, hsx⟩ := h
  obtain ⟨e, e1, e2, e3, e4, e5, e6⟩ := p_find hx.1 ok.1 hsx n hn
  obtain ⟨d, d1, d2, d3, d4, d5⟩ := p_makeSides (RF_code hm 0) ok.1 n hn
  have hl := sides_le v.1 ok.1
  have hC := d2.2.1.2.2.2.1 d3
  have hiff : (∃ x, x < (sidesOf v.1).length ∧ e.2 15 x &&& a = 0) ↔ (∃ x, x < (sidesOf v.1).length ∧ d.2 19 x &&& a = 0) := by
    constructor
    · rintro ⟨x, hx0, hx1⟩; exact ⟨x, hx0, by rw [(hC.2 x hx0).2, ← (e4 x hx0).2]; exact hx1⟩
    · rintro ⟨x, hx0, hx1⟩; exact ⟨x, hx0, by rw [(e4 x hx0).2, ← (hC.2 x hx0).2]; exact hx1⟩
  have stay : TheInv (j + 1) e it d := ⟨v, ji, okB_up ok, RX_find hx e2 e5, d2, ImOK_up hi, e6⟩
  by_cases hex : ∃ x, x < (sidesOf v.1).length ∧ e.2 15 x &&& a = 0
  · refine ⟨0, e, d, ?_, ?_, stay⟩
    · unfold f_x_isDijoin
      rw [bnd_s e1, dj_x, bnd_s ((p_gdj (q := 15) e3 hl n hn).1 hex)]
      rfl
    · unfold f_m_isDijoin
      rw [nam_e, bnd_s d1, dj_m, bnd_s ((p_gdj (q := 19) hC.1 hl n hn).1 (hiff.mp hex))]
      rfl
  · refine ⟨1, e, d, ?_, ?_, stay⟩
    · unfold f_x_isDijoin
      rw [bnd_s e1, dj_x, bnd_s ((p_gdj (q := 15) e3 hl n hn).2 hex)]
      rfl
    · unfold f_m_isDijoin
      rw [nam_e, bnd_s d1, dj_m, bnd_s ((p_gdj (q := 19) hC.1 hl n hn).2 (fun q => hex (hiff.mpr q)))]
      rfl
