/-! uncross: the reference, and the call -/
theorem p_mcr {τ : ST} {N : Nat} (h : τ.1 9 = nI N) (hN : N ≤ 8) (n : Nat) {x y : Nat} (hx : x < 2 ^ N) (hy : y < 2 ^ N) : (cr N x y → f_m_cross n τ (nI x) (nI y) = some 1) ∧ (¬ cr N x y → f_m_cross n τ (nI x) (nI y) = some 0) := by
  have hp : 2 ^ N ≤ 2 ^ 8 := Nat.pow_le_pow_right (by decide) hN
  have l1 : x &&& y ≤ x := Nat.and_le_left
  have l2 : x ||| y < 2 ^ N := Nat.or_lt_two_pow hx hy
  have sbe : ∀ {a b : Nat}, (∀ i, a.testBit i = true → b.testBit i = true) ↔ a &&& b = a := by
    intro a b
    constructor
    · intro q
      apply Nat.eq_of_testBit_eq
      intro i
      rw [Bool.eq_iff_iff]
      exact ⟨fun z => (tb_and.mp z).1, fun z => tb_and.mpr ⟨z, q i z⟩⟩
    · intro q i z
      rw [← q] at z
      exact (tb_and.mp z).2
  have e0 : nI (x &&& y) = 0 ↔ x &&& y = 0 := nI_eq (b := 0) (by omega) (by decide)
  have e1 : (nI x &&& (nI y ^^^ (-1 : Int32))) = 0 ↔ x &&& y = x := (andnot_0 (by omega)).trans sbe
  have e2 : (nI y &&& (nI x ^^^ (-1 : Int32))) = 0 ↔ x &&& y = y := by rw [Nat.and_comm]; exact (andnot_0 (by omega)).trans sbe
  have e3 : nI (x ||| y) = nI (2 ^ N - 1) ↔ x ||| y = 2 ^ N - 1 := nI_eq (by omega) (by omega)
  have key : f_m_cross n τ (nI x) (nI y) = if nI (x &&& y) = 0 then some 0 else if (nI x &&& (nI y ^^^ (-1 : Int32))) = 0 then some 0 else if (nI y &&& (nI x ^^^ (-1 : Int32))) = 0 then some 0 else if nI (x ||| y) = nI (2 ^ N - 1) then some 0 else some 1 := by
    unfold f_m_cross j_m_cross_42 j_m_cross_43
    rw [nam_e, h, and_nI, or_nI, show (1 : Int32) = nI 1 from rfl, jshl_nI (by omega) (by omega), Nat.one_mul, pk_sub Nat.one_le_two_pow]
    rfl
  rw [key, cr_iff hx hy]
  constructor
  · rintro ⟨a, b, c, d⟩
    rw [if_neg (fun q => a (e0.mp q)), if_neg (fun q => b (e1.mp q)), if_neg (fun q => c (e2.mp q)), if_neg (fun q => d (e3.mp q))]
  · intro q
    by_cases a : nI (x &&& y) = 0
    · rw [if_pos a]
    by_cases b : (nI x &&& (nI y ^^^ (-1 : Int32))) = 0
    · rw [if_neg a, if_pos b]
    by_cases c : (nI y &&& (nI x ^^^ (-1 : Int32))) = 0
    · rw [if_neg a, if_neg b, if_pos c]
    by_cases d : nI (x ||| y) = nI (2 ^ N - 1)
    · rw [if_neg a, if_neg b, if_neg c, if_pos d]
    exact absurd ⟨fun z => a (e0.mpr z), fun z => b (e1.mpr z), fun z => c (e2.mpr z), fun z => d (e3.mpr z)⟩ q
theorem p_mfirst {τ : ST} {N : Nat} {t : Nat → Nat} (h9 : τ.1 9 = nI N) (hN : N ≤ 8) (hT : RT 5 τ t) (hsup : sup N t) (n : Nat) (hn : 1000 ≤ n) : ((∀ x y, ¬ crs N t x y) → f_m_firstCross n τ = some (-1)) ∧ (∀ a w, fcp N t a w → f_m_firstCross n τ = some (nI (256 * a + w))) := by
  have hp : 2 ^ N ≤ 2 ^ 8 := Nat.pow_le_pow_right (by decide) hN
  have inner : ∀ x, x < 256 → t x ≠ 0 → ∀ y, x < y → y < 256 → ¬ crs N t x y → b_m_firstCross_13 n τ (nI x) (nI y) = some (.inl (nI (y + 1))) := by
    intro x hx hx0 y hxy hy hc
    have hxN := sup_lt hsup hx0
    unfold b_m_firstCross_13 j_m_firstCross_55_13
    rw [if_neg (show ¬ (256 : Int32) ≤ nI y from nI_ge (b := 256) hy (by decide)), grd_t (jin_nI hx (by omega)), jix_nI (by omega), (hT x hx).1, if_neg (fun z => hx0 ((le0_nI (hT x hx).2).mp z)), grd_t (jin_nI hy (by omega)), jix_nI (by omega), (hT y hy).1, show nI y + (1 : Int32) = nI (y + 1) from nI_1 y]
    by_cases q : t y = 0
    · rw [if_pos ((le0_nI (hT y hy).2).mpr q)]
    · rw [if_neg (fun z => q ((le0_nI (hT y hy).2).mp z)), bnd_s ((p_mcr h9 hN n hxN (sup_lt hsup q)).2 (fun z => hc ⟨hx0, hxy, q, z⟩)), if_pos rfl]
  have go : ∀ x, x < 256 → (∀ y, ¬ crs N t x y) → b_m_firstCross_2 n τ (nI x) = some (.inl (nI (x + 1))) := by
    intro x hx hno
    have hl : lp (b_m_firstCross_13 n τ (nI x)) n (nI (x + 1)) = some (.inl ()) := by
      by_cases hx0 : t x = 0
      · refine lp_from (fun i => nI i) (x + 1) (x + 1) (Nat.le_refl _) (fun y h1 h2 => by omega) ?_ n (by omega)
        unfold b_m_firstCross_13
        by_cases q : (256 : Int32) ≤ nI (x + 1)
        · rw [if_pos q]
        · rw [if_neg q, grd_t (jin_nI hx (by omega)), jix_nI (by omega), (hT x hx).1, if_pos ((le0_nI (hT x hx).2).mpr hx0)]
      · refine lp_from (fun i => nI i) (x + 1) 256 (by omega) (fun y h1 h2 => inner x hx hx0 y (by omega) h2 (hno y)) ?_ n (by omega)
        unfold b_m_firstCross_13
        rw [if_pos (by decide)]
    unfold b_m_firstCross_2
    rw [if_neg (show ¬ (256 : Int32) ≤ nI x from nI_ge (b := 256) hx (by decide)), show nI x + (1 : Int32) = nI (x + 1) from nI_1 x, bnd_s hl]
    rfl
  constructor
  · intro hno
    have hl : lp (b_m_firstCross_2 n τ) n (0 : Int32) = some (.inl ()) := by
      refine lp_for (fun i => nI i) 256 (fun x h2 => go x h2 (hno x)) ?_ n (by omega)
      unfold b_m_firstCross_2
      rw [if_pos (by decide)]
    unfold f_m_firstCross
    rw [bnd_s hl]
    rfl
  · intro a w hf
    have haN := sup_lt hsup hf.2.1
    have hwN := sup_lt hsup hf.2.2.1
    have haw := hf.1
    have hin : lp (b_m_firstCross_13 n τ (nI a)) n (nI (a + 1)) = some (.inr (nI (256 * a + w))) := by
      refine lp_from (fun i => nI i) (a + 1) w (by omega) (fun y h1 h2 => inner a (by omega) hf.2.1 y (by omega) (by omega) (fun hc => ?_)) ?_ n (by omega)
      · rcases hf.2.2.2.2 a y hc.2.1 hc.1 hc.2.2.1 hc.2.2.2 with q | q <;> omega
      · unfold b_m_firstCross_13
        rw [if_neg (show ¬ (256 : Int32) ≤ nI w from nI_ge (b := 256) (by omega) (by decide)), grd_t (jin_nI (by omega) (by omega)), jix_nI (by omega), (hT a (by omega)).1, if_neg (fun z => hf.2.1 ((le0_nI (hT a (by omega)).2).mp z)), grd_t (jin_nI (by omega) (by omega)), jix_nI (by omega), (hT w (by omega)).1, if_neg (fun z => hf.2.2.1 ((le0_nI (hT w (by omega)).2).mp z)), bnd_s ((p_mcr h9 hN n haN hwN).1 hf.2.2.2.1), if_neg (by decide), show (256 : Int32) = nI 256 from rfl, pk_mul, nI_add]
    have hl : lp (b_m_firstCross_2 n τ) n (0 : Int32) = some (.inr (nI (256 * a + w))) := by
      refine lp_for (fun i => nI i) a (fun x h2 => go x (by omega) (fun y hc => ?_)) ?_ n (by omega)
      · exact fcp_low hf x h2 hc.1 y hc.2.2.1 hc.2.2.2
      · unfold b_m_firstCross_2
        rw [if_neg (show ¬ (256 : Int32) ≤ nI a from nI_ge (b := 256) (by omega) (by decide)), show nI a + (1 : Int32) = nI (a + 1) from nI_1 a, bnd_s hin]
        rfl
    unfold f_m_firstCross
    rw [bnd_s hl]
    rfl
theorem sup_le {N : Nat} (hN : N ≤ 8) {t : Nat → Nat} (hsup : sup N t) {M : Nat} (h : tot t ≤ M) (s : Nat) : t s ≤ M := by
  have hp : 2 ^ N ≤ 2 ^ 8 := Nat.pow_le_pow_right (by decide) hN
  by_cases q : t s = 0
  · omega
  · have h1 := sup_lt hsup q
    exact Nat.le_trans (le_tot t 256 s (by omega)) h
theorem lp_go {S E : Type} {body : S → Option (S ⊕ E)} {s s' : S} (h : body s = some (.inl s')) (m : Nat) : lp body (m + 1) s = lp body m s' := by
  show (match body s with | none => none | some (.inl s') => lp body m s' | some (.inr e) => some e) = _
  rw [h]
theorem lp_out {S E : Type} {body : S → Option (S ⊕ E)} {s : S} {e : E} (h : body s = some (.inr e)) (m : Nat) : lp body (m + 1) s = some e := by
  show (match body s with | none => none | some (.inl s') => lp body m s' | some (.inr e) => some e) = _
  rw [h]
theorem p_pair2 {σ : ST} {N : Nat} {t : Nat → Nat} (hN : N ≤ 8) (hT : RT 7 σ t) {a w : Nat} (ha : a < 2 ^ N) (hw : w < 2 ^ N) (hc : cr N a w) : ∃ e, f_Fam_uncrossPair σ (nI a) (nI w) = some e ∧ e.1 = σ.1 ∧ e.2 7 = urow (σ.2 7) a w (min (t a) (t w)) ∧ ∀ q, q ≠ 7 → e.2 q = σ.2 q :=
  ⟨_, p_pair hN hT ha hw hc, rfl, sA2s _ _ _, fun q hq => by rw [sA2n _ _ hq, sA2n _ _ hq, sA2n _ _ hq, sA2n _ _ hq]⟩
theorem x_run {N : Nat} (hN : N ≤ 8) (n : Nat) (hn : 1000 ≤ n) : ∀ k t t' σ c fr m, Rn N k t t' → (∀ a b, t' a ≠ 0 → t' b ≠ 0 → ¬ cr N a b) → sup N t → tot t ≤ 527000 → σ.1 385 = nI N → RT 7 σ t → fr < 256 → (∀ x, x < fr → t x ≠ 0 → NC N t x) → c + k < 1000000 → k < m → ∃ e, lp (b_Fam_uncrossAll_4 n) m (σ, nI fr, nI c) = some (.inr (nI (c + k), e)) ∧ e.1 = σ.1 ∧ (∀ q, q ≠ 7 → e.2 q = σ.2 q) ∧ RT 7 e t' := by
  have hp : 2 ^ N ≤ 2 ^ 8 := Nat.pow_le_pow_right (by decide) hN
  intro k
  induction k with
  | zero =>
    intro t t' σ c fr m hr hno hsup htot h385 hT hfr hlow hc hm
    obtain ⟨m, rfl⟩ : ∃ m1, m = m1 + 1 := ⟨m - 1, by omega⟩
    have hr : t = t' := hr
    subst hr
    refine ⟨σ, ?_, rfl, fun _ _ => rfl, hT⟩
    refine lp_out ?_ m
    unfold b_Fam_uncrossAll_4
    show (if (1000000 : Int32) ≤ nI c then _ else bnd (f_Fam_firstCrossing n σ (nI fr)) _) = _
    rw [if_neg (show ¬ (1000000 : Int32) ≤ nI c from nI_ge (b := 1000000) (by omega) (by decide)), bnd_s ((p_firstCrossing h385 hN hT hsup n hn hfr hlow).1 (fun x y h => hno x y h.1 h.2.2.1 h.2.2.2)), if_pos rfl]
    rfl
  | succ k ih =>
    intro t t' σ c fr m hr hno hsup htot h385 hT hfr hlow hc hm
    obtain ⟨m, rfl⟩ : ∃ m1, m = m1 + 1 := ⟨m - 1, by omega⟩
    obtain ⟨a, w, hf, hr⟩ := hr
    have haN := sup_lt hsup hf.2.1
    have hwN := sup_lt hsup hf.2.2.1
    have hcr := hf.2.2.2.1
    have hm1 := cr_meet_lt hcr
    have ha1 := (hsup a hf.2.1).1
    obtain ⟨f1, f2⟩ := (p_firstCrossing h385 hN hT hsup n hn hfr hlow).2 a w hf
    obtain ⟨ρ, hpair, ρ1, ρ7, ρo⟩ := p_pair2 hN hT haN hwN hcr
    have hsup1 := sup_stp hsup hf
    have htot1 : tot (stp t a w) ≤ 527000 := by
      have := ws_stp hN (fun _ => 1) (t := t) haN hwN hf.1 hcr
      rw [tot_ws, tot_ws] at this
      omega
    obtain ⟨e, e1, e2, e3, e4⟩ := ih (stp t a w) t' ρ (c + 1) (a &&& w) m hr hno hsup1 htot1 (by rw [ρ1]; exact h385) (fun s hs => ⟨by rw [ρ7]; exact urow_stp hN hT haN hwN hf.1 hcr s hs, by have := sup_le hN hsup1 htot1 s; omega⟩) (by omega) (low_stp hf) (by omega) (by omega)
    refine ⟨e, ?_, e2.trans ρ1, fun q hq => (e3 q hq).trans (ρo q hq), e4⟩
    · rw [lp_go (s' := (ρ, nI (a &&& w), nI (c + 1))) ?_ m, e1]
      · rw [show c + 1 + k = c + (k + 1) by omega]
      · unfold b_Fam_uncrossAll_4
        show (if (1000000 : Int32) ≤ nI c then _ else bnd (f_Fam_firstCrossing n σ (nI fr)) _) = _
        rw [if_neg (show ¬ (1000000 : Int32) ≤ nI c from nI_ge (b := 1000000) (by omega) (by decide)), bnd_s f1, if_neg (show ¬ nI a = (0 : Int32) from fun q => by
          have := nI_inj (b := 0) (by omega) (by decide) q
          omega)]
        show bnd (f_Fam_crossedBy n σ (nI a)) _ = _
        rw [bnd_s f2]
        show bnd (f_Fam_uncrossPair σ (nI a) (nI w)) _ = _
        rw [bnd_s hpair, and_nI, show nI c + (1 : Int32) = nI (c + 1) from nI_1 c]
theorem m_div {a w : Nat} (ha : a < 256) (hw : w < 256) : nI (256 * a + w) / (256 : Int32) = nI a := by
  rw [show (256 : Int32) = nI 256 from rfl, pk_div (by omega) (by decide) (by decide), show (256 * a + w) / 256 = a by omega]
theorem m_rem {a w : Nat} (ha : a < 256) (hw : w < 256) : jrem (nI (256 * a + w)) (256 : Int32) = nI w := by
  unfold jrem
  rw [show (256 : Int32) = nI 256 from rfl, pk_rem (by omega) (by decide) (by decide), show (256 * a + w) % 256 = w by omega]
theorem m_pos {a w : Nat} (ha : a < 256) (hw : w < 256) : ¬ nI (256 * a + w) = (-1 : Int32) := by
  intro q
  have h1 := congrArg Int32.toInt q
  rw [nI_toInt (by omega)] at h1
  have h2 : (-1 : Int32).toInt = -1 := by decide
  omega
theorem m_j71 {τ : ST} {a w m c : Nat} (ha : a < 256) (hw : w < 256) (hm : a &&& w < 256) (hj : a ||| w < 256) (n : Nat) : ∃ ρ : ST, ρ.1 = τ.1 ∧ ρ.2 5 = urow (τ.2 5) a w m ∧ (∀ q, q ≠ 5 → ρ.2 q = τ.2 q) ∧ ∀ r1, f_m_firstCross n ρ = some r1 → j_m_uncross_71_21 n τ (nI c) (nI a) (nI w) (nI m) = some (.inl (ρ, nI (c + 1), r1)) := by
  have ga : jin (nI a) 256 = true := jin_nI (by omega) (by omega)
  have gw : jin (nI w) 256 = true := jin_nI (by omega) (by omega)
  have gm : jin (nI (a &&& w)) 256 = true := jin_nI (by omega) (by omega)
  have gj : jin (nI (a ||| w)) 256 = true := jin_nI (by omega) (by omega)
  refine ⟨sA (sA (sA (sA τ 5 (upd (τ.2 5) a (τ.2 5 a - nI m))) 5 (upd (upd (τ.2 5) a (τ.2 5 a - nI m)) w ((upd (τ.2 5) a (τ.2 5 a - nI m)) w - nI m))) 5 (upd (upd (upd (τ.2 5) a (τ.2 5 a - nI m)) w ((upd (τ.2 5) a (τ.2 5 a - nI m)) w - nI m)) (a &&& w) ((upd (upd (τ.2 5) a (τ.2 5 a - nI m)) w ((upd (τ.2 5) a (τ.2 5 a - nI m)) w - nI m)) (a &&& w) + nI m))) 5 (upd (upd (upd (upd (τ.2 5) a (τ.2 5 a - nI m)) w ((upd (τ.2 5) a (τ.2 5 a - nI m)) w - nI m)) (a &&& w) ((upd (upd (τ.2 5) a (τ.2 5 a - nI m)) w ((upd (τ.2 5) a (τ.2 5 a - nI m)) w - nI m)) (a &&& w) + nI m)) (a ||| w) ((upd (upd (upd (τ.2 5) a (τ.2 5 a - nI m)) w ((upd (τ.2 5) a (τ.2 5 a - nI m)) w - nI m)) (a &&& w) ((upd (upd (τ.2 5) a (τ.2 5 a - nI m)) w ((upd (τ.2 5) a (τ.2 5 a - nI m)) w - nI m)) (a &&& w) + nI m)) (a ||| w) + nI m)), rfl, sA2s _ _ _, fun q hq => by rw [sA2n _ _ hq, sA2n _ _ hq, sA2n _ _ hq, sA2n _ _ hq], fun r1 hr1 => ?_⟩
  unfold j_m_uncross_71_21
  rw [and_nI, or_nI]
  simp only [nam_e, sA2s, ga, gw, gm, gj, grd_tt, jix_nI (show a < 2 ^ 31 by omega), jix_nI (show w < 2 ^ 31 by omega), jix_nI (show a &&& w < 2 ^ 31 by omega), jix_nI (show a ||| w < 2 ^ 31 by omega)]
  rw [bnd_s hr1, show nI c + (1 : Int32) = nI (c + 1) from nI_1 c]
theorem g256 : (!decide ((256 : Int32) = 0)) = true := by decide
theorem m_body0 {τ : ST} {a w ta tw : Nat} {z y : Int32} (ha : a < 256) (hw : w < 256) (h1 : τ.2 5 a = nI ta) (h2 : τ.2 5 w = nI tw) (l1 : ta < 2 ^ 30) (l2 : tw < 2 ^ 30) (n : Nat) (hz : ¬ z = -1) (hdiv : z / (256 : Int32) = nI a) (hrem : jrem z (256 : Int32) = nI w) : b_m_uncross_21 n (τ, y, z) = j_m_uncross_71_21 n τ y (nI a) (nI w) (nI (min ta tw)) := by
  have ga : jin (nI a) 256 = true := jin_nI (by omega) (by omega)
  have gw : jin (nI w) 256 = true := jin_nI (by omega) (by omega)
  have ja : jix (nI a) = a := jix_nI (by omega)
  have jw : jix (nI w) = w := jix_nI (by omega)
  unfold b_m_uncross_21
  rw [if_neg hz, grd_t g256, grd_t g256, hdiv, hrem, grd_t ga, grd_t gw, grd_t gw, grd_t ga, ja, jw]
  show (if τ.2 5 w ≤ τ.2 5 a then j_m_uncross_71_21 n τ y (nI a) (nI w) (τ.2 5 w) else j_m_uncross_71_21 n τ y (nI a) (nI w) (τ.2 5 a)) = _
  rw [h1, h2]
  by_cases q : tw ≤ ta
  · rw [if_pos (nI_le q (by omega)), Nat.min_eq_right q]
  · rw [if_neg (nI_ge (by omega) (by omega)), Nat.min_eq_left (by omega)]
theorem m_body {τ : ST} {a w c ta tw : Nat} (ha : a < 256) (hw : w < 256) (h1 : τ.2 5 a = nI ta) (h2 : τ.2 5 w = nI tw) (l1 : ta < 2 ^ 30) (l2 : tw < 2 ^ 30) (n : Nat) : b_m_uncross_21 n (τ, nI c, nI (256 * a + w)) = j_m_uncross_71_21 n τ (nI c) (nI a) (nI w) (nI (min ta tw)) :=
  m_body0 ha hw h1 h2 l1 l2 n (m_pos ha hw) (m_div ha hw) (m_rem ha hw)
theorem m_run {N : Nat} (hN : N ≤ 8) (n : Nat) (hn : 1000 ≤ n) : ∀ k t t' τ c m r, Rn N k t t' → (∀ a b, t' a ≠ 0 → t' b ≠ 0 → ¬ cr N a b) → sup N t → tot t ≤ 527000 → τ.1 9 = nI N → RT 5 τ t → f_m_firstCross n τ = some r → k < m → ∃ e, lp (b_m_uncross_21 n) m (τ, nI c, r) = some (e, nI (c + k)) ∧ e.1 = τ.1 ∧ (∀ q, q ≠ 5 → e.2 q = τ.2 q) ∧ RT 5 e t' := by
  have hp : 2 ^ N ≤ 2 ^ 8 := Nat.pow_le_pow_right (by decide) hN
  intro k
  induction k with
  | zero =>
    intro t t' τ c m r hr hno hsup htot h9 hT hrr hm
    obtain ⟨m, rfl⟩ : ∃ m1, m = m1 + 1 := ⟨m - 1, by omega⟩
    have hr : t = t' := hr
    subst hr
    have h1 := (p_mfirst h9 hN hT hsup n hn).1 (fun x y h => hno x y h.1 h.2.2.1 h.2.2.2)
    rw [h1] at hrr
    obtain rfl := Option.some.inj hrr
    refine ⟨τ, lp_out ?_ m, rfl, fun _ _ => rfl, hT⟩
    unfold b_m_uncross_21
    rw [if_pos rfl]
    rfl
  | succ k ih =>
    intro t t' τ c m r hr hno hsup htot h9 hT hrr hm
    obtain ⟨m, rfl⟩ : ∃ m1, m = m1 + 1 := ⟨m - 1, by omega⟩
    obtain ⟨a, w, hf, hr⟩ := hr
    have haN := sup_lt hsup hf.2.1
    have hwN := sup_lt hsup hf.2.2.1
    have hcr := hf.2.2.2.1
    have hm1 := cr_meet_lt hcr
    have hj1 := cr_join_lt haN hwN hcr
    have ha1 := (hsup a hf.2.1).1
    have h1 := (p_mfirst h9 hN hT hsup n hn).2 a w hf
    rw [h1] at hrr
    obtain rfl := Option.some.inj hrr
    have hsup1 := sup_stp hsup hf
    have htot1 : tot (stp t a w) ≤ 527000 := by
      have := ws_stp hN (fun _ => 1) (t := t) haN hwN hf.1 hcr
      rw [tot_ws, tot_ws] at this
      omega
    have ta := hT a (by omega)
    have tw := hT w (by omega)
    have hT1 : ∀ ρ : ST, ρ.2 5 = urow (τ.2 5) a w (min (t a) (t w)) → RT 5 ρ (stp t a w) := fun ρ hρ s hs => ⟨by rw [hρ]; exact urow_stp hN hT haN hwN hf.1 hcr s hs, by have := sup_le hN hsup1 htot1 s; omega⟩
    obtain ⟨ρ, hρ1, hρ5, hρo, hρj⟩ := m_j71 (τ := τ) (a := a) (w := w) (m := min (t a) (t w)) (c := c) (by omega) (by omega) (by omega) (by omega) n
    have h9' : ρ.1 9 = nI N := by rw [hρ1]; exact h9
    obtain ⟨r1, hr1⟩ : ∃ r1, f_m_firstCross n ρ = some r1 := by
      by_cases q : ∃ x y, crs N (stp t a w) x y
      · cases k with
        | zero =>
          have hr : stp t a w = t' := hr
          obtain ⟨x, y, h⟩ := q
          rw [hr] at h
          exact absurd h.2.2.2 (hno x y h.1 h.2.2.1)
        | succ k =>
          obtain ⟨a', w', hf', _⟩ := hr
          exact ⟨_, (p_mfirst h9' hN (hT1 ρ hρ5) hsup1 n hn).2 a' w' hf'⟩
      · exact ⟨_, (p_mfirst h9' hN (hT1 ρ hρ5) hsup1 n hn).1 (fun x y h => q ⟨x, y, h⟩)⟩
    have hj := hρj r1 hr1
    obtain ⟨e, e1, e2, e3, e4⟩ := ih (stp t a w) t' ρ (c + 1) m r1 hr hno hsup1 htot1 h9' (hT1 ρ hρ5) hr1 (by omega)
    have hbody := m_body (τ := τ) (a := a) (w := w) (c := c) (by omega) (by omega) ta.1 tw.1 ta.2 tw.2 n
    refine ⟨e, ?_, e2.trans hρ1, fun q hq => (e3 q hq).trans (hρo q hq), e4⟩
    rw [lp_go (hbody.trans hj) m, e1, show c + 1 + k = c + (k + 1) by omega]
theorem sim_uncross (n : Nat) (hn : 2000000 ≤ n) : Sim_uncross n TheInv := by
  intro j σ it τ bb hj h
  obtain ⟨⟨v, c, f⟩, ji, ok, hx, hm, hi, hsx⟩ := h
  have hm1 := RF_code hm 0
  cases f with
  | none =>
    refine ⟨-1, σ, sS τ 0 0, ?_, ?_, (v, c, none), ji, okB_up ok, hx, hm1, ImOK_up hi, hsx⟩
    · unfold f_x_uncross; rw [if_pos (show σ.1 384 = 0 from hx.2.2.1)]
    · unfold f_m_uncross; rw [nam_e, if_pos (show (sS τ 0 0).1 8 = 0 from hm1.1.2.2)]
  | some f =>
    obtain ⟨o1, o2, o3, o4, o5, o6⟩ : okF j f := ok.2.2 f rfl
    obtain ⟨t, ht⟩ : ∃ t : Nat → Nat, t = fun s => if s < 256 then f.2.1 s else 0 := ⟨_, rfl⟩
    have hts : ∀ s, s < 256 → t s = f.2.1 s := fun s hs => by rw [ht]; exact if_pos hs
    have hsup : sup f.1 t := by
      intro s hs
      have hs256 : s < 256 := by
        rcases Nat.lt_or_ge s 256 with q | q
        · exact q
        · exact absurd (by rw [ht]; exact if_neg (by omega)) hs
      rw [hts s hs256] at hs
      refine ⟨?_, o4 s hs256 hs⟩
      rcases Nat.eq_zero_or_pos s with q | q
      · rw [q] at hs; exact absurd o3 hs
      · exact q
    have htt : tot t = tot f.2.1 := by
      unfold tot
      exact Nat.le_antisymm (totTo_le 256 (fun i hi => by rw [hts i hi]; exact Nat.le_refl _)) (totTo_le 256 (fun i hi => by rw [hts i hi]; exact Nat.le_refl _))
    have htot : tot t ≤ 527000 := by rw [htt]; omega
    obtain ⟨k, t', k1, k2, k3⟩ := unc_end o2 hsup htot
    have hsup' := Rn_sup _ _ _ k2 hsup
    have htot' := Rn_tot o2 _ _ _ k2 hsup
    have hTx : RT 7 σ t := fun s hs => ⟨by rw [hts s hs]; exact hx.2.2.2.2.1 s hs, by have := sup_le o2 hsup htot s; omega⟩
    have hTm : RT 5 (sS τ 0 0) t := fun s hs => ⟨by rw [hts s hs]; exact hm1.1.2.2.2.2.1 s hs, by have := sup_le o2 hsup htot s; omega⟩
    have h9 : (sS τ 0 0).1 9 = nI f.1 := hm1.1.2.2.2.1
    obtain ⟨e, e1, e2, e3, e4⟩ := x_run o2 n (by omega) k t t' σ 0 1 n k2 k3 hsup htot hx.2.2.2.1 hTx (by decide) (fun x h1 h0 => by have := (hsup x h0).1; omega) (by omega) (by omega)
    obtain ⟨r, hr⟩ : ∃ r, f_m_firstCross n (sS τ 0 0) = some r := by
      by_cases q : ∃ x y, crs f.1 t x y
      · cases k with
        | zero =>
          have k2 : t = t' := k2
          obtain ⟨x, y, h⟩ := q
          rw [k2] at h
          exact absurd h.2.2.2 (k3 x y h.1 h.2.2.1)
        | succ k =>
          obtain ⟨a', w', hf', _⟩ := k2
          exact ⟨_, (p_mfirst h9 o2 hTm hsup n (by omega)).2 a' w' hf'⟩
      · exact ⟨_, (p_mfirst h9 o2 hTm hsup n (by omega)).1 (fun x y h => q ⟨x, y, h⟩)⟩
    obtain ⟨d, d1, d2, d3, d4⟩ := m_run o2 n (by omega) k t t' (sS τ 0 0) 0 n r k2 k3 hsup htot h9 hTm hr (by omega)
    refine ⟨nI (0 + k), e, d, ?_, ?_, (v, c, some (f.1, t', f.2.2)), ji, ⟨ok.1, ok.2.1, fun g hg => ?_⟩, RX_fam hx (fun q _ _ => by rw [e2]) (fun q h7 _ => e3 q h7) ⟨?_, ?_, fun s hs => (e4 s hs).1, fun a ha => ?_⟩, RF_fam hm1 (fun q _ _ _ => by rw [d2]) (fun q h4 h5 _ _ => d3 q h5) ⟨?_, ?_, fun s hs => (d4 s hs).1, fun a ha => ?_⟩, ImOK_up hi, ?_, ?_⟩
    · unfold f_x_uncross f_Fam_uncrossAll
      rw [show σ.1 384 = 1 from hx.2.2.1, if_neg (by decide), show ((1 : Int32), (0 : Int32)) = (nI 1, nI 0) from rfl, bnd_s e1]
      rfl
    · unfold f_m_uncross
      rw [nam_e, show (sS τ 0 0).1 8 = 1 from hm1.1.2.2.1, if_neg (by decide), bnd_s hr, show (0 : Int32) = nI 0 from rfl]
      rw [show (sS τ 0 (nI 0), nI 0, r) = (sS τ 0 0, nI 0, r) from rfl, bnd_s d1]
    · obtain rfl := Option.some.inj hg
      refine ⟨o1, o2, ?_, fun s _ hs => (hsup' s hs).2, Nat.zero_le _, ?_⟩
      · show t' 0 = 0
        apply Classical.byContradiction
        intro q
        have := (hsup' 0 q).1
        omega
      · show tot t' ≤ _
        rw [htot', htt]; omega
    · rw [e2]; exact hx.2.2.1
    · rw [e2]; exact hx.2.2.2.1
    · rw [e3 8 (by decide)]; exact hx.2.2.2.2.2 a ha
    · rw [d2]; exact hm1.1.2.2.1
    · rw [d2]; exact hm1.1.2.2.2.1
    · rw [d3 4 (by decide)]; exact hm1.1.2.2.2.2.2 a ha
    · rw [e3 16 (by decide)]; exact hsx.1
    · rw [e3 17 (by decide)]; exact hsx.2
