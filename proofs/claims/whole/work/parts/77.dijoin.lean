/-! dijoin -/
theorem KB_kb {v : NV} (ok : okN v) {σ : ST} (h : KB v (sidesOf v).length σ) : ∃ m kb, σ.1 1154 = nI m ∧ m ≤ 256 ∧ (∀ x, x < m → σ.2 19 x = nI (kb x)) ∧ (∀ x, x < m → kb x < 2 ^ nK v) ∧ ∀ D, feas m kb D ↔ missB v D = false := by
  have k16 := ok.2.2.1
  have hp : 2 ^ nK v ≤ 2 ^ 16 := Nat.pow_le_pow_right (by decide) k16
  have hl := sides_le v ok
  obtain ⟨m, m1, m2, m3, m4⟩ := h
  have hch : ∀ x, ∃ b, x < m → σ.2 19 x = nI b ∧ ∃ y, y < (sidesOf v).length ∧ b = bor v ((sidesOf v).getD y 0) := by
    intro x
    by_cases hx : x < m
    · obtain ⟨y, y1, y2⟩ := m3 x hx
      exact ⟨_, fun _ => ⟨y2, y, y1, rfl⟩⟩
    · exact ⟨0, fun q => absurd q hx⟩
  refine ⟨m, fun x => Classical.choose (hch x), m1, by omega, fun x hx => (Classical.choose_spec (hch x) hx).1, fun x hx => ?_, fun D => ?_⟩
  · obtain ⟨_, y, _, y2⟩ := Classical.choose_spec (hch x) hx
    show Classical.choose (hch x) < _
    rw [y2]; exact bor_lt v _
  · constructor
    · intro hf
      cases q : missB v D with
      | false => rfl
      | true =>
        exfalso
        obtain ⟨s, s1, s2⟩ := missB_iff.mp q
        obtain ⟨y, y1, y2⟩ := mem_getD s1
        obtain ⟨x, z, z1, z2, z3, z4⟩ := m4 y y1
        obtain ⟨c1, w, w1, w2⟩ := Classical.choose_spec (hch x) z1
        have hb1 := bor_lt v ((sidesOf v).getD z 0)
        have hb2 := bor_lt v ((sidesOf v).getD w 0)
        have e : Classical.choose (hch x) = bor v ((sidesOf v).getD z 0) := by
          apply nI_inj
          · rw [w2]; omega
          · omega
          · rw [← c1, z3]
        apply hf x z1
        show Classical.choose (hch x) &&& D = 0
        rw [e]
        rw [y2] at z4
        rw [Nat.and_comm] at s2 ⊢
        exact and_zero_sb z4 s2
    · intro hm x hx h0
      obtain ⟨_, y, y1, y2⟩ := Classical.choose_spec (hch x) hx
      have h0 : Classical.choose (hch x) &&& D = 0 := h0
      rw [y2] at h0
      rw [missB_iff.mpr ⟨_, getD_mem y1, h0⟩] at hm
      cases hm
theorem p_prepare {σ : ST} {v : BV} (hx : RX σ v) (ok : okN v.1) (hsx : SX σ) (n : Nat) (hn : 1000 ≤ n) : ∃ e, f_x_prepareSearch n σ = some e ∧ RX e v ∧ SX e ∧ KB v.1 (sidesOf v.1).length e ∧ e.1 832 = nI (sidesOf v.1).length ∧ (∀ x, x < (sidesOf v.1).length → e.2 14 x = nI ((sidesOf v.1).getD x 0) ∧ e.2 15 x = nI (bor v.1 ((sidesOf v.1).getD x 0))) := by
  obtain ⟨d, d1, d2, d3, d4, d5, d6⟩ := p_find hx.1 ok hsx n hn
  obtain ⟨e, e1, e2, e3⟩ := p_takeBorders (σ := d) (v := v.1) ok d3 (fun x hx => (d4 x hx).2) n hn
  refine ⟨e, ?_, RX_FR (RX_find hx d2 d5) e3, SX_FR d6 e3, e2, ?_, fun x hx => ?_⟩
  · unfold f_x_prepareSearch
    rw [bnd_s d1, bnd_s e1]
  · rw [e3.1 832 (by decide)]; exact d3
  · rw [e3.2 14 (by decide), e3.2 15 (by decide)]; exact d4 x hx
theorem sm_ext {p : Nat → Nat} {K A : Nat} (hA : A < 2 ^ K) : ∀ M, K ≤ M → sm p M A = sm p K A := by
  intro M
  induction M with
  | zero => intro h; rw [show K = 0 by omega]
  | succ M ih =>
    intro h
    rcases (show K = M + 1 ∨ K ≤ M by omega) with q | q
    · rw [q]
    · rw [sm_succ, ih q, Nat.testBit_lt_two_pow (Nat.lt_of_lt_of_le hA (Nat.pow_le_pow_right (by decide) q))]
      rfl
theorem p_sumOver {q K : Nat} {f : Nat → Int32} {p : Nat → Nat} {A : Nat} (hA : A < 2 ^ K) (k16 : K ≤ 16) (hp : ∀ a, a < K → f a = nI (p a)) (body : Int32 × Int32 → Option ((Int32 × Int32) ⊕ Int32)) (n : Nat) (hn : 1000 ≤ n) (hb : ∀ (x : Int32) (i : Nat), i < 16 → body (x, nI i) = if A.testBit i = true then some (.inl (x + f i, nI (i + 1))) else some (.inl (x, nI (i + 1)))) (he : ∀ x, body (x, nI 16) = some (.inr x)) : lp body n ((0 : Int32), (0 : Int32)) = some (nI (sm p K A)) := by
  rw [← sm_ext hA 16 k16]
  refine lp_for (fun i => (nI (sm p i A), nI i)) 16 (fun i hi => ?_) (he _) n (by omega)
  rw [hb _ i hi, sm_succ]
  by_cases z : A.testBit i = true
  · rw [if_pos z, if_pos z, hp i (lt_bit hA z), nI_add]
  · rw [if_neg z, if_neg z]; rfl
theorem p_sum_w {σ : ST} {v : NV} (ok : okN v) (h5 : ∀ a, a < nK v → σ.2 5 a = nI (nW v a)) {A : Nat} (hA : A < 2 ^ nK v) (n : Nat) (hn : 1000 ≤ n) : f_sumOver_w n σ (nI A) = some (nI (sm (nW v) (nK v) A)) := by
  have k16 := ok.2.2.1
  have hp : 2 ^ nK v ≤ 2 ^ 16 := Nat.pow_le_pow_right (by decide) k16
  unfold f_sumOver_w
  rw [bnd_s (p_sumOver (q := 0) hA k16 h5 (b_sumOver_w_4 n σ (nI A)) n hn (fun x i hi => ?_) (fun x => ?_))]
  · unfold b_sumOver_w_4 j_sumOver_w_24_4
    show (if (16 : Int32) ≤ nI i then _ else bnd (f_contains n (nI A) (nI i)) (fun o1 => if o1 = 0 then some (Sum.inl (x, nI i + 1)) else grd (jin (nI i) 16) (some (Sum.inl (x + σ.2 5 (jix (nI i)), nI i + 1))))) = _
    rw [if_neg (show ¬ (16 : Int32) ≤ nI i from nI_ge (b := 16) hi (by decide)), bnd_s (p_contains n (by omega) (by omega)), grd_t (jin_nI hi (by omega)), jix_nI (by omega), show nI i + (1 : Int32) = nI (i + 1) from nI_1 i]
    by_cases z : A.testBit i = true
    · rw [if_pos z, if_neg (by decide), if_pos z]
    · rw [if_neg z, if_pos rfl, if_neg z]
  · unfold b_sumOver_w_4
    show (if (16 : Int32) ≤ nI 16 then _ else _) = _
    rw [if_pos (by decide)]
/-! prices with ties -/
def tie (v : NV) (a : Nat) : Nat := nW v a * 65536 + 2 ^ a
theorem sm_tie (v : NV) (D : Nat) : ∀ K, sm (tie v) K D = 65536 * sm (nW v) K D + gb (fun i => D.testBit i) K := by
  intro K
  induction K with
  | zero => rfl
  | succ K ih =>
    rw [sm_succ, sm_succ, ih]
    show _ = 65536 * (sm (nW v) K D + _) + (gb (fun i => D.testBit i) K + _)
    by_cases q : D.testBit K = true
    · rw [if_pos q, if_pos q, if_pos q]; unfold tie; omega
    · rw [if_neg q, if_neg q, if_neg q]; omega
theorem gb_self {D K : Nat} (h : D < 2 ^ K) : gb (fun i => D.testBit i) K = D := by
  apply Nat.eq_of_testBit_eq
  intro i
  rw [gb_bit]
  rcases Nat.lt_or_ge i K with q | q
  · rw [show decide (i < K) = true from decide_eq_true q, Bool.true_and]
  · rw [Nat.testBit_lt_two_pow (Nat.lt_of_lt_of_le h (Nat.pow_le_pow_right (by decide) q)), Bool.and_false]
theorem tie_val {v : NV} {D : Nat} (h : D < 2 ^ nK v) : sm (tie v) (nK v) D = 65536 * sm (nW v) (nK v) D + D := by rw [sm_tie, gb_self h]
theorem wt_le {v : NV} (ok : okN v) (D : Nat) : sm (nW v) (nK v) D ≤ 16000 := by
  have := sm_le1000 (p := nW v) (M := 1000) (K := nK v) (D := D) (fun i hi => (ok.2.2.2 i hi).2.2)
  have := ok.2.2.1
  omega
theorem p_ties {σ : ST} {v : NV} (ok : okN v) (hv : isNet (σ.1 128) (σ.1 129) (σ.2 3) (σ.2 4) (σ.2 5) v) (n : Nat) (hn : 1000 ≤ n) : ∃ e, f_Search_priceWithTies n σ = some e ∧ e.1 1158 = nI (nK v) ∧ e.1 1157 = nI 0 ∧ (∀ a, a < nK v → e.2 20 a = nI (tie v a)) ∧ (∀ c, c ≠ 1157 → c ≠ 1158 → e.1 c = σ.1 c) ∧ ∀ q, q ≠ 20 → e.2 q = σ.2 q := by
  have k16 := ok.2.2.1
  obtain ⟨e, he, h1, h2, h3⟩ := lp_inv (body := b_Search_priceWithTies_15 n) (fun (i : Nat) (t : ST × Int32) => t.2 = nI i ∧ t.1.1 = (sS (sS σ 1158 (σ.1 129)) 1157 0).1 ∧ (∀ a, a < i → t.1.2 20 a = nI (tie v a)) ∧ ∀ q, q ≠ 20 → t.1.2 q = σ.2 q) (fun (e : ST) => e.1 = (sS (sS σ 1158 (σ.1 129)) 1157 0).1 ∧ (∀ a, a < nK v → e.2 20 a = nI (tie v a)) ∧ ∀ q, q ≠ 20 → e.2 q = σ.2 q) (nK v) (by
      rintro i ⟨ρ, y⟩ hi ⟨h1, h2, h3, h4⟩
      have h1 : y = nI i := h1
      subst h1
      have h2 : ρ.1 = (sS (sS σ 1158 (σ.1 129)) 1157 0).1 := h2
      have h4 : ∀ q, q ≠ 20 → ρ.2 q = σ.2 q := h4
      have hW := (ok.2.2.2 i hi).2.2
      have hpi : 2 ^ i ≤ 2 ^ 15 := Nat.pow_le_pow_right (by decide) (by omega)
      refine ⟨(sA ρ 20 (upd (ρ.2 20) i (nI (tie v i))), nI (i + 1)), ?_, rfl, h2, fun a ha => ?_, fun q hq => ?_⟩
      · unfold b_Search_priceWithTies_15
        show (if ρ.1 1158 ≤ nI i then _ else grd (jin (nI i) 16) (grd (jin (nI i) 16) (nam (sA ρ 20 (upd (ρ.2 20) (jix (nI i)) (jshl (ρ.2 5 (jix (nI i))) 16 + jshl 1 (nI i)))) _))) = _
        rw [h2, show (sS (sS σ 1158 (σ.1 129)) 1157 (0 : Int32)).1 1158 = σ.1 129 from rfl, hv.2.1, if_neg (nI_ge hi (by omega)), grd_t (jin_nI (by omega) (by omega)), grd_t (jin_nI (by omega) (by omega)), nam_e, jix_nI (by omega), h4 5 (by decide), (hv.2.2 i hi).2.2, show (16 : Int32) = nI 16 from rfl, jshl_nI (by omega) (by omega), show (1 : Int32) = nI 1 from rfl, jshl_nI (by omega) (by omega), Nat.one_mul, nI_add]
        rw [show nI i + nI 1 = nI (i + 1) from nI_1 i]
        rfl
      · show upd (ρ.2 20) i (nI (tie v i)) a = _
        by_cases q : a = i
        · subst q; exact upd_s
        · rw [upd_n q]; exact h3 a (by omega)
      · show (sA ρ 20 _).2 q = _
        rw [sA2n _ _ hq]; exact h4 q hq) (by
      rintro ⟨ρ, y⟩ ⟨h1, h2, h3, h4⟩
      have h1 : y = nI (nK v) := h1
      subst h1
      have h2 : ρ.1 = (sS (sS σ 1158 (σ.1 129)) 1157 0).1 := h2
      refine ⟨ρ, ?_, h2, h3, h4⟩
      unfold b_Search_priceWithTies_15
      show (if ρ.1 1158 ≤ nI (nK v) then _ else _) = _
      rw [h2, show (sS (sS σ 1158 (σ.1 129)) 1157 (0 : Int32)).1 1158 = σ.1 129 from rfl, hv.2.1, if_pos (nI_le (Nat.le_refl _) (by omega))]) n 0 (sS (sS σ 1158 (σ.1 129)) 1157 0, (0 : Int32)) (Nat.zero_le _) (by omega) ⟨rfl, rfl, fun a ha => absurd ha (Nat.not_lt_zero _), fun _ _ => rfl⟩
  refine ⟨e, ?_, ?_, ?_, h2, fun c c1 c2 => ?_, h3⟩
  · unfold f_Search_priceWithTies
    rw [nam_e, nam_e, bnd_s he]
  · rw [h1]; exact hv.2.1
  · rw [h1]; rfl
  · rw [h1, sS1n _ _ c1, sS1n _ _ c2]
/-! the reference's best of the least sets -/
theorem least_sorted (v : NV) {i j : Nat} (hij : i < j) (hj : j < (leastOf v).length) : (leastOf v).getD i 0 < (leastOf v).getD j 0 := by
  have h : (leastOf v).Pairwise (· < ·) := List.Pairwise.filter _ List.pairwise_lt_range
  have := List.pairwise_iff_getElem.mp h i j (by omega) hj hij
  rw [List.getD_eq_getElem?_getD, List.getD_eq_getElem?_getD, List.getElem?_eq_getElem (show i < (leastOf v).length by omega), List.getElem?_eq_getElem hj]
  exact this
theorem p_mdijoin {τ : ST} {v : NV} (hv : isNet (τ.1 1) (τ.1 2) (τ.2 1) (τ.2 2) (τ.2 3) v) (ok : okN v) (h29 : τ.1 29 = nI (leastOf v).length) (h21 : ∀ x, x < (leastOf v).length → τ.2 21 x = nI ((leastOf v).getD x 0)) (hpos : 1 ≤ (leastOf v).length) (n : Nat) (hn : 100000 ≤ n) : ∃ b, lp (b_m_dijoin_22 n τ) n ((0 : Int32), (1 : Int32)) = some (nI b) ∧ b < (leastOf v).length ∧ ∀ j, j < (leastOf v).length → sm (nW v) (nK v) ((leastOf v).getD b 0) ≤ sm (nW v) (nK v) ((leastOf v).getD j 0) ∧ (j < b → sm (nW v) (nK v) ((leastOf v).getD b 0) < sm (nW v) (nK v) ((leastOf v).getD j 0)) := by
  have k16 := ok.2.2.1
  have hp : 2 ^ nK v ≤ 2 ^ 16 := Nat.pow_le_pow_right (by decide) k16
  have hlen := least_le (v := v) k16
  have hw : ∀ x, x < (leastOf v).length → f_m_weightOf n τ (τ.2 21 x) = some (nI (sm (nW v) (nK v) ((leastOf v).getD x 0))) := by
    intro x hx
    rw [h21 x hx]
    exact p_weightOf hv ok n (by omega) (by have := (mem_least.mp (getD_mem hx)).1; omega)
  obtain ⟨e, he, b, rfl, b1, b2⟩ := lp_inv (body := b_m_dijoin_22 n τ) (fun (i : Nat) (t : Int32 × Int32) => ∃ b, t = (nI b, nI i) ∧ 1 ≤ i ∧ b < i ∧ ∀ j, j < i → sm (nW v) (nK v) ((leastOf v).getD b 0) ≤ sm (nW v) (nK v) ((leastOf v).getD j 0) ∧ (j < b → sm (nW v) (nK v) ((leastOf v).getD b 0) < sm (nW v) (nK v) ((leastOf v).getD j 0))) (fun (e : Int32) => ∃ b, e = nI b ∧ b < (leastOf v).length ∧ ∀ j, j < (leastOf v).length → sm (nW v) (nK v) ((leastOf v).getD b 0) ≤ sm (nW v) (nK v) ((leastOf v).getD j 0) ∧ (j < b → sm (nW v) (nK v) ((leastOf v).getD b 0) < sm (nW v) (nK v) ((leastOf v).getD j 0))) (leastOf v).length (by
      rintro i t hi ⟨b, rfl, h1, h2, h3⟩
      have w1 := wt_le ok ((leastOf v).getD i 0)
      have w2 := wt_le ok ((leastOf v).getD b 0)
      have hbody : b_m_dijoin_22 n τ (nI b, nI i) = some (.inl (if sm (nW v) (nK v) ((leastOf v).getD b 0) ≤ sm (nW v) (nK v) ((leastOf v).getD i 0) then nI b else nI i, nI (i + 1))) := by
        unfold b_m_dijoin_22 j_m_dijoin_58_22
        show (if τ.1 29 ≤ nI i then _ else grd (jin (nI i) 13000) (bnd (f_m_weightOf n τ (τ.2 21 (jix (nI i)))) (fun o4 => grd (jin (nI b) 13000) (bnd (f_m_weightOf n τ (τ.2 21 (jix (nI b)))) (fun o5 => if o5 ≤ o4 then some (Sum.inl (nI b, nI i + 1)) else some (Sum.inl (nI i, nI i + 1))))))) = _
        rw [h29, if_neg (nI_ge hi (by omega)), grd_t (jin_nI (by omega) (by omega)), jix_nI (by omega), bnd_s (hw i hi), grd_t (jin_nI (by omega) (by omega)), jix_nI (by omega), bnd_s (hw b (by omega)), show nI i + (1 : Int32) = nI (i + 1) from nI_1 i]
        by_cases q : sm (nW v) (nK v) ((leastOf v).getD b 0) ≤ sm (nW v) (nK v) ((leastOf v).getD i 0)
        · rw [if_pos (nI_le q (by omega)), if_pos q]
        · rw [if_neg (nI_ge (by omega) (by omega)), if_neg q]
      by_cases q : sm (nW v) (nK v) ((leastOf v).getD b 0) ≤ sm (nW v) (nK v) ((leastOf v).getD i 0)
      · rw [if_pos q] at hbody
        refine ⟨_, hbody, b, rfl, by omega, by omega, fun j hj => ?_⟩
        rcases (show j < i ∨ j = i by omega) with z | z
        · exact h3 j z
        · rw [z]; exact ⟨q, fun y => by omega⟩
      · rw [if_neg q] at hbody
        refine ⟨_, hbody, i, rfl, by omega, by omega, fun j hj => ?_⟩
        rcases (show j < i ∨ j = i by omega) with z | z
        · have := (h3 j z).1
          exact ⟨by omega, fun _ => by omega⟩
        · rw [z]; exact ⟨Nat.le_refl _, fun y => by omega⟩) (by
      rintro t ⟨b, rfl, h1, h2, h3⟩
      refine ⟨nI b, ?_, b, rfl, h2, h3⟩
      unfold b_m_dijoin_22
      show (if τ.1 29 ≤ nI (leastOf v).length then _ else _) = _
      rw [h29, if_pos (nI_le (Nat.le_refl _) (by omega))]) n 1 ((0 : Int32), (1 : Int32)) hpos (by omega) ⟨0, rfl, Nat.le_refl _, by omega, fun j hj => by rw [show j = 0 by omega]; exact ⟨Nat.le_refl _, fun y => by omega⟩⟩
  exact ⟨b, he, b1, b2⟩
theorem sim_dijoin (n : Nat) (hn : 100000 ≤ n) : Sim_dijoin n TheInv := by
  intro j σ it τ bb hj h
  obtain ⟨⟨v, c, f⟩, ji, ok, hx, hm, hi, hsx⟩ := h
  have okv : okN v := ok.1
  have k16 := okv.2.2.1
  have hp : 2 ^ nK v ≤ 2 ^ 16 := Nat.pow_le_pow_right (by decide) k16
  have h1p : 1 ≤ 2 ^ nK v := Nat.one_le_two_pow
  have hm1 := RF_code hm 0
  obtain ⟨e, e1, e2, e3⟩ := p_x_isWhole hx okv hsx n (by omega)
  have mW := p_m_isWhole (τ := sS τ 0 0) hm1.1.1 okv n (by omega)
  by_cases hw : whoB v = true
  · have hw' : whoB (v, c, f).1 = true := hw
    rw [if_pos hw'] at e1
    rw [if_pos hw'] at mW
    obtain ⟨a, a1, a2, a3, a4, a5, a6⟩ := p_prepare e2 okv e3 n (by omega)
    obtain ⟨m, kb, k1, k2, k3, k4, k5⟩ := KB_kb okv a4
    obtain ⟨b, b1, b2, b3, b4, b5, b6⟩ := p_ties (σ := a) okv a2.1 n (by omega)
    have hall := whole_dj okv hw
    have hpl : sm (tie v) (nK v) (2 ^ nK v - 1) < 2 ^ 30 := by
      rw [tie_val (by omega)]
      have := wt_le okv (2 ^ nK v - 1)
      omega
    obtain ⟨s, B, s1, s2, s3, s4, s5, s6⟩ := p_findBelow (K := nK v) (m := m) (kb := kb) (p := tie v) k16 k2 k4 hpl n (by omega) (σ := b) ⟨b2, by rw [b5 1154 (by decide) (by decide)]; exact k1, fun x hx => by rw [b6 19 (by decide)]; exact k3 x hx, b4⟩ b3 (by decide) (lim := 2147483647) (by decide)
    have hBlt : B < 2147483647 := by
      have := s5 (2 ^ nK v - 1) (by omega) ((k5 _).mpr hall) (fun i _ => Nat.zero_testBit i)
      omega
    obtain ⟨A, A1, A2, A3, _, A4⟩ := s6 hBlt
    rw [if_pos hBlt] at s1
    have hFR : FR a s := FR_trans ⟨fun k hk => b5 k (by omega) (by omega), fun q hq => b6 q (by omega)⟩ (FS_FR s2)
    have hRXs := RX_FR a2 hFR
    obtain ⟨d, d1, d2, d3, d4⟩ := p_makeSets hm1 okv n hn
    have hC := d2.2.1.2.2.2.2 d4
    obtain ⟨l0, l1, l2⟩ := least_below (v := v) (2 ^ nK v) (2 ^ nK v - 1) (by omega) (by omega) hall
    have hpos : 1 ≤ (leastOf v).length := by
      rcases Nat.eq_zero_or_pos (leastOf v).length with q | q
      · rw [List.length_eq_zero_iff.mp q] at l1; cases l1
      · exact q
    have hlen := least_le (v := v) k16
    obtain ⟨x, x1, x2, x3⟩ := p_mdijoin (τ := d) (v := v) d2.1.1 okv hC.1 hC.2.2 hpos n hn
    have hdx := mem_least.mp (getD_mem x2)
    have hAd : A = (leastOf v).getD x 0 := by
      obtain ⟨l, m1, m2⟩ := least_below (v := v) (A + 1) A (by omega) A2 ((k5 A).mp A3)
      obtain ⟨l2', l3⟩ := mem_least.mp m1
      have hle := sm_mono (p := tie v) (K := nK v) m2
      have hge := s5 l l2' ((k5 l).mpr (minB_iff.mp l3).1) (fun i _ => Nat.zero_testBit i)
      have hlA : l = A := by
        have t1 := tie_val (v := v) l2'
        have t2 := tie_val (v := v) A2
        omega
      obtain ⟨y, y1, y2⟩ := mem_getD m1
      have hx3 := x3 y y1
      rw [y2, hlA] at hx3
      have hge2 := s5 _ hdx.1 ((k5 _).mpr (minB_iff.mp hdx.2).1) (fun i _ => Nat.zero_testBit i)
      have t1 := tie_val (v := v) A2
      have t2 := tie_val (v := v) hdx.1
      rcases (show y < x ∨ y = x ∨ x < y by omega) with q | q | q
      · have := hx3.2 q
        omega
      · rw [← q, y2, hlA]
      · have := least_sorted v q y1
        rw [y2, hlA] at this
        omega
    have hsum : f_sumOver_w n (sS s 66 (nI A)) (nI A) = some (nI (sm (nW v) (nK v) A)) := p_sum_w (σ := sS s 66 (nI A)) okv (fun a ha => (hRXs.1.2.2 a ha).2.2) A2 n (by omega)
    have hwt : f_m_weightOf n (sS (sS d 6 1) 7 (nI A)) (nI A) = some (nI (sm (nW v) (nK v) A)) := p_weightOf (τ := sS (sS d 6 1) 7 (nI A)) d2.1.1 okv n (by omega) (by omega)
    refine ⟨nI (sm (nW v) (nK v) A), sS s 66 (nI A), sS (sS d 6 1) 7 (nI A), ?_, ?_, (v, some A, f), ji, ⟨okv, fun c hc => ?_, fun g hg => okF_up (ok.2.2 g hg)⟩, ⟨hRXs.1, rfl, hRXs.2.2⟩, ⟨⟨d2.1.1, ⟨rfl, rfl⟩, d2.1.2.2⟩, d2.2.1, d2.2.2⟩, ImOK_up hi, (SX_FR a3 hFR : SX s)⟩
    · unfold f_x_dijoin
      rw [bnd_s e1, if_neg (show ¬ (1 : Int32) = 0 by decide), bnd_s a1, bnd_s b1]
      show bnd (f_Search_findBelow n b (nI 2147483647)) _ = _
      rw [bnd_s s1]
      show bnd (f_sumOver_w n (sS s 66 (s.1 1153)) (s.1 1153)) _ = _
      rw [A1, bnd_s hsum]
    · unfold f_m_dijoin
      rw [nam_e, bnd_s mW, if_neg (by decide), bnd_s d1, bnd_s x1, nam_e, grd_t (jin_nI (by omega) (by omega)), nam_e, jix_nI (by omega)]
      show bnd (f_m_weightOf n (sS (sS d 6 1) 7 (d.2 21 x)) (d.2 21 x)) _ = _
      rw [hC.2.2 x x2]
      show bnd (f_m_weightOf n (sS (sS d 6 1) 7 (nI ((leastOf v).getD x 0))) (nI ((leastOf v).getD x 0))) _ = _
      rw [← hAd, bnd_s hwt]
      show some (_, sS (sS d 6 1) 7 (d.2 21 x)) = _
      rw [hC.2.2 x x2, hAd]
    · obtain rfl := Option.some.inj hc
      omega
  · rw [if_neg hw] at mW
    have hw' : ¬ whoB (v, c, f).1 = true := hw
    rw [if_neg hw'] at e1
    refine ⟨-1, e, sS τ 0 0, ?_, ?_, (v, c, f), ji, okB_up ok, e2, hm1, ImOK_up hi, e3⟩
    · unfold f_x_dijoin
      rw [bnd_s e1, if_pos rfl]
    · unfold f_m_dijoin
      rw [nam_e, bnd_s mW, if_pos rfl]
