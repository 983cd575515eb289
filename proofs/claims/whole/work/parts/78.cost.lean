/-! cost -/
theorem sm_set_in {W : Nat → Nat} {K D i w : Nat} (hi : i < K) (h : D.testBit i = true) : sm (fun a => if a = i then w else W a) K D + W i = sm W K D + w := by
  have e := totTo_set (fun a => if D.testBit a then W a else 0) i w K
  rw [if_pos hi, if_pos hi, if_pos h] at e
  have f : sm (fun a => if a = i then w else W a) K D = totTo (fun q => if q = i then w else (if D.testBit q then W q else 0)) K := by
    refine totTo_congr K (fun a _ => ?_)
    show (if D.testBit a = true then (if a = i then w else W a) else 0) = if a = i then w else (if D.testBit a then W a else 0)
    by_cases q : a = i
    · rw [if_pos q, if_pos q, q, if_pos h]
    · rw [if_neg q, if_neg q]
  rw [f]
  exact e
theorem sm_set_out {W : Nat → Nat} {K D i w : Nat} (h : D.testBit i = false) : sm (fun a => if a = i then w else W a) K D = sm W K D := by
  refine totTo_congr K (fun a _ => ?_)
  show (if D.testBit a = true then (if a = i then w else W a) else 0) = if D.testBit a then W a else 0
  by_cases q : a = i
  · rw [q, h]; rfl
  · rw [if_neg q]
theorem sm_in {W : Nat → Nat} {K D i : Nat} (hi : i < K) (h : D.testBit i = true) : W i ≤ sm W K D := by
  have h1 : totTo (fun a => if a = i then W i else 0) K ≤ sm W K D := by
    refine totTo_le K (fun a _ => ?_)
    by_cases q : a = i
    · rw [if_pos q, q, if_pos h]; exact Nat.le_refl _
    · rw [if_neg q]; exact Nat.zero_le _
  rw [totTo_one, if_pos hi] at h1
  exact h1
theorem p_byWeight {σ : ST} {v : NV} (k16 : nK v ≤ 16) (hv : isNet (σ.1 128) (σ.1 129) (σ.2 3) (σ.2 4) (σ.2 5) v) : ∃ e, f_Search_priceByWeight σ = some e ∧ e.1 1158 = nI (nK v) ∧ e.1 1157 = nI 0 ∧ (∀ a, a < nK v → e.2 20 a = nI (nW v a)) ∧ (∀ c, c ≠ 1157 → c ≠ 1158 → e.1 c = σ.1 c) ∧ ∀ q, q ≠ 20 → e.2 q = σ.2 q := by
  refine ⟨_, rfl, hv.2.1, rfl, fun a ha => ?_, fun c c1 c2 => ?_, fun q hq => ?_⟩
  · show va_cpy (σ.2 5) (σ.2 20) 0 0 16 a = _
    rw [pk_cpy_in (Nat.zero_le _) (by omega), show 0 + (a - 0) = a by omega]
    exact (hv.2.2 a ha).2.2
  · show (sS (sS σ 1158 (σ.1 129)) 1157 0).1 c = _
    rw [sS1n _ _ c1, sS1n _ _ c2]
  · rw [sA2n _ _ hq]; rfl
theorem mcost_loop {v : NV} (k16 : nK v ≤ 16) (okb : Nat → Bool) (q : Nat → Nat) (hq : ∀ d, q d < 2 ^ 30) {body : Int32 × Int32 → Option ((Int32 × Int32) ⊕ Int32)} (n : Nat) (hn : 100000 ≤ n) (hb : ∀ (x : Int32) j, j < (leastOf v).length → body (x, nI j) = if okb ((leastOf v).getD j 0) = true then some (.inl (if x = -1 then nI (q ((leastOf v).getD j 0)) else if x ≤ nI (q ((leastOf v).getD j 0)) then x else nI (q ((leastOf v).getD j 0)), nI (j + 1))) else some (.inl (x, nI (j + 1)))) (he : ∀ x, body (x, nI (leastOf v).length) = some (.inr x)) : ∃ r, lp body n ((-1 : Int32), (0 : Int32)) = some r ∧ ((r = -1 ∧ ∀ d, d ∈ leastOf v → okb d = false) ∨ ∃ b d, r = nI b ∧ d ∈ leastOf v ∧ okb d = true ∧ b = q d ∧ ∀ d', d' ∈ leastOf v → okb d' = true → b ≤ q d') := by
  have hlen := least_le (v := v) k16
  have hneg : ∀ b, b < 2 ^ 30 → ¬ nI b = (-1 : Int32) := by
    intro b hb z
    have h1 := congrArg Int32.toInt z
    rw [nI_toInt (by omega)] at h1
    have h2 : (-1 : Int32).toInt = -1 := by decide
    omega
  obtain ⟨r, hr, hQ⟩ := lp_inv (body := body) (fun (i : Nat) (t : Int32 × Int32) => ∃ x, t = (x, nI i) ∧ ((x = -1 ∧ ∀ j, j < i → okb ((leastOf v).getD j 0) = false) ∨ ∃ b j, x = nI b ∧ j < i ∧ j < (leastOf v).length ∧ okb ((leastOf v).getD j 0) = true ∧ b = q ((leastOf v).getD j 0) ∧ ∀ j', j' < i → okb ((leastOf v).getD j' 0) = true → b ≤ q ((leastOf v).getD j' 0))) (fun (r : Int32) => (r = -1 ∧ ∀ d, d ∈ leastOf v → okb d = false) ∨ ∃ b d, r = nI b ∧ d ∈ leastOf v ∧ okb d = true ∧ b = q d ∧ ∀ d', d' ∈ leastOf v → okb d' = true → b ≤ q d') (leastOf v).length (by
      rintro i t hi ⟨x, rfl, hx⟩
      have hbi := hb x i hi
      by_cases z : okb ((leastOf v).getD i 0) = true
      · rw [if_pos z] at hbi
        refine ⟨_, hbi, _, rfl, Or.inr ?_⟩
        rcases hx with ⟨rfl, h2⟩ | ⟨b, j, rfl, h2, h3, h4, h5, h6⟩
        · refine ⟨_, i, if_pos rfl, by omega, hi, z, rfl, fun j' hj' hok => ?_⟩
          rcases (show j' < i ∨ j' = i by omega) with y | y
          · rw [h2 j' y] at hok; cases hok
          · rw [y]; exact Nat.le_refl _
        · have hqb := hq ((leastOf v).getD j 0)
          have hqi := hq ((leastOf v).getD i 0)
          rw [if_neg (hneg b (by omega))]
          by_cases y : b ≤ q ((leastOf v).getD i 0)
          · refine ⟨b, j, if_pos ((nI_leI (by omega) (by omega)).mpr y), by omega, h3, h4, h5, fun j' hj' hok => ?_⟩
            rcases (show j' < i ∨ j' = i by omega) with u | u
            · exact h6 j' u hok
            · rw [u]; exact y
          · refine ⟨_, i, if_neg (fun u => y ((nI_leI (by omega) (by omega)).mp u)), by omega, hi, z, rfl, fun j' hj' hok => ?_⟩
            rcases (show j' < i ∨ j' = i by omega) with u | u
            · have := h6 j' u hok; omega
            · rw [u]; exact Nat.le_refl _
      · rw [if_neg z] at hbi
        refine ⟨_, hbi, x, rfl, ?_⟩
        rcases hx with ⟨h1, h2⟩ | ⟨b, j, h1, h2, h3, h4, h5, h6⟩
        · refine Or.inl ⟨h1, fun j hj => ?_⟩
          rcases (show j < i ∨ j = i by omega) with y | y
          · exact h2 j y
          · rw [y]; simpa using z
        · refine Or.inr ⟨b, j, h1, by omega, h3, h4, h5, fun j' hj' hok => ?_⟩
          rcases (show j' < i ∨ j' = i by omega) with u | u
          · exact h6 j' u hok
          · rw [u] at hok; exact absurd hok z) (by
      rintro t ⟨x, rfl, hx⟩
      refine ⟨x, he x, ?_⟩
      rcases hx with ⟨h1, h2⟩ | ⟨b, j, h1, h2, h3, h4, h5, h6⟩
      · refine Or.inl ⟨h1, fun d hd => ?_⟩
        obtain ⟨y, y1, y2⟩ := mem_getD hd
        rw [← y2]; exact h2 y y1
      · refine Or.inr ⟨b, _, h1, getD_mem h3, h4, h5, fun d' hd' hok => ?_⟩
        obtain ⟨y, y1, y2⟩ := mem_getD hd'
        rw [← y2] at hok ⊢
        exact h6 y y1 hok) n 0 ((-1 : Int32), (0 : Int32)) (Nat.zero_le _) (by omega) ⟨-1, rfl, Or.inl ⟨rfl, fun j hj => absurd hj (Nat.not_lt_zero _)⟩⟩
  exact ⟨r, hr, hQ⟩
/-- the search and the least sets give one cost -/
theorem cost_eq {v : NV} {m : Nat} {kb p : Nat → Nat} (k5 : ∀ D, feas m kb D ↔ missB v D = false) (hpl : sm p (nK v) (2 ^ nK v - 1) < 2 ^ 30) {X B : Nat} (h1 : B ≤ 2147483647) (h2 : ∀ D, D < 2 ^ nK v → feas m kb D → dsj D X → B ≤ sm p (nK v) D) (h3 : B < 2147483647 → ∃ A, A < 2 ^ nK v ∧ feas m kb A ∧ dsj A X ∧ sm p (nK v) A = B) {okb : Nat → Bool} (hok : ∀ d, okb d = true ↔ dsj d X) {r : Int32} (hr : (r = -1 ∧ ∀ d, d ∈ leastOf v → okb d = false) ∨ ∃ b d, r = nI b ∧ d ∈ leastOf v ∧ okb d = true ∧ b = sm p (nK v) d ∧ ∀ d', d' ∈ leastOf v → okb d' = true → b ≤ sm p (nK v) d') : (B < 2147483647 ∧ r = nI B) ∨ (¬ B < 2147483647 ∧ r = -1) := by
  rcases hr with ⟨r1, r2⟩ | ⟨b, d, r1, r2, r3, r4, r5⟩
  · refine Or.inr ⟨fun q => ?_, r1⟩
    obtain ⟨A, a1, a2, a3, a4⟩ := h3 q
    obtain ⟨l, l1, l2⟩ := least_below (v := v) (A + 1) A (by omega) a1 ((k5 A).mp a2)
    have := (hok l).mpr (fun i hi => a3 i (l2 i hi))
    rw [r2 l l1] at this; cases this
  · obtain ⟨d1, d2⟩ := mem_least.mp r2
    have hB := h2 d d1 ((k5 d).mpr (minB_iff.mp d2).1) ((hok d).mp r3)
    have ht := sm_tot (p := p) (K := nK v) d
    have hlt : B < 2147483647 := by omega
    refine Or.inl ⟨hlt, ?_⟩
    obtain ⟨A, a1, a2, a3, a4⟩ := h3 hlt
    obtain ⟨l, l1, l2⟩ := least_below (v := v) (A + 1) A (by omega) a1 ((k5 A).mp a2)
    have h6 := r5 l l1 ((hok l).mpr (fun i hi => a3 i (l2 i hi)))
    have h7 := sm_mono (p := p) (K := nK v) l2
    rw [r1, show b = B by omega]
theorem sim_cost (n : Nat) (hn : 100000 ≤ n) : Sim_cost n TheInv := by
  intro j σ it τ bb a b hj h
  obtain ⟨⟨v, c, f⟩, ji, ok, hx, hm, hi, hsx⟩ := h
  have okv : okN v := ok.1
  have k16 := okv.2.2.1
  have hp : 2 ^ nK v ≤ 2 ^ 16 := Nat.pow_le_pow_right (by decide) k16
  have h1p : 1 ≤ 2 ^ nK v := Nat.one_le_two_pow
  have hm1 := RF_code hm 0
  have stay : TheInv (j + 1) σ it (sS τ 0 0) := ⟨(v, c, f), ji, okB_up ok, hx, hm1, ImOK_up hi, hsx⟩
  have mW := p_m_isWhole (τ := sS τ 0 0) hm1.1.1 okv n (by omega)
  have hxv : isNet (σ.1 128) (σ.1 129) (σ.2 3) (σ.2 4) (σ.2 5) v := hx.1
  have hmv : isNet ((sS τ 0 0).1 1) ((sS τ 0 0).1 2) ((sS τ 0 0).2 1) ((sS τ 0 0).2 2) ((sS τ 0 0).2 3) v := hm1.1.1
  rcases arc_both n (σ := σ) (τ := sS τ 0 0) hxv.2.1 hmv.2.1 k16 a with ⟨i, hik, rfl, e1, e2⟩ | ⟨e1, e2⟩
  · have hW := (okv.2.2.2 i hik).2.2
    have hpi : 2 ^ i < 2 ^ nK v := Nat.pow_lt_pow_right (by decide) hik
    have gi : jin (nI i) 16 = true := jin_nI (by omega) (by omega)
    have jix_i : jix (nI i) = i := jix_nI (by omega)
    by_cases hgood : b = -1 ∨ ∃ w, w ≤ 1000 ∧ b = nI w
    · have xs : f_x_cost n σ (nI i) b = j_x_cost_26 n σ (nI i) b := by
        unfold f_x_cost
        rw [bnd_s e1, if_neg (by decide)]
        rcases hgood with q | ⟨w, w1, w2⟩
        · rw [if_pos q]
        · have hnm : ¬ b = -1 := by
            rw [w2]; intro z
            have h1 := congrArg Int32.toInt z
            rw [nI_toInt (by omega)] at h1
            have h2 : (-1 : Int32).toInt = -1 := by decide
            omega
          rw [if_neg hnm, bnd_s (p_isWeight n b), if_neg]
          rw [if_neg]
          · decide
          · rw [w2]
            rintro (z | z)
            · exact nI_pos (by omega) z
            · exact absurd z (Int32.not_lt.mpr (show nI w ≤ 1000 from nI_le (b := 1000) w1 (by decide)))
      have hin : f_m_in n b (-1) 1000 = some 1 := by
        rw [p_in, if_neg]
        rcases hgood with q | ⟨w, w1, w2⟩
        · rw [q]; decide
        · rw [w2]
          rintro (z | z)
          · have := Int32.lt_iff_toInt_lt.mp z
            rw [nI_toInt (by omega)] at this
            have h2 : (-1 : Int32).toInt = -1 := by decide
            omega
          · exact absurd z (Int32.not_lt.mpr (show nI w ≤ 1000 from nI_le (b := 1000) w1 (by decide)))
      rw [xs]
      obtain ⟨e, x1, x2, x3⟩ := p_x_isWhole hx okv hsx n (by omega)
      by_cases hw : whoB v = true
      · have hw' : whoB (v, c, f).1 = true := hw
        rw [if_pos hw'] at x1
        rw [if_pos hw] at mW
        obtain ⟨g, a1, a2, a3, a4, a5, a6⟩ := p_prepare x2 okv x3 n (by omega)
        obtain ⟨m, kb, k1, k2, k3, k4, k5⟩ := KB_kb okv a4
        obtain ⟨t, b1, b2, b3, b4, b5, b6⟩ := p_byWeight (σ := g) (v := v) k16 a2.1
        obtain ⟨d, d1, d2, d3, d4⟩ := p_makeSets hm1 okv n hn
        have hC : d.1 29 = nI (leastOf v).length ∧ (∀ x, x < 2 ^ nK v → d.2 20 x = if missB v x then 1 else 0) ∧ ∀ x, x < (leastOf v).length → d.2 21 x = nI ((leastOf v).getD x 0) := d2.2.1.2.2.2.2 d4
        have hlen := least_le (v := v) k16
        have hdv : isNet (d.1 1) (d.1 2) (d.2 1) (d.2 2) (d.2 3) v := d2.1.1
        have hwt : ∀ x, x < (leastOf v).length → f_m_weightOf n d (d.2 21 x) = some (nI (sm (nW v) (nK v) ((leastOf v).getD x 0))) := by
          intro x hx
          rw [hC.2.2 x hx]
          exact p_weightOf hdv okv n (by omega) (by have := (mem_least.mp (getD_mem hx)).1; omega)
        -- the search, for prices q and barred X
        have fin : ∀ (q : Nat → Nat) (X : Nat) (u : ST), X < 2 ^ 16 → (∀ a, a < nK v → q a ≤ 1000) → f_Search_reprice n t (nI i) b = some u → u.1 1158 = nI (nK v) → u.1 1157 = nI X → (∀ a, a < nK v → u.2 20 a = nI (q a)) → (∀ k, k ≠ 1157 → u.1 k = t.1 k) → (∀ y, y ≠ 20 → u.2 y = t.2 y) → ∀ (okb : Nat → Bool), (∀ x, okb x = true ↔ dsj x X) → (∃ r, lp (b_m_cost_42 n d (nI i) b) n ((-1 : Int32), (0 : Int32)) = some r ∧ ((r = -1 ∧ ∀ x, x ∈ leastOf v → okb x = false) ∨ ∃ y x, r = nI y ∧ x ∈ leastOf v ∧ okb x = true ∧ y = sm q (nK v) x ∧ ∀ x', x' ∈ leastOf v → okb x' = true → y ≤ sm q (nK v) x')) → ∃ (r : Int32) (σ1 : ST) (τ1 : ST), j_x_cost_26 n σ (nI i) b = some (r, σ1) ∧ f_m_cost n τ (nI i) b = some (r, τ1) ∧ TheInv (j + 1) σ1 it τ1 := by
          intro q X u hX hq1000 u1 u2 u3 u4 u5 u6 okb hok ⟨r, r1, r2⟩
          have hpl : sm q (nK v) (2 ^ nK v - 1) < 2 ^ 30 := by
            have h1 := sm_le1000 (p := q) (M := 1000) (K := nK v) (D := 2 ^ nK v - 1) hq1000
            have h2 : nK v * 1000 ≤ 16 * 1000 := Nat.mul_le_mul_right 1000 k16
            omega
          obtain ⟨s, B, s1, s2, s3, s4, s5, s6⟩ := p_findBelow (K := nK v) (m := m) (kb := kb) (p := q) k16 k2 k4 hpl n (by omega) (σ := u) ⟨u2, by rw [u5 1154 (by decide), b5 1154 (by decide) (by decide)]; exact k1, fun x hx => by rw [u6 19 (by decide), b6 19 (by decide)]; exact k3 x hx, u4⟩ u3 hX (lim := 2147483647) (by decide)
          have hFR : FR g s := FR_trans (b := u) ⟨fun k hk => by rw [u5 k (by omega), b5 k (by omega) (by omega)], fun y hy => by rw [u6 y (by omega), b6 y (by omega)]⟩ (FS_FR s2)
          have hm' : f_m_cost n τ (nI i) b = some (r, d) := by
            unfold f_m_cost
            rw [nam_e, bnd_s e2, if_neg (by decide), bnd_s mW, if_neg (by decide), bnd_s hin, if_neg (by decide), bnd_s d1, bnd_s r1]
          have st : TheInv (j + 1) s it d := ⟨(v, c, f), ji, okB_up ok, RX_FR a2 hFR, d2, ImOK_up hi, SX_FR a3 hFR⟩
          have hce := cost_eq (v := v) (m := m) (kb := kb) (p := q) k5 hpl (X := X) (B := B) s4 s5 (fun hlt => by obtain ⟨A, _, A2, A3, A4, A5⟩ := s6 hlt; exact ⟨A, A2, A3, A4, A5⟩) (okb := okb) hok r2
          refine ⟨r, s, d, ?_, hm', st⟩
          unfold j_x_cost_26 j_x_cost_85
          rw [bnd_s x1, if_neg (show ¬ (1 : Int32) = 0 by decide), bnd_s a1, bnd_s b1, bnd_s u1]
          show bnd (f_Search_findBelow n u (nI 2147483647)) _ = _
          rw [bnd_s s1]
          rcases hce with ⟨z1, z2⟩ | ⟨z1, z2⟩
          · rw [if_pos z1, if_neg (show ¬ (1 : Int32) = 0 by decide), z2]
            show some (s.1 1152, s) = _
            rw [s3]
          · rw [if_neg z1, if_pos rfl, z2]
        rcases hgood with hb | ⟨w, w1, hb⟩
        · -- barred
          refine fin (nW v) (2 ^ i) (sS t 1157 (nI (2 ^ i))) (by omega) (fun a ha => (okv.2.2.2 a ha).2.2) ?_ (by rw [sS1n _ _ (by decide)]; exact b2) (sS1s _ _ _) b4 (fun k hk => sS1n _ _ hk) (fun _ _ => rfl) (fun x => !x.testBit i) (fun x => ?_) ?_
          · unfold f_Search_reprice j_Search_reprice_22
            rw [if_pos hb, nam_e, show (1 : Int32) = nI 1 from rfl, jshl_nI (by omega) (by omega), Nat.one_mul]
          · constructor
            · intro z k hk
              rw [Nat.testBit_two_pow]
              apply decide_eq_false
              intro y
              rw [← y] at hk
              rw [hk] at z; cases z
            · intro z
              cases y : x.testBit i with
              | false => rfl
              | true =>
                have := z i y
                rw [Nat.testBit_two_pow] at this
                simp at this
          · refine mcost_loop k16 (fun x => !x.testBit i) (fun x => sm (nW v) (nK v) x) (fun x => by have := wt_le okv x; omega) n hn (fun x k hk => ?_) (fun x => ?_)
            · have hl := (mem_least.mp (getD_mem hk)).1
              unfold b_m_cost_42 j_m_cost_70_42 j_m_cost_84_42 j_m_cost_112_42 j_m_cost_126_42 j_m_cost_132_42 j_m_cost_133_42
              show (if d.1 29 ≤ nI k then _ else _) = _
              rw [hC.1, if_neg (nI_ge hk (by omega)), grd_t (jin_nI (by omega) (by omega))]
              show (if (jshr (d.2 21 (jix (nI k))) (nI i) &&& 1) = 0 then (if (0 : Int32) = 0 then grd (jin (nI k) 13000) (bnd (f_m_weightOf n d (d.2 21 (jix (nI k)))) (fun o6 => if (0 : Int32) = 0 then (if x = -1 then some (Sum.inl (o6 + 0, nI k + 1)) else if x ≤ o6 + 0 then some (Sum.inl (x, nI k + 1)) else some (Sum.inl (o6 + 0, nI k + 1))) else _)) else _) else (if (1 : Int32) = 0 then _ else if 0 ≤ b then _ else some (Sum.inl (x, nI k + 1)))) = _
              rw [jix_nI (by omega), show nI k + (1 : Int32) = nI (k + 1) from nI_1 k]
              by_cases z : ((leastOf v).getD k 0).testBit i = true
              · rw [hC.2.2 k hk, if_neg (fun y => by rw [(bit_nI (by omega) (by omega)).mp y] at z; cases z), if_neg (by decide), if_neg (by rw [hb]; decide), if_neg (by rw [z]; decide)]
              · rw [if_pos (by rw [hC.2.2 k hk]; exact (bit_nI (by omega) (by omega)).mpr (tb_not z)), if_pos rfl, grd_t (jin_nI (by omega) (by omega)), bnd_s (hwt k hk), if_pos rfl, Int32.add_zero, if_pos (show (!((leastOf v).getD k 0).testBit i) = true by rw [tb_not z]; rfl)]
                by_cases y : x = -1
                · rw [if_pos y, if_pos y]
                · rw [if_neg y, if_neg y]
                  by_cases y2 : x ≤ nI (sm (nW v) (nK v) ((leastOf v).getD k 0))
                  · rw [if_pos y2, if_pos y2]
                  · rw [if_neg y2, if_neg y2]
            · unfold b_m_cost_42
              show (if d.1 29 ≤ nI (leastOf v).length then _ else _) = _
              rw [hC.1, if_pos (nI_le (Nat.le_refl _) (by omega))]
        · -- another weight
          refine fin (fun a => if a = i then w else nW v a) 0 (sA t 20 (upd (t.2 20) i (nI w))) (by decide) (fun a ha => ?_) ?_ b2 b3 (fun a ha => ?_) (fun _ _ => rfl) (fun y hy => sA2n _ _ hy) (fun _ => true) (fun x => ⟨fun _ k _ => Nat.zero_testBit k, fun _ => rfl⟩) ?_
          · show (if a = i then w else nW v a) ≤ 1000
            by_cases z : a = i
            · rw [if_pos z]; exact w1
            · rw [if_neg z]; exact (okv.2.2.2 a ha).2.2
          · unfold f_Search_reprice j_Search_reprice_22
            rw [if_neg, grd_t gi, nam_e, jix_i, hb]
            rw [hb]; intro z
            have h1 := congrArg Int32.toInt z
            rw [nI_toInt (by omega)] at h1
            have h2 : (-1 : Int32).toInt = -1 := by decide
            omega
          · show upd (t.2 20) i (nI w) a = nI (if a = i then w else nW v a)
            by_cases z : a = i
            · rw [z, upd_s, if_pos rfl]
            · rw [upd_n z, if_neg z]; exact b4 a ha
          · refine mcost_loop k16 (fun _ => true) (fun x => sm (fun a => if a = i then w else nW v a) (nK v) x) (fun x => ?_) n hn (fun x k hk => ?_) (fun x => ?_)
            · have h1 := sm_le1000 (p := fun a => if a = i then w else nW v a) (M := 1000) (K := nK v) (D := x) (fun a ha => by
                show (if a = i then w else nW v a) ≤ 1000
                by_cases z : a = i
                · rw [if_pos z]; exact w1
                · rw [if_neg z]; exact (okv.2.2.2 a ha).2.2)
              have h2 : nK v * 1000 ≤ 16 * 1000 := Nat.mul_le_mul_right 1000 k16
              show sm (fun a => if a = i then w else nW v a) (nK v) x < 2 ^ 30
              omega
            · have hl := (mem_least.mp (getD_mem hk)).1
              rw [if_pos rfl]
              unfold b_m_cost_42 j_m_cost_70_42 j_m_cost_84_42 j_m_cost_112_42 j_m_cost_126_42 j_m_cost_132_42 j_m_cost_133_42
              show (if d.1 29 ≤ nI k then _ else _) = _
              rw [hC.1, if_neg (nI_ge hk (by omega)), grd_t (jin_nI (by omega) (by omega))]
              show (if (jshr (d.2 21 (jix (nI k))) (nI i) &&& 1) = 0 then (if (0 : Int32) = 0 then grd (jin (nI k) 13000) (bnd (f_m_weightOf n d (d.2 21 (jix (nI k)))) (fun o6 => if (0 : Int32) = 0 then (if x = -1 then some (Sum.inl (o6 + 0, nI k + 1)) else if x ≤ o6 + 0 then some (Sum.inl (x, nI k + 1)) else some (Sum.inl (o6 + 0, nI k + 1))) else _)) else _) else (if (1 : Int32) = 0 then _ else if 0 ≤ b then grd (jin (nI k) 13000) (bnd (f_m_weightOf n d (d.2 21 (jix (nI k)))) (fun o6 => if (1 : Int32) = 0 then _ else grd (jin (nI i) 16) (if x = -1 then some (Sum.inl (o6 + (b - d.2 3 (jix (nI i))), nI k + 1)) else if x ≤ o6 + (b - d.2 3 (jix (nI i))) then some (Sum.inl (x, nI k + 1)) else some (Sum.inl (o6 + (b - d.2 3 (jix (nI i))), nI k + 1))))) else _)) = _
              rw [jix_nI (show k < 2 ^ 31 by omega), show nI k + (1 : Int32) = nI (k + 1) from nI_1 k]
              have key : ∀ (Q : Int32), (if x = -1 then some (Sum.inl (Q, nI (k + 1))) else if x ≤ Q then some (Sum.inl (x, nI (k + 1))) else some (Sum.inl (Q, nI (k + 1)))) = (some (Sum.inl (if x = -1 then Q else if x ≤ Q then x else Q, nI (k + 1))) : Option ((Int32 × Int32) ⊕ Int32)) := by
                intro Q
                by_cases y : x = -1
                · rw [if_pos y, if_pos y]
                · rw [if_neg y, if_neg y]
                  by_cases y2 : x ≤ Q
                  · rw [if_pos y2, if_pos y2]
                  · rw [if_neg y2, if_neg y2]
              by_cases z : ((leastOf v).getD k 0).testBit i = true
              · have hin1 := sm_set_in (W := nW v) (w := w) hik z
                have hge := sm_in (W := nW v) hik z
                have hQ : nI (sm (nW v) (nK v) ((leastOf v).getD k 0)) + (b - d.2 3 i) = nI (sm (fun a => if a = i then w else nW v a) (nK v) ((leastOf v).getD k 0)) := by
                  rw [hb, (hdv.2.2 i hik).2.2]
                  obtain ⟨y, hy⟩ : ∃ y, sm (nW v) (nK v) ((leastOf v).getD k 0) = y + nW v i := ⟨sm (nW v) (nK v) ((leastOf v).getD k 0) - nW v i, by omega⟩
                  rw [hy, ← nI_add, Int32.add_assoc, Int32.add_comm (nI (nW v i)), Int32.sub_add_cancel, nI_add]
                  congr 1
                  omega
                rw [if_neg (fun y => by rw [hC.2.2 k hk] at y; rw [(bit_nI (by omega) (by omega)).mp y] at z; cases z), if_neg (by decide), if_pos (by rw [hb]; exact nI_le (a := 0) (Nat.zero_le _) (by omega)), grd_t (jin_nI (by omega) (by omega)), bnd_s (hwt k hk), if_neg (by decide), grd_t gi, jix_i, hQ]
                exact key _
              · have hout := sm_set_out (W := nW v) (K := nK v) (w := w) (tb_not z)
                rw [if_pos (by rw [hC.2.2 k hk]; exact (bit_nI (by omega) (by omega)).mpr (tb_not z)), if_pos rfl, grd_t (jin_nI (by omega) (by omega)), bnd_s (hwt k hk), if_pos rfl, Int32.add_zero, ← hout]
                exact key _
            · unfold b_m_cost_42
              show (if d.1 29 ≤ nI (leastOf v).length then _ else _) = _
              rw [hC.1, if_pos (nI_le (Nat.le_refl _) (by omega))]
      · have hw' : ¬ whoB (v, c, f).1 = true := hw
        rw [if_neg hw'] at x1
        rw [if_neg hw] at mW
        refine ⟨-1, e, sS τ 0 0, ?_, ?_, (v, c, f), ji, okB_up ok, x2, hm1, ImOK_up hi, x3⟩
        · unfold j_x_cost_26 j_x_cost_33
          rw [bnd_s x1, if_pos rfl]
        · unfold f_m_cost j_m_cost_31
          rw [nam_e, bnd_s e2, if_neg (by decide), bnd_s mW, if_pos rfl]
    · have hb1 : ¬ b = -1 := fun q => hgood (Or.inl q)
      have hbad : b < 0 ∨ 1000 < b := by
        apply Classical.byContradiction
        intro q
        obtain ⟨w, w1, w2⟩ := nI_in1000 q
        exact hgood (Or.inr ⟨w, w1, w2⟩)
      refine ⟨-1, σ, sS τ 0 0, ?_, ?_, stay⟩
      · unfold f_x_cost j_x_cost_33
        rw [bnd_s e1, if_neg (by decide), if_neg hb1, bnd_s (p_isWeight n b), if_pos (by rw [if_pos hbad])]
      · have hin : f_m_in n b (-1) 1000 = some 0 := by
          rw [p_in, if_pos]
          rcases hbad with q | q
          · left
            rw [Int32.lt_iff_toInt_lt] at q ⊢
            have h1 : (-1 : Int32).toInt = -1 := by decide
            have h2 : (0 : Int32).toInt = 0 := by decide
            have h3 : b.toInt ≠ -1 := fun z => hb1 (Int32.toInt_inj.mp (by rw [z, h1]))
            omega
          · exact Or.inr q
        unfold f_m_cost j_m_cost_31
        rw [nam_e, bnd_s e2, if_neg (by decide), bnd_s mW]
        by_cases hw : whoB v = true
        · rw [if_pos hw, if_neg (by decide), bnd_s hin, if_pos rfl]
        · rw [if_neg hw, if_pos rfl]
  · refine ⟨-1, σ, sS τ 0 0, ?_, ?_, stay⟩
    · unfold f_x_cost j_x_cost_33; rw [bnd_s e1, if_pos rfl]
    · unfold f_m_cost j_m_cost_31; rw [nam_e, bnd_s e2, if_pos rfl]
