/-! the reference's makeSets, all of it; weightOf -/
theorem clr_bit {s k : Nat} (hs : s < 2 ^ 16) (hk : k < 16) (h : s.testBit k = true) : nI s &&& (jshl (1 : Int32) (nI k) ^^^ (-1 : Int32)) = nI (s ^^^ 2 ^ k) := by
  have hp : 2 ^ k ≤ 2 ^ 15 := Nat.pow_le_pow_right (by decide) (by omega)
  rw [show (-1 : Int32) = nI (2 ^ 32 - 1) from by decide, show (1 : Int32) = nI 1 from rfl, jshl_nI (by omega) (by omega), Nat.one_mul, xor_nI, and_nI]
  congr 1
  apply Nat.eq_of_testBit_eq
  intro i
  rw [Nat.testBit_and, Nat.testBit_xor, Nat.testBit_xor, Nat.testBit_two_pow, Nat.testBit_two_pow_sub_one]
  by_cases q : k = i
  · subst q; simp [h, show k < 32 by omega]
  · cases z : s.testBit i with
    | false => simp [q]
    | true =>
      have := lt_bit hs z
      simp [q, show i < 32 by omega]
theorem p_hasNone {σ : ST} {v : NV} (ok : okN v) (h2 : σ.1 2 = nI (nK v)) (hB : ∀ d, d < 2 ^ nK v → σ.2 20 d = if missB v d then 1 else 0) (n : Nat) (hn : 100000 ≤ n) {s : Nat} (hs : s < 2 ^ nK v) : ((∀ i, i < nK v → s.testBit i = true → missB v (s ^^^ 2 ^ i) = true) → f_m_hasNoneToSpare n σ (nI s) = some 1) ∧ ((¬ ∀ i, i < nK v → s.testBit i = true → missB v (s ^^^ 2 ^ i) = true) → f_m_hasNoneToSpare n σ (nI s) = some 0) := by
  have k16 := ok.2.2.1
  have hp : 2 ^ nK v ≤ 2 ^ 16 := Nat.pow_le_pow_right (by decide) k16
  have one : ∀ i, i < nK v → b_m_hasNoneToSpare_2 n σ (nI s) (nI i) = if s.testBit i = true ∧ missB v (s ^^^ 2 ^ i) = false then some (.inr (.inr 0)) else some (.inl (nI (i + 1))) := by
    intro i hi
    unfold b_m_hasNoneToSpare_2 j_m_hasNoneToSpare_35_2
    rw [h2, if_neg (nI_ge hi (by omega)), show nI i + (1 : Int32) = nI (i + 1) from nI_1 i]
    by_cases q : s.testBit i = true
    · have hx : s ^^^ 2 ^ i < 2 ^ nK v := Nat.xor_lt_two_pow hs (Nat.pow_lt_pow_right (by decide) hi)
      rw [if_neg (fun z => by rw [(bit_nI (by omega) (by omega)).mp z] at q; cases q), clr_bit (by omega) (by omega) q, grd_t (jin_nI (by omega) (by omega)), jix_nI (by omega), hB _ hx]
      by_cases z : missB v (s ^^^ 2 ^ i) = true
      · rw [if_pos z, if_neg (by decide), if_neg (fun y => by rw [z] at y; cases y.2)]
      · rw [if_neg z, if_pos rfl, if_pos ⟨q, by simpa using z⟩]
    · rw [if_pos ((bit_nI (by omega) (by omega)).mpr (tb_not q)), if_neg (fun y => q y.1)]
  constructor
  · intro hall
    have hl : lp (b_m_hasNoneToSpare_2 n σ (nI s)) n (0 : Int32) = some (.inl ()) := by
      refine lp_for (fun i => nI i) (nK v) (fun i hi => ?_) ?_ n (by omega)
      · rw [one i hi, if_neg (fun y => by rw [hall i hi y.1] at y; cases y.2)]
      · unfold b_m_hasNoneToSpare_2
        rw [h2, if_pos (nI_le (Nat.le_refl _) (by omega))]
    unfold f_m_hasNoneToSpare
    rw [bnd_s hl]
    rfl
  · intro hno
    have hex : ∃ i, i < nK v ∧ (s.testBit i = true ∧ missB v (s ^^^ 2 ^ i) = false) := by
      apply Classical.byContradiction
      intro q
      apply hno
      intro i hi hb
      cases z : missB v (s ^^^ 2 ^ i) with
      | true => rfl
      | false => exact absurd ⟨i, hi, hb, z⟩ q
    obtain ⟨i, ⟨hi, h0⟩, hmin⟩ := pk_least (fun i => i < nK v ∧ (s.testBit i = true ∧ missB v (s ^^^ 2 ^ i) = false)) hex
    have hl : lp (b_m_hasNoneToSpare_2 n σ (nI s)) n (0 : Int32) = some (.inr 0) := by
      refine lp_for (fun i => nI i) i (fun y hy => ?_) ?_ n (by omega)
      · rw [one y (by omega), if_neg (fun z => hmin y hy ⟨by omega, z⟩)]
      · rw [one i hi, if_pos h0]
    unfold f_m_hasNoneToSpare
    rw [bnd_s hl]
    rfl
theorem leastTo_s0 {v : NV} {i : Nat} (h : ¬ minB v i = true) : leastTo v (i + 1) = leastTo v i := by
  unfold leastTo
  rw [List.range_succ, List.filter_append, List.filter_cons_of_neg h]
  exact List.append_nil _
theorem leastTo_s1 {v : NV} {i : Nat} (h : minB v i = true) : leastTo v (i + 1) = leastTo v i ++ [i] := by
  unfold leastTo
  rw [List.range_succ, List.filter_append, List.filter_cons_of_pos h]
  rfl
theorem leastTo_len {v : NV} (k16 : nK v ≤ 16) {i : Nat} (hi : i ≤ 2 ^ nK v) : (leastTo v i).length ≤ 12870 := by
  have h1 := least_le k16
  have e1 : (leastTo v i).length = totTo (fun t => if minB v t then 1 else 0) i := filter_tot (minB v) i
  have e2 : (leastOf v).length = totTo (fun t => if minB v t then 1 else 0) (2 ^ nK v) := filter_tot (minB v) (2 ^ nK v)
  rw [e1]
  rw [e2] at h1
  exact Nat.le_trans (totTo_mono hi) h1
theorem ms_4 {σ : ST} {v : NV} (ok : okN v) (h2' : σ.1 2 = nI (nK v)) (h29 : σ.1 29 = 0) (hB : ∀ d, d < 2 ^ nK v → σ.2 20 d = if missB v d then 1 else 0) (n : Nat) (hn : 100000 ≤ n) : ∃ e, lp (b_m_makeSets_142 n (nI (2 ^ nK v))) n (σ, (0 : Int32)) = some e ∧ (∀ c, c ≠ 29 → e.1 c = σ.1 c) ∧ (∀ q, q ≠ 21 → e.2 q = σ.2 q) ∧ e.1 29 = nI (leastOf v).length ∧ ∀ x, x < (leastOf v).length → e.2 21 x = nI ((leastOf v).getD x 0) := by
  have k16 := ok.2.2.1
  have hp : 2 ^ nK v ≤ 2 ^ 16 := Nat.pow_le_pow_right (by decide) k16
  refine lp_inv (body := b_m_makeSets_142 n (nI (2 ^ nK v))) (fun (i : Nat) (t : ST × Int32) => t.2 = nI i ∧ (∀ c, c ≠ 29 → t.1.1 c = σ.1 c) ∧ (∀ q, q ≠ 21 → t.1.2 q = σ.2 q) ∧ t.1.1 29 = nI (leastTo v i).length ∧ ∀ x, x < (leastTo v i).length → t.1.2 21 x = nI ((leastTo v i).getD x 0)) (fun (e : ST) => (∀ c, c ≠ 29 → e.1 c = σ.1 c) ∧ (∀ q, q ≠ 21 → e.2 q = σ.2 q) ∧ e.1 29 = nI (leastOf v).length ∧ ∀ x, x < (leastOf v).length → e.2 21 x = nI ((leastOf v).getD x 0)) (2 ^ nK v) ?_ ?_ n 0 (σ, 0) (Nat.zero_le _) (by omega) ⟨rfl, fun _ _ => rfl, fun _ _ => rfl, h29, fun x hx => absurd hx (Nat.not_lt_zero _)⟩
  · intro i t hi ⟨h1, h2, h3, h4, h5⟩
    obtain ⟨ρ, y⟩ := t
    subst h1
    have h2 : ∀ c, c ≠ 29 → ρ.1 c = σ.1 c := h2
    have h3 : ∀ q, q ≠ 21 → ρ.2 q = σ.2 q := h3
    have h4 : ρ.1 29 = nI (leastTo v i).length := h4
    have hlen := leastTo_len (v := v) k16 (Nat.le_of_lt hi)
    have r20 : ∀ d, d < 2 ^ nK v → ρ.2 20 d = if missB v d then 1 else 0 := fun d hd => by rw [h3 20 (by decide)]; exact hB d hd
    have hN := p_hasNone ok (σ := ρ) (by rw [h2 2 (by decide)]; exact h2') r20 n hn hi
    have gi : jin (nI i) 65536 = true := jin_nI (by omega) (by omega)
    have ji : jix (nI i) = i := jix_nI (by omega)
    by_cases hm : minB v i = true
    · obtain ⟨m1, m2⟩ := minB_iff.mp hm
      refine ⟨(sS (sA ρ 21 (upd (ρ.2 21) (leastTo v i).length (nI i))) 29 (nI ((leastTo v i).length + 1)), nI (i + 1)), ?_, rfl, fun c hc => ?_, fun q hq => ?_, ?_, fun x hx => ?_⟩
      · unfold b_m_makeSets_142 j_m_makeSets_184_142
        show (if nI (2 ^ nK v) ≤ nI i then _ else grd (jin (nI i) 65536) (if ρ.2 20 (jix (nI i)) = 0 then bnd (f_m_hasNoneToSpare n ρ (nI i)) _ else _)) = _
        rw [if_neg (nI_ge hi (by omega)), grd_t gi, ji, r20 i hi, if_pos (by rw [m1]; rfl), bnd_s (hN.1 m2), if_neg (by decide)]
        show grd (jin (ρ.1 29) 13000) (nam (sA ρ 21 (upd (ρ.2 21) (jix (ρ.1 29)) (nI i))) (fun σ13 => nam (sS σ13 29 (ρ.1 29 + 1)) (fun σ14 => some (Sum.inl (σ14, nI i + 1))))) = _
        rw [h4, grd_t (jin_nI (by omega) (by omega)), nam_e, nam_e, jix_nI (by omega), show nI i + (1 : Int32) = nI (i + 1) from nI_1 i, show nI (leastTo v i).length + (1 : Int32) = nI ((leastTo v i).length + 1) from nI_1 _]
      · show (sS _ 29 _).1 c = _
        rw [sS1n _ _ hc]; exact h2 c hc
      · show (sA ρ 21 _).2 q = _
        rw [sA2n _ _ hq]; exact h3 q hq
      · rw [sS1s, leastTo_s1 hm, List.length_append]; rfl
      · rw [leastTo_s1 hm] at hx ⊢
        rw [List.length_append] at hx
        show upd (ρ.2 21) (leastTo v i).length (nI i) x = _
        by_cases hxl : x = (leastTo v i).length
        · subst hxl; rw [upd_s, getD_last]
        · have hx1 : x < (leastTo v i).length := by
            have : x < (leastTo v i).length + 1 := hx
            omega
          rw [upd_n hxl, getD_app hx1]; exact h5 x hx1
    · refine ⟨(ρ, nI (i + 1)), ?_, rfl, h2, h3, ?_, ?_⟩
      · unfold b_m_makeSets_142 j_m_makeSets_184_142
        show (if nI (2 ^ nK v) ≤ nI i then _ else grd (jin (nI i) 65536) (if ρ.2 20 (jix (nI i)) = 0 then bnd (f_m_hasNoneToSpare n ρ (nI i)) _ else some (Sum.inl (ρ, nI i + 1)))) = _
        rw [if_neg (nI_ge hi (by omega)), grd_t gi, ji, r20 i hi, show nI i + (1 : Int32) = nI (i + 1) from nI_1 i]
        by_cases q : missB v i = true
        · rw [if_pos q, if_neg (by decide)]
        · rw [if_neg q, if_pos rfl, bnd_s (hN.2 (fun z => hm (minB_iff.mpr ⟨by simpa using q, z⟩))), if_pos rfl]
      · rw [leastTo_s0 hm]; exact h4
      · rw [leastTo_s0 hm]; exact h5
  · intro t ⟨h1, h2, h3, h4, h5⟩
    refine ⟨t.1, ?_, h2, h3, h4, h5⟩
    unfold b_m_makeSets_142
    rw [h1, if_pos (nI_le (Nat.le_refl _) (by omega))]
theorem p_makeSets {τ : ST} {v : BV} {ji : Nat → Option BV} (hm : RF τ v ji) (ok : okN v.1) (n : Nat) (hn : 100000 ≤ n) : ∃ e, f_m_makeSets n τ = some e ∧ RF e v ji ∧ e.1 24 = 1 ∧ e.1 31 = 1 := by
  have k16 := ok.2.2.1
  have hp : 2 ^ nK v.1 ≤ 2 ^ 16 := Nat.pow_le_pow_right (by decide) k16
  obtain ⟨d, d1, d2, d3, d4, d5⟩ := p_makeSides hm ok n (by omega)
  have hC := d2.2.1.2.2.2.1 d3
  unfold f_m_makeSets
  rw [bnd_s d1]
  by_cases h31 : d.1 31 = 0
  · rw [if_pos h31]
    have hK : d.1 2 = nI (nK v.1) := d2.1.1.2.1
    have hsh : jshl (1 : Int32) ((sS d 31 (1 : Int32)).1 2) = nI (2 ^ nK v.1) := by
      rw [show (sS d 31 (1 : Int32)).1 2 = nI (nK v.1) from hK, show (1 : Int32) = nI 1 from rfl, jshl_nI (by omega) (by omega), Nat.one_mul]
    simp only [nam_e]
    rw [hsh]
    obtain ⟨e1, a0, a1, a2, a3⟩ := ms_1 (σ := sS d 31 (1 : Int32)) k16 n hn
    obtain ⟨e2, b0, b1, b2, b3⟩ := ms_2 (σ := e1) (v := v.1) ok (by rw [a1]; exact hC.1) (fun x hx => by rw [a2 19 (by decide)]; exact (hC.2 x hx).2) a3 n hn
    obtain ⟨e3, c0, c1, c2, c3⟩ := ms_3 (σ := e2) (v := v.1) ok (by rw [b1, a1]; exact hK) b3 n hn
    obtain ⟨e4, f0, f1, f2, f3, f4⟩ := ms_4 (σ := sS e3 29 (0 : Int32)) (v := v.1) ok (by show e3.1 2 = _; rw [c1, b1, a1]; exact hK) rfl c3 n hn
    rw [bnd_s a0, bnd_s b0, bnd_s c0, bnd_s f0]
    have n1 : ∀ c, c ≠ 29 → c ≠ 31 → e4.1 c = d.1 c := fun c h29 h31 => by rw [f1 c h29, sS1n _ _ h29, c1, b1, a1, sS1n _ _ h31]
    have n2 : ∀ q, q ≠ 20 → q ≠ 21 → e4.2 q = d.2 q := fun q h20 h21 => by
      rw [f2 q h21]
      show e3.2 q = _
      rw [c2 q h20, b2 q h20, a2 q h20]; rfl
    have e31 : e4.1 31 = 1 := by rw [f1 31 (by decide), sS1n _ _ (by decide), c1, b1, a1]; rfl
    obtain ⟨hM, ⟨c1', c2', c3', c4', c5'⟩, hI⟩ := d2
    refine ⟨e4, rfl, ⟨⟨?_, ?_, ?_⟩, ⟨?_, Or.inr e31, fun _ => ?_, fun _ => ?_, fun _ => ⟨f3, fun q hq => ?_, f4⟩⟩, ?_⟩, ?_, e31⟩
    · rw [n1 1 (by decide) (by decide), n1 2 (by decide) (by decide), n2 1 (by decide) (by decide), n2 2 (by decide) (by decide), n2 3 (by decide) (by decide)]; exact hM.1
    · rw [n1 6 (by decide) (by decide), n1 7 (by decide) (by decide)]; exact hM.2.1
    · rw [n1 8 (by decide) (by decide), n1 9 (by decide) (by decide), n2 5 (by decide) (by decide), n2 4 (by decide) (by decide)]; exact hM.2.2
    · rw [n1 24 (by decide) (by decide)]; exact c1'
    · rw [n1 24 (by decide) (by decide)]; exact d3
    · rw [n1 25 (by decide) (by decide), n2 18 (by decide) (by decide), n2 19 (by decide) (by decide)]; exact hC
    · rw [f2 20 (by decide)]; exact c3 q hq
    · intro k hk
      have h5 := hI k hk
      revert h5
      cases ji k with
      | none => intro h5; show e4.2 6 k = 0; rw [n2 6 (by decide) (by decide)]; exact h5
      | some w =>
        intro h5
        show e4.2 6 k = 1 ∧ RI e4 k w
        unfold RI
        rw [n2 6 (by decide) (by decide), n2 7 (by decide) (by decide), n2 8 (by decide) (by decide), n2 9 (by decide) (by decide), n2 10 (by decide) (by decide), n2 11 (by decide) (by decide), n2 12 (by decide) (by decide), n2 13 (by decide) (by decide), n2 14 (by decide) (by decide), n2 15 (by decide) (by decide), n2 16 (by decide) (by decide), n2 17 (by decide) (by decide)]
        exact h5
    · rw [n1 24 (by decide) (by decide)]; exact d3
  · rw [if_neg h31]
    exact ⟨d, rfl, d2, d3, d2.2.1.2.1.resolve_left h31⟩
/-- a sum over a set of arcs -/
def sm (p : Nat → Nat) (K D : Nat) : Nat := totTo (fun i => if D.testBit i then p i else 0) K
theorem sm_succ (p : Nat → Nat) (K D : Nat) : sm p (K + 1) D = sm p K D + if D.testBit K then p K else 0 := rfl
theorem sm_le1000 {p : Nat → Nat} {M : Nat} : ∀ {K D : Nat}, (∀ i, i < K → p i ≤ M) → sm p K D ≤ K * M := by
  intro K D
  induction K with
  | zero => intro _; show 0 ≤ 0 * M; exact Nat.zero_le _
  | succ K ih =>
    intro h
    have h1 := ih (fun i hi => h i (by omega))
    have h2 := h K (by omega)
    rw [sm_succ, Nat.add_mul, Nat.one_mul]
    have : (if D.testBit K then p K else 0) ≤ M := by
      by_cases q : D.testBit K = true
      · rw [if_pos q]; exact h2
      · rw [if_neg q]; exact Nat.zero_le _
    omega
theorem p_weightOf {τ : ST} {v : NV} (hv : isNet (τ.1 1) (τ.1 2) (τ.2 1) (τ.2 2) (τ.2 3) v) (ok : okN v) (n : Nat) (hn : 1000 ≤ n) {s : Nat} (hs : s < 2 ^ 31) : f_m_weightOf n τ (nI s) = some (nI (sm (nW v) (nK v) s)) := by
  have k16 := ok.2.2.1
  have hl : lp (b_m_weightOf_4 n τ (nI s)) n ((0 : Int32), (0 : Int32)) = some (nI (sm (nW v) (nK v) s)) := by
    refine lp_for (fun i => (nI (sm (nW v) i s), nI i)) (nK v) (fun i hi => ?_) ?_ n (by omega)
    · obtain ⟨h1, h2, h3⟩ := hv.2.2 i hi
      unfold b_m_weightOf_4 j_m_weightOf_31_4
      show (if τ.1 2 ≤ nI i then _ else if (jshr (nI s) (nI i) &&& 1) = 0 then some (Sum.inl (nI (sm (nW v) i s) + 0, nI i + 1)) else grd (jin (nI i) 16) (some (Sum.inl (nI (sm (nW v) i s) + τ.2 3 (jix (nI i)), nI i + 1)))) = _
      rw [hv.2.1, if_neg (nI_ge hi (by omega)), grd_t (jin_nI (by omega) (by omega)), jix_nI (by omega), h3, nI_add, Int32.add_zero, show nI i + (1 : Int32) = nI (i + 1) from nI_1 i, sm_succ]
      by_cases q : s.testBit i = true
      · rw [if_neg (fun z => by rw [(bit_nI hs (by omega)).mp z] at q; cases q), if_pos q]
      · rw [if_pos ((bit_nI hs (by omega)).mpr (tb_not q)), if_neg q]; rfl
    · unfold b_m_weightOf_4
      show (if τ.1 2 ≤ nI (nK v) then _ else _) = _
      rw [hv.2.1, if_pos (nI_le (Nat.le_refl _) (by omega))]
  unfold f_m_weightOf
  rw [bnd_s hl]
