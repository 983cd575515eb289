/-! packing: the reference -/
theorem OKb_least {v : NV} (k16 : nK v ≤ 16) {p : Nat → Nat} {L s t : Nat} (hs : s ∈ sidesOf v) (h1 : t ≤ L) (h2 : ∀ a, a < nK v → (bor v s).testBit a = true → t ≤ p a) (h3 : ∀ d, d ∈ leastOf v → t * (pc16 (d &&& bor v s) - 1) + L ≤ sm p (nK v) d) : OKb v p L (bor v s) t := by
  have hp : 2 ^ nK v ≤ 2 ^ 16 := Nat.pow_le_pow_right (by decide) k16
  refine ⟨h1, h2, fun D hD hm => ?_⟩
  obtain ⟨d, d1, d2⟩ := least_below (v := v) (D + 1) D (by omega) hD hm
  obtain ⟨d3, d4⟩ := mem_least.mp d1
  have e1 := sm_sub2 k16 hD h2
  have e2 := sm_sub2 k16 d3 h2
  have e3 := sm_mono (p := subp p (bor v s) t) (K := nK v) d2
  have e4 := h3 d d1
  have c1 := pc16_pos (show D &&& bor v s < 2 ^ 16 from Nat.lt_of_le_of_lt Nat.and_le_left (by omega)) (meets hs hm)
  have c2 := pc16_pos (show d &&& bor v s < 2 ^ 16 from Nat.lt_of_le_of_lt Nat.and_le_left (by omega)) (meets hs (minB_iff.mp d4).1)
  obtain ⟨x, hx⟩ : ∃ c, pc16 (D &&& bor v s) = c + 1 := ⟨pc16 (D &&& bor v s) - 1, by omega⟩
  obtain ⟨y, hy⟩ : ∃ c, pc16 (d &&& bor v s) = c + 1 := ⟨pc16 (d &&& bor v s) - 1, by omega⟩
  rw [hx] at e1 ⊢
  rw [hy] at e2 e4
  rw [Nat.mul_add] at e1 e2
  rw [show y + 1 - 1 = y by omega] at e4
  rw [show x + 1 - 1 = x by omega]
  omega
theorem p_often {τ : ST} {v : NV} (ok : okN v) {p : Nat → Nat} {L s : Nat} (hK : τ.1 2 = nI (nK v)) (h29 : τ.1 29 = nI (leastOf v).length) (h21 : ∀ x, x < (leastOf v).length → τ.2 21 x = nI ((leastOf v).getD x 0)) (h22 : ∀ x, x < (leastOf v).length → τ.2 22 x = nI (sm p (nK v) ((leastOf v).getD x 0))) (h23 : ∀ a, a < nK v → τ.2 23 a = nI (p a)) (hpi : PI v p L) (hpl : ∀ a, a < nK v → p a ≤ 1000) (hL : L ≤ 16000) (hs : s ∈ sidesOf v) (n : Nat) (hn : 100000 ≤ n) : f_m_oftenAtMost n τ (nI (bor v s)) (nI L) = some (nI (gt v p L (bor v s))) := by
  have k16 := ok.2.2.1
  have hp : 2 ^ nK v ≤ 2 ^ 16 := Nat.pow_le_pow_right (by decide) k16
  have hlen := least_le (v := v) k16
  have hb := bor_lt v s
  obtain ⟨e1, he1, m1, rfl, hm1⟩ := lp_inv (body := b_m_oftenAtMost_5 n τ (nI (bor v s)) (nI L)) (fun (i : Nat) (t : Int32 × Int32) => ∃ m, t = (nI m, nI i) ∧ ∀ t, t ≤ m ↔ t ≤ L ∧ ∀ a, a < i → (bor v s).testBit a = true → t ≤ p a) (fun (e : Int32) => ∃ m, e = nI m ∧ ∀ t, t ≤ m ↔ t ≤ L ∧ ∀ a, a < nK v → (bor v s).testBit a = true → t ≤ p a) (nK v) (by
      rintro i t hi ⟨m, rfl, hm⟩
      have hmL : m ≤ L := ((hm m).mp (Nat.le_refl _)).1
      have hpi' := hpl i hi
      by_cases q : (bor v s).testBit i = true
      · refine ⟨(nI (min m (p i)), nI (i + 1)), ?_, min m (p i), rfl, fun t => ?_⟩
        · unfold b_m_oftenAtMost_5 j_m_oftenAtMost_44_5 j_m_oftenAtMost_45_5
          show (if τ.1 2 ≤ nI i then _ else if (jshr (nI (bor v s)) (nI i) &&& 1) = 0 then _ else grd (jin (nI i) 16) (if nI m ≤ τ.2 23 (jix (nI i)) then some (Sum.inl (nI m, nI i + 1)) else grd (jin (nI i) 16) (some (Sum.inl (τ.2 23 (jix (nI i)), nI i + 1))))) = _
          rw [hK, if_neg (nI_ge hi (by omega)), if_neg (fun z => by rw [(bit_nI (by omega) (by omega)).mp z] at q; cases q), grd_t (jin_nI (by omega) (by omega)), grd_t (jin_nI (by omega) (by omega)), jix_nI (by omega), h23 i hi, show nI i + (1 : Int32) = nI (i + 1) from nI_1 i]
          by_cases z : m ≤ p i
          · rw [if_pos (nI_le z (by omega)), Nat.min_eq_left z]
          · rw [if_neg (nI_ge (by omega) (by omega)), Nat.min_eq_right (by omega)]
        · rw [show t ≤ min m (p i) ↔ t ≤ m ∧ t ≤ p i from Nat.le_min, hm t]
          constructor
          · rintro ⟨⟨z1, z2⟩, z3⟩
            refine ⟨z1, fun a ha hb => ?_⟩
            rcases (show a < i ∨ a = i by omega) with y | y
            · exact z2 a y hb
            · rw [y]; exact z3
          · rintro ⟨z1, z2⟩
            exact ⟨⟨z1, fun a ha => z2 a (by omega)⟩, z2 i (by omega) q⟩
      · refine ⟨(nI m, nI (i + 1)), ?_, m, rfl, fun t => ?_⟩
        · unfold b_m_oftenAtMost_5 j_m_oftenAtMost_44_5 j_m_oftenAtMost_45_5
          show (if τ.1 2 ≤ nI i then _ else if (jshr (nI (bor v s)) (nI i) &&& 1) = 0 then some (Sum.inl (nI m, nI i + 1)) else _) = _
          rw [hK, if_neg (nI_ge hi (by omega)), if_pos ((bit_nI (by omega) (by omega)).mpr (tb_not q)), show nI i + (1 : Int32) = nI (i + 1) from nI_1 i]
        · rw [hm t]
          constructor
          · rintro ⟨z1, z2⟩
            refine ⟨z1, fun a ha hb => ?_⟩
            rcases (show a < i ∨ a = i by omega) with y | y
            · exact z2 a y hb
            · rw [y] at hb; exact absurd hb q
          · rintro ⟨z1, z2⟩
            exact ⟨z1, fun a ha => z2 a (by omega)⟩) (by
      rintro t ⟨m, rfl, hm⟩
      refine ⟨nI m, ?_, m, rfl, hm⟩
      unfold b_m_oftenAtMost_5
      show (if τ.1 2 ≤ nI (nK v) then _ else _) = _
      rw [hK, if_pos (nI_le (Nat.le_refl _) (by omega))]) n 0 (nI L, (0 : Int32)) (Nat.zero_le _) (by omega) ⟨L, rfl, fun t => ⟨fun z => ⟨z, fun a ha => absurd ha (Nat.not_lt_zero _)⟩, fun z => z.1⟩⟩
  obtain ⟨e2, he2, m2, rfl, hm2⟩ := lp_inv (body := b_m_oftenAtMost_55 n τ (nI (bor v s)) (nI L)) (fun (i : Nat) (t : Int32 × Int32) => ∃ m, t = (nI m, nI i) ∧ ∀ t, t ≤ m ↔ t ≤ m1 ∧ ∀ j, j < i → t * (pc16 ((leastOf v).getD j 0 &&& bor v s) - 1) + L ≤ sm p (nK v) ((leastOf v).getD j 0)) (fun (e : Int32) => ∃ m, e = nI m ∧ ∀ t, t ≤ m ↔ t ≤ m1 ∧ ∀ j, j < (leastOf v).length → t * (pc16 ((leastOf v).getD j 0 &&& bor v s) - 1) + L ≤ sm p (nK v) ((leastOf v).getD j 0)) (leastOf v).length (by
      rintro i t hi ⟨m, rfl, hm⟩
      have hmm : m ≤ m1 := ((hm m).mp (Nat.le_refl _)).1
      have hm1L : m1 ≤ L := ((hm1 m1).mp (Nat.le_refl _)).1
      obtain ⟨l1, l2⟩ := mem_least.mp (getD_mem hi)
      have hd := (minB_iff.mp l2).1
      have hPI := hpi _ l1 hd
      have hal : (leastOf v).getD i 0 &&& bor v s < 2 ^ 16 := Nat.lt_of_le_of_lt Nat.and_le_left (by omega)
      have hc := pc16_pos hal (meets hs hd)
      have hc16 : pc16 ((leastOf v).getD i 0 &&& bor v s) ≤ 16 := ctr_max _ 16
      have hsm : sm p (nK v) ((leastOf v).getD i 0) ≤ 16000 := by
        have := sm_le1000 (p := p) (M := 1000) (K := nK v) (D := (leastOf v).getD i 0) hpl
        omega
      have gi : jin (nI i) 13000 = true := jin_nI (by omega) (by omega)
      have ji : jix (nI i) = i := jix_nI (by omega)
      have hone : f_m_ones n (τ.2 21 i &&& nI (bor v s)) = some (nI (pc16 ((leastOf v).getD i 0 &&& bor v s))) := by
        rw [h21 i hi, and_nI]; exact p_ones hal n (by omega)
      have hsub : nI (pc16 ((leastOf v).getD i 0 &&& bor v s)) - (1 : Int32) = nI (pc16 ((leastOf v).getD i 0 &&& bor v s) - 1) := by
        rw [show (1 : Int32) = nI 1 from rfl, pk_sub hc]
      by_cases q : pc16 ((leastOf v).getD i 0 &&& bor v s) - 1 = 0
      · refine ⟨(nI m, nI (i + 1)), ?_, m, rfl, fun t => ?_⟩
        · unfold b_m_oftenAtMost_55 j_m_oftenAtMost_114_55
          show (if τ.1 29 ≤ nI i then _ else _) = _
          rw [h29, if_neg (nI_ge hi (by omega))]
          simp only [gi, grd_tt, ji]
          rw [bnd_s hone, hsub, if_pos (by rw [q]; decide), show nI i + (1 : Int32) = nI (i + 1) from nI_1 i]
        · rw [hm t]
          constructor
          · rintro ⟨z1, z2⟩
            refine ⟨z1, fun j hj => ?_⟩
            rcases (show j < i ∨ j = i by omega) with y | y
            · exact z2 j y
            · rw [y, q, Nat.mul_zero]; omega
          · rintro ⟨z1, z2⟩
            exact ⟨z1, fun j hj => z2 j (by omega)⟩
      · obtain ⟨w, hw⟩ : ∃ w, w = (sm p (nK v) ((leastOf v).getD i 0) - L) / (pc16 ((leastOf v).getD i 0 &&& bor v s) - 1) := ⟨_, rfl⟩
        have hwl : w ≤ 16000 := by rw [hw]; exact Nat.le_trans (Nat.div_le_self _ _) (by omega)
        have hdiv : (τ.2 22 i - nI L) / nI (pc16 ((leastOf v).getD i 0 &&& bor v s) - 1) = nI w := by
          rw [h22 i hi, pk_sub hPI, pk_div (by omega) (by omega) (by omega), hw]
        have hnz : (!decide (nI (pc16 ((leastOf v).getD i 0 &&& bor v s) - 1) = (0 : Int32))) = true := by
          rw [decide_eq_false (fun z => q ((nI_zero_iff (by omega)).mp z))]; rfl
        refine ⟨(nI (min m w), nI (i + 1)), ?_, min m w, rfl, fun t => ?_⟩
        · unfold b_m_oftenAtMost_55 j_m_oftenAtMost_114_55
          show (if τ.1 29 ≤ nI i then _ else _) = _
          rw [h29, if_neg (nI_ge hi (by omega))]
          simp only [gi, grd_tt, ji]
          rw [bnd_s hone, hsub, if_neg (show ¬ nI (pc16 ((leastOf v).getD i 0 &&& bor v s) - 1) ≤ (0 : Int32) from nI_ge (a := 0) (by omega) (by omega)), grd_t hnz, hdiv, grd_t hnz, nam_e, show nI i + (1 : Int32) = nI (i + 1) from nI_1 i]
          by_cases z : m ≤ w
          · rw [if_pos (nI_le z (by omega)), Nat.min_eq_left z]
          · rw [if_neg (nI_ge (by omega) (by omega)), Nat.min_eq_right (by omega)]
        · rw [show t ≤ min m w ↔ t ≤ m ∧ t ≤ w from Nat.le_min, hm t]
          have hiff : t ≤ w ↔ t * (pc16 ((leastOf v).getD i 0 &&& bor v s) - 1) + L ≤ sm p (nK v) ((leastOf v).getD i 0) := by
            rw [hw, Nat.le_div_iff_mul_le (by omega)]
            omega
          rw [hiff]
          constructor
          · rintro ⟨⟨z1, z2⟩, z3⟩
            refine ⟨z1, fun j hj => ?_⟩
            rcases (show j < i ∨ j = i by omega) with y | y
            · exact z2 j y
            · rw [y]; exact z3
          · rintro ⟨z1, z2⟩
            exact ⟨⟨z1, fun j hj => z2 j (by omega)⟩, z2 i (by omega)⟩) (by
      rintro t ⟨m, rfl, hm⟩
      refine ⟨nI m, ?_, m, rfl, hm⟩
      unfold b_m_oftenAtMost_55
      show (if τ.1 29 ≤ nI (leastOf v).length then _ else _) = _
      rw [h29, if_pos (nI_le (Nat.le_refl _) (by omega))]) n 0 (nI m1, (0 : Int32)) (Nat.zero_le _) (by omega) ⟨m1, rfl, fun t => ⟨fun z => ⟨z, fun j hj => absurd hj (Nat.not_lt_zero _)⟩, fun z => z.1⟩⟩
  have hgt : m2 = gt v p L (bor v s) := by
    refine gt_uni hpi ?_ (fun t' ht' => ?_)
    · obtain ⟨z1, z2⟩ := (hm2 m2).mp (Nat.le_refl _)
      obtain ⟨y1, y2⟩ := (hm1 m2).mp z1
      refine OKb_least k16 hs y1 y2 (fun d hd => ?_)
      obtain ⟨x, x1, x2⟩ := mem_getD hd
      rw [← x2]; exact z2 x x1
    · refine (hm2 t').mpr ⟨(hm1 t').mpr ⟨ht'.1, ht'.2.1⟩, fun j hj => ?_⟩
      obtain ⟨l1, l2⟩ := mem_least.mp (getD_mem hj)
      exact ht'.2.2 _ l1 (minB_iff.mp l2).1
  unfold f_m_oftenAtMost
  rw [bnd_s he1, bnd_s he2, hgt]
/-- the reference's state behind k sides -/
def PM (v : NV) (L0 k : Nat) (σ τ : ST) : Prop := τ.1 = σ.1 ∧ (∀ q, q ≠ 4 → q ≠ 5 → q ≠ 22 → q ≠ 23 → τ.2 q = σ.2 q) ∧ (∀ x, x < (leastOf v).length → τ.2 22 x = nI (sm (ps v L0 k).1 (nK v) ((leastOf v).getD x 0))) ∧ (∀ a, a < nK v → τ.2 23 a = nI ((ps v L0 k).1 a)) ∧ (∀ s, s < 256 → τ.2 5 s = nI ((ps v L0 k).2.2.1 s)) ∧ ∀ a, a < 16 → τ.2 4 a = (ps v L0 k).2.2.2 a
theorem pm_step {v : NV} (ok : okN v) {L0 : Nat} (h0 : PI v (nW v) L0) (hL0 : L0 ≤ 16000) {σ τ : ST} {k : Nat} (hk : k < (sidesOf v).length) (hK : σ.1 2 = nI (nK v)) (h25 : σ.1 25 = nI (sidesOf v).length) (h18 : ∀ x, x < (sidesOf v).length → σ.2 18 x = nI ((sidesOf v).getD x 0) ∧ σ.2 19 x = nI (bor v ((sidesOf v).getD x 0))) (h29 : σ.1 29 = nI (leastOf v).length) (h21 : ∀ x, x < (leastOf v).length → σ.2 21 x = nI ((leastOf v).getD x 0)) (hP : PM v L0 k σ τ) (n : Nat) (hn : 100000 ≤ n) (z : Int32) : ∃ e, b_m_packing_162 n z (τ, nI (ps v L0 k).2.1, nI k) = some (.inl (e, nI (ps v L0 (k + 1)).2.1, nI (k + 1))) ∧ PM v L0 (k + 1) σ e := by
  have k16 := ok.2.2.1
  have hp : 2 ^ nK v ≤ 2 ^ 16 := Nat.pow_le_pow_right (by decide) k16
  have hp8 : 2 ^ nN v ≤ 2 ^ 8 := Nat.pow_le_pow_right (by decide) ok.2.1
  have hlen := least_le (v := v) k16
  have hsl := sides_le v ok
  obtain ⟨i1, i2, i3, i4, i5⟩ := ps_inv ok h0 k (by omega)
  obtain ⟨P1, P2, P3, P4, P5, P6⟩ := hP
  have hmem := getD_mem hk
  obtain ⟨sd1, sd2, sd3⟩ := mem_sides.mp hmem
  have hb := bor_lt v ((sidesOf v).getD k 0)
  obtain ⟨t, ht⟩ : ∃ t, t = gt v (ps v L0 k).1 (ps v L0 k).2.1 (bor v ((sidesOf v).getD k 0)) := ⟨_, rfl⟩
  have hok := gt_ok (B := bor v ((sidesOf v).getD k 0)) i1
  rw [← ht] at hok
  have hof := p_often (τ := τ) ok (p := (ps v L0 k).1) (L := (ps v L0 k).2.1) (s := (sidesOf v).getD k 0) (by rw [P1]; exact hK) (by rw [P1]; exact h29) (fun x hx => by rw [P2 21 (by decide) (by decide) (by decide) (by decide)]; exact h21 x hx) P3 P4 i1 i2 (by omega) hmem n hn
  rw [← ht] at hof
  have r18 : τ.2 18 k = nI ((sidesOf v).getD k 0) := by rw [P2 18 (by decide) (by decide) (by decide) (by decide)]; exact (h18 k hk).1
  have r19 : τ.2 19 k = nI (bor v ((sidesOf v).getD k 0)) := by rw [P2 19 (by decide) (by decide) (by decide) (by decide)]; exact (h18 k hk).2
  have gk : jin (nI k) 256 = true := jin_nI (by omega) (by omega)
  have jk : jix (nI k) = k := jix_nI (by omega)
  obtain ⟨τ1, hτ1⟩ : ∃ τ1, τ1 = sA τ 5 (upd (τ.2 5) ((sidesOf v).getD k 0) (nI t)) := ⟨_, rfl⟩
  have t1o : ∀ q, q ≠ 5 → τ1.2 q = τ.2 q := fun q hq => by rw [hτ1, sA2n _ _ hq]
  -- the least sets' prices
  obtain ⟨e1, he1, f1, f2, f3⟩ := lp_inv (body := b_m_packing_204 n (nI (ps v L0 k).2.1 - nI t) z (nI k) (nI t)) (fun (i : Nat) (y : ST × Int32) => y.2 = nI i ∧ y.1.1 = τ.1 ∧ (∀ q, q ≠ 22 → y.1.2 q = τ1.2 q) ∧ ∀ x, x < (leastOf v).length → y.1.2 22 x = nI (if x < i then sm (subp (ps v L0 k).1 (bor v ((sidesOf v).getD k 0)) t) (nK v) ((leastOf v).getD x 0) else sm (ps v L0 k).1 (nK v) ((leastOf v).getD x 0))) (fun (e : ST) => e.1 = τ.1 ∧ (∀ q, q ≠ 22 → e.2 q = τ1.2 q) ∧ ∀ x, x < (leastOf v).length → e.2 22 x = nI (sm (subp (ps v L0 k).1 (bor v ((sidesOf v).getD k 0)) t) (nK v) ((leastOf v).getD x 0))) (leastOf v).length (by
      rintro i ⟨ρ, y⟩ hi ⟨g1, g2, g3, g4⟩
      have g1 : y = nI i := g1
      subst g1
      have g2 : ρ.1 = τ.1 := g2
      have g3 : ∀ q, q ≠ 22 → ρ.2 q = τ1.2 q := g3
      have g4 : ∀ x, x < (leastOf v).length → ρ.2 22 x = nI (if x < i then sm (subp (ps v L0 k).1 (bor v ((sidesOf v).getD k 0)) t) (nK v) ((leastOf v).getD x 0) else sm (ps v L0 k).1 (nK v) ((leastOf v).getD x 0)) := g4
      obtain ⟨l1, l2⟩ := mem_least.mp (getD_mem hi)
      have hal : (leastOf v).getD i 0 &&& bor v ((sidesOf v).getD k 0) < 2 ^ 16 := Nat.lt_of_le_of_lt Nat.and_le_left (by omega)
      have gi : jin (nI i) 13000 = true := jin_nI (by omega) (by omega)
      have ji : jix (nI i) = i := jix_nI (by omega)
      have r21 : ρ.2 21 i = nI ((leastOf v).getD i 0) := by rw [g3 21 (by decide), t1o 21 (by decide), P2 21 (by decide) (by decide) (by decide) (by decide)]; exact h21 i hi
      have q19 : ρ.2 19 k = nI (bor v ((sidesOf v).getD k 0)) := by rw [g3 19 (by decide), t1o 19 (by decide)]; exact r19
      have r22 : ρ.2 22 i = nI (sm (ps v L0 k).1 (nK v) ((leastOf v).getD i 0)) := by rw [g4 i hi, if_neg (Nat.lt_irrefl _)]
      have hss := sm_sub2 k16 l1 hok.2.1
      refine ⟨(sA ρ 22 (upd (ρ.2 22) i (nI (sm (subp (ps v L0 k).1 (bor v ((sidesOf v).getD k 0)) t) (nK v) ((leastOf v).getD i 0)))), nI (i + 1)), ?_, rfl, g2, fun q hq => ?_, fun x hx => ?_⟩
      · unfold b_m_packing_204
        show (if ρ.1 29 ≤ nI i then _ else _) = _
        rw [g2, P1, h29, if_neg (nI_ge hi (by omega))]
        simp only [nam_e, gi, gk, grd_tt, ji, jk, r21, q19, r22]
        rw [and_nI, bnd_s (p_ones hal n (by omega)), pk_mul, pk_sub (by omega), show sm (ps v L0 k).1 (nK v) ((leastOf v).getD i 0) - t * pc16 ((leastOf v).getD i 0 &&& bor v ((sidesOf v).getD k 0)) = sm (subp (ps v L0 k).1 (bor v ((sidesOf v).getD k 0)) t) (nK v) ((leastOf v).getD i 0) by omega, show nI i + (1 : Int32) = nI (i + 1) from nI_1 i]
      · show (sA ρ 22 _).2 q = _
        rw [sA2n _ _ hq]; exact g3 q hq
      · show upd (ρ.2 22) i _ x = _
        by_cases q : x = i
        · subst q; rw [upd_s, if_pos (Nat.lt_succ_self _)]
        · rw [upd_n q, g4 x hx]
          by_cases y : x < i
          · rw [if_pos y, if_pos (by omega)]
          · rw [if_neg y, if_neg (by omega)]) (by
      rintro ⟨ρ, y⟩ ⟨g1, g2, g3, g4⟩
      have g1 : y = nI (leastOf v).length := g1
      subst g1
      have g2 : ρ.1 = τ.1 := g2
      refine ⟨ρ, ?_, g2, g3, fun x hx => ?_⟩
      · unfold b_m_packing_204
        show (if ρ.1 29 ≤ nI (leastOf v).length then _ else _) = _
        rw [g2, P1, h29, if_pos (nI_le (Nat.le_refl _) (by omega))]
      · rw [show ρ.2 22 x = _ from g4 x hx, if_pos hx]) n 0 (τ1, (0 : Int32)) (Nat.zero_le _) (by omega) ⟨rfl, by rw [hτ1]; rfl, fun _ _ => rfl, fun x hx => by rw [if_neg (Nat.not_lt_zero _), t1o 22 (by decide)]; exact P3 x hx⟩
  -- spare and loads
  obtain ⟨e2, he2, j1, j2, j3, j4⟩ := lp_inv (body := b_m_packing_252 n (nI (ps v L0 k).2.1 - nI t) z (nI k) (nI t)) (fun (i : Nat) (y : ST × Int32) => y.2 = nI i ∧ y.1.1 = τ.1 ∧ (∀ q, q ≠ 23 → q ≠ 4 → y.1.2 q = e1.2 q) ∧ (∀ a, a < nK v → y.1.2 23 a = nI (if a < i then subp (ps v L0 k).1 (bor v ((sidesOf v).getD k 0)) t a else (ps v L0 k).1 a)) ∧ ∀ a, a < 16 → y.1.2 4 a = if a < i ∧ (bor v ((sidesOf v).getD k 0)).testBit a = true then (ps v L0 k).2.2.2 a + nI t else (ps v L0 k).2.2.2 a) (fun (e : ST) => e.1 = τ.1 ∧ (∀ q, q ≠ 23 → q ≠ 4 → e.2 q = e1.2 q) ∧ (∀ a, a < nK v → e.2 23 a = nI (subp (ps v L0 k).1 (bor v ((sidesOf v).getD k 0)) t a)) ∧ ∀ a, a < 16 → e.2 4 a = if (bor v ((sidesOf v).getD k 0)).testBit a = true then (ps v L0 k).2.2.2 a + nI t else (ps v L0 k).2.2.2 a) (nK v) (by
      rintro i ⟨ρ, y⟩ hi ⟨g1, g2, g3, g4, g5⟩
      have g1 : y = nI i := g1
      subst g1
      have g2 : ρ.1 = τ.1 := g2
      have g3 : ∀ q, q ≠ 23 → q ≠ 4 → ρ.2 q = e1.2 q := g3
      have g4 : ∀ a, a < nK v → ρ.2 23 a = nI (if a < i then subp (ps v L0 k).1 (bor v ((sidesOf v).getD k 0)) t a else (ps v L0 k).1 a) := g4
      have g5 : ∀ a, a < 16 → ρ.2 4 a = if a < i ∧ (bor v ((sidesOf v).getD k 0)).testBit a = true then (ps v L0 k).2.2.2 a + nI t else (ps v L0 k).2.2.2 a := g5
      have gi : jin (nI i) 16 = true := jin_nI (by omega) (by omega)
      have ji : jix (nI i) = i := jix_nI (by omega)
      have q19 : ρ.2 19 k = nI (bor v ((sidesOf v).getD k 0)) := by rw [g3 19 (by decide) (by decide), f2 19 (by decide), t1o 19 (by decide)]; exact r19
      have r23 : ρ.2 23 i = nI ((ps v L0 k).1 i) := by rw [g4 i hi, if_neg (Nat.lt_irrefl _)]
      have r4 : ρ.2 4 i = (ps v L0 k).2.2.2 i := by rw [g5 i (by omega), if_neg (fun q => Nat.lt_irrefl _ q.1)]
      by_cases q : (bor v ((sidesOf v).getD k 0)).testBit i = true
      · have hle := hok.2.1 i hi q
        refine ⟨(sA (sA ρ 23 (upd (ρ.2 23) i (nI ((ps v L0 k).1 i - t)))) 4 (upd (ρ.2 4) i ((ps v L0 k).2.2.2 i + nI t)), nI (i + 1)), ?_, rfl, g2, fun y y1 y2 => ?_, fun a ha => ?_, fun a ha => ?_⟩
        · unfold b_m_packing_252 j_m_packing_299_252
          show (if ρ.1 2 ≤ nI i then _ else _) = _
          rw [g2, P1, hK, if_neg (nI_ge hi (by omega))]
          simp only [nam_e, gi, gk, grd_tt, ji, jk, q19, r23]
          rw [if_neg (fun z => by rw [(bit_nI (by omega) (by omega)).mp z] at q; cases q), pk_sub hle]
          show some (Sum.inl (sA (sA ρ 23 (upd (ρ.2 23) i (nI ((ps v L0 k).1 i - t)))) 4 (upd (ρ.2 4) i (ρ.2 4 i + nI t)), nI i + 1)) = _
          rw [r4, show nI i + (1 : Int32) = nI (i + 1) from nI_1 i]
        · show (sA (sA ρ 23 _) 4 _).2 y = _
          rw [sA2n _ _ y2, sA2n _ _ y1]; exact g3 y y1 y2
        · show upd (ρ.2 23) i (nI ((ps v L0 k).1 i - t)) a = _
          by_cases u : a = i
          · subst u
            rw [upd_s, if_pos (Nat.lt_succ_self _)]
            unfold subp
            rw [if_pos q]
          · rw [upd_n u, g4 a ha]
            by_cases w : a < i
            · rw [if_pos w, if_pos (by omega)]
            · rw [if_neg w, if_neg (by omega)]
        · show upd (ρ.2 4) i ((ps v L0 k).2.2.2 i + nI t) a = _
          by_cases u : a = i
          · subst u; rw [upd_s, if_pos ⟨Nat.lt_succ_self _, q⟩]
          · rw [upd_n u, g5 a ha]
            by_cases w : a < i ∧ (bor v ((sidesOf v).getD k 0)).testBit a = true
            · rw [if_pos w, if_pos ⟨by omega, w.2⟩]
            · rw [if_neg w, if_neg (fun x => w ⟨by omega, x.2⟩)]
      · refine ⟨(ρ, nI (i + 1)), ?_, rfl, g2, g3, fun a ha => ?_, fun a ha => ?_⟩
        · unfold b_m_packing_252 j_m_packing_299_252
          show (if ρ.1 2 ≤ nI i then _ else _) = _
          rw [g2, P1, hK, if_neg (nI_ge hi (by omega))]
          simp only [nam_e, gi, gk, grd_tt, ji, jk, q19, r23]
          rw [if_pos ((bit_nI (by omega) (by omega)).mpr (tb_not q)), show nI i + (1 : Int32) = nI (i + 1) from nI_1 i]
        · show ρ.2 23 a = _
          rw [g4 a ha]
          rcases (show a < i ∨ a = i ∨ i < a by omega) with u | u | u
          · rw [if_pos u, if_pos (by omega)]
          · rw [if_neg (by omega), if_pos (by omega), u]
            unfold subp
            rw [if_neg q]
          · rw [if_neg (by omega), if_neg (by omega)]
        · show ρ.2 4 a = _
          rw [g5 a ha]
          by_cases w : a < i ∧ (bor v ((sidesOf v).getD k 0)).testBit a = true
          · rw [if_pos w, if_pos ⟨by omega, w.2⟩]
          · rw [if_neg w, if_neg]
            intro x
            rcases (show a < i ∨ a = i by omega) with u | u
            · exact w ⟨u, x.2⟩
            · rw [u] at x; exact q x.2) (by
      rintro ⟨ρ, y⟩ ⟨g1, g2, g3, g4, g5⟩
      have g1 : y = nI (nK v) := g1
      subst g1
      have g2 : ρ.1 = τ.1 := g2
      refine ⟨ρ, ?_, g2, g3, fun a ha => ?_, fun a ha => ?_⟩
      · unfold b_m_packing_252
        show (if ρ.1 2 ≤ nI (nK v) then _ else _) = _
        rw [g2, P1, hK, if_pos (nI_le (Nat.le_refl _) (by omega))]
      · rw [show ρ.2 23 a = _ from g4 a ha, if_pos ha]
      · rw [show ρ.2 4 a = _ from g5 a ha]
        by_cases w : (bor v ((sidesOf v).getD k 0)).testBit a = true
        · rw [if_pos ⟨lt_bit hb w, w⟩, if_pos w]
        · rw [if_neg (fun x => w x.2), if_neg w]) n 0 (e1, (0 : Int32)) (Nat.zero_le _) (by omega) ⟨rfl, f1, fun _ _ _ => rfl, fun a ha => by rw [if_neg (Nat.not_lt_zero _), f2 23 (by decide), t1o 23 (by decide)]; exact P4 a ha, fun a ha => by rw [if_neg (fun q => Nat.not_lt_zero _ q.1), f2 4 (by decide), t1o 4 (by decide)]; exact P6 a ha⟩
  refine ⟨e2, ?_, j1.trans P1, fun q q4 q5 q22 q23 => ?_, fun x hx => ?_, fun a ha => ?_, fun s hs => ?_, fun a ha => ?_⟩
  · unfold b_m_packing_162
    show (if τ.1 25 ≤ nI k then _ else _) = _
    rw [P1, h25, if_neg (nI_ge hk (by omega))]
    simp only [nam_e, gk, grd_tt, jk, r18, r19]
    rw [bnd_s hof, grd_t (jin_nI (by omega) (by omega)), jix_nI (by omega), ← hτ1, bnd_s he1, bnd_s he2, show nI k + (1 : Int32) = nI (k + 1) from nI_1 k, pk_sub hok.1, ht]
    rfl
  · rw [j2 q q23 q4, f2 q q22, t1o q q5]; exact P2 q q4 q5 q22 q23
  · rw [j2 22 (by decide) (by decide), f3 x hx, ht]; rfl
  · rw [j3 a ha, ht]; rfl
  · show e2.2 5 s = nI (if s = (sidesOf v).getD k 0 then gt v (ps v L0 k).1 (ps v L0 k).2.1 (bor v ((sidesOf v).getD k 0)) else (ps v L0 k).2.2.1 s)
    rw [j2 5 (by decide) (by decide), f2 5 (by decide), hτ1, sA2s, ← ht]
    by_cases q : s = (sidesOf v).getD k 0
    · rw [if_pos q, q, upd_s]
    · rw [if_neg q, upd_n q]; exact P5 s hs
  · rw [j4 a ha, ht]; rfl
