/-! packing: Search.spend, mostTimes -/
theorem p_spend {σ : ST} {K B : Nat} (hK : σ.1 1158 = nI K) (k16 : K ≤ 16) (hB : B < 2 ^ 31) (m : Int32) (n : Nat) (hn : 1000 ≤ n) : ∃ e, f_Search_spend n σ (nI B) m = some e ∧ e.1 = σ.1 ∧ (∀ a, a < K → e.2 20 a = if B.testBit a = true then σ.2 20 a - m else σ.2 20 a) ∧ ∀ q, q ≠ 20 → e.2 q = σ.2 q := by
  obtain ⟨e, he, h1, h2, h3⟩ := lp_inv (body := b_Search_spend_2 n (nI B) m) (fun (i : Nat) (t : ST × Int32) => t.2 = nI i ∧ t.1.1 = σ.1 ∧ (∀ a, a < K → t.1.2 20 a = if a < i ∧ B.testBit a = true then σ.2 20 a - m else σ.2 20 a) ∧ ∀ q, q ≠ 20 → t.1.2 q = σ.2 q) (fun (e : ST) => e.1 = σ.1 ∧ (∀ a, a < K → e.2 20 a = if B.testBit a = true then σ.2 20 a - m else σ.2 20 a) ∧ ∀ q, q ≠ 20 → e.2 q = σ.2 q) K (by
      rintro i ⟨ρ, y⟩ hi ⟨g1, g2, g3, g4⟩
      have g1 : y = nI i := g1
      subst g1
      have g2 : ρ.1 = σ.1 := g2
      have g3 : ∀ a, a < K → ρ.2 20 a = if a < i ∧ B.testBit a = true then σ.2 20 a - m else σ.2 20 a := g3
      have gi : jin (nI i) 16 = true := jin_nI (by omega) (by omega)
      have ji : jix (nI i) = i := jix_nI (by omega)
      have r20 : ρ.2 20 i = σ.2 20 i := by rw [g3 i hi, if_neg (fun q => Nat.lt_irrefl _ q.1)]
      by_cases q : B.testBit i = true
      · refine ⟨(sA ρ 20 (upd (ρ.2 20) i (σ.2 20 i - m)), nI (i + 1)), ?_, rfl, g2, fun a ha => ?_, fun y hy => ?_⟩
        · unfold b_Search_spend_2 j_Search_spend_28_2
          show (if ρ.1 1158 ≤ nI i then _ else bnd (f_contains n (nI B) (nI i)) _) = _
          rw [g2, hK, if_neg (nI_ge hi (by omega)), bnd_s (p_contains n hB (by omega)), if_pos q, if_neg (by decide)]
          simp only [nam_e, gi, grd_tt, ji, r20]
          rw [show nI i + (1 : Int32) = nI (i + 1) from nI_1 i]
        · show upd (ρ.2 20) i (σ.2 20 i - m) a = _
          by_cases u : a = i
          · subst u; rw [upd_s, if_pos ⟨Nat.lt_succ_self _, q⟩]
          · rw [upd_n u, g3 a ha]
            by_cases w : a < i ∧ B.testBit a = true
            · rw [if_pos w, if_pos ⟨by omega, w.2⟩]
            · rw [if_neg w, if_neg (fun x => w ⟨by omega, x.2⟩)]
        · show (sA ρ 20 _).2 y = _
          rw [sA2n _ _ hy]; exact g4 y hy
      · refine ⟨(ρ, nI (i + 1)), ?_, rfl, g2, fun a ha => ?_, g4⟩
        · unfold b_Search_spend_2 j_Search_spend_28_2
          show (if ρ.1 1158 ≤ nI i then _ else bnd (f_contains n (nI B) (nI i)) _) = _
          rw [g2, hK, if_neg (nI_ge hi (by omega)), bnd_s (p_contains n hB (by omega)), if_neg q, if_pos rfl, show nI i + (1 : Int32) = nI (i + 1) from nI_1 i]
        · show ρ.2 20 a = _
          rw [g3 a ha]
          by_cases w : a < i ∧ B.testBit a = true
          · rw [if_pos w, if_pos ⟨by omega, w.2⟩]
          · rw [if_neg w, if_neg]
            intro x
            rcases (show a < i ∨ a = i by omega) with u | u
            · exact w ⟨u, x.2⟩
            · rw [u] at x; exact q x.2) (by
      rintro ⟨ρ, y⟩ ⟨g1, g2, g3, g4⟩
      have g1 : y = nI K := g1
      subst g1
      have g2 : ρ.1 = σ.1 := g2
      refine ⟨ρ, ?_, g2, fun a ha => ?_, g4⟩
      · unfold b_Search_spend_2
        show (if ρ.1 1158 ≤ nI K then _ else _) = _
        rw [g2, hK, if_pos (nI_le (Nat.le_refl _) (by omega))]
      · rw [show ρ.2 20 a = _ from g3 a ha]
        by_cases w : B.testBit a = true
        · rw [if_pos ⟨ha, w⟩, if_pos w]
        · rw [if_neg (fun x => w x.2), if_neg w]) n 0 (σ, (0 : Int32)) (Nat.zero_le _) (by omega) ⟨rfl, rfl, fun a ha => by rw [if_neg (fun q => Nat.not_lt_zero _ q.1)], fun _ _ => rfl⟩
  refine ⟨e, ?_, h1, h2, h3⟩
  unfold f_Search_spend
  rw [bnd_s he]
theorem p_sum_p {σ : ST} {K : Nat} {p : Nat → Nat} (k16 : K ≤ 16) (h20 : ∀ a, a < K → σ.2 20 a = nI (p a)) {A : Nat} (hA : A < 2 ^ K) (n : Nat) (hn : 1000 ≤ n) : f_sumOver_p n σ (nI A) = some (nI (sm p K A)) := by
  have hp : 2 ^ K ≤ 2 ^ 16 := Nat.pow_le_pow_right (by decide) k16
  unfold f_sumOver_p
  rw [bnd_s (p_sumOver (q := 0) hA k16 h20 (b_sumOver_p_4 n σ (nI A)) n hn (fun x i hi => ?_) (fun x => ?_))]
  · unfold b_sumOver_p_4 j_sumOver_p_24_4
    show (if (16 : Int32) ≤ nI i then _ else bnd (f_contains n (nI A) (nI i)) (fun o1 => if o1 = 0 then some (Sum.inl (x, nI i + 1)) else grd (jin (nI i) 16) (some (Sum.inl (x + σ.2 20 (jix (nI i)), nI i + 1))))) = _
    rw [if_neg (show ¬ (16 : Int32) ≤ nI i from nI_ge (b := 16) hi (by decide)), bnd_s (p_contains n (by omega) (by omega)), grd_t (jin_nI hi (by omega)), jix_nI (by omega), show nI i + (1 : Int32) = nI (i + 1) from nI_1 i]
    by_cases z : A.testBit i = true
    · rw [if_pos z, if_neg (by decide), if_pos z]
    · rw [if_neg z, if_pos rfl, if_neg z]
  · unfold b_sumOver_p_4
    show (if (16 : Int32) ≤ nI 16 then _ else _) = _
    rw [if_pos (by decide)]
theorem subp_le {p : Nat → Nat} {K B t : Nat} (h : ∀ a, a < K → p a ≤ 1000) : ∀ a, a < K → subp p B t a ≤ 1000 := by
  intro a ha
  have := h a ha
  unfold subp
  by_cases q : B.testBit a = true
  · rw [if_pos q]; omega
  · rw [if_neg q]; exact this
theorem spend_back (x t : Nat) (h : t ≤ x) : nI (x - t) - (-(nI t)) = nI x := by
  rw [Int32.sub_eq_add_neg, Int32.neg_neg, nI_add]
  congr 1
  omega
theorem p_most {v : NV} (ok : okN v) (hw : whoB v = true) {m : Nat} {kb : Nat → Nat} (k2 : m ≤ 256) (k4 : ∀ x, x < m → kb x < 2 ^ nK v) (k5 : ∀ D, feas m kb D ↔ missB v D = false) {p : Nat → Nat} {L s : Nat} (hpi : PI v p L) (hpl : ∀ a, a < nK v → p a ≤ 1000) (hL : L ≤ 16000) (hs : s ∈ sidesOf v) {σ : ST} (hSC : SC σ (nK v) m kb p) (hX : σ.1 1157 = nI 0) (n : Nat) (hn : 1000 ≤ n) (hn2 : 2000 ≤ n) : ∃ e, f_Search_mostTimes n σ (nI (bor v s)) (nI L) = some (nI (gt v p L (bor v s)), e) ∧ SC e (nK v) m kb p ∧ e.1 1157 = nI 0 ∧ FR σ e := by
  have k16 := ok.2.2.1
  have hp : 2 ^ nK v ≤ 2 ^ 16 := Nat.pow_le_pow_right (by decide) k16
  have hb := bor_lt v s
  obtain ⟨s1, s2, s3, s4⟩ := hSC
  obtain ⟨e1, he1, m1, rfl, hm1⟩ := lp_inv (body := b_Search_mostTimes_5 n σ (nI (bor v s)) (nI L)) (fun (i : Nat) (t : Int32 × Int32) => ∃ m, t = (nI m, nI i) ∧ ∀ t, t ≤ m ↔ t ≤ L ∧ ∀ a, a < i → (bor v s).testBit a = true → t ≤ p a) (fun (e : Int32) => ∃ m, e = nI m ∧ ∀ t, t ≤ m ↔ t ≤ L ∧ ∀ a, a < nK v → (bor v s).testBit a = true → t ≤ p a) (nK v) (by
      rintro i t hi ⟨m, rfl, hm⟩
      have hmL : m ≤ L := ((hm m).mp (Nat.le_refl _)).1
      have hpi' := hpl i hi
      by_cases q : (bor v s).testBit i = true
      · refine ⟨(nI (min m (p i)), nI (i + 1)), ?_, min m (p i), rfl, fun t => ?_⟩
        · unfold b_Search_mostTimes_5 j_Search_mostTimes_35_5
          show (if σ.1 1158 ≤ nI i then _ else bnd (f_contains n (nI (bor v s)) (nI i)) _) = _
          rw [s1, if_neg (nI_ge hi (by omega)), bnd_s (p_contains n (by omega) (by omega)), if_pos q, if_neg (by decide)]
          show grd (jin (nI i) 16) (nam (jmin (nI m) (σ.2 20 (jix (nI i)))) (fun x2 => some (Sum.inl (x2, nI i + 1)))) = _
          rw [grd_t (jin_nI (by omega) (by omega)), nam_e, jix_nI (by omega), s4 i hi, jmin_nI2 (by omega) (by omega), show nI i + (1 : Int32) = nI (i + 1) from nI_1 i]
        · rw [show t ≤ min m (p i) ↔ t ≤ m ∧ t ≤ p i from Nat.le_min, hm t]
          constructor
          · rintro ⟨⟨z1, z2⟩, z3⟩
            refine ⟨z1, fun a ha hb => ?_⟩
            rcases (show a < i ∨ a = i by omega) with y | y
            · exact z2 a y hb
            · rw [y]; exact z3
          · rintro ⟨z1, z2⟩
            exact ⟨⟨z1, fun a ha => z2 a (by omega)⟩, z2 i (by omega) q⟩
      · refine ⟨(nI m, nI (i + 1)), ?_, m, rfl, fun t => ?_⟩
        · unfold b_Search_mostTimes_5 j_Search_mostTimes_35_5
          show (if σ.1 1158 ≤ nI i then _ else bnd (f_contains n (nI (bor v s)) (nI i)) _) = _
          rw [s1, if_neg (nI_ge hi (by omega)), bnd_s (p_contains n (by omega) (by omega)), if_neg q, if_pos rfl, show nI i + (1 : Int32) = nI (i + 1) from nI_1 i]
        · rw [hm t]
          constructor
          · rintro ⟨z1, z2⟩
            refine ⟨z1, fun a ha hb => ?_⟩
            rcases (show a < i ∨ a = i by omega) with y | y
            · exact z2 a y hb
            · rw [y] at hb; exact absurd hb q
          · rintro ⟨z1, z2⟩
            exact ⟨z1, fun a ha => z2 a (by omega)⟩) (by
      rintro t ⟨m, rfl, hm⟩
      refine ⟨nI m, ?_, m, rfl, hm⟩
      unfold b_Search_mostTimes_5
      show (if σ.1 1158 ≤ nI (nK v) then _ else _) = _
      rw [s1, if_pos (nI_le (Nat.le_refl _) (by omega))]) n 0 (nI L, (0 : Int32)) (Nat.zero_le _) (by omega) ⟨L, rfl, fun t => ⟨fun z => ⟨z, fun a ha => absurd ha (Nat.not_lt_zero _)⟩, fun z => z.1⟩⟩
  obtain ⟨hm1L, hm1p⟩ := (hm1 m1).mp (Nat.le_refl _)
  have hm1000 : m1 ≤ 1000 := by
    have hne := side_bor ok hw hs
    have hex : ∃ a, (bor v s).testBit a = true := by
      apply Classical.byContradiction
      intro q
      apply hne
      apply Nat.eq_of_testBit_eq
      intro i
      rw [Nat.zero_testBit]
      exact tb_not (fun z => q ⟨i, z⟩)
    obtain ⟨a, ha⟩ := hex
    have haK := lt_bit hb ha
    exact Nat.le_trans (hm1p a haK ha) (hpl a haK)
  obtain ⟨e9, he9, hQ⟩ := lp_meas (body := b_Search_mostTimes_44 n (nI (bor v s)) (nI L)) (fun (y : ST × Int32 × Int32) => ∃ t r, y.2.1 = nI t ∧ y.2.2 = nI r ∧ t + r ≤ 1000 ∧ t ≤ L ∧ (∀ a, a < nK v → (bor v s).testBit a = true → t ≤ p a) ∧ (∀ t', OKb v p L (bor v s) t' → t' ≤ t) ∧ SC y.1 (nK v) m kb p ∧ y.1.1 1157 = nI 0 ∧ FR σ y.1) (fun y => jix y.2.1) (fun (e : (ST × Int32) ⊕ (Int32 × ST)) => ∃ ρ, Sum.elim (fun (t : ST × Int32) => some (t.2, t.1)) (fun r => some r) e = some (nI (gt v p L (bor v s)), ρ) ∧ SC ρ (nK v) m kb p ∧ ρ.1 1157 = nI 0 ∧ FR σ ρ) (by
      rintro ⟨ρ, y1, y2⟩ ⟨t, r, g1, g2, g3, g4, g5, g6, g7, g8, g9⟩
      have g1 : y1 = nI t := g1
      have g2 : y2 = nI r := g2
      subst g1 g2
      have g7 : SC ρ (nK v) m kb p := g7
      have g8 : ρ.1 1157 = nI 0 := g8
      have g9 : FR σ ρ := g9
      by_cases ht0 : t = 0
      · left
        have hgt : t = gt v p L (bor v s) := gt_uni hpi (by rw [ht0]; exact OKb_0 hpi) g6
        refine ⟨.inl (ρ, nI t), ?_, ρ, by rw [← hgt]; rfl, g7, g8, g9⟩
        unfold b_Search_mostTimes_44
        show (if (1000 : Int32) ≤ nI r then some (Sum.inr (Sum.inl (ρ, nI t))) else if nI t ≤ 0 then some (Sum.inr (Sum.inl (ρ, nI t))) else _) = _
        by_cases q : (1000 : Int32) ≤ nI r
        · rw [if_pos q]
        · rw [if_neg q, if_pos (by rw [ht0]; decide)]
      · have hpl' := subp_le (B := bor v s) (t := t) hpl
        have htot : sm (subp p (bor v s) t) (nK v) (2 ^ nK v - 1) < 2 ^ 30 := by
          have h1 := sm_le1000 (p := subp p (bor v s) t) (M := 1000) (K := nK v) (D := 2 ^ nK v - 1) hpl'
          have h2 : nK v * 1000 ≤ 16 * 1000 := Nat.mul_le_mul_right 1000 k16
          omega
        obtain ⟨r1, r2, r3, r4⟩ := g7
        obtain ⟨o4, a1, a2, a3, a4⟩ := p_spend (σ := ρ) (K := nK v) (B := bor v s) r1 k16 (by omega) (nI t) n hn
        have hSC4 : SC o4 (nK v) m kb (subp p (bor v s) t) := by
          refine ⟨by rw [a2]; exact r1, by rw [a2]; exact r2, fun x hx => by rw [a4 19 (by decide)]; exact r3 x hx, fun a ha => ?_⟩
          rw [a3 a ha, r4 a ha]
          unfold subp
          by_cases q : (bor v s).testBit a = true
          · rw [if_pos q, if_pos q, pk_sub (g5 a ha q)]
          · rw [if_neg q, if_neg q]
        obtain ⟨o5, B5, b1, b2, b3, b4, b5, b6⟩ := p_findBelow (K := nK v) (m := m) (kb := kb) (p := subp p (bor v s) t) k16 k2 k4 htot n hn (σ := o4) hSC4 (X := 0) (by rw [a2]; exact g8) (by decide) (lim := L - t) (by omega)
        have hSC5 := SC_FS hSC4 b2
        obtain ⟨o6, c1, c2, c3, c4⟩ := p_spend (σ := o5) (K := nK v) (B := bor v s) hSC5.1 k16 (by omega) (-(nI t)) n hn
        have hSC6 : SC o6 (nK v) m kb p := by
          refine ⟨by rw [c2]; exact hSC5.1, by rw [c2]; exact hSC5.2.1, fun x hx => by rw [c4 19 (by decide)]; exact hSC5.2.2.1 x hx, fun a ha => ?_⟩
          rw [c3 a ha, hSC5.2.2.2 a ha]
          unfold subp
          by_cases q : (bor v s).testBit a = true
          · rw [if_pos q, if_pos q, spend_back _ _ (g5 a ha q)]
          · rw [if_neg q, if_neg q]
        have hX6 : o6.1 1157 = nI 0 := by rw [c2, b2.1 1157 (by decide) (by decide) (by decide) (by decide), a2]; exact g8
        have hFR6 : FR σ o6 := by
          refine FR_trans g9 (FR_trans (b := o4) ⟨fun c _ => by rw [a2], fun q hq => a4 q (by omega)⟩ (FR_trans (FS_FR b2) ⟨fun c _ => by rw [c2], fun q hq => c4 q (by omega)⟩))
        have hstart : ∀ Y, b_Search_mostTimes_44 n (nI (bor v s)) (nI L) (ρ, nI t, nI r) = Y ↔ (if (if B5 < L - t then (1 : Int32) else 0) = 0 then some (.inr (.inr (nI t, o6))) else bnd (f_Search_timesBy n o6 (o6.1 1153) (nI (bor v s)) (nI L)) fun o7 => nam (jmin (nI t - (1 : Int32)) o7) fun x8 => some (.inl (o6, x8, nI r + (1 : Int32)))) = Y := by
          intro Y
          unfold b_Search_mostTimes_44
          show (if (1000 : Int32) ≤ nI r then _ else if nI t ≤ 0 then _ else bnd (f_Search_spend n ρ (nI (bor v s)) (nI t)) (fun o4 => bnd (f_Search_findBelow n o4 (nI L - nI t)) (fun o5 => bnd (f_Search_spend n o5.2 (nI (bor v s)) (-nI t)) _))) = Y ↔ _
          rw [if_neg (show ¬ (1000 : Int32) ≤ nI r from nI_ge (b := 1000) (by omega) (by decide)), if_neg (show ¬ nI t ≤ (0 : Int32) from nI_ge (a := 0) (by omega) (by omega)), bnd_s a1, pk_sub g4, bnd_s b1, bnd_s c1]
        by_cases hflag : B5 < L - t
        · right
          obtain ⟨A, A1, A2, A3, _, A5⟩ := b6 hflag
          have hAd := (k5 A).mp A3
          have hAl : A &&& bor v s < 2 ^ 16 := Nat.lt_of_le_of_lt Nat.and_le_left (by omega)
          have hc1 := pc16_pos hAl (meets hs hAd)
          have hc16 : pc16 (A &&& bor v s) ≤ 16 := ctr_max _ 16
          have hsub := sm_sub2 k16 A2 g5
          have hPA := hpi A A2 hAd
          have hsmA : sm p (nK v) A ≤ 16000 := by
            have h1 := sm_le1000 (p := p) (M := 1000) (K := nK v) (D := A) hpl
            have h2 : nK v * 1000 ≤ 16 * 1000 := Nat.mul_le_mul_right 1000 k16
            omega
          have hc2 : 2 ≤ pc16 (A &&& bor v s) := by
            rcases (show pc16 (A &&& bor v s) = 1 ∨ 2 ≤ pc16 (A &&& bor v s) by omega) with q | q
            · rw [q, Nat.mul_one] at hsub; omega
            · exact q
          obtain ⟨w, hwd⟩ : ∃ w, w = (sm p (nK v) A - L) / (pc16 (A &&& bor v s) - 1) := ⟨_, rfl⟩
          have hwl : w ≤ 16000 := by rw [hwd]; exact Nat.le_trans (Nat.div_le_self _ _) (by omega)
          have htb : f_Search_timesBy n o6 (nI A) (nI (bor v s)) (nI L) = some (nI w) := by
            unfold f_Search_timesBy j_Search_timesBy_33
            rw [and_nI, bnd_s (p_bitCount hAl), if_pos (show (2 : Int32) ≤ nI (pc16 (A &&& bor v s)) from nI_le (a := 2) hc2 (by omega)), bnd_s (p_sum_p k16 hSC6.2.2.2 A2 n hn), show (1 : Int32) = nI 1 from rfl, pk_sub hc1, grd_t (by rw [decide_eq_false (fun z => by have := (nI_zero_iff (by omega)).mp z; omega)]; rfl), pk_sub hPA, pk_div (by omega) (by omega) (by omega), hwd]
          have a1153 : o6.1 1153 = nI A := by rw [c2]; exact A1
          have hbody := (hstart (some (.inl (o6, nI (min (t - 1) w), nI (r + 1))))).mpr (by
            rw [if_pos hflag, if_neg (by decide), a1153, bnd_s htb, nam_e, show (1 : Int32) = nI 1 from rfl, pk_sub (by omega), jmin_nI2 (by omega) (by omega), nI_add])
          refine ⟨_, hbody, ⟨min (t - 1) w, r + 1, rfl, rfl, by omega, by omega, fun a ha hba => by have := g5 a ha hba; omega, fun t' ht' => ?_, hSC6, hX6, hFR6⟩, ?_⟩
          · have h1 := g6 t' ht'
            have h2 := ht'.2.2 A A2 hAd
            have hne : t' ≠ t := by
              intro q
              rw [q] at h2
              obtain ⟨c, hc⟩ : ∃ c, pc16 (A &&& bor v s) = c + 1 := ⟨pc16 (A &&& bor v s) - 1, by omega⟩
              rw [hc] at h2 hsub
              rw [Nat.mul_add] at hsub
              rw [show c + 1 - 1 = c by omega] at h2
              omega
            have h3 : t' ≤ w := by
              rw [hwd, Nat.le_div_iff_mul_le (by omega)]
              omega
            omega
          · show jix (nI (min (t - 1) w)) < jix (nI t)
            rw [jix_nI (by omega), jix_nI (by omega)]
            omega
        · left
          have hbody := (hstart (some (.inr (.inr (nI t, o6))))).mpr (by rw [if_neg hflag, if_pos rfl])
          have hok : OKb v p L (bor v s) t := by
            refine ⟨g4, g5, fun D hD hm => ?_⟩
            have h1 := b5 D hD ((k5 D).mpr hm) (fun i _ => Nat.zero_testBit i)
            have h2 := sm_sub2 k16 hD g5
            have h3 := pc16_pos (show D &&& bor v s < 2 ^ 16 from Nat.lt_of_le_of_lt Nat.and_le_left (by omega)) (meets hs hm)
            obtain ⟨c, hc⟩ : ∃ c, pc16 (D &&& bor v s) = c + 1 := ⟨pc16 (D &&& bor v s) - 1, by omega⟩
            rw [hc] at h2 ⊢
            rw [Nat.mul_add] at h2
            rw [show c + 1 - 1 = c by omega]
            omega
          have hgt : t = gt v p L (bor v s) := gt_uni hpi hok g6
          exact ⟨_, hbody, o6, by rw [← hgt]; rfl, hSC6, hX6, hFR6⟩) n (σ, nI m1, (0 : Int32)) ⟨m1, 0, rfl, rfl, by omega, hm1L, hm1p, fun t' ht' => (hm1 t').mpr ⟨ht'.1, ht'.2.1⟩, ⟨s1, s2, s3, s4⟩, hX, FR_refl σ⟩ (by
        show jix (nI m1) < n
        rw [jix_nI (by omega)]
        omega)
  obtain ⟨ρ, q1, q2, q3, q4⟩ := hQ
  refine ⟨ρ, ?_, q2, q3, q4⟩
  unfold f_Search_mostTimes
  rw [bnd_s he1, bnd_s he9]
  exact q1
