/-! packing: the reference, all of it -/
theorem fill_pt (n : Nat) (a b : Int32) : b_m_packing_82 n a b = gfill 5 256 0 256 := rfl
theorem p_mpacking {τ : ST} {v : NV} {c : Option Nat} {f : Option FV} {ji : Nat → Option BV} (hm : RF τ (v, c, f) ji) (ok : okN v) (hw : whoB v = true) (n : Nat) (hn : 100000 ≤ n) : ∃ e L0, f_m_packing n τ = some (nI L0, e) ∧ L0 ≤ 16000 ∧ (∃ d, d ∈ leastOf v ∧ L0 = sm (nW v) (nK v) d) ∧ (∀ d, d ∈ leastOf v → L0 ≤ sm (nW v) (nK v) d) ∧ RF e (v, c, some (nN v, (ps v L0 (sidesOf v).length).2.2)) ji := by
  have k16 := ok.2.2.1
  have hp : 2 ^ nK v ≤ 2 ^ 16 := Nat.pow_le_pow_right (by decide) k16
  have h1p : 1 ≤ 2 ^ nK v := Nat.one_le_two_pow
  have hlen := least_le (v := v) k16
  have hsl := sides_le v ok
  have hm1 := RF_code hm 0
  have mW := p_m_isWhole (τ := sS τ 0 0) hm1.1.1 ok n (by omega)
  have hw' : whoB (v, c, f).1 = true := hw
  rw [if_pos hw'] at mW
  obtain ⟨d, d1, d2, d3, d4⟩ := p_makeSets hm1 ok n hn
  have hC : d.1 29 = nI (leastOf v).length ∧ (∀ x, x < 2 ^ nK v → d.2 20 x = if missB v x then 1 else 0) ∧ ∀ x, x < (leastOf v).length → d.2 21 x = nI ((leastOf v).getD x 0) := d2.2.1.2.2.2.2 d4
  have hS : d.1 25 = nI (sidesOf v).length ∧ ∀ i, i < (sidesOf v).length → d.2 18 i = nI ((sidesOf v).getD i 0) ∧ d.2 19 i = nI (bor v ((sidesOf v).getD i 0)) := d2.2.1.2.2.2.1 d3
  have hdv : isNet (d.1 1) (d.1 2) (d.2 1) (d.2 2) (d.2 3) v := d2.1.1
  obtain ⟨l0, l1, l2⟩ := least_below (v := v) (2 ^ nK v) (2 ^ nK v - 1) (by omega) (by omega) (whole_dj ok hw)
  have hpos : 1 ≤ (leastOf v).length := by
    rcases Nat.eq_zero_or_pos (leastOf v).length with q | q
    · rw [List.length_eq_zero_iff.mp q] at l1; cases l1
    · exact q
  have hneg : ∀ b, b < 2 ^ 30 → ¬ nI b = (-1 : Int32) := by
    intro b hb z
    have h1 := congrArg Int32.toInt z
    rw [nI_toInt (by omega)] at h1
    have h2 : (-1 : Int32).toInt = -1 := by decide
    omega
  -- weights and the least of them
  obtain ⟨e6, he6, a1, a2, a3, L0, a4, a5, a6⟩ := lp_inv (body := b_m_packing_22 n) (fun (i : Nat) (t : ST × Int32 × Int32) => t.2.2 = nI i ∧ t.1.1 = d.1 ∧ (∀ q, q ≠ 22 → t.1.2 q = d.2 q) ∧ (∀ x, x < i → t.1.2 22 x = nI (sm (nW v) (nK v) ((leastOf v).getD x 0))) ∧ ((i = 0 ∧ t.2.1 = -1) ∨ ∃ b j, t.2.1 = nI b ∧ j < i ∧ b = sm (nW v) (nK v) ((leastOf v).getD j 0) ∧ ∀ j', j' < i → b ≤ sm (nW v) (nK v) ((leastOf v).getD j' 0))) (fun (e : ST × Int32) => e.1.1 = d.1 ∧ (∀ q, q ≠ 22 → e.1.2 q = d.2 q) ∧ (∀ x, x < (leastOf v).length → e.1.2 22 x = nI (sm (nW v) (nK v) ((leastOf v).getD x 0))) ∧ ∃ L0, e.2 = nI L0 ∧ (∃ d, d ∈ leastOf v ∧ L0 = sm (nW v) (nK v) d) ∧ ∀ d, d ∈ leastOf v → L0 ≤ sm (nW v) (nK v) d) (leastOf v).length (by
      rintro i ⟨ρ, x, y⟩ hi ⟨g1, g2, g3, g4, g5⟩
      have g1 : y = nI i := g1
      subst g1
      have g2 : ρ.1 = d.1 := g2
      have g3 : ∀ q, q ≠ 22 → ρ.2 q = d.2 q := g3
      have g4 : ∀ x, x < i → ρ.2 22 x = nI (sm (nW v) (nK v) ((leastOf v).getD x 0)) := g4
      have g5 : (i = 0 ∧ x = -1) ∨ ∃ b j, x = nI b ∧ j < i ∧ b = sm (nW v) (nK v) ((leastOf v).getD j 0) ∧ ∀ j', j' < i → b ≤ sm (nW v) (nK v) ((leastOf v).getD j' 0) := g5
      have hwl := wt_le ok ((leastOf v).getD i 0)
      have hl := (mem_least.mp (getD_mem hi)).1
      have gi : jin (nI i) 13000 = true := jin_nI (by omega) (by omega)
      have ji : jix (nI i) = i := jix_nI (by omega)
      have hwt : f_m_weightOf n ρ (ρ.2 21 i) = some (nI (sm (nW v) (nK v) ((leastOf v).getD i 0))) := by
        rw [g3 21 (by decide), hC.2.2 i hi]
        refine p_weightOf (v := v) ?_ ok n (by omega) (by omega)
        rw [g2, g3 1 (by decide), g3 2 (by decide), g3 3 (by decide)]
        exact hdv
      have hbody : b_m_packing_22 n (ρ, x, nI i) = some (.inl (sA ρ 22 (upd (ρ.2 22) i (nI (sm (nW v) (nK v) ((leastOf v).getD i 0)))), if x = -1 then nI (sm (nW v) (nK v) ((leastOf v).getD i 0)) else if x ≤ nI (sm (nW v) (nK v) ((leastOf v).getD i 0)) then x else nI (sm (nW v) (nK v) ((leastOf v).getD i 0)), nI (i + 1))) := by
        unfold b_m_packing_22 j_m_packing_61_22 j_m_packing_71_22
        show (if ρ.1 29 ≤ nI i then _ else grd (jin (nI i) 13000) (bnd (f_m_weightOf n ρ (ρ.2 21 (jix (nI i)))) _)) = _
        rw [g2, hC.1, if_neg (nI_ge hi (by omega)), grd_t gi, ji, bnd_s hwt]
        simp only [nam_e, gi, grd_tt, ji]
        rw [show (sA ρ 22 (upd (ρ.2 22) i (nI (sm (nW v) (nK v) ((leastOf v).getD i 0))))).2 22 i = nI (sm (nW v) (nK v) ((leastOf v).getD i 0)) from by rw [sA2s, upd_s], show nI i + (1 : Int32) = nI (i + 1) from nI_1 i]
        by_cases u : x = -1
        · rw [if_pos u, if_pos u]
        · rw [if_neg u, if_neg u]
          by_cases w : x ≤ nI (sm (nW v) (nK v) ((leastOf v).getD i 0))
          · rw [if_pos w, if_pos w]
          · rw [if_neg w, if_neg w]
      refine ⟨_, hbody, rfl, g2, fun q hq => ?_, fun z hz => ?_, Or.inr ?_⟩
      · show (sA ρ 22 _).2 q = _
        rw [sA2n _ _ hq]; exact g3 q hq
      · show upd (ρ.2 22) i _ z = _
        by_cases u : z = i
        · subst u; exact upd_s
        · rw [upd_n u]; exact g4 z (by omega)
      · rcases g5 with ⟨rfl, u⟩ | ⟨b, j, rfl, u2, u3, u4⟩
        · exact ⟨_, 0, if_pos u, by omega, rfl, fun j' hj' => by rw [show j' = 0 by omega]; exact Nat.le_refl _⟩
        · have hbl := wt_le ok ((leastOf v).getD j 0)
          show ∃ b' j', (if nI b = -1 then _ else if nI b ≤ nI (sm (nW v) (nK v) ((leastOf v).getD i 0)) then nI b else nI (sm (nW v) (nK v) ((leastOf v).getD i 0))) = nI b' ∧ _
          rw [if_neg (hneg b (by omega))]
          by_cases w : b ≤ sm (nW v) (nK v) ((leastOf v).getD i 0)
          · refine ⟨b, j, if_pos ((nI_leI (by omega) (by omega)).mpr w), by omega, u3, fun j' hj' => ?_⟩
            rcases (show j' < i ∨ j' = i by omega) with y | y
            · exact u4 j' y
            · rw [y]; exact w
          · refine ⟨_, i, if_neg (fun y => w ((nI_leI (by omega) (by omega)).mp y)), by omega, rfl, fun j' hj' => ?_⟩
            rcases (show j' < i ∨ j' = i by omega) with y | y
            · have := u4 j' y; omega
            · rw [y]; exact Nat.le_refl _) (by
      rintro ⟨ρ, x, y⟩ ⟨g1, g2, g3, g4, g5⟩
      have g1 : y = nI (leastOf v).length := g1
      subst g1
      have g2 : ρ.1 = d.1 := g2
      refine ⟨(ρ, x), ?_, g2, g3, g4, ?_⟩
      · unfold b_m_packing_22
        show (if ρ.1 29 ≤ nI (leastOf v).length then _ else _) = _
        rw [g2, hC.1, if_pos (nI_le (Nat.le_refl _) (by omega))]
      · rcases g5 with ⟨u, _⟩ | ⟨b, j, u1, u2, u3, u4⟩
        · omega
        · refine ⟨b, u1, ⟨_, getD_mem u2, u3⟩, fun z hz => ?_⟩
          obtain ⟨w, w1, w2⟩ := mem_getD hz
          rw [← w2]; exact u4 w w1) n 0 (d, (-1 : Int32), (0 : Int32)) (Nat.zero_le _) (by omega) ⟨rfl, rfl, fun _ _ => rfl, fun x hx => absurd hx (Nat.not_lt_zero _), Or.inl ⟨rfl, rfl⟩⟩
  obtain ⟨ρ6, x6⟩ := e6
  have a4 : x6 = nI L0 := a4
  subst a4
  have a1 : ρ6.1 = d.1 := a1
  have a2 : ∀ q, q ≠ 22 → ρ6.2 q = d.2 q := a2
  have a3 : ∀ x, x < (leastOf v).length → ρ6.2 22 x = nI (sm (nW v) (nK v) ((leastOf v).getD x 0)) := a3
  have hL0 : L0 ≤ 16000 := by
    obtain ⟨z, _, z2⟩ := a5
    rw [z2]; exact wt_le ok z
  have hPI : PI v (nW v) L0 := by
    intro D hD hdj
    obtain ⟨l, m1, m2⟩ := least_below (v := v) (D + 1) D (by omega) hD hdj
    exact Nat.le_trans (a6 l m1) (sm_mono m2)
  obtain ⟨e8, b1, b2, b3, b4⟩ := p_fill (q := 5) (L := 256) (σ := ρ6) (x := 0) (by decide) n (by omega)
  obtain ⟨e11, c0, c1, c2, c3, c4⟩ := lp_inv (body := b_m_packing_104 n (nI L0) (nI L0)) (fun (i : Nat) (t : ST × Int32) => t.2 = nI i ∧ t.1.1 = d.1 ∧ (∀ q, q ≠ 23 → q ≠ 4 → t.1.2 q = e8.2 q) ∧ (∀ a, a < i → a < nK v → t.1.2 23 a = nI (nW v a)) ∧ ∀ a, a < i → t.1.2 4 a = 0) (fun (e : ST) => e.1 = d.1 ∧ (∀ q, q ≠ 23 → q ≠ 4 → e.2 q = e8.2 q) ∧ (∀ a, a < nK v → e.2 23 a = nI (nW v a)) ∧ ∀ a, a < 16 → e.2 4 a = 0) 16 (by
      rintro i ⟨ρ, y⟩ hi ⟨g1, g2, g3, g4, g5⟩
      have g1 : y = nI i := g1
      subst g1
      have g2 : ρ.1 = d.1 := g2
      have g3 : ∀ q, q ≠ 23 → q ≠ 4 → ρ.2 q = e8.2 q := g3
      have gi : jin (nI i) 16 = true := jin_nI (by omega) (by omega)
      have ji : jix (nI i) = i := jix_nI (by omega)
      have r3 : ρ.2 3 = d.2 3 := by rw [g3 3 (by decide) (by decide), b4 3 (by decide), a2 3 (by decide)]
      refine ⟨(sA (sA ρ 23 (upd (ρ.2 23) i (if nK v ≤ i then 0 else d.2 3 i))) 4 (upd (ρ.2 4) i 0), nI (i + 1)), ?_, rfl, g2, fun q q1 q2 => ?_, fun a ha hak => ?_, fun a ha => ?_⟩
      · unfold b_m_packing_104 j_m_packing_133_104
        show (if (16 : Int32) ≤ nI i then _ else if ρ.1 2 ≤ nI i then grd (jin (nI i) 16) (nam (sA ρ 23 (upd (ρ.2 23) (jix (nI i)) 0)) (fun σ9 => grd (jin (nI i) 16) (nam (sA σ9 4 (upd (σ9.2 4) (jix (nI i)) 0)) (fun σ10 => some (Sum.inl (σ10, nI i + 1)))))) else grd (jin (nI i) 16) (grd (jin (nI i) 16) (nam (sA ρ 23 (upd (ρ.2 23) (jix (nI i)) (ρ.2 3 (jix (nI i))))) (fun σ9 => grd (jin (nI i) 16) (nam (sA σ9 4 (upd (σ9.2 4) (jix (nI i)) 0)) (fun σ10 => some (Sum.inl (σ10, nI i + 1)))))))) = _
        rw [if_neg (show ¬ (16 : Int32) ≤ nI i from nI_ge (b := 16) hi (by decide)), g2, hdv.2.1]
        simp only [nam_e, gi, grd_tt, ji, r3]
        rw [show nI i + (1 : Int32) = nI (i + 1) from nI_1 i]
        by_cases u : nK v ≤ i
        · rw [if_pos (nI_le u (by omega)), if_pos u]; rfl
        · rw [if_neg (nI_ge (by omega) (by omega)), if_neg u]; rfl
      · show (sA (sA ρ 23 _) 4 _).2 q = _
        rw [sA2n _ _ q2, sA2n _ _ q1]; exact g3 q q1 q2
      · show upd (ρ.2 23) i (if nK v ≤ i then 0 else d.2 3 i) a = _
        by_cases u : a = i
        · subst u; rw [upd_s, if_neg (by omega)]; exact (hdv.2.2 a hak).2.2
        · rw [upd_n u]; exact g4 a (by omega) hak
      · show upd (ρ.2 4) i 0 a = _
        by_cases u : a = i
        · subst u; exact upd_s
        · rw [upd_n u]; exact g5 a (by omega)) (by
      rintro ⟨ρ, y⟩ ⟨g1, g2, g3, g4, g5⟩
      have g1 : y = nI 16 := g1
      subst g1
      refine ⟨ρ, ?_, g2, g3, fun a ha => g4 a (by omega) ha, g5⟩
      unfold b_m_packing_104
      show (if (16 : Int32) ≤ nI 16 then _ else _) = _
      rw [if_pos (by decide)]) n 0 (e8, (0 : Int32)) (Nat.zero_le _) (by omega) ⟨rfl, b2.trans a1, fun _ _ _ => rfl, fun a ha => absurd ha (Nat.not_lt_zero _), fun a ha => absurd ha (Nat.not_lt_zero _)⟩
  obtain ⟨σ13, h13⟩ : ∃ s, s = sS (sS e11 8 1) 9 (e11.1 1) := ⟨_, rfl⟩
  have n13 : ∀ k, k ≠ 8 → k ≠ 9 → σ13.1 k = d.1 k := fun k k8 k9 => by rw [h13, sS1n _ _ k9, sS1n _ _ k8, c1]
  have r13 : ∀ q, q ≠ 4 → q ≠ 5 → q ≠ 22 → q ≠ 23 → σ13.2 q = d.2 q := fun q q4 q5 q22 q23 => by
    rw [h13]
    show e11.2 q = _
    rw [c2 q q23 q4, b4 q q5, a2 q q22]
  obtain ⟨e22, he22, hP⟩ := lp_inv (body := b_m_packing_162 n (nI L0)) (fun (i : Nat) (t : ST × Int32 × Int32) => t.2.1 = nI (ps v L0 i).2.1 ∧ t.2.2 = nI i ∧ PM v L0 i σ13 t.1) (fun (e : ST) => PM v L0 (sidesOf v).length σ13 e) (sidesOf v).length (by
      rintro i ⟨ρ, x, y⟩ hi ⟨g1, g2, g3⟩
      have g1 : x = nI (ps v L0 i).2.1 := g1
      have g2 : y = nI i := g2
      subst g1 g2
      obtain ⟨e, w1, w2⟩ := pm_step ok hPI hL0 hi (σ := σ13) (τ := ρ) (by rw [n13 2 (by decide) (by decide)]; exact hdv.2.1) (by rw [n13 25 (by decide) (by decide)]; exact hS.1) (fun x hx => by rw [r13 18 (by decide) (by decide) (by decide) (by decide), r13 19 (by decide) (by decide) (by decide) (by decide)]; exact hS.2 x hx) (by rw [n13 29 (by decide) (by decide)]; exact hC.1) (fun x hx => by rw [r13 21 (by decide) (by decide) (by decide) (by decide)]; exact hC.2.2 x hx) g3 n hn (nI L0)
      exact ⟨_, w1, rfl, rfl, w2⟩) (by
      rintro ⟨ρ, x, y⟩ ⟨g1, g2, g3⟩
      have g2 : y = nI (sidesOf v).length := g2
      subst g2
      refine ⟨ρ, ?_, g3⟩
      unfold b_m_packing_162
      show (if ρ.1 25 ≤ nI (sidesOf v).length then _ else _) = _
      rw [show ρ.1 = σ13.1 from g3.1, n13 25 (by decide) (by decide), hS.1, if_pos (nI_le (Nat.le_refl _) (by omega))]) n 0 (σ13, nI L0, (0 : Int32)) (Nat.zero_le _) (by omega) ⟨rfl, rfl, rfl, fun _ _ _ _ _ => rfl, fun x hx => by
        rw [h13]
        show e11.2 22 x = _
        rw [c2 22 (by decide) (by decide), b4 22 (by decide)]; exact a3 x hx, fun a ha => by rw [h13]; exact c3 a ha, fun s hs => by
        rw [h13]
        show e11.2 5 s = _
        rw [c2 5 (by decide) (by decide), b3 s hs]; rfl, fun a ha => by rw [h13]; exact c4 a ha⟩
  obtain ⟨P1, P2, P3, P4, P5, P6⟩ := hP
  refine ⟨e22, L0, ?_, hL0, a5, a6, RF_fam d2 (fun k k8 k9 _ => by rw [P1]; exact n13 k k8 k9) (fun q q4 q5 q22 q23 => by rw [P2 q q4 q5 q22 q23]; exact r13 q q4 q5 q22 q23) ⟨?_, ?_, P5, P6⟩⟩
  · unfold f_m_packing
    rw [nam_e, bnd_s mW, if_neg (by decide), bnd_s d1, bnd_s he6]
    show bnd (lp (b_m_packing_82 n (nI L0) (nI L0)) n (ρ6, (0 : Int32))) _ = _
    rw [fill_pt, show (256 : Int32) = nI 256 from rfl, bnd_s b1]
    show bnd (lp (b_m_packing_104 n (nI L0) (nI L0)) n (e8, (0 : Int32))) _ = _
    rw [bnd_s c0, nam_e, nam_e]
    show bnd (lp (b_m_packing_162 n (nI L0)) n (sS (sS e11 8 1) 9 (e11.1 1), nI L0, (0 : Int32))) _ = _
    rw [← h13, bnd_s he22]
  · rw [P1, h13]; rfl
  · rw [P1, h13, sS1s, c1]; exact hdv.1
