/-! draw, the call -/
theorem p_mfind {τ : ST} {L : Nat} (hc : τ.1 25 = nI L) (hl : L ≤ 256) (n : Nat) (hn : 1000 ≤ n) (a b : Int32) : ∃ x, x ≤ L ∧ lp (b_m_draw_11 n τ a b) n (0 : Int32) = some (nI x) ∧ (x < L → τ.2 18 x = a) ∧ (x = L → ∀ y, y < L → τ.2 18 y ≠ a) := by
  have one : ∀ i, i < L → b_m_draw_11 n τ a b (nI i) = if τ.2 18 i = a then some (.inr (nI i)) else some (.inl (nI (i + 1))) := by
    intro i hi
    unfold b_m_draw_11
    rw [hc, if_neg (nI_ge hi (by omega)), grd_t (jin_nI (by omega) (by omega)), jix_nI (by omega), show nI i + (1 : Int32) = nI (i + 1) from nI_1 i]
  by_cases hex : ∃ x, x < L ∧ τ.2 18 x = a
  · obtain ⟨i, ⟨hi, h0⟩, hmin⟩ := pk_least (fun x => x < L ∧ τ.2 18 x = a) hex
    refine ⟨i, by omega, lp_for (fun i => nI i) i (fun y hy => ?_) ?_ n (by omega), fun _ => h0, fun q => by omega⟩
    · rw [one y (by omega), if_neg (fun z => hmin y hy ⟨by omega, z⟩)]
    · rw [one i hi, if_pos h0]
  · refine ⟨L, Nat.le_refl _, lp_for (fun i => nI i) L (fun y hy => ?_) ?_ n (by omega), fun q => by omega, fun _ y hy z => hex ⟨y, hy, z⟩⟩
    · rw [one y hy, if_neg (fun z => hex ⟨y, hy, z⟩)]
    · unfold b_m_draw_11
      rw [hc, if_pos (nI_le (Nat.le_refl _) (by omega))]
theorem RX_fam {σ e : ST} {v : NV} {c : Option Nat} {f : Option FV} {g : FV} (hx : RX σ (v, c, f)) (e1 : ∀ k, k ≠ 384 → k ≠ 385 → e.1 k = σ.1 k) (ho : ∀ q, q ≠ 7 → q ≠ 8 → e.2 q = σ.2 q) (hf : e.1 384 = 1 ∧ e.1 385 = nI g.1 ∧ (∀ s, s < 256 → e.2 7 s = nI (g.2.1 s)) ∧ ∀ a, a < 16 → e.2 8 a = g.2.2 a) : RX e (v, c, some g) := by
  refine ⟨?_, ?_, hf⟩
  · rw [e1 128 (by decide) (by decide), e1 129 (by decide) (by decide), ho 3 (by decide) (by decide), ho 4 (by decide) (by decide), ho 5 (by decide) (by decide)]; exact hx.1
  · rw [e1 66 (by decide) (by decide)]; exact hx.2.1
theorem p_openx {σ : ST} {v : NV} {c : Option Nat} {f : Option FV} (hx : RX σ (v, c, f)) (n : Nat) (hn : 1000 ≤ n) (a b : Int32) : ∃ e, (if σ.1 384 = 0 then bnd (f_Fam_open n σ (σ.1 128)) (fun o4 => j_x_draw_99 n o4 a b) else j_x_draw_99 n σ a b) = j_x_draw_99 n e a b ∧ RX e (v, c, some (fam0 (nN v) f)) ∧ (∀ q, q ≠ 7 → q ≠ 8 → e.2 q = σ.2 q) := by
  cases f with
  | some g =>
    have h1 : σ.1 384 = 1 := hx.2.2.1
    refine ⟨σ, ?_, hx, fun _ _ _ => rfl⟩
    rw [h1, if_neg (by decide)]
  | none =>
    have h1 : σ.1 384 = 0 := hx.2.2.1
    obtain ⟨e, e1, e2, e3, e4, e5⟩ := p_open n hn σ (σ.1 128)
    refine ⟨e, ?_, RX_fam hx (fun k h4 h5 => ?_) e5 ⟨?_, ?_, e3, e4⟩, e5⟩
    · rw [if_pos h1, bnd_s e1]
    · rw [e2, sS1n _ _ h5, sS1n _ _ h4]
    · rw [e2]; rfl
    · rw [e2]; exact hx.1.1
theorem fill_dt (n : Nat) (a b c : Int32) (L : Int64) : b_m_draw_127 n a b c L = gfill 5 256 0 256 := rfl
theorem fill_dl (n : Nat) (a b c : Int32) (L : Int64) : b_m_draw_152 n a b c L = gfill 4 16 0 16 := rfl
theorem p_openm {τ : ST} {v : NV} {c : Option Nat} {f : Option FV} {ji : Nat → Option BV} (hm : RF τ (v, c, f) ji) (n : Nat) (hn : 1000 ≤ n) (a b x : Int32) (L : Int64) : ∃ e, (if τ.1 8 = 0 then nam (sS τ 8 (1 : Int32)) (fun σ7 => nam (sS σ7 9 (σ7.1 1)) (fun σ8 => bnd (lp (b_m_draw_127 n a b x L) n (σ8, (0 : Int32))) (fun e10 => bnd (lp (b_m_draw_152 n a b x L) n (e10, (0 : Int32))) (fun e12 => j_m_draw_173 n e12 a b x L)))) else j_m_draw_173 n τ a b x L) = j_m_draw_173 n e a b x L ∧ RF e (v, c, some (fam0 (nN v) f)) ji ∧ e.2 19 = τ.2 19 := by
  cases f with
  | some g =>
    have h1 : τ.1 8 = 1 := hm.1.2.2.1
    refine ⟨τ, ?_, hm, rfl⟩
    rw [h1, if_neg (by decide)]
  | none =>
    have h1 : τ.1 8 = 0 := hm.1.2.2
    obtain ⟨e1, a1, a2, a3, a4⟩ := p_fill (q := 5) (L := 256) (σ := sS (sS τ 8 1) 9 (τ.1 1)) (x := 0) (by decide) n (by omega)
    obtain ⟨e2, b1, b2, b3, b4⟩ := p_fill (q := 4) (L := 16) (σ := e1) (x := 0) (by decide) n (by omega)
    have ee : e2.1 = (sS (sS τ 8 1) 9 (τ.1 1)).1 := b2.trans a2
    refine ⟨e2, ?_, RF_fam hm (fun k h8 h9 _ => ?_) (fun q h4 h5 _ _ => ?_) ⟨?_, ?_, ?_, b3⟩, ?_⟩
    · rw [if_pos h1]
      simp only [nam_e, fill_dt, fill_dl]
      rw [show (sS τ 8 (1 : Int32)).1 1 = τ.1 1 from rfl, show (256 : Int32) = nI 256 from rfl, bnd_s a1, show (16 : Int32) = nI 16 from rfl, bnd_s b1]
    · rw [ee, sS1n _ _ h9, sS1n _ _ h8]
    · rw [b4 q h4, a4 q h5]; rfl
    · rw [ee]; rfl
    · rw [ee]; exact hm.1.1.1
    · intro s hs; rw [b4 5 (by decide), a3 s hs]; rfl
    · rw [b4 19 (by decide), a4 19 (by decide)]; rfl
theorem fam0_x {σ : ST} {v : NV} {c : Option Nat} {f : Option FV} (hx : RX σ (v, c, f)) {s : Nat} (hs : s < 256) : σ.2 7 s = nI ((fam0 (nN v) f).2.1 s) := by
  cases f with
  | some g => exact hx.2.2.2.2.1 s hs
  | none => exact hx.2.2.2.1 s hs
theorem sim_draw (n : Nat) (hn : 1000 ≤ n) : Sim_draw n TheInv := by
  intro j σ it τ bb a b hj h
  obtain ⟨⟨v, c, f⟩, ji, ok, hx, hm, hi, hsx⟩ := h
  obtain ⟨d, d1, d2, d3, d4, d5⟩ := p_makeSides (RF_code hm 0) ok.1 n hn
  have stay : TheInv (j + 1) σ it d := ⟨(v, c, f), ji, okB_up ok, hx, d2, ImOK_up hi, hsx⟩
  have hl := sides_le v ok.1
  have hp8 : 2 ^ nN v ≤ 2 ^ 8 := Nat.pow_le_pow_right (by decide) ok.1.2.1
  have hC : d.1 25 = nI (sidesOf v).length ∧ ∀ i, i < (sidesOf v).length → d.2 18 i = nI ((sidesOf v).getD i 0) ∧ d.2 19 i = nI (bor v ((sidesOf v).getD i 0)) := d2.2.1.2.2.2.1 d3
  have okv : okN v := ok.1
  have hxv : isNet (σ.1 128) (σ.1 129) (σ.2 3) (σ.2 4) (σ.2 5) v := hx.1
  obtain ⟨x, x1, x2, x3, x4⟩ := p_mfind (τ := d) (L := (sidesOf v).length) hC.1 hl n hn a b
  have mno : x = (sidesOf v).length → f_m_draw n τ a b = some (-1, d) := by
    intro q
    unfold f_m_draw j_m_draw_61
    rw [nam_e, bnd_s d1, bnd_s x2, hC.1, if_pos (by rw [q])]
  have notside : (∀ s, 1 ≤ s → s < 2 ^ nN v - 1 → sideB v s = true → a ≠ nI s) → x = (sidesOf v).length := by
    intro q
    rcases (show x < (sidesOf v).length ∨ x = (sidesOf v).length from by omega) with q1 | q1
    · have h1 := x3 q1
      have h2 := (hC.2 x q1).1
      obtain ⟨m1, m2, m3⟩ := mem_sides.mp (getD_mem q1)
      exact absurd (h1.symm.trans h2) (q _ m1 m2 m3)
    · exact q1
  rcases p_Net_isSide hxv okv n hn a with ⟨s, s1, s2, rfl, s3⟩ | ⟨s1, s2⟩
  · by_cases hsd : sideB v s = true
    · rw [if_pos hsd] at s3
      have xl : x < (sidesOf v).length := by
        rcases (show x < (sidesOf v).length ∨ x = (sidesOf v).length from by omega) with q1 | q1
        · exact q1
        · obtain ⟨y, y1, y2⟩ := mem_getD (mem_sides.mpr ⟨s1, s2, hsd⟩)
          have := (hC.2 y y1).1
          rw [y2] at this
          exact absurd this (x4 q1 y y1)
      have hgs : (sidesOf v).getD x 0 = s := by
        have h1 := x3 xl
        rw [(hC.2 x xl).1] at h1
        obtain ⟨m1, m2, m3⟩ := mem_sides.mp (getD_mem xl)
        exact nI_inj (by omega) (by omega) h1
      have xne : ¬ nI x = nI (sidesOf v).length := fun q => by
        have := nI_inj (by omega) (by omega) q
        omega
      by_cases hgo : ∀ g, f = some g → g.1 = nN v
      · have fx : f_x_draw n σ (nI s) b = j_x_draw_48 n σ (nI s) b := by
          unfold f_x_draw
          rw [bnd_s s3, if_neg (by decide)]
          cases f with
          | none => rw [if_pos (show σ.1 384 = 0 from hx.2.2.1)]
          | some g => rw [show σ.1 384 = 1 from hx.2.2.1, if_neg (by decide), show σ.1 385 = nI g.1 from hx.2.2.2.1, show σ.1 128 = nI (nN v) from hx.1.1, if_pos (by rw [hgo g rfl])]
        have hts : (fam0 (nN v) f).2.1 s < 2 ^ 30 := by
          have := okF_le (okF_fam0 (N := nN v) (f := f) okv.1 okv.2.1 (fun g hg => ok.2.2 g hg)) (show s < 256 by omega)
          omega
        have fm : f_m_draw n τ (nI s) b = j_m_draw_80 n d (nI s) b (nI x) (nI ((fam0 (nN v) f).2.1 s)) := by
          unfold f_m_draw
          rw [nam_e, bnd_s d1, bnd_s x2, hC.1, if_neg xne]
          have e8 := d2.1.2.2
          cases f with
          | none =>
            have e8 : d.1 8 = 0 := e8
            rw [if_pos e8]
            unfold j_m_draw_63
            rw [if_pos e8]; rfl
          | some g =>
            have e8 : d.1 8 = 1 := d2.1.2.2.1
            rw [e8, if_neg (by decide), show d.1 9 = nI g.1 from d2.1.2.2.2.1, show d.1 1 = nI (nN v) from d2.1.1.1, if_pos (by rw [hgo g rfl])]
            unfold j_m_draw_63
            rw [e8, if_neg (by decide), grd_t (jin_nI (by omega) (by omega)), jix_nI (by omega), d2.1.2.2.2.2.1 s (by omega)]
            rfl
        rw [fx, fm]
        unfold j_x_draw_48 j_m_draw_80
        rw [grd_t (jin_nI (show s < 256 by omega) (by omega)), jix_nI (by omega), fam0_x hx (show s < 256 by omega)]
        by_cases c0 : lg_cmp ((nI ((fam0 (nN v) f).2.1 s)).toInt64 + b.toInt64) (0 : Int64) < 0
        · rw [if_pos c0, if_pos c0]
          exact ⟨-1, σ, d, rfl, rfl, stay⟩
        rw [if_neg c0, if_neg c0]
        by_cases c1 : lg_cmp ((nI ((fam0 (nN v) f).2.1 s)).toInt64 + b.toInt64) (1000 : Int64) ≤ 0
        · rw [if_pos c1, if_pos c1]
          obtain ⟨u, hu, hu1, hu2⟩ := long_sum hts c0 c1
          obtain ⟨σ', o1, o2, o3⟩ := p_openx hx n hn (nI s) b
          obtain ⟨τ', q1, q2, q3⟩ := p_openm d2 n hn (nI s) b (nI x) ((nI ((fam0 (nN v) f).2.1 s)).toInt64 + b.toInt64)
          rw [o1, q1]
          obtain ⟨e, r1, r2, r3⟩ := p_drawx (u := u) (m := b) o2 ok.1 n hn (show s < 256 by omega) (by rw [fam0_x o2 (show s < 256 by omega)]; exact hu2)
          obtain ⟨e', t1, t2⟩ := p_drawm (u := u) (m := b) (x := x) q2 ok.1 n hn (show s < 256 by omega) hu1 (by omega) (by rw [q3, (hC.2 x xl).2, hgs])
          have hN : (fam0 (nN v) f).1 = nN v := by
            cases f with
            | none => rfl
            | some g => exact hgo g rfl
          refine ⟨nI u, e, e', r1, t1, (v, c, some (famD (fam0 (nN v) f) s u (bor v s) b)), ji, ⟨ok.1, ok.2.1, fun g hg => ?_⟩, r2, t2, ImOK_up hi, ?_, ?_⟩
          · obtain rfl := Option.some.inj hg
            exact okF_famD (okF_fam0 (N := nN v) (f := f) okv.1 okv.2.1 (fun g hg => ok.2.2 g hg)) s1 (by rw [hN]; exact s2) hu
          · rw [r3 16 (by decide) (by decide), o3 16 (by decide) (by decide)]; exact hsx.1
          · rw [r3 17 (by decide) (by decide), o3 17 (by decide) (by decide)]; exact hsx.2
        · rw [if_neg c1, if_neg c1]
          exact ⟨-1, σ, d, rfl, rfl, stay⟩
      · have hex : ∃ g, f = some g ∧ g.1 ≠ nN v := by
          apply Classical.byContradiction
          intro hno
          apply hgo
          intro g hg
          apply Classical.byContradiction
          intro hne
          exact hno ⟨g, hg, hne⟩
        obtain ⟨g, rfl, hg⟩ := hex
        have g8 : g.1 ≤ 8 := (ok.2.2 g rfl).2.1
        have hN8 : nN v ≤ 8 := ok.1.2.1
        have hne : ¬ nI g.1 = nI (nN v) := fun q => hg (nI_inj (by omega) (by omega) q)
        refine ⟨-1, σ, d, ?_, ?_, stay⟩
        · unfold f_x_draw j_x_draw_46
          rw [bnd_s s3, if_neg (by decide), show σ.1 384 = 1 from hx.2.2.1, if_neg (by decide), show σ.1 385 = nI g.1 from hx.2.2.2.1, show σ.1 128 = nI (nN v) from hx.1.1, if_neg hne]
        · unfold f_m_draw j_m_draw_61
          rw [nam_e, bnd_s d1, bnd_s x2, hC.1, if_neg xne, show d.1 8 = 1 from d2.1.2.2.1, if_neg (by decide), show d.1 9 = nI g.1 from d2.1.2.2.2.1, show d.1 1 = nI (nN v) from d2.1.1.1, if_neg hne]
    · rw [if_neg hsd] at s3
      refine ⟨-1, σ, d, ?_, mno (notside (fun y y1 y2 y3 q => ?_)), stay⟩
      · unfold f_x_draw j_x_draw_46
        rw [bnd_s s3, if_pos rfl]
      · have := nI_inj (by omega) (by omega) q
        subst this
        exact hsd y3
  · refine ⟨-1, σ, d, ?_, mno (notside (fun y y1 y2 y3 q => ?_)), stay⟩
    · unfold f_x_draw j_x_draw_46
      rw [bnd_s s2, if_pos rfl]
    · subst q
      rcases s1 with q | q
      · rw [show (0 : Int32) = nI 0 from rfl] at q
        exact nI_ge (show 0 < y by omega) (by omega) q
      · exact nI_ge y2 (by omega) q
