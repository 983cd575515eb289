/-! packing: the class, and the call -/
/-- the class's state behind k sides -/
def PX (v : NV) (L0 m : Nat) (kb : Nat → Nat) (k : Nat) (σ ρ : ST) : Prop := (∀ c, c < 1152 → ρ.1 c = σ.1 c) ∧ (∀ q, q < 19 → q ≠ 7 → q ≠ 8 → ρ.2 q = σ.2 q) ∧ SC ρ (nK v) m kb (ps v L0 k).1 ∧ ρ.1 1157 = nI 0 ∧ (∀ s, s < 256 → ρ.2 7 s = nI ((ps v L0 k).2.2.1 s)) ∧ ∀ a, a < 16 → ρ.2 8 a = (ps v L0 k).2.2.2 a
theorem px_step {v : NV} (ok : okN v) (hw : whoB v = true) {m : Nat} {kb : Nat → Nat} (k2 : m ≤ 256) (k4 : ∀ x, x < m → kb x < 2 ^ nK v) (k5 : ∀ D, feas m kb D ↔ missB v D = false) {L0 : Nat} (h0 : PI v (nW v) L0) (hL0 : L0 ≤ 16000) {σ ρ : ST} {k : Nat} (hk : k < (sidesOf v).length) (h832 : σ.1 832 = nI (sidesOf v).length) (h14 : ∀ x, x < (sidesOf v).length → σ.2 14 x = nI ((sidesOf v).getD x 0) ∧ σ.2 15 x = nI (bor v ((sidesOf v).getD x 0))) (hP : PX v L0 m kb k σ ρ) (hpos : (ps v L0 k).2.1 ≠ 0) (n : Nat) (hn : 2000 ≤ n) (z : Int32) : ∃ e, b_x_packing_69 n z (ρ, nI (ps v L0 k).2.1, nI k) = some (.inl (e, nI (ps v L0 (k + 1)).2.1, nI (k + 1))) ∧ PX v L0 m kb (k + 1) σ e := by
  have k16 := ok.2.2.1
  have hp : 2 ^ nK v ≤ 2 ^ 16 := Nat.pow_le_pow_right (by decide) k16
  have hp8 : 2 ^ nN v ≤ 2 ^ 8 := Nat.pow_le_pow_right (by decide) ok.2.1
  have hsl := sides_le v ok
  obtain ⟨i1, i2, i3, i4, i5⟩ := ps_inv ok h0 k (by omega)
  obtain ⟨P1, P2, P3, P4, P5, P6⟩ := hP
  have hmem := getD_mem hk
  obtain ⟨sd1, sd2, sd3⟩ := mem_sides.mp hmem
  have hb := bor_lt v ((sidesOf v).getD k 0)
  have hok := gt_ok (B := bor v ((sidesOf v).getD k 0)) i1
  obtain ⟨o6, a1, a2, a3, a4⟩ := p_most ok hw k2 k4 k5 i1 i2 (by omega) hmem P3 P4 n (by omega) hn
  obtain ⟨t, ht⟩ : ∃ t, t = gt v (ps v L0 k).1 (ps v L0 k).2.1 (bor v ((sidesOf v).getD k 0)) := ⟨_, rfl⟩
  rw [← ht] at hok a1
  obtain ⟨o7, b1, b2, b3, b4⟩ := p_spend (σ := o6) (K := nK v) (B := bor v ((sidesOf v).getD k 0)) a2.1 k16 (by omega) (nI t) n (by omega)
  obtain ⟨o8, c1, c2, c3, c4, c5⟩ := p_change (σ := o7) (s := (sidesOf v).getD k 0) (B := bor v ((sidesOf v).getD k 0)) (by omega) (by omega) (nI t) n (by omega)
  have gk : jin (nI k) 256 = true := jin_nI (by omega) (by omega)
  have jk : jix (nI k) = k := jix_nI (by omega)
  have r15 : ρ.2 15 k = nI (bor v ((sidesOf v).getD k 0)) := by rw [P2 15 (by decide) (by decide) (by decide)]; exact (h14 k hk).2
  have q15 : o6.2 15 k = nI (bor v ((sidesOf v).getD k 0)) := by rw [a4.2 15 (by decide)]; exact r15
  have w15 : o7.2 15 k = nI (bor v ((sidesOf v).getD k 0)) := by rw [b4 15 (by decide)]; exact q15
  have w14 : o7.2 14 k = nI ((sidesOf v).getD k 0) := by rw [b4 14 (by decide), a4.2 14 (by decide), P2 14 (by decide) (by decide) (by decide)]; exact (h14 k hk).1
  refine ⟨o8, ?_, fun c hc => ?_, fun q q19 q7 q8 => ?_, ⟨?_, ?_, fun x hx => ?_, fun a ha => ?_⟩, ?_, fun s hs => ?_, fun a ha => ?_⟩
  · unfold b_x_packing_69
    show (if ρ.1 832 ≤ nI k then _ else if nI (ps v L0 k).2.1 ≤ 0 then _ else grd (jin (nI k) 256) (bnd (f_Search_mostTimes n ρ (ρ.2 15 (jix (nI k))) (nI (ps v L0 k).2.1)) (fun o6 => grd (jin (nI k) 256) (bnd (f_Search_spend n o6.2 (o6.2.2 15 (jix (nI k))) o6.1) (fun o7 => grd (jin (nI k) 256) (grd (jin (nI k) 256) (bnd (f_Fam_change n o7 (o7.2 14 (jix (nI k))) (o7.2 15 (jix (nI k))) o6.1) (fun o8 => some (Sum.inl (o8, nI (ps v L0 k).2.1 - o6.1, nI k + 1)))))))))) = _
    rw [P1 832 (by decide), h832, if_neg (nI_ge hk (by omega)), if_neg (show ¬ nI (ps v L0 k).2.1 ≤ (0 : Int32) from nI_ge (a := 0) (by omega) (by omega)), grd_t gk, jk, r15, bnd_s a1, grd_t gk]
    show bnd (f_Search_spend n o6 (o6.2 15 k) (nI t)) _ = _
    rw [q15, bnd_s b1, grd_t gk, grd_t gk, w14, w15]
    show bnd (f_Fam_change n o7 (nI ((sidesOf v).getD k 0)) (nI (bor v ((sidesOf v).getD k 0))) (nI t)) _ = _
    rw [bnd_s c1]
    show some (Sum.inl (o8, nI (ps v L0 k).2.1 - nI t, nI k + 1)) = _
    rw [pk_sub hok.1, show nI k + (1 : Int32) = nI (k + 1) from nI_1 k, ht]
    rfl
  · rw [c2, b2, a4.1 c hc]; exact P1 c hc
  · rw [c5 q q7 q8, b4 q (by omega), a4.2 q q19]; exact P2 q q19 q7 q8
  · rw [c2, b2]; exact a2.1
  · rw [c2, b2]; exact a2.2.1
  · rw [c5 19 (by decide) (by decide), b4 19 (by decide)]; exact a2.2.2.1 x hx
  · rw [c5 20 (by decide) (by decide), b3 a ha, a2.2.2.2 a ha]
    show _ = nI (subp (ps v L0 k).1 (bor v ((sidesOf v).getD k 0)) (gt v (ps v L0 k).1 (ps v L0 k).2.1 (bor v ((sidesOf v).getD k 0))) a)
    rw [← ht]
    unfold subp
    by_cases q : (bor v ((sidesOf v).getD k 0)).testBit a = true
    · rw [if_pos q, if_pos q, pk_sub (hok.2.1 a ha q)]
    · rw [if_neg q, if_neg q]
  · rw [c2, b2]; exact a3
  · show o8.2 7 s = nI (if s = (sidesOf v).getD k 0 then gt v (ps v L0 k).1 (ps v L0 k).2.1 (bor v ((sidesOf v).getD k 0)) else (ps v L0 k).2.2.1 s)
    rw [← ht, c3, b4 7 (by decide), a4.2 7 (by decide)]
    by_cases q : s = (sidesOf v).getD k 0
    · rw [if_pos q, q, upd_s, P5 _ (by omega), ps_T0 ok h0 hk, nI_add, Nat.zero_add]
    · rw [if_neg q, upd_n q]; exact P5 s hs
  · show o8.2 8 a = if (bor v ((sidesOf v).getD k 0)).testBit a then (ps v L0 k).2.2.2 a + nI (gt v (ps v L0 k).1 (ps v L0 k).2.1 (bor v ((sidesOf v).getD k 0))) else (ps v L0 k).2.2.2 a
    rw [← ht, c4 a ha, b4 8 (by decide), a4.2 8 (by decide), P6 a ha]
theorem RX_fam2 {σ e : ST} {v : NV} {c : Option Nat} {f : Option FV} {g : FV} (hx : RX σ (v, c, f)) (e1 : ∀ k, k < 1152 → k ≠ 384 → k ≠ 385 → e.1 k = σ.1 k) (ho : ∀ q, q < 19 → q ≠ 7 → q ≠ 8 → e.2 q = σ.2 q) (hf : e.1 384 = 1 ∧ e.1 385 = nI g.1 ∧ (∀ s, s < 256 → e.2 7 s = nI (g.2.1 s)) ∧ ∀ a, a < 16 → e.2 8 a = g.2.2 a) : RX e (v, c, some g) := by
  refine ⟨?_, ?_, hf⟩
  · rw [e1 128 (by decide) (by decide) (by decide), e1 129 (by decide) (by decide) (by decide), ho 3 (by decide) (by decide) (by decide), ho 4 (by decide) (by decide) (by decide), ho 5 (by decide) (by decide) (by decide)]; exact hx.1
  · rw [e1 66 (by decide) (by decide) (by decide)]; exact hx.2.1
theorem sim_packing (n : Nat) (hn : 100000 ≤ n) : Sim_packing n TheInv := by
  intro j σ it τ bb hj h
  obtain ⟨⟨v, c, f⟩, ji, ok, hx, hm, hi, hsx⟩ := h
  have okv : okN v := ok.1
  have k16 := okv.2.2.1
  have hp : 2 ^ nK v ≤ 2 ^ 16 := Nat.pow_le_pow_right (by decide) k16
  have h1p : 1 ≤ 2 ^ nK v := Nat.one_le_two_pow
  have hm1 := RF_code hm 0
  obtain ⟨e, e1, e2, e3⟩ := p_x_isWhole hx okv hsx n (by omega)
  have mW := p_m_isWhole (τ := sS τ 0 0) hm1.1.1 okv n (by omega)
  by_cases hw : whoB v = true
  · have hw' : whoB (v, c, f).1 = true := hw
    rw [if_pos hw'] at e1
    obtain ⟨em, L0, m1, m2, ⟨ld, m3, m4⟩, m5, m6⟩ := p_mpacking hm okv hw n hn
    have hPI : PI v (nW v) L0 := by
      intro D hD hdj
      obtain ⟨l, q1, q2⟩ := least_below (v := v) (D + 1) D (by omega) hD hdj
      exact Nat.le_trans (m5 l q1) (sm_mono q2)
    obtain ⟨g, a1, a2, a3, a4, a5, a6⟩ := p_prepare e2 okv e3 n (by omega)
    obtain ⟨m, kb, k1, k2, k3, k4, k5⟩ := KB_kb okv a4
    obtain ⟨t, b1, b2, b3, b4, b5, b6⟩ := p_byWeight (σ := g) (v := v) k16 a2.1
    have hpl : sm (nW v) (nK v) (2 ^ nK v - 1) < 2 ^ 30 := by have := wt_le okv (2 ^ nK v - 1); omega
    have hSCt : SC t (nK v) m kb (nW v) := ⟨b2, by rw [b5 1154 (by decide) (by decide)]; exact k1, fun x hx => by rw [b6 19 (by decide)]; exact k3 x hx, b4⟩
    obtain ⟨s, B, s1, s2, s3, s4, s5, s6⟩ := p_findBelow (K := nK v) (m := m) (kb := kb) (p := nW v) k16 k2 k4 hpl n (by omega) (σ := t) hSCt (X := 0) b3 (by decide) (lim := 2147483647) (by decide)
    have hBlt : B < 2147483647 := by
      have := s5 (2 ^ nK v - 1) (by omega) ((k5 _).mpr (whole_dj okv hw)) (fun i _ => Nat.zero_testBit i)
      omega
    obtain ⟨A, A1, A2, A3, _, A4⟩ := s6 hBlt
    rw [if_pos hBlt] at s1
    have hBL : B = L0 := by
      obtain ⟨d1, d2⟩ := mem_least.mp m3
      have h1 := s5 ld d1 ((k5 ld).mpr (minB_iff.mp d2).1) (fun i _ => Nat.zero_testBit i)
      have h2 := hPI A A2 ((k5 A).mp A3)
      omega
    have hFR : FR g s := FR_trans (b := t) ⟨fun k hk => b5 k (by omega) (by omega), fun q hq => b6 q (by omega)⟩ (FS_FR s2)
    have hRXs := RX_FR a2 hFR
    have hSXs := SX_FR a3 hFR
    obtain ⟨o, o1, o2, o3, o4, o5⟩ := p_open n (by omega) s (s.1 128)
    have on : ∀ k, k ≠ 384 → k ≠ 385 → o.1 k = s.1 k := fun k k1 k2 => by rw [o2, sS1n _ _ k2, sS1n _ _ k1]
    have hSCs := SC_FS hSCt s2
    have hP0 : PX v L0 m kb 0 o o := by
      refine ⟨fun _ _ => rfl, fun _ _ _ _ => rfl, ⟨?_, ?_, fun x hx => ?_, fun a ha => ?_⟩, ?_, o3, o4⟩
      · rw [on 1158 (by decide) (by decide)]; exact hSCs.1
      · rw [on 1154 (by decide) (by decide)]; exact hSCs.2.1
      · rw [o5 19 (by decide) (by decide)]; exact hSCs.2.2.1 x hx
      · rw [o5 20 (by decide) (by decide)]; exact hSCs.2.2.2 a ha
      · rw [on 1157 (by decide) (by decide), s2.1 1157 (by decide) (by decide) (by decide) (by decide)]; exact b3
    have h832 : o.1 832 = nI (sidesOf v).length := by rw [on 832 (by decide) (by decide), hFR.1 832 (by decide)]; exact a5
    have h14 : ∀ x, x < (sidesOf v).length → o.2 14 x = nI ((sidesOf v).getD x 0) ∧ o.2 15 x = nI (bor v ((sidesOf v).getD x 0)) := fun x hx => by
      rw [o5 14 (by decide) (by decide), o5 15 (by decide) (by decide), hFR.2 14 (by decide), hFR.2 15 (by decide)]; exact a6 x hx
    have hsl := sides_le v okv
    obtain ⟨e9, he9, q1, q2, q3, q4⟩ := lp_meas (body := b_x_packing_69 n (nI L0)) (fun (y : ST × Int32 × Int32) => ∃ i, i ≤ (sidesOf v).length ∧ y.2.1 = nI (ps v L0 i).2.1 ∧ y.2.2 = nI i ∧ PX v L0 m kb i o y.1) (fun y => (sidesOf v).length - jix y.2.2) (fun (e : ST) => (∀ c, c < 1152 → e.1 c = o.1 c) ∧ (∀ q, q < 19 → q ≠ 7 → q ≠ 8 → e.2 q = o.2 q) ∧ (∀ s, s < 256 → e.2 7 s = nI ((ps v L0 (sidesOf v).length).2.2.1 s)) ∧ ∀ a, a < 16 → e.2 8 a = (ps v L0 (sidesOf v).length).2.2.2 a) (by
        rintro ⟨ρ, y1, y2⟩ ⟨i, hil, g1, g2, g3⟩
        have g1 : y1 = nI (ps v L0 i).2.1 := g1
        have g2 : y2 = nI i := g2
        subst g1 g2
        have g3 : PX v L0 m kb i o ρ := g3
        have hinv := ps_inv okv hPI i hil
        by_cases hie : i = (sidesOf v).length
        · left
          refine ⟨ρ, ?_, g3.1, g3.2.1, by rw [← hie]; exact g3.2.2.2.2.1, by rw [← hie]; exact g3.2.2.2.2.2⟩
          unfold b_x_packing_69
          show (if ρ.1 832 ≤ nI i then some (Sum.inr ρ) else _) = _
          rw [g3.1 832 (by decide), h832, if_pos (nI_le (by omega) (by omega))]
        · by_cases hz : (ps v L0 i).2.1 = 0
          · left
            obtain ⟨w1, w2, w3⟩ := ps_end okv hPI hz ((sidesOf v).length - i) (by omega)
            rw [show i + ((sidesOf v).length - i) = (sidesOf v).length by omega] at w1 w2 w3
            have w4 : (ps v L0 (sidesOf v).length).2.2.2 = (ps v L0 i).2.2.2 := congrArg Prod.snd w2
            refine ⟨ρ, ?_, g3.1, g3.2.1, by rw [w3]; exact g3.2.2.2.2.1, by rw [w4]; exact g3.2.2.2.2.2⟩
            unfold b_x_packing_69
            show (if ρ.1 832 ≤ nI i then some (Sum.inr ρ) else if nI (ps v L0 i).2.1 ≤ 0 then some (Sum.inr ρ) else _) = _
            rw [g3.1 832 (by decide), h832, if_neg (nI_ge (by omega) (by omega)), if_pos (by rw [hz]; decide)]
          · right
            obtain ⟨e, w1, w2⟩ := px_step okv hw k2 k4 k5 hPI m2 (show i < (sidesOf v).length by omega) h832 h14 g3 hz n (by omega) (nI L0)
            refine ⟨_, w1, ⟨i + 1, by omega, rfl, rfl, w2⟩, ?_⟩
            show (sidesOf v).length - jix (nI (i + 1)) < (sidesOf v).length - jix (nI i)
            rw [jix_nI (by omega), jix_nI (by omega)]
            omega) n (o, nI L0, (0 : Int32)) ⟨0, Nat.zero_le _, rfl, rfl, hP0⟩ (by
        show (sidesOf v).length - jix (0 : Int32) < n
        omega)
    have hfin := ps_inv okv hPI (sidesOf v).length (Nat.le_refl _)
    refine ⟨nI L0, e9, em, ?_, m1, (v, c, some (nN v, (ps v L0 (sidesOf v).length).2.2)), ji, ⟨okv, ok.2.1, fun g' hg => ?_⟩, RX_fam2 (σ := s) hRXs (fun k k0 k1 k2 => by rw [q1 k k0]; exact on k k1 k2) (fun q q0 q7 q8 => by rw [q2 q q0 q7 q8]; exact o5 q q7 q8) ⟨?_, ?_, q3, q4⟩, m6, ImOK_up hi, ?_, ?_⟩
    · unfold f_x_packing
      rw [bnd_s e1, if_neg (show ¬ (1 : Int32) = 0 by decide), bnd_s a1, bnd_s b1]
      show bnd (f_Search_findBelow n t (nI 2147483647)) _ = _
      rw [bnd_s s1]
      show bnd (f_Fam_open n s (s.1 128)) (fun o5 => bnd (lp (b_x_packing_69 n (s.1 1152)) n (o5, s.1 1152, 0)) (fun e9 => some (s.1 1152, e9))) = _
      rw [bnd_s o1, s3, hBL, bnd_s he9]
    · obtain rfl := Option.some.inj hg
      have hp8 : 2 ^ nN v ≤ 2 ^ 8 := Nat.pow_le_pow_right (by decide) okv.2.1
      refine ⟨okv.1, okv.2.1, ?_, fun s' hs' hne => ?_, Nat.zero_le _, ?_⟩
      · show (ps v L0 (sidesOf v).length).2.2.1 0 = 0
        apply Classical.byContradiction
        intro q
        obtain ⟨y, y1, y2⟩ := hfin.2.2.2.1 0 q
        have := (mem_sides.mp (getD_mem y1)).1
        omega
      · obtain ⟨y, y1, y2⟩ := hfin.2.2.2.1 s' hne
        rw [y2]; exact (mem_sides.mp (getD_mem y1)).2.1
      · show tot (ps v L0 (sidesOf v).length).2.2.1 ≤ _
        have := hfin.2.2.2.2
        omega
    · rw [q1 384 (by decide), o2]; rfl
    · rw [q1 385 (by decide), o2, sS1s]; exact hRXs.1.1
    · rw [q2 16 (by decide) (by decide) (by decide), o5 16 (by decide) (by decide)]; exact hSXs.1
    · rw [q2 17 (by decide) (by decide) (by decide), o5 17 (by decide) (by decide)]; exact hSXs.2
  · have hw' : ¬ whoB (v, c, f).1 = true := hw
    rw [if_neg hw'] at e1 mW
    refine ⟨-1, e, sS τ 0 0, ?_, ?_, (v, c, f), ji, okB_up ok, e2, hm1, ImOK_up hi, e3⟩
    · unfold f_x_packing
      rw [bnd_s e1, if_pos rfl]
    · unfold f_m_packing
      rw [nam_e, bnd_s mW, if_pos rfl]
