theorem famX_load {σ : ST} {v : BV} (h : RX σ v) {a : Nat} (ha : a < 16) : σ.2 8 a = (match v.2.2 with | none => 0 | some f => f.2.2 a) := by
  have h1 := h.2.2
  revert h1
  cases v.2.2 with
  | none => exact fun h1 => h1.2.2 a ha
  | some f => exact fun h1 => h1.2.2.2 a ha
theorem sim_tell (n : Nat) : Sim_tell n TheInv := by
  intro j σ it τ bb a b hj h
  obtain ⟨⟨⟨N, k, T, H, W⟩, c, f⟩, ji, ok, hx, hm, hi, hsx⟩ := h
  have hm1 := RF_code hm 0
  have hk : k ≤ 16 := ok.1.2.2.1
  have stay : TheInv (j + 1) σ it (sS τ 0 0) := ⟨((N, k, T, H, W), c, f), ji, okB_up ok, hx, hm1, ImOK_up hi, hsx⟩
  rcases arc_both n (σ := σ) (τ := sS τ 0 0) hx.1.2.1 hm1.1.1.2.1 hk a with ⟨i, hik, rfl, e1, e2⟩ | ⟨e1, e2⟩
  · have hik : i < k := hik
    have hji : jix (nI i) = i := jix_nI (by omega)
    have hjn : jin (nI i) 16 = true := jin_nI (by omega) (by omega)
    have hxa := hx.1.2.2 i hik
    have hma := hm.1.1.2.2 i hik
    by_cases b0 : b = 0
    · refine ⟨nI (T i), sS τ 0 0, ?_, ?_, stay⟩
      · unfold f_x_tell
        rw [bnd_s e1, if_neg (by decide), if_pos b0, grd_t hjn, hji, hxa.1]; rfl
      · unfold f_m_tell
        rw [nam_e, bnd_s e2, if_neg (by decide), if_pos b0, grd_t hjn, hji, sS2, hma.1]; rfl
    by_cases b1 : b = 1
    · refine ⟨nI (H i), sS τ 0 0, ?_, ?_, stay⟩
      · unfold f_x_tell
        rw [bnd_s e1, if_neg (by decide), if_neg b0, if_pos b1, grd_t hjn, hji, hxa.2.1]; rfl
      · unfold f_m_tell
        rw [nam_e, bnd_s e2, if_neg (by decide), if_neg b0, if_pos b1, grd_t hjn, hji, sS2, hma.2.1]; rfl
    by_cases b2 : b = 2
    · refine ⟨nI (W i), sS τ 0 0, ?_, ?_, stay⟩
      · unfold f_x_tell
        rw [bnd_s e1, if_neg (by decide), if_neg b0, if_neg b1, if_pos b2, grd_t hjn, hji, hxa.2.2]; rfl
      · unfold f_m_tell
        rw [nam_e, bnd_s e2, if_neg (by decide), if_neg b0, if_neg b1, if_pos b2, grd_t hjn, hji, sS2, hma.2.2]; rfl
    by_cases b3 : b = 3
    · refine ⟨σ.2 8 i, sS τ 0 0, ?_, ?_, stay⟩
      · unfold f_x_tell
        rw [bnd_s e1, if_neg (by decide), if_neg b0, if_neg b1, if_neg b2, if_pos b3, grd_t hjn, hji]
      · unfold f_m_tell j_m_tell_90
        rw [nam_e, bnd_s e2, if_neg (by decide), if_neg b0, if_neg b1, if_neg b2, if_pos b3, grd_t hjn, hji, famX_load hx (by omega)]
        have h8 : isFam (τ.1 8) (τ.1 9) (τ.2 5) (τ.2 4) f := hm.1.2.2
        have e8 : (sS τ 0 0).1 8 = τ.1 8 := rfl
        rw [e8]
        cases f with
        | none => rw [show τ.1 8 = 0 from h8, if_pos rfl]
        | some f => rw [h8.1, if_neg (by decide), sS2, h8.2.2.2 i (by omega)]
    by_cases b4 : b = 4
    · refine ⟨jshr (σ.1 66) (nI i) &&& 1, sS τ 0 0, ?_, ?_, stay⟩
      · unfold f_x_tell
        rw [bnd_s e1, if_neg (by decide), if_neg b0, if_neg b1, if_neg b2, if_neg b3, if_pos b4]
      · unfold f_m_tell j_m_tell_110
        rw [nam_e, bnd_s e2, if_neg (by decide), if_neg b0, if_neg b1, if_neg b2, if_neg b3, if_pos b4]
        have h6 : isSet (τ.1 6) (τ.1 7) c := hm.1.2.1
        have e6 : (sS τ 0 0).1 6 = τ.1 6 := rfl
        have e7 : (sS τ 0 0).1 7 = τ.1 7 := rfl
        have h66 : σ.1 66 = nI (c.getD 0) := hx.2.1
        rw [e6, e7, h66]
        cases c with
        | none =>
          rw [show τ.1 6 = 0 from h6, if_pos rfl]
          rw [show nI ((none : Option Nat).getD 0) = nI 0 from rfl, jshr_nI (by omega) (by omega), Nat.zero_div]
          rfl
        | some c => rw [h6.1, h6.2, if_neg (by decide)]; rfl
    · refine ⟨-1, sS τ 0 0, ?_, ?_, stay⟩
      · unfold f_x_tell
        rw [bnd_s e1, if_neg (by decide), if_neg b0, if_neg b1, if_neg b2, if_neg b3, if_neg b4]
      · unfold f_m_tell
        rw [nam_e, bnd_s e2, if_neg (by decide), if_neg b0, if_neg b1, if_neg b2, if_neg b3, if_neg b4]
  · refine ⟨-1, sS τ 0 0, ?_, ?_, stay⟩
    · unfold f_x_tell; rw [bnd_s e1, if_pos rfl]
    · unfold f_m_tell; rw [nam_e, bnd_s e2, if_pos rfl]
theorem p_hasNode (n : Nat) {σ : ST} {k : Nat} (h : σ.1 128 = nI k) (hk : k ≤ 16) (a : Int32) : (∃ i, i < k ∧ a = nI i ∧ f_Net_hasNode n σ a = some 1) ∨ ((∀ i, i < k → a ≠ nI i) ∧ f_Net_hasNode n σ a = some 0) := by
  unfold f_Net_hasNode j_Net_hasNode_16 j_Net_hasNode_17
  rw [h]
  rcases pk_ix a (show k < 2 ^ 31 by omega) with h1 | h1 | ⟨i, hi, rfl⟩
  · refine Or.inr ⟨fun i hi q => ?_, ?_⟩
    · subst q; exact nI_pos (by omega) h1
    · rw [if_pos h1]; rfl
  · refine Or.inr ⟨fun i hi q => ?_, ?_⟩
    · subst q; exact nI_ge hi (by omega) h1
    · by_cases h0 : a < 0
      · rw [if_pos h0]; rfl
      · rw [if_neg h0, if_pos h1]; rfl
  · refine Or.inl ⟨i, hi, rfl, ?_⟩
    rw [if_neg (nI_pos (by omega)), if_neg (nI_ge hi (by omega))]; rfl
theorem node_in (n : Nat) {σ τ : ST} {k : Nat} (hx : σ.1 128 = nI k) (hm : τ.1 1 = nI k) (hk : k ≤ 16) (a : Int32) : (∃ i, i < k ∧ a = nI i ∧ f_Net_hasNode n σ a = some 1 ∧ f_m_in n a 0 (τ.1 1 - 1) = some 1) ∨ (f_Net_hasNode n σ a = some 0 ∧ f_m_in n a 0 (τ.1 1 - 1) = some 0) := by
  rw [hm]
  rcases p_hasNode n hx hk a with ⟨i, h1, h2, h3⟩ | ⟨h1, h2⟩
  · rcases in_m n hk a with ⟨i1, g1, g2, g3⟩ | ⟨g1, g2⟩
    · exact Or.inl ⟨i, h1, h2, h3, g3⟩
    · exact absurd h2 (g1 i h1)
  · rcases in_m n hk a with ⟨i1, g1, g2, g3⟩ | ⟨g1, g2⟩
    · exact absurd g2 (h1 i1 g1)
    · exact Or.inr ⟨h2, g2⟩
theorem sim_arc (n : Nat) : Sim_arc n TheInv := by
  intro j σ it τ bb a b w hj h
  obtain ⟨⟨⟨N, k, T, H, W⟩, c, f⟩, ji, ok, hx, hm, hi, hsx⟩ := h
  have hm1 := RF_code hm 0
  have hk : k ≤ 16 := ok.1.2.2.1
  have hN8 : N ≤ 8 := ok.1.2.1
  have stay : TheInv (j + 1) σ it (sS τ 0 0) := ⟨((N, k, T, H, W), c, f), ji, okB_up ok, hx, hm1, ImOK_up hi, hsx⟩
  have hkx : σ.1 129 = nI k := hx.1.2.1
  have hkm : (sS τ 0 0).1 2 = nI k := hm1.1.1.2.1
  by_cases h16 : k = 16
  · refine ⟨-1, σ, sS τ 0 0, ?_, ?_, stay⟩
    · unfold f_x_arc j_x_arc_44; rw [hkx, h16, if_pos (by decide)]
    · unfold f_m_arc j_m_arc_53; rw [nam_e, hkm, h16, if_pos (by decide)]
  have g1 : ¬ (16 : Int32) ≤ nI k := nI_ge (b := 16) (by omega) (by decide)
  have g2 : ¬ nI k = (16 : Int32) := fun q => h16 (nI_inj (by omega) (by decide) q)
  rcases node_in n (σ := σ) (τ := sS τ 0 0) hx.1.1 hm1.1.1.1 (by show N ≤ 16; omega) a with ⟨t, ht, rfl, e1, e2⟩ | ⟨e1, e2⟩
  · rcases node_in n (σ := σ) (τ := sS τ 0 0) hx.1.1 hm1.1.1.1 (by show N ≤ 16; omega) b with ⟨d, hd, rfl, e3, e4⟩ | ⟨e3, e4⟩
    · by_cases hw : w < 0 ∨ 1000 < w
      · refine ⟨-1, σ, sS τ 0 0, ?_, ?_, stay⟩
        · unfold f_x_arc j_x_arc_44; rw [hkx, if_neg g1, bnd_s e1, if_neg (by decide), bnd_s e3, if_neg (by decide), bnd_s (p_isWeight n w), if_pos (if_pos hw)]
        · unfold f_m_arc j_m_arc_53; rw [nam_e, if_neg (by rw [hkm]; exact g2), bnd_s e2, if_neg (by decide), bnd_s e4, if_neg (by decide), bnd_s (p_in n w 0 1000), if_pos (if_pos hw)]
      · obtain ⟨w, hw1, rfl⟩ := nI_in1000 hw
        have ht : t < N := ht
        have hd : d < N := hd
        have hji : jix (nI k) = k := jix_nI (by omega)
        have hjn : jin (nI k) 16 = true := jin_nI (by omega) (by omega)
        refine ⟨nI k, sS (sA (sA (sA σ 3 (upd (σ.2 3) k (nI t))) 4 (upd (σ.2 4) k (nI d))) 5 (upd (σ.2 5) k (nI w))) 129 (nI (k + 1)), sS (sS (sS (sA (sA (sA (sS τ 0 0) 1 (upd (τ.2 1) k (nI t))) 2 (upd (τ.2 2) k (nI d))) 3 (upd (τ.2 3) k (nI w))) 2 (nI (k + 1))) 24 0) 31 0, ?_, ?_, ((N, k + 1, fun q => if q = k then t else T q, fun q => if q = k then d else H q, fun q => if q = k then w else W q), c, f), ji, ⟨⟨ok.1.1, ok.1.2.1, (by show k + 1 ≤ 16; omega), fun q hq => ?_⟩, ok.2.1, fun f hf => okF_up (ok.2.2 f hf)⟩, ⟨⟨hx.1.1, rfl, fun q hq => ?_⟩, hx.2⟩, ⟨⟨⟨hm.1.1.1, rfl, fun q hq => ?_⟩, hm.1.2⟩, RC_fresh rfl rfl, hm.2.2⟩, ImOK_up hi, hsx⟩
        · unfold f_x_arc
          rw [hkx, if_neg g1, bnd_s e1, if_neg (by decide), bnd_s e3, if_neg (by decide), bnd_s (p_isWeight n _), if_neg (by rw [if_neg hw]; decide)]
          have ha : f_Net_append σ (nI t) (nI d) (nI w) = some (nI k, sS (sA (sA (sA σ 3 (upd (σ.2 3) k (nI t))) 4 (upd (σ.2 4) k (nI d))) 5 (upd (σ.2 5) k (nI w))) 129 (nI (k + 1))) := by
            unfold f_Net_append
            simp only [nam_e, sA1, hkx, hji, grd_t hjn]
            rw [show nI k + (1 : Int32) = nI (k + 1) from nI_1 k, sS1s]
            rw [show nI (k + 1) - (1 : Int32) = nI k from nI_pred k]
            rfl
          rw [bnd_s ha]
        · unfold f_m_arc
          rw [nam_e, if_neg (by rw [hkm]; exact g2), bnd_s e2, if_neg (by decide), bnd_s e4, if_neg (by decide), bnd_s (p_in n _ 0 1000), if_neg (by rw [if_neg hw]; decide)]
          simp only [nam_e, sA1, hkm, hji, grd_t hjn]
          rw [show nI k + (1 : Int32) = nI (k + 1) from nI_1 k]
          unfold f_m_changed
          simp only [nam_e]
          rw [bnd_s rfl]
          rw [show (sS (sS (sS (sA (sA (sA (sS τ 0 0) 1 (upd ((sS τ 0 0).2 1) k (nI t))) 2 (upd ((sA (sS τ 0 0) 1 (upd ((sS τ 0 0).2 1) k (nI t))).2 2) k (nI d))) 3 (upd ((sA (sA (sS τ 0 0) 1 (upd ((sS τ 0 0).2 1) k (nI t))) 2 (upd ((sA (sS τ 0 0) 1 (upd ((sS τ 0 0).2 1) k (nI t))).2 2) k (nI d))).2 3) k (nI w))) 2 (nI (k + 1))) 24 0) 31 0).1 2 = nI (k + 1) from rfl]
          rw [show nI (k + 1) - (1 : Int32) = nI k from nI_pred k]
          rfl
        · show (if q = k then t else T q) < N ∧ (if q = k then d else H q) < N ∧ (if q = k then w else W q) ≤ 1000
          by_cases hqk : q = k
          · subst hqk; rw [if_pos rfl, if_pos rfl, if_pos rfl]; exact ⟨ht, hd, hw1⟩
          · rw [if_neg hqk, if_neg hqk, if_neg hqk]
            exact ok.1.2.2.2 q (by have : q < k + 1 := hq; show q < k; omega)
        · show upd (σ.2 3) k (nI t) q = nI (if q = k then t else T q) ∧ upd (σ.2 4) k (nI d) q = nI (if q = k then d else H q) ∧ upd (σ.2 5) k (nI w) q = nI (if q = k then w else W q)
          by_cases hqk : q = k
          · subst hqk; rw [if_pos rfl, if_pos rfl, if_pos rfl, upd_s, upd_s, upd_s]; exact ⟨rfl, rfl, rfl⟩
          · rw [if_neg hqk, if_neg hqk, if_neg hqk, upd_n hqk, upd_n hqk, upd_n hqk]
            exact hx.1.2.2 q (by have : q < k + 1 := hq; show q < k; omega)
        · show upd (τ.2 1) k (nI t) q = nI (if q = k then t else T q) ∧ upd (τ.2 2) k (nI d) q = nI (if q = k then d else H q) ∧ upd (τ.2 3) k (nI w) q = nI (if q = k then w else W q)
          by_cases hqk : q = k
          · subst hqk; rw [if_pos rfl, if_pos rfl, if_pos rfl, upd_s, upd_s, upd_s]; exact ⟨rfl, rfl, rfl⟩
          · rw [if_neg hqk, if_neg hqk, if_neg hqk, upd_n hqk, upd_n hqk, upd_n hqk]
            exact hm.1.1.2.2 q (by have : q < k + 1 := hq; show q < k; omega)
    · refine ⟨-1, σ, sS τ 0 0, ?_, ?_, stay⟩
      · unfold f_x_arc j_x_arc_44; rw [hkx, if_neg g1, bnd_s e1, if_neg (by decide), bnd_s e3, if_pos rfl]
      · unfold f_m_arc j_m_arc_53; rw [nam_e, if_neg (by rw [hkm]; exact g2), bnd_s e2, if_neg (by decide), bnd_s e4, if_pos rfl]
  · refine ⟨-1, σ, sS τ 0 0, ?_, ?_, stay⟩
    · unfold f_x_arc j_x_arc_44; rw [hkx, if_neg g1, bnd_s e1, if_pos rfl]
    · unfold f_m_arc j_m_arc_53; rw [nam_e, if_neg (by rw [hkm]; exact g2), bnd_s e2, if_pos rfl]
