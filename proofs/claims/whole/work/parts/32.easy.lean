/-! the calls that need no search -/
theorem RC_fresh {τ : ST} {v : NV} (h1 : τ.1 24 = 0) (h2 : τ.1 31 = 0) : RC τ v := ⟨Or.inl h1, Or.inl h2, fun h => by rw [h2] at h; exact absurd h (by decide), fun h => by rw [h1] at h; exact absurd h (by decide), fun h => by rw [h2] at h; exact absurd h (by decide)⟩
theorem bord_w {N k : Nat} {T H W W1 : Nat → Nat} (s : Nat) : ∀ m, bord (N, k, T, H, W1) s m = bord (N, k, T, H, W) s m := by
  intro m
  induction m with
  | zero => rfl
  | succ m ih => show bord (N, k, T, H, W1) s m + _ = bord (N, k, T, H, W) s m + _; rw [ih]; rfl
theorem bor_w {N k : Nat} {T H W W1 : Nat → Nat} (s : Nat) : bor (N, k, T, H, W1) s = bor (N, k, T, H, W) s := bord_w s k
theorem sides_w {N k : Nat} {T H W W1 : Nat → Nat} : sidesOf (N, k, T, H, W1) = sidesOf (N, k, T, H, W) := rfl
theorem missB_w {N k : Nat} {T H W W1 : Nat → Nat} (d : Nat) : missB (N, k, T, H, W1) d = missB (N, k, T, H, W) d := by
  unfold missB
  rw [sides_w (W := W)]
  congr 1
  funext s
  rw [bor_w (W := W)]
theorem minB_w {N k : Nat} {T H W W1 : Nat → Nat} : minB (N, k, T, H, W1) = minB (N, k, T, H, W) := by
  funext d
  have h : (fun i => !d.testBit i || missB (N, k, T, H, W1) (d ^^^ 2 ^ i)) = (fun i => !d.testBit i || missB (N, k, T, H, W) (d ^^^ 2 ^ i)) := by
    funext i
    rw [missB_w (W := W)]
  show (!missB (N, k, T, H, W1) d && (List.range k).all (fun i => !d.testBit i || missB (N, k, T, H, W1) (d ^^^ 2 ^ i))) = (!missB (N, k, T, H, W) d && (List.range k).all (fun i => !d.testBit i || missB (N, k, T, H, W) (d ^^^ 2 ^ i)))
  rw [h, missB_w (W := W)]
theorem least_w {N k : Nat} {T H W W1 : Nat → Nat} : leastOf (N, k, T, H, W1) = leastOf (N, k, T, H, W) := by
  show (List.range (2 ^ k)).filter (minB (N, k, T, H, W1)) = (List.range (2 ^ k)).filter (minB (N, k, T, H, W))
  rw [minB_w (W := W)]
theorem RC_w {τ : ST} {N k : Nat} {T H W W1 : Nat → Nat} (h : RC τ (N, k, T, H, W)) : RC τ (N, k, T, H, W1) := by
  obtain ⟨h1, h2, h3, h4, h5⟩ := h
  refine ⟨h1, h2, h3, fun q => ?_, fun q => ?_⟩
  · rw [sides_w (W := W)]
    refine ⟨(h4 q).1, fun i hi => ⟨((h4 q).2 i hi).1, ?_⟩⟩
    rw [bor_w (W := W)]
    exact ((h4 q).2 i hi).2
  · rw [least_w (W := W)]
    refine ⟨(h5 q).1, fun d hd => ?_, (h5 q).2.2⟩
    rw [missB_w (W := W)]
    exact (h5 q).2.1 d hd
theorem RF_code {τ : ST} {v : BV} {ji : Nat → Option BV} (h : RF τ v ji) (x : Int32) : RF (sS τ 0 x) v ji := h
theorem p_hasArc (n : Nat) {σ : ST} {k : Nat} (h : σ.1 129 = nI k) (hk : k ≤ 16) (a : Int32) : (∃ i, i < k ∧ a = nI i ∧ f_Net_hasArc n σ a = some 1) ∨ ((∀ i, i < k → a ≠ nI i) ∧ f_Net_hasArc n σ a = some 0) := by
  unfold f_Net_hasArc j_Net_hasArc_16 j_Net_hasArc_17
  rw [h]
  rcases pk_ix a (show k < 2 ^ 31 by omega) with h1 | h1 | ⟨i, hi, rfl⟩
  · refine Or.inr ⟨fun i hi q => ?_, ?_⟩
    · subst q; exact nI_pos (by omega) h1
    · rw [if_pos h1]; rfl
  · refine Or.inr ⟨fun i hi q => ?_, ?_⟩
    · subst q; exact nI_ge hi (by omega) h1
    · by_cases h0 : a < 0
      · rw [if_pos h0]; rfl
      · rw [if_neg h0, if_pos h1]; rfl
  · refine Or.inl ⟨i, hi, rfl, ?_⟩
    rw [if_neg (nI_pos (by omega)), if_neg (nI_ge hi (by omega))]; rfl
theorem in_m (n : Nat) {k : Nat} (hk : k ≤ 16) (a : Int32) : (∃ i, i < k ∧ a = nI i ∧ f_m_in n a 0 (nI k - 1) = some 1) ∨ ((∀ i, i < k → a ≠ nI i) ∧ f_m_in n a 0 (nI k - 1) = some 0) := by
  rw [p_in]
  have hs : (nI k - 1).toInt = (k : Int) - 1 := by rw [show (1 : Int32) = nI 1 from rfl, pk_sub_toInt (by omega) (by omega)]; rfl
  rcases pk_ix a (show k < 2 ^ 31 by omega) with h1 | h1 | ⟨i, hi, rfl⟩
  · refine Or.inr ⟨fun i hi q => ?_, ?_⟩
    · subst q; exact nI_pos (by omega) h1
    · rw [if_pos (Or.inl h1)]
  · refine Or.inr ⟨fun i hi q => ?_, ?_⟩
    · subst q; exact nI_ge hi (by omega) h1
    · rw [if_pos (Or.inr ?_)]
      rw [Int32.lt_iff_toInt_lt, hs]
      have h2 := Int32.le_iff_toInt_le.mp h1
      rw [nI_toInt (by omega)] at h2
      omega
  · refine Or.inl ⟨i, hi, rfl, ?_⟩
    rw [if_neg]
    rintro (q | q)
    · exact nI_pos (by omega) q
    · rw [Int32.lt_iff_toInt_lt, hs, nI_toInt (by omega)] at q
      omega
theorem p_isArc (n : Nat) {τ : ST} {k : Nat} (h : τ.1 2 = nI k) (hk : k ≤ 16) (a : Int32) : (∃ i, i < k ∧ a = nI i ∧ f_m_isArc n τ a = some 1) ∨ ((∀ i, i < k → a ≠ nI i) ∧ f_m_isArc n τ a = some 0) := by
  unfold f_m_isArc
  rw [h]
  rcases in_m n hk a with ⟨i, h1, h2, h3⟩ | ⟨h1, h2⟩
  · refine Or.inl ⟨i, h1, h2, ?_⟩; rw [bnd_s h3]; rfl
  · refine Or.inr ⟨h1, ?_⟩; rw [bnd_s h2]; rfl
theorem arc_both (n : Nat) {σ τ : ST} {k : Nat} (hx : σ.1 129 = nI k) (hm : τ.1 2 = nI k) (hk : k ≤ 16) (a : Int32) : (∃ i, i < k ∧ a = nI i ∧ f_Net_hasArc n σ a = some 1 ∧ f_m_isArc n τ a = some 1) ∨ (f_Net_hasArc n σ a = some 0 ∧ f_m_isArc n τ a = some 0) := by
  rcases p_hasArc n hx hk a with ⟨i, h1, h2, h3⟩ | ⟨h1, h2⟩
  · rcases p_isArc n hm hk a with ⟨i1, g1, g2, g3⟩ | ⟨g1, g2⟩
    · exact Or.inl ⟨i, h1, h2, h3, g3⟩
    · exact absurd h2 (g1 i h1)
  · rcases p_isArc n hm hk a with ⟨i1, g1, g2, g3⟩ | ⟨g1, g2⟩
    · exact absurd g2 (h1 i1 g1)
    · exact Or.inr ⟨h2, g2⟩
theorem sim_chosen (n : Nat) : Sim_chosen n TheInv := by
  intro j σ it τ bb hj h
  obtain ⟨v, ji, ok, hx, hm, hi, hsx⟩ := h
  refine ⟨σ.1 66, sS τ 0 0, rfl, ?_, v, ji, okB_up ok, hx, RF_code hm 0, ImOK_up hi, hsx⟩
  unfold f_m_chosen j_m_chosen_20
  simp only [nam_e]
  have h1 : σ.1 66 = nI (v.2.1.getD 0) := hx.2.1
  have h2 : isSet (τ.1 6) (τ.1 7) v.2.1 := hm.1.2.1
  have e6 : (sS τ 0 0).1 6 = τ.1 6 := rfl
  have e7 : (sS τ 0 0).1 7 = τ.1 7 := rfl
  rw [e6, e7, h1]
  revert h2
  cases v.2.1 with
  | none => intro h2; rw [show τ.1 6 = 0 from h2, if_pos rfl]; rfl
  | some c => intro h2; rw [h2.1, h2.2, if_neg (by decide)]; rfl
theorem sim_turn (n : Nat) : Sim_turn n TheInv := by
  intro j σ it τ bb a hj h
  obtain ⟨⟨⟨N, k, T, H, W⟩, c, f⟩, ji, ok, hx, hm, hi, hsx⟩ := h
  obtain ⟨⟨hN1, hN8, hk, har⟩, okc, okf⟩ := ok
  have hm1 := RF_code hm 0
  rcases arc_both n (σ := σ) (τ := sS τ 0 0) hx.1.2.1 hm1.1.1.2.1 hk a with ⟨i, hik, rfl, e1, e2⟩ | ⟨e1, e2⟩
  · have hik : i < k := hik
    have hk : k ≤ 16 := hk
    have hji : jix (nI i) = i := jix_nI (by omega)
    have hjn : jin (nI i) 16 = true := jin_nI (by omega) (by omega)
    have hxa := hx.1.2.2 i hik
    have hma := hm.1.1.2.2 i hik
    refine ⟨1, sA (sA σ 3 (upd (σ.2 3) i (σ.2 4 i))) 4 (upd (σ.2 4) i (σ.2 3 i)), sS (sS (sA (sA (sS τ 0 0) 1 (upd (τ.2 1) i (τ.2 2 i))) 2 (upd (τ.2 2) i (τ.2 1 i))) 24 0) 31 0, ?_, ?_, ((N, k, fun q => if q = i then H i else T q, fun q => if q = i then T i else H q, W), c, f), ji, ⟨⟨hN1, hN8, hk, fun q hq => ?_⟩, okc, fun f hf => okF_up (okf f hf)⟩, ⟨⟨hx.1.1, hx.1.2.1, fun q hq => ?_⟩, hx.2⟩, ⟨⟨⟨hm.1.1.1, hm.1.1.2.1, fun q hq => ?_⟩, hm.1.2⟩, RC_fresh rfl rfl, hm.2.2⟩, ImOK_up hi, hsx⟩
    · unfold f_x_turn
      rw [bnd_s e1, if_neg (by decide), grd_t hjn, grd_t hjn, grd_t hjn, nam_e, grd_t hjn, nam_e, hji]
      rfl
    · unfold f_m_turn
      rw [nam_e, bnd_s e2, if_neg (by decide), grd_t hjn, grd_t hjn, grd_t hjn, nam_e, grd_t hjn, nam_e, hji]
      rfl
    · show (if q = i then H i else T q) < N ∧ (if q = i then T i else H q) < N ∧ W q ≤ 1000
      have h1 := har q hq
      have h2 := har i hik
      by_cases hqi : q = i
      · subst hqi; rw [if_pos rfl, if_pos rfl]; exact ⟨h1.2.1, h1.1, h1.2.2⟩
      · rw [if_neg hqi, if_neg hqi]; exact h1
    · show upd (σ.2 3) i (σ.2 4 i) q = nI (if q = i then H i else T q) ∧ upd (σ.2 4) i (σ.2 3 i) q = nI (if q = i then T i else H q) ∧ σ.2 5 q = nI (W q)
      have h1 := hx.1.2.2 q hq
      by_cases hqi : q = i
      · subst hqi; rw [upd_s, upd_s, if_pos rfl, if_pos rfl]; exact ⟨h1.2.1, h1.1, h1.2.2⟩
      · rw [upd_n hqi, upd_n hqi, if_neg hqi, if_neg hqi]; exact h1
    · show upd (τ.2 1) i (τ.2 2 i) q = nI (if q = i then H i else T q) ∧ upd (τ.2 2) i (τ.2 1 i) q = nI (if q = i then T i else H q) ∧ τ.2 3 q = nI (W q)
      have h1 := hm.1.1.2.2 q hq
      by_cases hqi : q = i
      · subst hqi; rw [upd_s, upd_s, if_pos rfl, if_pos rfl]; exact ⟨h1.2.1, h1.1, h1.2.2⟩
      · rw [upd_n hqi, upd_n hqi, if_neg hqi, if_neg hqi]; exact h1
  · refine ⟨0, σ, sS τ 0 0, ?_, ?_, ((N, k, T, H, W), c, f), ji, ⟨⟨hN1, hN8, hk, har⟩, okc, fun f hf => okF_up (okf f hf)⟩, hx, hm1, ImOK_up hi, hsx⟩
    · unfold f_x_turn; rw [bnd_s e1, if_pos rfl]
    · unfold f_m_turn; rw [nam_e, bnd_s e2, if_pos rfl]
theorem nI_in1000 {a : Int32} (h : ¬ (a < 0 ∨ 1000 < a)) : ∃ w, w ≤ 1000 ∧ a = nI w := nI_of2 (M := 1000) (n := 1000) (by decide) (fun q => h (Or.inl q)) (Int32.not_lt.mp (fun q => h (Or.inr q)))
theorem sim_weigh (n : Nat) : Sim_weigh n TheInv := by
  intro j σ it τ bb a b hj h
  obtain ⟨⟨⟨N, k, T, H, W⟩, c, f⟩, ji, ok, hx, hm, hi, hsx⟩ := h
  obtain ⟨⟨hN1, hN8, hk, har⟩, okc, okf⟩ := ok
  have hm1 := RF_code hm 0
  have stay : TheInv (j + 1) σ it (sS τ 0 0) := ⟨((N, k, T, H, W), c, f), ji, ⟨⟨hN1, hN8, hk, har⟩, okc, fun f hf => okF_up (okf f hf)⟩, hx, hm1, ImOK_up hi, hsx⟩
  rcases arc_both n (σ := σ) (τ := sS τ 0 0) hx.1.2.1 hm1.1.1.2.1 hk a with ⟨i, hik, rfl, e1, e2⟩ | ⟨e1, e2⟩
  · have hik : i < k := hik
    have hk : k ≤ 16 := hk
    have hji : jix (nI i) = i := jix_nI (by omega)
    have hjn : jin (nI i) 16 = true := jin_nI (by omega) (by omega)
    have hxa := hx.1.2.2 i hik
    have hma := hm.1.1.2.2 i hik
    by_cases hb : b < 0 ∨ 1000 < b
    · refine ⟨-1, σ, sS τ 0 0, ?_, ?_, stay⟩
      · unfold f_x_weigh j_x_weigh_21; rw [bnd_s e1, if_neg (by decide), bnd_s (p_isWeight n b), if_pos (if_pos hb)]
      · unfold f_m_weigh j_m_weigh_24; rw [nam_e, bnd_s e2, if_neg (by decide), bnd_s (p_in n b 0 1000), if_pos (if_pos hb)]
    · obtain ⟨w, hw, rfl⟩ := nI_in1000 hb
      refine ⟨nI (W i), sA σ 5 (upd (σ.2 5) i (nI w)), sA (sS τ 0 0) 3 (upd (τ.2 3) i (nI w)), ?_, ?_, ((N, k, T, H, fun q => if q = i then w else W q), c, f), ji, ⟨⟨hN1, hN8, hk, fun q hq => ?_⟩, okc, fun f hf => okF_up (okf f hf)⟩, ⟨⟨hx.1.1, hx.1.2.1, fun q hq => ?_⟩, hx.2⟩, ⟨⟨⟨hm.1.1.1, hm.1.1.2.1, fun q hq => ?_⟩, hm.1.2⟩, RC_w (show RC (sA (sS τ 0 0) 3 (upd (τ.2 3) i (nI w))) (N, k, T, H, W) from hm.2.1), hm.2.2⟩, ImOK_up hi, hsx⟩
      · unfold f_x_weigh
        rw [bnd_s e1, if_neg (by decide), bnd_s (p_isWeight n _), if_neg (by rw [if_neg hb]; decide), grd_t hjn, grd_t hjn, nam_e, hji, hxa.2.2]
        rfl
      · unfold f_m_weigh
        rw [nam_e, bnd_s e2, if_neg (by decide), bnd_s (p_in n _ 0 1000), if_neg (by rw [if_neg hb]; decide), grd_t hjn, grd_t hjn, nam_e, hji]
        show some ((τ.2 3 i), _) = _
        rw [hma.2.2]
        rfl
      · show T q < N ∧ H q < N ∧ (if q = i then w else W q) ≤ 1000
        have h1 := har q hq
        by_cases hqi : q = i
        · subst hqi; rw [if_pos rfl]; exact ⟨h1.1, h1.2.1, hw⟩
        · rw [if_neg hqi]; exact h1
      · show σ.2 3 q = nI (T q) ∧ σ.2 4 q = nI (H q) ∧ upd (σ.2 5) i (nI w) q = nI (if q = i then w else W q)
        have h1 := hx.1.2.2 q hq
        by_cases hqi : q = i
        · subst hqi; rw [upd_s, if_pos rfl]; exact ⟨h1.1, h1.2.1, rfl⟩
        · rw [upd_n hqi, if_neg hqi]; exact h1
      · show τ.2 1 q = nI (T q) ∧ τ.2 2 q = nI (H q) ∧ upd (τ.2 3) i (nI w) q = nI (if q = i then w else W q)
        have h1 := hm.1.1.2.2 q hq
        by_cases hqi : q = i
        · subst hqi; rw [upd_s, if_pos rfl]; exact ⟨h1.1, h1.2.1, rfl⟩
        · rw [upd_n hqi, if_neg hqi]; exact h1
  · refine ⟨-1, σ, sS τ 0 0, ?_, ?_, stay⟩
    · unfold f_x_weigh j_x_weigh_21; rw [bnd_s e1, if_pos rfl]
    · unfold f_m_weigh j_m_weigh_24; rw [nam_e, bnd_s e2, if_pos rfl]
