/-! join and begin -/
def gmerge (c p n : Nat) (v1 v2 : Int32) (s : ST × Int32) : Option ((ST × Int32) ⊕ (ST)) :=
  if (s.1.1 c) ≤ s.2 then
    some (.inr s.1)
  else
    grd (jin s.2 16) <|
    bnd (f_m_joined n (s.1.2 p (jix s.2)) v1 v2) fun o1 =>
    grd (jin s.2 16) <|
    nam (sA s.1 p (upd (s.1.2 p) (jix s.2) o1)) fun σ2 =>
    grd (jin s.2 16) <|
    bnd (f_m_joined n (σ2.2 (p + 1) (jix s.2)) v1 v2) fun o3 =>
    grd (jin s.2 16) <|
    nam (sA σ2 (p + 1) (upd (σ2.2 (p + 1)) (jix s.2) o3)) fun σ4 =>
    some (.inl (σ4, s.2 + (1 : Int32)))
theorem merge_x (n : Nat) (v1 v2 : Int32) : b_Net_merge_2 n v1 v2 = gmerge 129 3 n v1 v2 := rfl
theorem merge_m (n : Nat) (v1 v2 : Int32) : b_m_join_30 n v1 v2 = gmerge 2 1 n v1 v2 := rfl
def jn (a b v : Nat) : Nat := if b < (if v = b then a else v) then (if v = b then a else v) - 1 else (if v = b then a else v)
theorem jn_lt {a b v N : Nat} (ha : a < N + 1) (hb : b < N + 1) (hv : v < N + 1) (hab : a ≠ b) : jn a b v < N := by
  unfold jn
  by_cases h : v = b
  · rw [if_pos h]
    by_cases h2 : b < a
    · rw [if_pos h2]; omega
    · rw [if_neg h2]; omega
  · rw [if_neg h]
    by_cases h2 : b < v
    · rw [if_pos h2]; omega
    · rw [if_neg h2]; omega
theorem p_joined (n : Nat) {v a b : Nat} (hv : v < 16) (ha : a < 16) (hb : b < 16) : f_m_joined n (nI v) (nI a) (nI b) = some (nI (jn a b v)) := by
  unfold f_m_joined j_m_joined_10 j_m_joined_23 jn
  have key : ∀ x, x < 16 → (if nI x ≤ nI b then some (nI x) else some (nI x - 1)) = some (nI (if b < x then x - 1 else x)) := by
    intro x hx
    by_cases h : b < x
    · rw [if_neg (nI_ge h (by omega)), if_pos h]
      obtain ⟨y, rfl⟩ : ∃ y, x = y + 1 := ⟨x - 1, by omega⟩
      rw [nI_pred]; rfl
    · rw [if_pos (nI_le (by omega) (by omega)), if_neg h]
  by_cases h : v = b
  · rw [if_pos (by rw [h]), if_pos h]; exact key a ha
  · rw [if_neg (fun q => h (nI_inj (by omega) (by omega) q)), if_neg h]; exact key v hv
theorem p_merge {c p : Nat} {σ : ST} {a b k : Nat} {T H : Nat → Nat} (hc : σ.1 c = nI k) (hk : k ≤ 16) (ha : a < 16) (hb : b < 16) (hT : ∀ x, x < k → σ.2 p x = nI (T x) ∧ T x < 16) (hH : ∀ x, x < k → σ.2 (p + 1) x = nI (H x) ∧ H x < 16) (n : Nat) (hn : 17 < n) : ∃ e, lp (gmerge c p n (nI a) (nI b)) n (σ, (0 : Int32)) = some e ∧ e.1 = σ.1 ∧ (∀ x, x < k → e.2 p x = nI (jn a b (T x))) ∧ (∀ x, x < k → e.2 (p + 1) x = nI (jn a b (H x))) ∧ ∀ q, q ≠ p → q ≠ p + 1 → e.2 q = σ.2 q := by
  refine lp_inv (fun (i : Nat) (s : ST × Int32) => s.2 = nI i ∧ s.1.1 = σ.1 ∧ (∀ x, x < k → s.1.2 p x = nI (if x < i then jn a b (T x) else T x)) ∧ (∀ x, x < k → s.1.2 (p + 1) x = nI (if x < i then jn a b (H x) else H x)) ∧ ∀ q, q ≠ p → q ≠ p + 1 → s.1.2 q = σ.2 q) (fun (e : ST) => e.1 = σ.1 ∧ (∀ x, x < k → e.2 p x = nI (jn a b (T x))) ∧ (∀ x, x < k → e.2 (p + 1) x = nI (jn a b (H x))) ∧ ∀ q, q ≠ p → q ≠ p + 1 → e.2 q = σ.2 q) k ?_ ?_ n 0 (σ, 0) (Nat.zero_le _) (by omega) ⟨rfl, rfl, fun x hx => (hT x hx).1, fun x hx => (hH x hx).1, fun _ _ _ => rfl⟩
  · intro i s hi ⟨h1, h2, h3, h4, h5⟩
    obtain ⟨ρ, t⟩ := s
    subst h1
    have h2 : ρ.1 = σ.1 := h2
    have h3 : ∀ x, x < k → ρ.2 p x = nI (if x < i then jn a b (T x) else T x) := h3
    have h4 : ∀ x, x < k → ρ.2 (p + 1) x = nI (if x < i then jn a b (H x) else H x) := h4
    have t1 : ρ.2 p i = nI (T i) := by rw [h3 i hi, if_neg (Nat.lt_irrefl _)]
    have t2 : ρ.2 (p + 1) i = nI (H i) := by rw [h4 i hi, if_neg (Nat.lt_irrefl _)]
    have hji : jix (nI i) = i := jix_nI (by omega)
    have hjn : jin (nI i) 16 = true := jin_nI (by omega) (by omega)
    refine ⟨(sA (sA ρ p (upd (ρ.2 p) i (nI (jn a b (T i))))) (p + 1) (upd (ρ.2 (p + 1)) i (nI (jn a b (H i)))), nI (i + 1)), ?_, rfl, h2, ?_, ?_, ?_⟩
    · unfold gmerge
      show (if ρ.1 c ≤ nI i then _ else _) = _
      rw [h2, hc, if_neg (nI_ge hi (by omega)), grd_t hjn]
      simp only [hji]
      rw [t1, bnd_s (p_joined n (hT i hi).2 ha hb), grd_t hjn, nam_e, grd_t hjn, sA2n _ _ (show p + 1 ≠ p by omega), t2, bnd_s (p_joined n (hH i hi).2 ha hb), grd_t hjn, nam_e]
      rw [show nI i + (1 : Int32) = nI (i + 1) from nI_1 i]
    · intro x hx
      show (sA (sA ρ p _) (p + 1) _).2 p x = _
      rw [sA2n _ _ (show p ≠ p + 1 by omega), sA2s]
      by_cases hxi : x = i
      · subst hxi; rw [upd_s, if_pos (Nat.lt_succ_self _)]
      · rw [upd_n hxi, h3 x hx]
        by_cases h6 : x < i
        · rw [if_pos h6, if_pos (by omega)]
        · rw [if_neg h6, if_neg (by omega)]
    · intro x hx
      show (sA (sA ρ p _) (p + 1) _).2 (p + 1) x = _
      rw [sA2s]
      by_cases hxi : x = i
      · subst hxi; rw [upd_s, if_pos (Nat.lt_succ_self _)]
      · rw [upd_n hxi, h4 x hx]
        by_cases h6 : x < i
        · rw [if_pos h6, if_pos (by omega)]
        · rw [if_neg h6, if_neg (by omega)]
    · intro q q1 q2
      show (sA (sA ρ p _) (p + 1) _).2 q = _
      rw [sA2n _ _ q2, sA2n _ _ q1]
      exact h5 q q1 q2
  · intro s ⟨h1, h2, h3, h4, h5⟩
    refine ⟨s.1, ?_, h2, fun x hx => by rw [h3 x hx, if_pos hx], fun x hx => by rw [h4 x hx, if_pos hx], h5⟩
    unfold gmerge
    rw [h1, h2, hc, if_pos (nI_le (Nat.le_refl _) (by omega))]
theorem node_both (n : Nat) {σ τ : ST} {k : Nat} (hx : σ.1 128 = nI k) (hm : τ.1 1 = nI k) (hk : k ≤ 16) (a : Int32) : (∃ i, i < k ∧ a = nI i ∧ f_Net_hasNode n σ a = some 1 ∧ f_m_isNode n τ a = some 1) ∨ (f_Net_hasNode n σ a = some 0 ∧ f_m_isNode n τ a = some 0) := by
  unfold f_m_isNode
  rcases node_in n hx hm hk a with ⟨i, h1, h2, h3, h4⟩ | ⟨h1, h2⟩
  · refine Or.inl ⟨i, h1, h2, h3, ?_⟩; rw [bnd_s h4]; rfl
  · refine Or.inr ⟨h1, ?_⟩; rw [bnd_s h2]; rfl
theorem sim_join (n : Nat) (hn : 1000 ≤ n) : Sim_join n TheInv := by
  intro j σ it τ bb a b hj h
  obtain ⟨⟨⟨N, k, T, H, W⟩, c, f⟩, ji, ok, hx, hm, hi, hsx⟩ := h
  have hm1 := RF_code hm 0
  have hk : k ≤ 16 := ok.1.2.2.1
  have hN8 : N ≤ 8 := ok.1.2.1
  have har : ∀ x, x < k → T x < N ∧ H x < N ∧ W x ≤ 1000 := ok.1.2.2.2
  have stay : TheInv (j + 1) σ it (sS τ 0 0) := ⟨((N, k, T, H, W), c, f), ji, okB_up ok, hx, hm1, ImOK_up hi, hsx⟩
  rcases node_both n (σ := σ) (τ := sS τ 0 0) hx.1.1 hm1.1.1.1 (by show N ≤ 16; omega) a with ⟨u, hu, rfl, e1, e2⟩ | ⟨e1, e2⟩
  · rcases node_both n (σ := σ) (τ := sS τ 0 0) hx.1.1 hm1.1.1.1 (by show N ≤ 16; omega) b with ⟨w, hw, rfl, e3, e4⟩ | ⟨e3, e4⟩
    · have hu : u < N := hu
      have hw : w < N := hw
      by_cases huw : u = w
      · refine ⟨-1, σ, sS τ 0 0, ?_, ?_, stay⟩
        · unfold f_x_join j_x_join_33; rw [bnd_s e1, if_neg (by decide), bnd_s e3, if_neg (by decide), if_pos (by rw [huw])]
        · unfold f_m_join j_m_join_26; rw [nam_e, bnd_s e2, if_neg (by decide), bnd_s e4, if_neg (by decide), if_pos (by rw [huw])]
      · have hne : ¬ nI u = nI w := fun q => huw (nI_inj (by omega) (by omega) q)
        obtain ⟨N, rfl⟩ : ∃ N1, N = N1 + 1 := ⟨N - 1, by omega⟩
        have hxN : σ.1 128 = nI (N + 1) := hx.1.1
        have hmN : τ.1 1 = nI (N + 1) := hm.1.1.1
        have hxn : ∀ q, q < k → σ.2 3 q = nI (T q) ∧ σ.2 4 q = nI (H q) ∧ σ.2 5 q = nI (W q) := hx.1.2.2
        have hmn : ∀ q, q < k → τ.2 1 q = nI (T q) ∧ τ.2 2 q = nI (H q) ∧ τ.2 3 q = nI (W q) := hm.1.1.2.2
        obtain ⟨ex, hx1, hx2, hx3, hx4, hx5⟩ := p_merge (c := 129) (p := 3) (σ := σ) (a := u) (b := w) (T := T) (H := H) hx.1.2.1 hk (by omega) (by omega) (fun x hx0 => ⟨(hxn x hx0).1, by have := har x hx0; omega⟩) (fun x hx0 => ⟨(hxn x hx0).2.1, by have := har x hx0; omega⟩) n (by omega)
        obtain ⟨em, hm1', hm2, hm3, hm4, hm5⟩ := p_merge (c := 2) (p := 1) (σ := sS τ 0 0) (a := u) (b := w) (T := T) (H := H) hm1.1.1.2.1 hk (by omega) (by omega) (fun x hx0 => ⟨(hmn x hx0).1, by have := har x hx0; omega⟩) (fun x hx0 => ⟨(hmn x hx0).2.1, by have := har x hx0; omega⟩) n (by omega)
        refine ⟨nI N, sS ex 128 (nI N), sS (sS (sS em 1 (nI N)) 24 0) 31 0, ?_, ?_, ((N, k, fun q => jn u w (T q), fun q => jn u w (H q), W), c, f), ji, ⟨⟨(by show 1 ≤ N; omega), (by show N ≤ 8; omega), hk, fun q hq => ?_⟩, ok.2.1, fun f hf => okF_up (ok.2.2 f hf)⟩, RX_of hx ⟨sS1s _ _ _, ?_, fun q hq => ?_⟩ rfl ?_ ?_ ?_ ?_ ?_, RF_of hm ⟨?_, ?_, fun q hq => ?_⟩ rfl ?_ ?_ ?_ ?_ rfl rfl ?_, ImOK_up hi, (by show ex.2 16 0 = 0; rw [hx5 16 (by decide) (by decide)]; exact hsx.1), (by show ex.2 17 0 = 0; rw [hx5 17 (by decide) (by decide)]; exact hsx.2)⟩
        · unfold f_x_join f_Net_merge
          rw [bnd_s e1, if_neg (by decide), bnd_s e3, if_neg (by decide), if_neg hne, merge_x, bnd_s hx1]
          simp only [nam_e]
          rw [hx2, hxN, show nI (N + 1) - (1 : Int32) = nI N from nI_pred N, bnd_s rfl, sS1s]
        · unfold f_m_join f_m_changed
          rw [nam_e, bnd_s e2, if_neg (by decide), bnd_s e4, if_neg (by decide), if_neg hne, merge_m, bnd_s hm1']
          simp only [nam_e]
          rw [hm2, show (sS τ 0 0).1 1 = nI (N + 1) from hmN, show nI (N + 1) - (1 : Int32) = nI N from nI_pred N, bnd_s rfl]
          rfl
        · have h1 := har q hq
          exact ⟨jn_lt hu hw h1.1 huw, jn_lt hu hw h1.2.1 huw, h1.2.2⟩
        · show ex.1 129 = _; rw [hx2]; exact hx.1.2.1
        · show ex.2 3 q = _ ∧ ex.2 4 q = _ ∧ ex.2 5 q = _
          exact ⟨hx3 q hq, hx4 q hq, by rw [hx5 5 (by decide) (by decide)]; exact (hxn q hq).2.2⟩
        · show ex.1 66 = _; rw [hx2]
        · show ex.1 384 = _; rw [hx2]
        · show ex.1 385 = _; rw [hx2]
        · exact hx5 7 (by decide) (by decide)
        · exact hx5 8 (by decide) (by decide)
        · rfl
        · show em.1 2 = _; rw [hm2]; exact hm.1.1.2.1
        · show em.2 1 q = _ ∧ em.2 2 q = _ ∧ em.2 3 q = _
          exact ⟨hm3 q hq, hm4 q hq, by rw [hm5 3 (by decide) (by decide)]; exact (hmn q hq).2.2⟩
        · show em.1 6 = _; rw [hm2]; rfl
        · show em.1 7 = _; rw [hm2]; rfl
        · show em.1 8 = _; rw [hm2]; rfl
        · show em.1 9 = _; rw [hm2]; rfl
        · intro q h4 h18
          exact hm5 q (by omega) (by omega)
    · refine ⟨-1, σ, sS τ 0 0, ?_, ?_, stay⟩
      · unfold f_x_join j_x_join_33; rw [bnd_s e1, if_neg (by decide), bnd_s e3, if_pos rfl]
      · unfold f_m_join j_m_join_26; rw [nam_e, bnd_s e2, if_neg (by decide), bnd_s e4, if_pos rfl]
  · refine ⟨-1, σ, sS τ 0 0, ?_, ?_, stay⟩
    · unfold f_x_join j_x_join_33; rw [bnd_s e1, if_pos rfl]
    · unfold f_m_join j_m_join_26; rw [nam_e, bnd_s e2, if_pos rfl]
