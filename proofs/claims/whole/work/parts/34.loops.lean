/-! loops by invariant; drop and join -/
theorem lp_inv {S E : Type} {body : S → Option (S ⊕ E)} (I : Nat → S → Prop) (Q : E → Prop) (N : Nat) (hs : ∀ i s, i < N → I i s → ∃ s', body s = some (.inl s') ∧ I (i + 1) s') (he : ∀ s, I N s → ∃ e, body s = some (.inr e) ∧ Q e) : ∀ n i s, i ≤ N → N - i < n → I i s → ∃ e, lp body n s = some e ∧ Q e := by
  intro n
  induction n with
  | zero => intro i s _ h; omega
  | succ n ih =>
    intro i s h1 h2 h3
    by_cases hi : i = N
    · subst hi
      obtain ⟨e, h4, h5⟩ := he s h3
      refine ⟨e, ?_, h5⟩
      show (match body s with | none => none | some (.inl s') => lp body n s' | some (.inr e) => some e) = some e
      rw [h4]
    · obtain ⟨s', h4, h5⟩ := hs i s (by omega) h3
      obtain ⟨e, h6, h7⟩ := ih (i + 1) s' (by omega) (by omega) h5
      refine ⟨e, ?_, h7⟩
      show (match body s with | none => none | some (.inl s') => lp body n s' | some (.inr e) => some e) = some e
      rw [h4]
      exact h6
theorem RX_of {σ e : ST} {v v1 : BV} (h : RX σ v) (hn : isNet (e.1 128) (e.1 129) (e.2 3) (e.2 4) (e.2 5) v1.1) (hv : v1.2 = v.2) (h66 : e.1 66 = σ.1 66) (h384 : e.1 384 = σ.1 384) (h385 : e.1 385 = σ.1 385) (h7 : e.2 7 = σ.2 7) (h8 : e.2 8 = σ.2 8) : RX e v1 := by
  refine ⟨hn, ?_, ?_⟩
  · rw [h66, hv]; exact h.2.1
  · rw [hv, h384, h385, h7, h8]; exact h.2.2
theorem RF_of {τ e : ST} {v v1 : BV} {ji : Nat → Option BV} (h : RF τ v ji) (hn : isNet (e.1 1) (e.1 2) (e.2 1) (e.2 2) (e.2 3) v1.1) (hv : v1.2 = v.2) (h6 : e.1 6 = τ.1 6) (h7 : e.1 7 = τ.1 7) (h8 : e.1 8 = τ.1 8) (h9 : e.1 9 = τ.1 9) (h24 : e.1 24 = 0) (h31 : e.1 31 = 0) (ha : ∀ q, 4 ≤ q → q < 18 → e.2 q = τ.2 q) : RF e v1 ji := by
  refine ⟨⟨hn, ?_, ?_⟩, RC_fresh h24 h31, ?_⟩
  · rw [hv, h6, h7]; exact h.1.2.1
  · rw [hv, h8, h9, ha 5 (by decide) (by decide), ha 4 (by decide) (by decide)]; exact h.1.2.2
  · intro k hk
    have h1 := h.2.2 k hk
    revert h1
    cases ji k with
    | none => intro h1; show e.2 6 k = 0; rw [ha 6 (by decide) (by decide)]; exact h1
    | some w =>
      intro h1
      show e.2 6 k = 1 ∧ RI e k w
      unfold RI
      rw [ha 6 (by decide) (by decide), ha 7 (by decide) (by decide), ha 8 (by decide) (by decide), ha 9 (by decide) (by decide), ha 10 (by decide) (by decide), ha 11 (by decide) (by decide), ha 12 (by decide) (by decide), ha 13 (by decide) (by decide), ha 14 (by decide) (by decide), ha 15 (by decide) (by decide), ha 16 (by decide) (by decide), ha 17 (by decide) (by decide)]
      exact h1
/-- three rows moved down by one, as class and reference do it -/
def gshift (c p : Nat) (s : ST × Int32) : Option ((ST × Int32) ⊕ (ST)) :=
  if (s.1.1 c) ≤ s.2 then
    some (.inr s.1)
  else
    grd (jin (s.2 + (1 : Int32)) 16) <|
    grd (jin s.2 16) <|
    nam (sA s.1 p (upd (s.1.2 p) (jix s.2) (s.1.2 p (jix (s.2 + (1 : Int32)))))) fun σ2 =>
    grd (jin (s.2 + (1 : Int32)) 16) <|
    grd (jin s.2 16) <|
    nam (sA σ2 (p + 1) (upd (σ2.2 (p + 1)) (jix s.2) (σ2.2 (p + 1) (jix (s.2 + (1 : Int32)))))) fun σ3 =>
    grd (jin (s.2 + (1 : Int32)) 16) <|
    grd (jin s.2 16) <|
    nam (sA σ3 (p + 2) (upd (σ3.2 (p + 2)) (jix s.2) (σ3.2 (p + 2) (jix (s.2 + (1 : Int32)))))) fun σ4 =>
    some (.inl (σ4, s.2 + (1 : Int32)))
theorem shift_x (n : Nat) : b_Net_remove_12 n = gshift 129 3 := rfl
theorem shift_m (n : Nat) : b_m_drop_27 n = gshift 2 1 := rfl
def shf (a i : Nat) (f : Nat → Int32) : Nat → Int32 := fun x => if a ≤ x ∧ x < i then f (x + 1) else f x
theorem shf_step {a i : Nat} {f : Nat → Int32} (h : a ≤ i) : upd (shf a i f) i (shf a i f (i + 1)) = shf a (i + 1) f := by
  funext x
  unfold upd shf
  by_cases hx : x = i
  · subst hx
    rw [if_pos rfl, if_neg (by omega), if_pos ⟨h, by omega⟩]
  · rw [if_neg hx]
    by_cases h1 : a ≤ x ∧ x < i
    · rw [if_pos h1, if_pos ⟨h1.1, by omega⟩]
    · rw [if_neg h1, if_neg (fun q => h1 ⟨q.1, by omega⟩)]
theorem shf_0 {a : Nat} {f : Nat → Int32} : shf a a f = f := by
  funext x
  unfold shf
  rw [if_neg (by omega)]
theorem p_shift {c p : Nat} {σ : ST} {a k : Nat} (hc : σ.1 c = nI k) (hk : k < 16) (ha : a ≤ k) (n : Nat) (hn : 16 < n) : ∃ e, lp (gshift c p) n (σ, nI a) = some e ∧ e.1 = σ.1 ∧ e.2 p = shf a k (σ.2 p) ∧ e.2 (p + 1) = shf a k (σ.2 (p + 1)) ∧ e.2 (p + 2) = shf a k (σ.2 (p + 2)) ∧ ∀ q, q ≠ p → q ≠ p + 1 → q ≠ p + 2 → e.2 q = σ.2 q := by
  refine lp_inv (fun (i : Nat) (s : ST × Int32) => s.2 = nI i ∧ a ≤ i ∧ s.1.1 = σ.1 ∧ s.1.2 p = shf a i (σ.2 p) ∧ s.1.2 (p + 1) = shf a i (σ.2 (p + 1)) ∧ s.1.2 (p + 2) = shf a i (σ.2 (p + 2)) ∧ ∀ q, q ≠ p → q ≠ p + 1 → q ≠ p + 2 → s.1.2 q = σ.2 q) (fun (e : ST) => e.1 = σ.1 ∧ e.2 p = shf a k (σ.2 p) ∧ e.2 (p + 1) = shf a k (σ.2 (p + 1)) ∧ e.2 (p + 2) = shf a k (σ.2 (p + 2)) ∧ ∀ q, q ≠ p → q ≠ p + 1 → q ≠ p + 2 → e.2 q = σ.2 q) k ?_ ?_ n a (σ, nI a) ha (by omega) ⟨rfl, Nat.le_refl _, rfl, shf_0.symm, shf_0.symm, shf_0.symm, fun _ _ _ _ => rfl⟩
  · intro i s hi ⟨h1, h2, h3, h4, h5, h6, h7⟩
    obtain ⟨ρ, t⟩ := s
    subst h1
    have h3 : ρ.1 = σ.1 := h3
    have e1 : nI i + (1 : Int32) = nI (i + 1) := nI_1 i
    refine ⟨(sA (sA (sA ρ p (upd (ρ.2 p) i (ρ.2 p (i + 1)))) (p + 1) (upd (ρ.2 (p + 1)) i (ρ.2 (p + 1) (i + 1)))) (p + 2) (upd (ρ.2 (p + 2)) i (ρ.2 (p + 2) (i + 1))), nI (i + 1)), ?_, rfl, by omega, h3, ?_, ?_, ?_, ?_⟩
    · unfold gshift
      show (if ρ.1 c ≤ nI i then _ else _) = _
      rw [h3, hc, if_neg (nI_ge hi (by omega))]
      simp only [nam_e, e1, jix_nI (show i < 2 ^ 31 by omega), jix_nI (show i + 1 < 2 ^ 31 by omega)]
      rw [grd_t (jin_nI (by omega) (by omega)), grd_t (jin_nI (by omega) (by omega)), grd_t (jin_nI (by omega) (by omega)), grd_t (jin_nI (by omega) (by omega)), grd_t (jin_nI (by omega) (by omega)), grd_t (jin_nI (by omega) (by omega))]
      rw [sA2n _ _ (show p + 1 ≠ p by omega), sA2n _ _ (show p + 2 ≠ p + 1 by omega), sA2n _ _ (show p + 2 ≠ p by omega)]
    · show (sA (sA (sA ρ p _) (p + 1) _) (p + 2) _).2 p = _
      rw [sA2n _ _ (show p ≠ p + 2 by omega), sA2n _ _ (show p ≠ p + 1 by omega), sA2s]
      have h4 : ρ.2 p = shf a i (σ.2 p) := h4
      rw [h4]; exact shf_step h2
    · show (sA (sA (sA ρ p _) (p + 1) _) (p + 2) _).2 (p + 1) = _
      rw [sA2n _ _ (show p + 1 ≠ p + 2 by omega), sA2s]
      have h5 : ρ.2 (p + 1) = shf a i (σ.2 (p + 1)) := h5
      rw [h5]; exact shf_step h2
    · show (sA (sA (sA ρ p _) (p + 1) _) (p + 2) _).2 (p + 2) = _
      rw [sA2s]
      have h6 : ρ.2 (p + 2) = shf a i (σ.2 (p + 2)) := h6
      rw [h6]; exact shf_step h2
    · intro q q1 q2 q3
      show (sA (sA (sA ρ p _) (p + 1) _) (p + 2) _).2 q = _
      rw [sA2n _ _ q3, sA2n _ _ q2, sA2n _ _ q1]
      exact h7 q q1 q2 q3
  · intro s ⟨h1, h2, h3, h4, h5, h6, h7⟩
    refine ⟨s.1, ?_, h3, h4, h5, h6, h7⟩
    unfold gshift
    rw [h1, h3, hc, if_pos (nI_le (Nat.le_refl _) (by omega))]
theorem shf_nI {a k i : Nat} {f : Nat → Int32} {F : Nat → Nat} (h : ∀ q, q < k + 1 → f q = nI (F q)) (hi : i < k) : shf a k f i = nI (if a ≤ i then F (i + 1) else F i) := by
  unfold shf
  by_cases h1 : a ≤ i
  · rw [if_pos ⟨h1, hi⟩, if_pos h1, h _ (by omega)]
  · rw [if_neg (fun q => h1 q.1), if_neg h1, h _ (by omega)]
theorem sim_drop (n : Nat) (hn : 1000 ≤ n) : Sim_drop n TheInv := by
  intro j σ it τ bb a hj h
  obtain ⟨⟨⟨N, k, T, H, W⟩, c, f⟩, ji, ok, hx, hm, hi, hsx⟩ := h
  have hm1 := RF_code hm 0
  have hk : k ≤ 16 := ok.1.2.2.1
  have stay : TheInv (j + 1) σ it (sS τ 0 0) := ⟨((N, k, T, H, W), c, f), ji, okB_up ok, hx, hm1, ImOK_up hi, hsx⟩
  rcases arc_both n (σ := σ) (τ := sS τ 0 0) hx.1.2.1 hm1.1.1.2.1 hk a with ⟨i, hik, rfl, e1, e2⟩ | ⟨e1, e2⟩
  · have hik : i < k := hik
    obtain ⟨k, rfl⟩ : ∃ k1, k = k1 + 1 := ⟨k - 1, by omega⟩
    have hkx : σ.1 129 = nI (k + 1) := hx.1.2.1
    have hkm : τ.1 2 = nI (k + 1) := hm.1.1.2.1
    obtain ⟨ex, hx1, hx2, hx3, hx4, hx5, hx6⟩ := p_shift (c := 129) (p := 3) (σ := sS σ 129 (nI k)) (a := i) (k := k) (sS1s _ _ _) (by omega) (by omega) n (by omega)
    obtain ⟨em, hm1', hm2, hm3, hm4, hm5, hm6⟩ := p_shift (c := 2) (p := 1) (σ := sS (sS τ 0 0) 2 (nI k)) (a := i) (k := k) (sS1s _ _ _) (by omega) (by omega) n (by omega)
    have hxn : ∀ q, q < k + 1 → σ.2 3 q = nI (T q) ∧ σ.2 4 q = nI (H q) ∧ σ.2 5 q = nI (W q) := hx.1.2.2
    have hmn : ∀ q, q < k + 1 → τ.2 1 q = nI (T q) ∧ τ.2 2 q = nI (H q) ∧ τ.2 3 q = nI (W q) := hm.1.1.2.2
    refine ⟨nI k, ex, sS (sS em 24 0) 31 0, ?_, ?_, ((N, k, fun q => if i ≤ q then T (q + 1) else T q, fun q => if i ≤ q then H (q + 1) else H q, fun q => if i ≤ q then W (q + 1) else W q), c, f), ji, ⟨⟨ok.1.1, ok.1.2.1, (by show k ≤ 16; omega), fun q hq => ?_⟩, ok.2.1, fun f hf => okF_up (ok.2.2 f hf)⟩, RX_of hx ⟨?_, ?_, fun q hq => ?_⟩ rfl ?_ ?_ ?_ ?_ ?_, RF_of hm ⟨?_, ?_, fun q hq => ?_⟩ rfl ?_ ?_ ?_ ?_ rfl rfl ?_, ImOK_up hi, (by rw [hx6 16 (by decide) (by decide) (by decide)]; exact hsx.1), (by rw [hx6 17 (by decide) (by decide) (by decide)]; exact hsx.2)⟩
    · unfold f_x_drop f_Net_remove
      rw [bnd_s e1, if_neg (by decide)]
      simp only [nam_e]
      rw [hkx, show nI (k + 1) - (1 : Int32) = nI k from nI_pred k, shift_x, bnd_s hx1, bnd_s rfl, hx2, sS1s]
    · unfold f_m_drop f_m_changed
      rw [nam_e, bnd_s e2, if_neg (by decide)]
      simp only [nam_e]
      rw [show (sS τ 0 0).1 2 = nI (k + 1) from hkm, show nI (k + 1) - (1 : Int32) = nI k from nI_pred k, shift_m, bnd_s hm1', bnd_s rfl]
      rw [show (sS (sS em 24 0) 31 0).1 2 = em.1 2 from rfl, hm2, sS1s]
    · show (if i ≤ q then T (q + 1) else T q) < N ∧ (if i ≤ q then H (q + 1) else H q) < N ∧ (if i ≤ q then W (q + 1) else W q) ≤ 1000
      have hq : q < k := hq
      by_cases h1 : i ≤ q
      · rw [if_pos h1, if_pos h1, if_pos h1]; exact ok.1.2.2.2 (q + 1) (by show q + 1 < k + 1; omega)
      · rw [if_neg h1, if_neg h1, if_neg h1]; exact ok.1.2.2.2 q (by show q < k + 1; omega)
    · rw [hx2]; exact hx.1.1
    · rw [hx2, sS1s]; rfl
    · show ex.2 3 q = _ ∧ ex.2 4 q = _ ∧ ex.2 5 q = _
      have hq : q < k := hq
      rw [hx3, hx4, hx5]
      exact ⟨shf_nI (fun q hq => (hxn q hq).1) hq, shf_nI (fun q hq => (hxn q hq).2.1) hq, shf_nI (fun q hq => (hxn q hq).2.2) hq⟩
    · rw [hx2]; rfl
    · rw [hx2]; rfl
    · rw [hx2]; rfl
    · exact hx6 7 (by decide) (by decide) (by decide)
    · exact hx6 8 (by decide) (by decide) (by decide)
    · show em.1 1 = _; rw [hm2]; exact hm.1.1.1
    · show em.1 2 = _; rw [hm2, sS1s]; rfl
    · show em.2 1 q = _ ∧ em.2 2 q = _ ∧ em.2 3 q = _
      have hq : q < k := hq
      rw [hm3, hm4, hm5]
      exact ⟨shf_nI (fun q hq => (hmn q hq).1) hq, shf_nI (fun q hq => (hmn q hq).2.1) hq, shf_nI (fun q hq => (hmn q hq).2.2) hq⟩
    · show em.1 6 = _; rw [hm2]; rfl
    · show em.1 7 = _; rw [hm2]; rfl
    · show em.1 8 = _; rw [hm2]; rfl
    · show em.1 9 = _; rw [hm2]; rfl
    · intro q h4 h18
      show em.2 q = _
      exact hm6 q (by omega) (by omega) (by omega)
  · refine ⟨-1, σ, sS τ 0 0, ?_, ?_, stay⟩
    · unfold f_x_drop; rw [bnd_s e1, if_pos rfl]
    · unfold f_m_drop; rw [nam_e, bnd_s e2, if_pos rfl]
