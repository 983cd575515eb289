/-! draw -/
theorem mem_sides {v : NV} {s : Nat} : s ∈ sidesOf v ↔ 1 ≤ s ∧ s < 2 ^ nN v - 1 ∧ sideB v s = true := by
  unfold sidesOf sidesTo
  rw [List.mem_filter, List.mem_range, Bool.and_eq_true, decide_eq_true_eq]
  constructor
  · rintro ⟨h1, h2, h3⟩; exact ⟨h2, h1, h3⟩
  · rintro ⟨h1, h2, h3⟩; exact ⟨h2, h1, h3⟩
theorem getD_mem {l : List Nat} {x : Nat} (h : x < l.length) : l.getD x 0 ∈ l := by
  rw [List.getD_eq_getElem?_getD, List.getElem?_eq_getElem h]
  exact List.getElem_mem h
theorem mem_getD {l : List Nat} {s : Nat} (h : s ∈ l) : ∃ x, x < l.length ∧ l.getD x 0 = s := by
  obtain ⟨x, hx, e⟩ := List.getElem_of_mem h
  refine ⟨x, hx, ?_⟩
  rw [List.getD_eq_getElem?_getD, List.getElem?_eq_getElem hx]
  exact e
theorem long_sum {t : Nat} (ht : t < 2 ^ 30) {x : Int32} (h0 : ¬ lg_cmp ((nI t).toInt64 + x.toInt64) (0 : Int64) < 0) (h1 : lg_cmp ((nI t).toInt64 + x.toInt64) (1000 : Int64) ≤ 0) : ∃ u, u ≤ 1000 ∧ ((nI t).toInt64 + x.toInt64).toInt32 = nI u ∧ nI t + x = nI u := by
  rw [lg_cmp_lt] at h0
  rw [lg_cmp_le] at h1
  have hs : ((nI t).toInt64 + x.toInt64).toInt = (t : Int) + x.toInt := by
    rw [Int64.toInt_add, Int32.toInt_toInt64, Int32.toInt_toInt64, nI_toInt (by omega)]
    have h2 := Int32.toInt_lt x
    have h3 := Int32.le_toInt x
    rw [Int.bmod_eq_of_le] <;> omega
  have h0' : ¬ ((t : Int) + x.toInt < 0) := by
    intro q; apply h0; rw [Int64.lt_iff_toInt_lt, hs]; exact q
  have h1' : (t : Int) + x.toInt ≤ 1000 := by
    have := Int64.le_iff_toInt_le.mp h1
    rw [hs] at this; exact this
  have e32 : ((nI t).toInt64 + x.toInt64).toInt32 = nI t + x := by
    rw [Int64.toInt32_add, Int32.toInt32_toInt64, Int32.toInt32_toInt64]
  have hu : nI t + x = nI ((t : Int) + x.toInt).toNat := by
    apply Int32.toInt_inj.mp
    rw [Int32.toInt_add, nI_toInt (by omega), nI_toInt (by omega), Int.bmod_eq_of_le (by omega) (by omega)]
    omega
  exact ⟨((t : Int) + x.toInt).toNat, by omega, e32.trans hu, hu⟩
theorem totTo_set (T : Nat → Nat) (s u : Nat) : ∀ m, totTo (fun q => if q = s then u else T q) m + (if s < m then T s else 0) = totTo T m + (if s < m then u else 0) := by
  intro m
  induction m with
  | zero => rfl
  | succ m ih =>
    show totTo _ m + (if m = s then u else T m) + _ = totTo T m + T m + _
    by_cases h1 : m = s
    · subst h1
      rw [if_neg (Nat.lt_irrefl _), if_neg (Nat.lt_irrefl _)] at ih
      rw [if_pos rfl, if_pos (Nat.lt_succ_self _), if_pos (Nat.lt_succ_self _)]
      omega
    · rw [if_neg h1]
      by_cases h2 : s < m
      · rw [if_pos h2, if_pos h2] at ih
        rw [if_pos (show s < m + 1 by omega), if_pos (show s < m + 1 by omega)]
        omega
      · rw [if_neg h2, if_neg h2] at ih
        rw [if_neg (show ¬ s < m + 1 by omega), if_neg (show ¬ s < m + 1 by omega)]
        omega
theorem totTo_0 : ∀ m, totTo (fun _ => 0) m = 0 := by
  intro m
  induction m with
  | zero => rfl
  | succ m ih => show totTo _ m + 0 = 0; rw [ih]
def fam0 (N : Nat) (f : Option FV) : FV := f.getD (N, fun _ => 0, fun _ => 0)
theorem okF_fam0 {j N : Nat} {f : Option FV} (h1 : 1 ≤ N) (h8 : N ≤ 8) (ok : ∀ g, f = some g → okF j g) : okF j (fam0 N f) := by
  cases f with
  | some g => exact ok g rfl
  | none => exact ⟨h1, h8, rfl, fun s _ h => absurd rfl h, Nat.zero_le _, by show tot (fun _ => 0) ≤ _; unfold tot; rw [totTo_0]; omega⟩
def famD (F : FV) (s u B : Nat) (m : Int32) : FV := (F.1, fun q => if q = s then u else F.2.1 q, fun a => if B.testBit a then F.2.2 a + m else F.2.2 a)
theorem okF_famD {j : Nat} {F : FV} (ok : okF j F) {s u B : Nat} {m : Int32} (h1 : 1 ≤ s) (h2 : s < 2 ^ F.1 - 1) (hu : u ≤ 1000) : okF (j + 1) (famD F s u B m) := by
  obtain ⟨a1, a2, a3, a4, a5, a6⟩ := ok
  refine ⟨a1, a2, ?_, ?_, Nat.zero_le _, ?_⟩
  · show (if 0 = s then u else F.2.1 0) = 0
    rw [if_neg (by omega)]; exact a3
  · intro q hq h
    by_cases hqs : q = s
    · subst hqs; exact h2
    · have h : (if q = s then u else F.2.1 q) ≠ 0 := h
      rw [if_neg hqs] at h
      exact a4 q hq h
  · show totTo (fun q => if q = s then u else F.2.1 q) 256 ≤ _
    have h3 := totTo_set F.2.1 s u 256
    have h4 : totTo F.2.1 256 ≤ 16000 + 1000 * j := a6
    have h5 : (if s < 256 then u else 0) ≤ 1000 := by
      by_cases q : s < 256
      · rw [if_pos q]; exact hu
      · rw [if_neg q]; omega
    omega
theorem p_drawx {σ : ST} {v : NV} {c : Option Nat} {F : FV} (hx : RX σ (v, c, some F)) (ok : okN v) (n : Nat) (hn : 1000 ≤ n) {s u : Nat} {m : Int32} (hs : s < 256) (hu : σ.2 7 s + m = nI u) : ∃ e, j_x_draw_99 n σ (nI s) m = some (nI u, e) ∧ RX e (v, c, some (famD F s u (bor v s) m)) ∧ ∀ q, q ≠ 7 → q ≠ 8 → e.2 q = σ.2 q := by
  have hb := bor_lt v s
  have hk : 2 ^ nK v ≤ 2 ^ 16 := Nat.pow_le_pow_right (by decide) ok.2.2.1
  obtain ⟨e, e1, e2, e3, e4, e5⟩ := p_change (σ := σ) (B := bor v s) hs (by omega) m n hn
  refine ⟨e, ?_, ⟨?_, ?_, ?_, ?_, ?_, ?_⟩, e5⟩
  · unfold j_x_draw_99
    rw [bnd_s (p_entering hx.1 ok n hn (by omega)), bnd_s e1, grd_t (jin_nI hs (by omega)), jix_nI (by omega), e3, upd_s, hu]
  · rw [e2, e5 3 (by decide) (by decide), e5 4 (by decide) (by decide), e5 5 (by decide) (by decide)]; exact hx.1
  · rw [e2]; exact hx.2.1
  · rw [e2]; exact hx.2.2.1
  · rw [e2]; exact hx.2.2.2.1
  · intro q hq
    show e.2 7 q = nI (if q = s then u else F.2.1 q)
    rw [e3]
    by_cases hqs : q = s
    · subst hqs; rw [upd_s, if_pos rfl, hu]
    · rw [upd_n hqs, if_neg hqs]; exact hx.2.2.2.2.1 q hq
  · intro a ha
    show e.2 8 a = if (bor v s).testBit a then F.2.2 a + m else F.2.2 a
    rw [e4 a ha, hx.2.2.2.2.2 a ha]
theorem RF_fam {τ e : ST} {v : NV} {c : Option Nat} {f g : Option FV} {ji : Nat → Option BV} (hm : RF τ (v, c, f) ji) (e1 : ∀ k, k ≠ 8 → k ≠ 9 → k ≠ 0 → e.1 k = τ.1 k) (ho : ∀ q, q ≠ 4 → q ≠ 5 → q ≠ 22 → q ≠ 23 → e.2 q = τ.2 q) (hf : isFam (e.1 8) (e.1 9) (e.2 5) (e.2 4) g) : RF e (v, c, g) ji := by
  obtain ⟨hM, hC, hI⟩ := hm
  refine ⟨⟨?_, ?_, hf⟩, ?_, ?_⟩
  · rw [e1 1 (by decide) (by decide) (by decide), e1 2 (by decide) (by decide) (by decide), ho 1 (by decide) (by decide) (by decide) (by decide), ho 2 (by decide) (by decide) (by decide) (by decide), ho 3 (by decide) (by decide) (by decide) (by decide)]; exact hM.1
  · rw [e1 6 (by decide) (by decide) (by decide), e1 7 (by decide) (by decide) (by decide)]; exact hM.2.1
  · obtain ⟨c1, c2, c3, c4, c5⟩ := hC
    have e24 := e1 24 (by decide) (by decide) (by decide)
    have e31 := e1 31 (by decide) (by decide) (by decide)
    refine ⟨?_, ?_, ?_, ?_, ?_⟩
    · rw [e24]; exact c1
    · rw [e31]; exact c2
    · rw [e24, e31]; exact c3
    · rw [e24, e1 25 (by decide) (by decide) (by decide), ho 18 (by decide) (by decide) (by decide) (by decide), ho 19 (by decide) (by decide) (by decide) (by decide)]; exact c4
    · rw [e31, e1 29 (by decide) (by decide) (by decide), ho 20 (by decide) (by decide) (by decide) (by decide), ho 21 (by decide) (by decide) (by decide) (by decide)]; exact c5
  · intro k hk
    have h5 := hI k hk
    revert h5
    cases ji k with
    | none => intro h5; show e.2 6 k = 0; rw [ho 6 (by decide) (by decide) (by decide) (by decide)]; exact h5
    | some w =>
      intro h5
      show e.2 6 k = 1 ∧ RI e k w
      unfold RI
      rw [ho 6 (by decide) (by decide) (by decide) (by decide), ho 7 (by decide) (by decide) (by decide) (by decide), ho 8 (by decide) (by decide) (by decide) (by decide), ho 9 (by decide) (by decide) (by decide) (by decide), ho 10 (by decide) (by decide) (by decide) (by decide), ho 11 (by decide) (by decide) (by decide) (by decide), ho 12 (by decide) (by decide) (by decide) (by decide), ho 13 (by decide) (by decide) (by decide) (by decide), ho 14 (by decide) (by decide) (by decide) (by decide), ho 15 (by decide) (by decide) (by decide) (by decide), ho 16 (by decide) (by decide) (by decide) (by decide), ho 17 (by decide) (by decide) (by decide) (by decide)]
      exact h5
theorem p_drawm {τ : ST} {v : NV} {c : Option Nat} {F : FV} {ji : Nat → Option BV} (hm : RF τ (v, c, some F) ji) (ok : okN v) (n : Nat) (hn : 1000 ≤ n) {s u x : Nat} {m : Int32} {L : Int64} (hs : s < 256) (hu : L.toInt32 = nI u) (hx : x < 256) (hB : τ.2 19 x = nI (bor v s)) : ∃ e, j_m_draw_173 n τ (nI s) m (nI x) L = some (nI u, e) ∧ RF e (v, c, some (famD F s u (bor v s) m)) ji := by
  have hb := bor_lt v s
  have hk : 2 ^ nK v ≤ 2 ^ 16 := Nat.pow_le_pow_right (by decide) ok.2.2.1
  obtain ⟨hM, hC, hI⟩ := hm
  have hK : τ.1 2 = nI (nK v) := hM.1.2.1
  obtain ⟨e, e0, e1, e2, e3⟩ := lp_inv (body := b_m_draw_185 n m (nI x) L) (fun (i : Nat) (t : ST × Int32) => t.2 = nI i ∧ t.1.1 = τ.1 ∧ (∀ a, a < 16 → t.1.2 4 a = if a < i ∧ (bor v s).testBit a = true then τ.2 4 a + m else τ.2 4 a) ∧ ∀ q, q ≠ 4 → t.1.2 q = (sA τ 5 (upd (τ.2 5) s (nI u))).2 q) (fun (e : ST) => e.1 = τ.1 ∧ (∀ a, a < 16 → e.2 4 a = if (bor v s).testBit a = true then τ.2 4 a + m else τ.2 4 a) ∧ ∀ q, q ≠ 4 → e.2 q = (sA τ 5 (upd (τ.2 5) s (nI u))).2 q) (nK v) (by
      intro i t hi ⟨g1, g2, g3, g4⟩
      obtain ⟨ρ, y⟩ := t
      subst g1
      have k16 := ok.2.2.1
      have g2 : ρ.1 = τ.1 := g2
      have g3 : ∀ a, a < 16 → ρ.2 4 a = if a < i ∧ (bor v s).testBit a = true then τ.2 4 a + m else τ.2 4 a := g3
      have g4 : ∀ q, q ≠ 4 → ρ.2 q = (sA τ 5 (upd (τ.2 5) s (nI u))).2 q := g4
      have gi : jin (nI i) 16 = true := jin_nI (by omega) (by omega)
      have hji : jix (nI i) = i := jix_nI (by omega)
      have r4 : ρ.2 4 i = τ.2 4 i := by rw [g3 i (by omega), if_neg (fun q => Nat.lt_irrefl _ q.1)]
      have r19 : ρ.2 19 x = nI (bor v s) := by rw [g4 19 (by decide)]; exact hB
      have eb : b_m_draw_185 n m (nI x) L (ρ, nI i) = some (.inl (sA ρ 4 (upd (ρ.2 4) i (τ.2 4 i + if (bor v s).testBit i = true then m else 0)), nI (i + 1))) := by
        unfold b_m_draw_185 j_m_draw_221_185
        show (if ρ.1 2 ≤ nI i then _ else _) = _
        rw [g2, hK, if_neg (nI_ge hi (by omega))]
        simp only [nam_e, hji, grd_t gi, grd_t (jin_nI hx (show x < 2 ^ 31 by omega)), jix_nI (show x < 2 ^ 31 by omega), r19, r4]
        rw [show nI i + (1 : Int32) = nI (i + 1) from nI_1 i]
        by_cases hbt : (bor v s).testBit i = true
        · rw [if_neg (fun q => by rw [(bit_nI (by omega) (by omega)).mp q] at hbt; cases hbt), if_pos hbt]
        · rw [if_pos ((bit_nI (by omega) (by omega)).mpr (by simpa using hbt)), if_neg hbt]
      refine ⟨_, eb, rfl, g2, ?_, ?_⟩
      · intro a ha
        show upd (ρ.2 4) i (τ.2 4 i + if (bor v s).testBit i = true then m else 0) a = _
        by_cases hai : a = i
        · subst hai
          rw [upd_s]
          by_cases hbt : (bor v s).testBit a = true
          · rw [if_pos hbt, if_pos ⟨Nat.lt_succ_self _, hbt⟩]
          · rw [if_neg hbt, if_neg (fun q => hbt q.2), Int32.add_zero]
        · rw [upd_n hai, g3 a ha]
          by_cases h5 : a < i ∧ (bor v s).testBit a = true
          · rw [if_pos h5, if_pos ⟨by omega, h5.2⟩]
          · rw [if_neg h5, if_neg (fun q => h5 ⟨by omega, q.2⟩)]
      · intro q hq
        show (sA ρ 4 _).2 q = _
        rw [sA2n _ _ hq]; exact g4 q hq) (by
      intro t ⟨g1, g2, g3, g4⟩
      refine ⟨t.1, ?_, g2, fun a ha => ?_, g4⟩
      · unfold b_m_draw_185
        rw [g1, g2, hK, if_pos (nI_le (Nat.le_refl _) (by have := ok.2.2.1; omega))]
      · rw [g3 a ha]
        by_cases hbt : (bor v s).testBit a = true
        · have : a < nK v := by
            rcases Nat.lt_or_ge a (nK v) with q | q
            · exact q
            · rw [Nat.testBit_lt_two_pow (Nat.lt_of_lt_of_le hb (Nat.pow_le_pow_right (by decide) q))] at hbt; cases hbt
          rw [if_pos ⟨this, hbt⟩, if_pos hbt]
        · rw [if_neg (fun q => hbt q.2), if_neg hbt]) n 0 (sA τ 5 (upd (τ.2 5) s (nI u)), (0 : Int32)) (Nat.zero_le _) (by have := ok.2.2.1; omega) ⟨rfl, rfl, fun a ha => by rw [if_neg (fun q => Nat.not_lt_zero _ q.1)]; rfl, fun _ _ => rfl⟩
  refine ⟨e, ?_, RF_fam (f := some F) ⟨hM, hC, hI⟩ (fun k _ _ _ => by rw [e1]) (fun q h4 h5 _ _ => by rw [e3 q h4, sA2n _ _ h5]) ⟨?_, ?_, ?_, ?_⟩⟩
  · unfold j_m_draw_173
    rw [grd_t (jin_nI hs (by omega)), nam_e, jix_nI (by omega), hu, bnd_s e0]
  · rw [e1]; exact hM.2.2.1
  · rw [e1]; exact hM.2.2.2.1
  · intro q hq
    show e.2 5 q = nI (if q = s then u else F.2.1 q)
    rw [e3 5 (by decide), sA2s]
    by_cases hqs : q = s
    · subst hqs; rw [upd_s, if_pos rfl]
    · rw [upd_n hqs, if_neg hqs]; exact hM.2.2.2.2.1 q hq
  · intro a ha
    show e.2 4 a = if (bor v s).testBit a then F.2.2 a + m else F.2.2 a
    rw [e2 a ha, hM.2.2.2.2.2 a ha]
