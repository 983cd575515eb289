/-! member -/
def famT (f : Option FV) : Nat → Nat := match f with
  | none => fun _ => 0
  | some f => f.2.1
theorem famX_times {σ : ST} {v : BV} (h : RX σ v) {s : Nat} (hs : s < 256) : σ.2 7 s = nI (famT v.2.2 s) := by
  have h1 := h.2.2
  revert h1
  cases v.2.2 with
  | none => exact fun h1 => h1.2.1 s hs
  | some f => exact fun h1 => h1.2.2.1 s hs
theorem famT_0 {j : Nat} {v : BV} (ok : okB j v) : famT v.2.2 0 = 0 := by
  have h1 := ok.2.2
  revert h1
  cases v.2.2 with
  | none => exact fun _ => rfl
  | some f => exact fun h1 => (h1 f rfl).2.2.1
theorem famT_le {j : Nat} {v : BV} (ok : okB j v) {s : Nat} (hs : s < 256) : famT v.2.2 s ≤ 16000 + 1000 * j := by
  have h1 := ok.2.2
  revert h1
  cases v.2.2 with
  | none => exact fun _ => Nat.zero_le _
  | some f => exact fun h1 => okF_le (h1 f rfl) hs
def cnt (T : Nat → Nat) : Nat → Nat
  | 0 => 0
  | i + 1 => cnt T i + if T i = 0 then 0 else 1
theorem cnt_le (T : Nat → Nat) : ∀ i, cnt T i ≤ i := by
  intro i
  induction i with
  | zero => exact Nat.le_refl _
  | succ i ih =>
    show cnt T i + (if T i = 0 then 0 else 1) ≤ i + 1
    by_cases h : T i = 0
    · rw [if_pos h]; omega
    · rw [if_neg h]; omega
theorem cnt_s0 {T : Nat → Nat} {i : Nat} (h : T i = 0) : cnt T (i + 1) = cnt T i := by
  show cnt T i + (if T i = 0 then 0 else 1) = cnt T i
  rw [if_pos h]; rfl
theorem cnt_s1 {T : Nat → Nat} {i : Nat} (h : T i ≠ 0) : cnt T (i + 1) = cnt T i + 1 := by
  show cnt T i + (if T i = 0 then 0 else 1) = cnt T i + 1
  rw [if_neg h]
theorem cnt_mono (T : Nat → Nat) {i j : Nat} (h : i ≤ j) : cnt T i ≤ cnt T j := by
  induction j with
  | zero => rw [show i = 0 by omega]; exact Nat.le_refl _
  | succ j ih =>
    by_cases hj : i = j + 1
    · rw [hj]; exact Nat.le_refl _
    · exact Nat.le_trans (ih (by omega)) (Nat.le_add_right _ _)
theorem cnt_no {T : Nat → Nat} {kk : Nat} (h : ∀ s, s < 256 → T s ≠ 0 → cnt T s ≠ kk) : ∀ i, i ≤ 256 → cnt T i ≤ kk := by
  intro i
  induction i with
  | zero => exact fun _ => Nat.zero_le _
  | succ i ih =>
    intro hi
    have h1 := ih (by omega)
    by_cases h2 : T i = 0
    · rw [cnt_s0 h2]; exact h1
    · rw [cnt_s1 h2]
      have := h i (by omega) h2
      omega
theorem p_memberAt {σ : ST} {T : Nat → Nat} (hT : ∀ s, s < 256 → σ.2 7 s = nI (T s) ∧ T s < 2 ^ 31) (h0 : T 0 = 0) (n : Nat) (hn : 1000 ≤ n) {kk : Nat} (hk : kk < 2 ^ 31) : (∃ s, 1 ≤ s ∧ s < 256 ∧ T s ≠ 0 ∧ cnt T s = kk ∧ f_Fam_memberAt n σ (nI kk) = some (nI s)) ∨ ((∀ s, s < 256 → T s ≠ 0 → cnt T s ≠ kk) ∧ f_Fam_memberAt n σ (nI kk) = some 0) := by
  have step : ∀ i, i < 256 → cnt T i ≤ kk → (T i ≠ 0 → cnt T i ≠ kk) → b_Fam_memberAt_4 n σ (nI kk) (nI (cnt T i), nI i) = some (.inl (nI (cnt T (i + 1)), nI (i + 1))) := by
    intro i hi hc hne
    have hci := cnt_le T i
    unfold b_Fam_memberAt_4 j_Fam_memberAt_35_4
    show (if (256 : Int32) ≤ nI i then _ else _) = _
    rw [if_neg (show ¬ (256 : Int32) ≤ nI i from nI_ge (b := 256) hi (by decide))]
    show (if nI kk < nI (cnt T i) then _ else _) = _
    rw [if_neg (nI_nlt hc (by omega)), grd_t (jin_nI hi (by omega))]
    show (if σ.2 7 (jix (nI i)) ≤ 0 then _ else _) = _
    rw [jix_nI (by omega), (hT i hi).1]
    by_cases h1 : T i = 0
    · rw [h1, if_pos (by decide), cnt_s0 h1]
      show some (Sum.inl (nI (cnt T i), nI i + 1)) = _
      rw [show nI i + (1 : Int32) = nI (i + 1) from nI_1 i]
    · rw [if_neg (nI_nle (by omega) (hT i hi).2)]
      show (if nI (cnt T i) = nI kk then _ else _) = _
      rw [if_neg (fun q => hne h1 (nI_inj (by omega) hk q)), cnt_s1 h1]
      show some (Sum.inl (nI (cnt T i) + 1, nI i + 1)) = _
      rw [show nI i + (1 : Int32) = nI (i + 1) from nI_1 i, show nI (cnt T i) + (1 : Int32) = nI (cnt T i + 1) from nI_1 _]
  have start : ((0 : Int32), (1 : Int32)) = (nI (cnt T 1), nI 1) := by rw [cnt_s0 h0]; rfl
  by_cases hex : ∃ s, s < 256 ∧ T s ≠ 0 ∧ cnt T s = kk
  · obtain ⟨s, hs, hTs, hcs⟩ := hex
    have hs1 : 1 ≤ s := by
      rcases Nat.eq_zero_or_pos s with q | q
      · subst q; exact absurd h0 hTs
      · exact q
    refine Or.inl ⟨s, hs1, hs, hTs, hcs, ?_⟩
    have hl : lp (b_Fam_memberAt_4 n σ (nI kk)) n ((0 : Int32), (1 : Int32)) = some (.inr (nI s)) := by
      rw [start]
      refine lp_from (fun i => (nI (cnt T i), nI i)) 1 s hs1 (fun i h1 h2 => step i (by omega) ?_ ?_) ?_ n (by omega)
      · have := cnt_mono T (show i ≤ s by omega); omega
      · intro hTi q
        have := cnt_mono T (show i + 1 ≤ s by omega)
        rw [cnt_s1 hTi] at this
        omega
      · have hci := cnt_le T s
        unfold b_Fam_memberAt_4
        show (if (256 : Int32) ≤ nI s then _ else _) = _
        rw [if_neg (show ¬ (256 : Int32) ≤ nI s from nI_ge (b := 256) hs (by decide))]
        show (if nI kk < nI (cnt T s) then _ else _) = _
        rw [if_neg (nI_nlt (by omega) (by omega)), grd_t (jin_nI hs (by omega))]
        show (if σ.2 7 (jix (nI s)) ≤ 0 then _ else _) = _
        rw [jix_nI (by omega), (hT s hs).1, if_neg (nI_nle (by omega) (hT s hs).2)]
        show (if nI (cnt T s) = nI kk then _ else _) = _
        rw [hcs, if_pos rfl]
    unfold f_Fam_memberAt
    rw [bnd_s hl]
    rfl
  · have hno : ∀ s, s < 256 → T s ≠ 0 → cnt T s ≠ kk := fun s hs hTs hc => hex ⟨s, hs, hTs, hc⟩
    refine Or.inr ⟨hno, ?_⟩
    have hl : lp (b_Fam_memberAt_4 n σ (nI kk)) n ((0 : Int32), (1 : Int32)) = some (.inl ()) := by
      rw [start]
      refine lp_from (fun i => (nI (cnt T i), nI i)) 1 256 (by decide) (fun i h1 h2 => step i h2 (cnt_no hno i (by omega)) (hno i h2)) ?_ n (by omega)
      unfold b_Fam_memberAt_4
      show (if (256 : Int32) ≤ nI 256 then _ else _) = _
      rw [if_pos (by decide)]
    unfold f_Fam_memberAt
    rw [bnd_s hl]
    rfl
