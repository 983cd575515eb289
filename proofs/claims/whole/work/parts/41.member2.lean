theorem memberAt_neg {σ : ST} {a : Int32} (h : a < 0) (n : Nat) (hn : 1000 ≤ n) : f_Fam_memberAt n σ a = some 0 := by
  have hl : lp (b_Fam_memberAt_4 n σ a) n ((0 : Int32), (1 : Int32)) = some (.inl ()) := by
    refine lp_for (fun _ => ((0 : Int32), (1 : Int32))) 0 (fun i hi => absurd hi (Nat.not_lt_zero _)) ?_ n (by omega)
    unfold b_Fam_memberAt_4
    show (if (256 : Int32) ≤ 1 then _ else _) = _
    rw [if_neg (by decide)]
    show (if a < 0 then _ else _) = _
    rw [if_pos h]
  unfold f_Fam_memberAt
  rw [bnd_s hl]
  rfl
/-- what member answers at a hit -/
def mAns (T : Nat → Nat) (s : Nat) (b : Int32) : Int32 := if b = 0 then nI s else if b = 1 then nI (T s) else -1
theorem m_member_out {τ : ST} {a b : Int32} (h : τ.1 8 = 0 ∨ a < 0) (n : Nat) (hn : 1000 ≤ n) : f_m_member n τ a b = some (-1, sS τ 0 0) := by
  have hl : lp (b_m_member_10 n (sS τ 0 0) a b) n (a, (0 : Int32)) = some (.inl ()) := by
    refine lp_for (fun _ => (a, (0 : Int32))) 0 (fun i hi => absurd hi (Nat.not_lt_zero _)) ?_ n (by omega)
    unfold b_m_member_10
    show (if (256 : Int32) ≤ 0 then _ else _) = _
    rw [if_neg (by decide)]
    show (if τ.1 8 = 0 then _ else _) = _
    by_cases h8 : τ.1 8 = 0
    · rw [if_pos h8]
    · rw [if_neg h8, if_pos (h.resolve_left h8)]
  unfold f_m_member
  rw [nam_e, bnd_s hl]
  rfl
theorem p_mmember {τ : ST} {T : Nat → Nat} (h8 : τ.1 8 = 1) (hT : ∀ s, s < 256 → τ.2 5 s = nI (T s) ∧ T s < 2 ^ 31) (n : Nat) (hn : 1000 ≤ n) {kk : Nat} (hk : kk < 2 ^ 31) (b : Int32) : (∀ s, s < 256 → T s ≠ 0 → cnt T s = kk → f_m_member n τ (nI kk) b = some (mAns T s b, sS τ 0 0)) ∧ ((∀ s, s < 256 → T s ≠ 0 → cnt T s ≠ kk) → f_m_member n τ (nI kk) b = some (-1, sS τ 0 0)) := by
  have pre : ∀ i (l : Int32), i < 256 → b_m_member_10 n (sS τ 0 0) (nI kk) b (l, nI i) = if nI (T i) = 0 then some (.inl (l, nI (i + 1))) else if l = 0 then some (.inr (.inr (mAns T i b, sS τ 0 0))) else some (.inl (l + (-1), nI (i + 1))) := by
    intro i l hi
    unfold b_m_member_10 j_m_member_75_10 j_m_member_71_10
    show (if (256 : Int32) ≤ nI i then _ else _) = _
    rw [if_neg (show ¬ (256 : Int32) ≤ nI i from nI_ge (b := 256) hi (by decide))]
    show (if τ.1 8 = 0 then _ else _) = _
    rw [h8, if_neg (by decide), if_neg (nI_pos hk)]
    show grd (jin (nI i) 256) _ = _
    rw [grd_t (jin_nI hi (by omega))]
    show (if τ.2 5 (jix (nI i)) = 0 then some (Sum.inl (l, nI i + 1)) else if l = 0 then (if b = 0 then some (Sum.inr (Sum.inr (nI i, sS τ 0 0))) else if b = 1 then grd (jin (nI i) 256) (some (Sum.inr (Sum.inr (τ.2 5 (jix (nI i)), sS τ 0 0)))) else some (Sum.inr (Sum.inr ((-1 : Int32), sS τ 0 0)))) else some (Sum.inl (l + (-1), nI i + 1))) = _
    rw [jix_nI (by omega), (hT i hi).1, show nI i + (1 : Int32) = nI (i + 1) from nI_1 i, grd_t (jin_nI hi (by omega))]
    by_cases h1 : nI (T i) = 0
    · rw [if_pos h1, if_pos h1]
    · rw [if_neg h1, if_neg h1]
      by_cases h2 : l = 0
      · rw [if_pos h2, if_pos h2]
        unfold mAns
        by_cases h3 : b = 0
        · rw [if_pos h3, if_pos h3]
        · rw [if_neg h3, if_neg h3]
          by_cases h4 : b = 1
          · rw [if_pos h4, if_pos h4]
          · rw [if_neg h4, if_neg h4]
      · rw [if_neg h2, if_neg h2]
  have hz : ∀ i, i < 256 → (nI (T i) = 0 ↔ T i = 0) := fun i hi => ⟨fun q => nI_inj (hT i hi).2 (by decide) q, fun q => by rw [q]; rfl⟩
  have step : ∀ i, i < 256 → cnt T i ≤ kk → (T i ≠ 0 → cnt T i ≠ kk) → b_m_member_10 n (sS τ 0 0) (nI kk) b (nI (kk - cnt T i), nI i) = some (.inl (nI (kk - cnt T (i + 1)), nI (i + 1))) := by
    intro i hi hc hne
    rw [pre i _ hi]
    by_cases h1 : T i = 0
    · rw [if_pos ((hz i hi).mpr h1), cnt_s0 h1]
    · have hlt : cnt T i < kk := by have := hne h1; omega
      rw [if_neg (fun q => h1 ((hz i hi).mp q)), if_neg (nI_ne0 (by omega) (by omega)), cnt_s1 h1]
      obtain ⟨d, hd⟩ : ∃ d, kk - cnt T i = d + 1 := ⟨kk - cnt T i - 1, by omega⟩
      rw [hd, pk_m1, show kk - (cnt T i + 1) = d by omega]
  constructor
  · intro s hs hTs hcs
    have hl : lp (b_m_member_10 n (sS τ 0 0) (nI kk) b) n (nI kk, (0 : Int32)) = some (.inr (mAns T s b, sS τ 0 0)) := by
      refine lp_from (fun i => (nI (kk - cnt T i), nI i)) 0 s (Nat.zero_le _) (fun i h1 h2 => step i (by omega) ?_ ?_) ?_ n (by omega)
      · have := cnt_mono T (show i ≤ s by omega); omega
      · intro hTi q
        have := cnt_mono T (show i + 1 ≤ s by omega)
        rw [cnt_s1 hTi] at this
        omega
      · show b_m_member_10 n (sS τ 0 0) (nI kk) b (nI (kk - cnt T s), nI s) = _
        rw [pre s _ hs, if_neg (fun q => hTs ((hz s hs).mp q)), hcs, Nat.sub_self, if_pos (show nI 0 = (0 : Int32) from rfl)]
    unfold f_m_member
    rw [nam_e, bnd_s hl]
    rfl
  · intro hno
    have hl : lp (b_m_member_10 n (sS τ 0 0) (nI kk) b) n (nI kk, (0 : Int32)) = some (.inl ()) := by
      refine lp_from (fun i => (nI (kk - cnt T i), nI i)) 0 256 (Nat.zero_le _) (fun i h1 h2 => step i h2 (cnt_no hno i (by omega)) (hno i h2)) ?_ n (by omega)
      unfold b_m_member_10
      show (if (256 : Int32) ≤ nI 256 then _ else _) = _
      rw [if_pos (by decide)]
    unfold f_m_member
    rw [nam_e, bnd_s hl]
    rfl
theorem sim_member (n : Nat) (hn : 1000 ≤ n) : Sim_member n TheInv := by
  intro j σ it τ bb a b hj h
  obtain ⟨v, ji, ok, hx, hm, hi, hsx⟩ := h
  have hm1 := RF_code hm 0
  have stay : TheInv (j + 1) σ it (sS τ 0 0) := ⟨v, ji, okB_up ok, hx, hm1, ImOK_up hi, hsx⟩
  have none' : f_Fam_memberAt n σ a = some 0 → f_x_member n σ a b = some (-1) := by
    intro h
    unfold f_x_member
    rw [bnd_s h, if_pos rfl]
  by_cases ha : a < 0
  · exact ⟨-1, sS τ 0 0, none' (memberAt_neg ha n hn), m_member_out (Or.inr ha) n hn, stay⟩
  obtain ⟨kk, hkk, rfl⟩ := nI_of ha
  have hTx : ∀ s, s < 256 → σ.2 7 s = nI (famT v.2.2 s) ∧ famT v.2.2 s < 2 ^ 31 := fun s hs => ⟨famX_times hx hs, by have := famT_le ok hs; omega⟩
  have hf : isFam (τ.1 8) (τ.1 9) (τ.2 5) (τ.2 4) v.2.2 := hm.1.2.2
  rcases p_memberAt hTx (famT_0 ok) n hn hkk with ⟨s, hs1, hs, hTs, hcs, he⟩ | ⟨hno, he⟩
  · cases hv : v.2.2 with
    | none => rw [hv] at hTs; exact absurd rfl hTs
    | some f =>
      have hfT : famT v.2.2 = f.2.1 := by rw [hv]; rfl
      rw [hv] at hf
      have hTm : ∀ s, s < 256 → τ.2 5 s = nI (f.2.1 s) ∧ f.2.1 s < 2 ^ 31 := fun s hs => ⟨hf.2.2.1 s hs, by have := (hTx s hs).2; rw [hfT] at this; exact this⟩
      rw [hfT] at hTs hcs
      refine ⟨mAns f.2.1 s b, sS τ 0 0, ?_, (p_mmember hf.1 hTm n hn hkk b).1 s hs hTs hcs, stay⟩
      unfold f_x_member mAns
      rw [bnd_s he, if_neg (nI_ne0 (by omega) (by omega))]
      by_cases h3 : b = 0
      · rw [if_pos h3, if_pos h3]
      · rw [if_neg h3, if_neg h3]
        by_cases h4 : b = 1
        · rw [if_pos h4, if_pos h4, grd_t (jin_nI hs (by omega)), jix_nI (by omega), (hTx s hs).1, hfT]
        · rw [if_neg h4, if_neg h4]
  · refine ⟨-1, sS τ 0 0, none' he, ?_, stay⟩
    cases hv : v.2.2 with
    | none => rw [hv] at hf; exact m_member_out (Or.inl hf) n hn
    | some f =>
      have hfT : famT v.2.2 = f.2.1 := by rw [hv]; rfl
      rw [hv] at hf
      have hTm : ∀ s, s < 256 → τ.2 5 s = nI (f.2.1 s) ∧ f.2.1 s < 2 ^ 31 := fun s hs => ⟨hf.2.2.1 s hs, by have := (hTx s hs).2; rw [hfT] at this; exact this⟩
      rw [hfT] at hno
      exact (p_mmember hf.1 hTm n hn hkk b).2 hno
