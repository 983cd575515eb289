/-! node -/
theorem p_lowest {s k : Nat} (hs : s < 2 ^ 31) (hk : k < 32) (h1 : s.testBit k = true) (h2 : ∀ y, y < k → ¬ s.testBit y = true) (n : Nat) (hn : 1000 ≤ n) : f_m_lowest n (nI s) = some (nI k) := by
  have hl : lp (b_m_lowest_2 n (nI s)) n (0 : Int32) = some (nI k) := by
    refine lp_for (fun i => nI i) k (fun y hy => ?_) ?_ n (by omega)
    · unfold b_m_lowest_2
      rw [if_pos ((bit_nI hs (by omega)).mpr (by simpa using h2 y hy)), show nI y + (1 : Int32) = nI (y + 1) from nI_1 y]
    · unfold b_m_lowest_2
      rw [if_neg (fun q => by rw [(bit_nI hs (by omega)).mp q] at h1; cases h1)]
  unfold f_m_lowest
  rw [bnd_s hl]
theorem p_part {e : ST} {a b u k : Nat} (hu : u < 8) (ha : e.2 11 u = nI a) (hb : e.2 12 u = nI b) (hl : a < 2 ^ 31) (hk : k ≤ u) (h1 : (a &&& b).testBit k = true) (h2 : ∀ y, y < k → ¬ (a &&& b).testBit y = true) (n : Nat) (hn : 1000 ≤ n) : f_Paths_part n e (nI u) = some (nI k) := by
  have hab : a &&& b < 2 ^ 31 := Nat.lt_of_le_of_lt Nat.and_le_left hl
  unfold f_Paths_part
  rw [grd_t (jin_nI hu (by omega)), grd_t (jin_nI hu (by omega)), nam_e, jix_nI (by omega), ha, hb, and_nI]
  have step : ∀ y, y < k → b_Paths_part_16 n e (nI u) (nI (a &&& b)) (nI y) = some (.inl (nI (y + 1))) := by
    intro y hy
    unfold b_Paths_part_16
    rw [if_neg (nI_ge (show y < u by omega) (by omega)), bnd_s (p_contains n hab (by omega)), if_neg (h2 y hy), if_pos rfl, show nI y + (1 : Int32) = nI (y + 1) from nI_1 y]
  rcases (show k < u ∨ k = u by omega) with q | q
  · have hl : lp (b_Paths_part_16 n e (nI u) (nI (a &&& b))) n (0 : Int32) = some (.inr (nI k)) := by
      refine lp_for (fun i => nI i) k step ?_ n (by omega)
      unfold b_Paths_part_16
      rw [if_neg (nI_ge q (by omega)), bnd_s (p_contains n hab (by omega)), if_pos h1, if_neg (by decide)]
    rw [bnd_s hl]
    rfl
  · have hl : lp (b_Paths_part_16 n e (nI u) (nI (a &&& b))) n (0 : Int32) = some (.inl ()) := by
      refine lp_for (fun i => nI i) k step ?_ n (by omega)
      unfold b_Paths_part_16
      rw [if_pos (nI_le (show u ≤ k by omega) (by omega))]
    rw [bnd_s hl, q]
    rfl
/-- the part of a node -/
theorem part_ex (v : NV) (bo : Nat → Bool) {u : Nat} (hu : u < nN v) : ∃ k, (hl v bo true u &&& hl v bo false u).testBit k = true ∧ (∀ y, y < k → ¬ (hl v bo true u &&& hl v bo false u).testBit y = true) ∧ k ≤ u := by
  have hb : (hl v bo true u &&& hl v bo false u).testBit u = true := by
    rw [Nat.testBit_and, Bool.and_eq_true]
    exact ⟨hl_bit.mpr ⟨hu, HR_refl u⟩, hl_bit.mpr ⟨hu, HR_refl u⟩⟩
  obtain ⟨k, h1, h2⟩ := pk_least (fun k => (hl v bo true u &&& hl v bo false u).testBit k = true) ⟨u, hb⟩
  refine ⟨k, h1, h2, ?_⟩
  rcases Nat.lt_or_ge u k with q | q
  · exact absurd hb (h2 u q)
  · exact q
theorem shl1 {u : Nat} (hu : u < 8) : jshl (1 : Int32) (nI u) = nI (2 ^ u) := by
  have hp : 2 ^ u ≤ 2 ^ 8 := Nat.pow_le_pow_right (by decide) (by omega)
  rw [show (1 : Int32) = nI 1 from rfl, jshl_nI (by omega) (by omega), Nat.one_mul]
theorem p_partOf {τ : ST} {v : NV} (hv : isNet (τ.1 1) (τ.1 2) (τ.2 1) (τ.2 2) (τ.2 3) v) (ok : okN v) (n : Nat) (hn : 1000 ≤ n) {u k : Nat} (hu : u < nN v) (h1 : (hl v (bof 0) true u &&& hl v (bof 0) false u).testBit k = true) (h2 : ∀ y, y < k → ¬ (hl v (bof 0) true u &&& hl v (bof 0) false u).testBit y = true) (hk : k ≤ u) : f_m_partOf n τ (nI u) = some (nI k) := by
  have n8 := ok.2.1
  have hp : 2 ^ nN v ≤ 2 ^ 8 := Nat.pow_le_pow_right (by decide) n8
  have l1 := hl_lt v (bof 0) true u
  have r1 : f_m_reach n τ (nI (2 ^ u)) 0 (1 : Int32) = some (nI (hl v (bof 0) true u)) := p_reach hv ok n hn 0 true hu
  have r2 : f_m_reach n τ (nI (2 ^ u)) 0 (0 : Int32) = some (nI (hl v (bof 0) false u)) := p_reach hv ok n hn 0 false hu
  have hab : hl v (bof 0) true u &&& hl v (bof 0) false u < 2 ^ 31 := Nat.lt_of_le_of_lt Nat.and_le_left (by omega)
  unfold f_m_partOf
  rw [shl1 (by omega), bnd_s r1, bnd_s r2, and_nI, bnd_s (p_lowest hab (by omega) h1 h2 n hn)]
theorem sim_node (n : Nat) (hn : 1000 ≤ n) : Sim_node n TheInv := by
  intro j σ it τ bb a b hj h
  obtain ⟨v, ji, ok, hx, hm, hi, hsx⟩ := h
  have okv := ok.1
  have n8 := okv.2.1
  have hp : 2 ^ nN v.1 ≤ 2 ^ 8 := Nat.pow_le_pow_right (by decide) n8
  have hm1 := RF_code hm 0
  have stay : TheInv (j + 1) σ it (sS τ 0 0) := ⟨v, ji, okB_up ok, hx, hm1, ImOK_up hi, hsx⟩
  rcases node_both n (σ := σ) (τ := sS τ 0 0) hx.1.1 hm1.1.1.1 (by omega) a with ⟨u, hu, rfl, e1, e2⟩ | ⟨e1, e2⟩
  · have fl : ∀ c, ∃ e, f_Paths_follow n σ c = some e ∧ TheInv (j + 1) e it (sS τ 0 0) ∧ e.2 11 u = nI (hl v.1 (bof c) true u) ∧ e.2 12 u = nI (hl v.1 (bof c) false u) := by
      intro c
      obtain ⟨e, f1, f2, f3, f4, f5⟩ := p_follow hx.1 okv n hn c
      exact ⟨e, f1, ⟨v, ji, okB_up ok, RX_paths hx f2 f4, hm1, ImOK_up hi, SX_paths hsx f4⟩, (f5 u hu).1, (f5 u hu).2⟩
    have rc : ∀ (c : Int32) (fo : Bool), f_m_reach n (sS τ 0 0) (nI (2 ^ u)) c (if fo then 1 else 0) = some (nI (hl v.1 (bof c) fo u)) := fun c fo => p_reach (τ := sS τ 0 0) hm1.1.1 okv n hn c fo hu
    by_cases b0 : b = 0
    · obtain ⟨e, f1, f2, f3, f4⟩ := fl 0
      obtain ⟨k, k1, k2, k3⟩ := part_ex v.1 (bof 0) hu
      refine ⟨nI k, e, sS τ 0 0, ?_, ?_, f2⟩
      · unfold f_x_node
        rw [bnd_s e1, if_neg (by decide), if_pos b0, bnd_s f1, bnd_s (p_part (by omega) f3 f4 (by have := hl_lt v.1 (bof 0) true u; omega) k3 k1 k2 n hn)]
      · unfold f_m_node
        rw [nam_e, bnd_s e2, if_neg (by decide), if_pos b0, bnd_s (p_partOf (τ := sS τ 0 0) hm1.1.1 okv n hn hu k1 k2 k3)]
    by_cases b1 : b = 1
    · obtain ⟨e, f1, f2, f3, f4⟩ := fl 65535
      obtain ⟨k, k1, k2, k3⟩ := part_ex v.1 (bof 65535) hu
      have ee : hl v.1 (bof 65535) true u &&& hl v.1 (bof 65535) false u = hl v.1 (bof 65535) true u := by rw [← hl_sym okv.2.2.1, Nat.and_self]
      refine ⟨nI k, e, sS τ 0 0, ?_, ?_, f2⟩
      · unfold f_x_node
        rw [bnd_s e1, if_neg (by decide), if_neg b0, if_pos b1, bnd_s f1, bnd_s (p_part (by omega) f3 f4 (by have := hl_lt v.1 (bof 65535) true u; omega) k3 k1 k2 n hn)]
      · rw [ee] at k1 k2
        unfold f_m_node
        rw [nam_e, bnd_s e2, if_neg (by decide), if_neg b0, if_pos b1, shl1 (by omega), bnd_s (show f_m_reach n (sS τ 0 0) (nI (2 ^ u)) 65535 1 = _ from rc 65535 true), bnd_s (p_lowest (by have := hl_lt v.1 (bof 65535) true u; omega) (by omega) k1 k2 n hn)]
    by_cases b2 : b = 2
    · obtain ⟨e, f1, f2, f3, f4⟩ := fl 0
      refine ⟨nI (hl v.1 (bof 0) true u), e, sS τ 0 0, ?_, ?_, f2⟩
      · unfold f_x_node
        rw [bnd_s e1, if_neg (by decide), if_neg b0, if_neg b1, if_pos b2, bnd_s f1, grd_t (jin_nI (by omega) (by omega)), jix_nI (by omega), f3]
      · unfold f_m_node
        rw [nam_e, bnd_s e2, if_neg (by decide), if_neg b0, if_neg b1, if_pos b2, shl1 (by omega), bnd_s (show f_m_reach n (sS τ 0 0) (nI (2 ^ u)) 0 1 = _ from rc 0 true)]
    by_cases b3 : b = 3
    · obtain ⟨e, f1, f2, f3, f4⟩ := fl 0
      refine ⟨nI (hl v.1 (bof 0) false u), e, sS τ 0 0, ?_, ?_, f2⟩
      · unfold f_x_node
        rw [bnd_s e1, if_neg (by decide), if_neg b0, if_neg b1, if_neg b2, if_pos b3, bnd_s f1, grd_t (jin_nI (by omega) (by omega)), jix_nI (by omega), f4]
      · unfold f_m_node
        rw [nam_e, bnd_s e2, if_neg (by decide), if_neg b0, if_neg b1, if_neg b2, if_pos b3, shl1 (by omega), bnd_s (show f_m_reach n (sS τ 0 0) (nI (2 ^ u)) 0 0 = _ from rc 0 false)]
    · refine ⟨-1, σ, sS τ 0 0, ?_, ?_, stay⟩
      · unfold f_x_node
        rw [bnd_s e1, if_neg (by decide), if_neg b0, if_neg b1, if_neg b2, if_neg b3]
      · unfold f_m_node
        rw [nam_e, bnd_s e2, if_neg (by decide), if_neg b0, if_neg b1, if_neg b2, if_neg b3]
  · refine ⟨-1, σ, sS τ 0 0, ?_, ?_, stay⟩
    · unfold f_x_node; rw [bnd_s e1, if_pos rfl]
    · unfold f_m_node; rw [nam_e, bnd_s e2, if_pos rfl]
/-! count -/
def ctr (p : Nat → Bool) : Nat → Nat
  | 0 => 0
  | i + 1 => ctr p i + if p i then 1 else 0
theorem nI_ite (x : Nat) (c : Bool) : nI x + (if c then (1 : Int32) else 0) = nI (x + if c then 1 else 0) := by
  cases c
  · show nI x + 0 = nI (x + 0)
    rw [Int32.add_zero]; rfl
  · exact nI_1 x
theorem part_all (v : NV) : ∃ pt : Nat → Nat, ∀ u, u < nN v → (hl v (bof 0) true u &&& hl v (bof 0) false u).testBit (pt u) = true ∧ (∀ y, y < pt u → ¬ (hl v (bof 0) true u &&& hl v (bof 0) false u).testBit y = true) ∧ pt u ≤ u := by
  have : ∀ u, ∃ k, u < nN v → (hl v (bof 0) true u &&& hl v (bof 0) false u).testBit k = true ∧ (∀ y, y < k → ¬ (hl v (bof 0) true u &&& hl v (bof 0) false u).testBit y = true) ∧ k ≤ u := by
    intro u
    by_cases hu : u < nN v
    · obtain ⟨k, h⟩ := part_ex v (bof 0) hu
      exact ⟨k, fun _ => h⟩
    · exact ⟨0, fun q => absurd q hu⟩
  exact ⟨fun u => Classical.choose (this u), fun u hu => Classical.choose_spec (this u) hu⟩
theorem p_parts {e : ST} {v : NV} (ok : okN v) (h642 : e.1 642 = nI (nN v)) (h : ∀ u, u < nN v → e.2 11 u = nI (hl v (bof 0) true u) ∧ e.2 12 u = nI (hl v (bof 0) false u)) {pt : Nat → Nat} (hpt : ∀ u, u < nN v → (hl v (bof 0) true u &&& hl v (bof 0) false u).testBit (pt u) = true ∧ (∀ y, y < pt u → ¬ (hl v (bof 0) true u &&& hl v (bof 0) false u).testBit y = true) ∧ pt u ≤ u) (n : Nat) (hn : 1000 ≤ n) : f_Paths_parts n e = some (nI (ctr (fun u => decide (pt u = u)) (nN v))) := by
  have n8 := ok.2.1
  have hp : 2 ^ nN v ≤ 2 ^ 8 := Nat.pow_le_pow_right (by decide) n8
  have hl' : lp (b_Paths_parts_4 n e) n ((0 : Int32), (0 : Int32)) = some (nI (ctr (fun u => decide (pt u = u)) (nN v))) := by
    refine lp_for (fun i => (nI (ctr (fun u => decide (pt u = u)) i), nI i)) (nN v) (fun u hu => ?_) ?_ n (by omega)
    · obtain ⟨k1, k2, k3⟩ := hpt u hu
      unfold b_Paths_parts_4 j_Paths_parts_24_4
      show (if e.1 642 ≤ nI u then _ else bnd (f_Paths_part n e (nI u)) _) = _
      rw [h642, if_neg (nI_ge hu (by omega)), bnd_s (p_part (by omega) (h u hu).1 (h u hu).2 (by have := hl_lt v (bof 0) true u; omega) k3 k1 k2 n hn)]
      show (if nI (pt u) = nI u then some (Sum.inl (nI (ctr (fun u => decide (pt u = u)) u) + 1, nI u + 1)) else some (Sum.inl (nI (ctr (fun u => decide (pt u = u)) u), nI u + 1))) = some (Sum.inl (nI (ctr (fun u => decide (pt u = u)) u + if decide (pt u = u) then 1 else 0), nI (u + 1)))
      rw [show nI u + (1 : Int32) = nI (u + 1) from nI_1 u]
      by_cases q : pt u = u
      · rw [if_pos (by rw [q]), if_pos (decide_eq_true q), show nI (ctr (fun u => decide (pt u = u)) u) + (1 : Int32) = nI (ctr (fun u => decide (pt u = u)) u + 1) from nI_1 _]
      · rw [if_neg (fun z => q (nI_inj (by omega) (by omega) z)), if_neg (by simp [q])]; rfl
    · unfold b_Paths_parts_4
      show (if e.1 642 ≤ nI (nN v) then _ else _) = _
      rw [h642, if_pos (nI_le (Nat.le_refl _) (by omega))]
  unfold f_Paths_parts
  rw [bnd_s hl']
theorem p_mparts {τ : ST} {v : NV} (hv : isNet (τ.1 1) (τ.1 2) (τ.2 1) (τ.2 2) (τ.2 3) v) (ok : okN v) {pt : Nat → Nat} (hpt : ∀ u, u < nN v → (hl v (bof 0) true u &&& hl v (bof 0) false u).testBit (pt u) = true ∧ (∀ y, y < pt u → ¬ (hl v (bof 0) true u &&& hl v (bof 0) false u).testBit y = true) ∧ pt u ≤ u) (n : Nat) (hn : 1000 ≤ n) : lp (b_m_count_66 n τ) n ((0 : Int32), (0 : Int32)) = some (nI (ctr (fun u => decide (pt u = u)) (nN v))) := by
  have n8 := ok.2.1
  refine lp_for (fun i => (nI (ctr (fun u => decide (pt u = u)) i), nI i)) (nN v) (fun u hu => ?_) ?_ n (by omega)
  · obtain ⟨k1, k2, k3⟩ := hpt u hu
    unfold b_m_count_66 j_m_count_89_66
    show (if τ.1 1 ≤ nI u then _ else bnd (f_m_partOf n τ (nI u)) _) = _
    rw [hv.1, if_neg (nI_ge hu (by omega)), bnd_s (p_partOf hv ok n hn hu k1 k2 k3)]
    show (if nI (pt u) = nI u then some (Sum.inl (nI (ctr (fun u => decide (pt u = u)) u) + 1, nI u + 1)) else some (Sum.inl (nI (ctr (fun u => decide (pt u = u)) u) + 0, nI u + 1))) = some (Sum.inl (nI (ctr (fun u => decide (pt u = u)) u + if decide (pt u = u) then 1 else 0), nI (u + 1)))
    rw [show nI u + (1 : Int32) = nI (u + 1) from nI_1 u]
    by_cases q : pt u = u
    · rw [if_pos (by rw [q]), if_pos (decide_eq_true q), show nI (ctr (fun u => decide (pt u = u)) u) + (1 : Int32) = nI (ctr (fun u => decide (pt u = u)) u + 1) from nI_1 _]
    · rw [if_neg (fun z => q (nI_inj (by omega) (by omega) z)), if_neg (by simp [q]), Int32.add_zero]; rfl
  · unfold b_m_count_66
    show (if τ.1 1 ≤ nI (nN v) then _ else _) = _
    rw [hv.1, if_pos (nI_le (Nat.le_refl _) (by omega))]
theorem p_size {σ : ST} {T : Nat → Nat} (hT : ∀ s, s < 256 → σ.2 7 s = nI (T s) ∧ T s < 2 ^ 31) (h0 : T 0 = 0) (n : Nat) (hn : 1000 ≤ n) : f_Fam_size n σ = some (nI (cnt T 256)) := by
  have hl : lp (b_Fam_size_4 n σ) n ((0 : Int32), (1 : Int32)) = some (nI (cnt T 256)) := by
    rw [show ((0 : Int32), (1 : Int32)) = (nI (cnt T 1), nI 1) from by rw [cnt_s0 h0]; rfl]
    refine lp_from (fun i => (nI (cnt T i), nI i)) 1 256 (by decide) (fun s h1 hs => ?_) ?_ n (by omega)
    · obtain ⟨t1, t2⟩ := hT s hs
      unfold b_Fam_size_4 j_Fam_size_23_4
      show (if (256 : Int32) ≤ nI s then _ else grd (jin (nI s) 256) (if σ.2 7 (jix (nI s)) ≤ 0 then some (Sum.inl (nI (cnt T s), nI s + 1)) else some (Sum.inl (nI (cnt T s) + 1, nI s + 1)))) = _
      rw [if_neg (show ¬ (256 : Int32) ≤ nI s from nI_ge (b := 256) hs (by decide)), grd_t (jin_nI hs (by omega)), jix_nI (by omega), t1, show nI s + (1 : Int32) = nI (s + 1) from nI_1 s]
      by_cases q : T s = 0
      · rw [if_pos (by rw [q]; decide), cnt_s0 q]
      · rw [if_neg (show ¬ nI (T s) ≤ (0 : Int32) from nI_ge (a := 0) (by omega) t2), cnt_s1 q, show nI (cnt T s) + (1 : Int32) = nI (cnt T s + 1) from nI_1 _]
    · unfold b_Fam_size_4
      show (if (256 : Int32) ≤ nI 256 then _ else _) = _
      rw [if_pos (by decide)]
  unfold f_Fam_size
  rw [bnd_s hl]
theorem p_members {τ : ST} {T : Nat → Nat} (h8 : τ.1 8 = 1) (hT : ∀ s, s < 256 → τ.2 5 s = nI (T s) ∧ T s < 2 ^ 31) (n : Nat) (hn : 1000 ≤ n) : f_m_members n τ = some (nI (cnt T 256)) := by
  have hl : lp (b_m_members_4 n τ) n ((0 : Int32), (0 : Int32)) = some (nI (cnt T 256)) := by
    refine lp_for (fun i => (nI (cnt T i), nI i)) 256 (fun s hs => ?_) ?_ n (by omega)
    · obtain ⟨t1, t2⟩ := hT s hs
      unfold b_m_members_4 j_m_members_33_4
      show (if (256 : Int32) ≤ nI s then _ else if τ.1 8 = 0 then _ else grd (jin (nI s) 256) (if τ.2 5 (jix (nI s)) ≤ 0 then some (Sum.inl (nI (cnt T s) + 0, nI s + 1)) else some (Sum.inl (nI (cnt T s) + 1, nI s + 1)))) = _
      rw [if_neg (show ¬ (256 : Int32) ≤ nI s from nI_ge (b := 256) hs (by decide)), h8, if_neg (by decide), grd_t (jin_nI hs (by omega)), jix_nI (by omega), t1, show nI s + (1 : Int32) = nI (s + 1) from nI_1 s]
      by_cases q : T s = 0
      · rw [if_pos (by rw [q]; decide), cnt_s0 q, Int32.add_zero]
      · rw [if_neg (show ¬ nI (T s) ≤ (0 : Int32) from nI_ge (a := 0) (by omega) t2), cnt_s1 q, show nI (cnt T s) + (1 : Int32) = nI (cnt T s + 1) from nI_1 _]
    · unfold b_m_members_4
      show (if (256 : Int32) ≤ nI 256 then _ else _) = _
      rw [if_pos (by decide)]
  unfold f_m_members
  rw [bnd_s hl]
theorem p_members0 {τ : ST} (h8 : τ.1 8 = 0) (n : Nat) (hn : 1000 ≤ n) : f_m_members n τ = some 0 := by
  have hl : lp (b_m_members_4 n τ) n ((0 : Int32), (0 : Int32)) = some 0 := by
    refine lp_for (fun _ => ((0 : Int32), (0 : Int32))) 0 (fun s hs => absurd hs (Nat.not_lt_zero _)) ?_ n (by omega)
    unfold b_m_members_4
    rw [if_neg (by decide), if_pos h8]
  unfold f_m_members
  rw [bnd_s hl]
theorem cnt_none : ∀ i, cnt (fun _ => 0) i = 0 := by
  intro i
  induction i with
  | zero => rfl
  | succ i ih => rw [cnt_s0 rfl, ih]
theorem p_images {it : Nat → Option ST} {bb : Nat → Nat → Nat} {σ : ST} (n : Nat) (hn : 1000 ≤ n) : f_x_imagesMade (imF bb it) n σ = some (nI (ctr (fun k => (it k).isSome) 4)) := by
  have hl : lp (b_x_imagesMade_4 (imF bb it) n σ) n ((0 : Int32), (0 : Int32)) = some (nI (ctr (fun k => (it k).isSome) 4)) := by
    refine lp_for (fun i => (nI (ctr (fun k => (it k).isSome) i), nI i)) 4 (fun k hk => ?_) ?_ n (by omega)
    · unfold b_x_imagesMade_4 j_x_imagesMade_21_4
      show (if (4 : Int32) ≤ nI k then _ else grd (jin (nI k) 4) (if (imF bb it (jix (nI k))).isSome = true then some (Sum.inl (nI (ctr (fun k => (it k).isSome) k) + 1, nI k + 1)) else some (Sum.inl (nI (ctr (fun k => (it k).isSome) k), nI k + 1)))) = some (Sum.inl (nI (ctr (fun k => (it k).isSome) k + if (it k).isSome then 1 else 0), nI (k + 1)))
      rw [if_neg (show ¬ (4 : Int32) ≤ nI k from nI_ge (b := 4) hk (by decide)), grd_t (jin_nI hk (by omega)), jix_nI (by omega), imF_is, show nI k + (1 : Int32) = nI (k + 1) from nI_1 k]
      by_cases q : (it k).isSome = true
      · rw [if_pos q, if_pos q, show nI (ctr (fun k => (it k).isSome) k) + (1 : Int32) = nI (ctr (fun k => (it k).isSome) k + 1) from nI_1 _]
      · rw [if_neg q, if_neg q]; rfl
    · unfold b_x_imagesMade_4
      show (if (4 : Int32) ≤ nI 4 then _ else _) = _
      rw [if_pos (by decide)]
  unfold f_x_imagesMade
  rw [bnd_s hl]
theorem p_mimages {τ : ST} {it : Nat → Option ST} (h : ∀ k, k < 4 → τ.2 6 k = if (it k).isSome then 1 else 0) (n : Nat) (hn : 1000 ≤ n) : lp (b_m_count_144 n τ) n ((0 : Int32), (0 : Int32)) = some (nI (ctr (fun k => (it k).isSome) 4)) := by
  refine lp_for (fun i => (nI (ctr (fun k => (it k).isSome) i), nI i)) 4 (fun k hk => ?_) ?_ n (by omega)
  · unfold b_m_count_144 j_m_count_164_144
    show (if (4 : Int32) ≤ nI k then _ else grd (jin (nI k) 4) (if τ.2 6 (jix (nI k)) = 0 then some (Sum.inl (nI (ctr (fun k => (it k).isSome) k) + 0, nI k + 1)) else some (Sum.inl (nI (ctr (fun k => (it k).isSome) k) + 1, nI k + 1)))) = some (Sum.inl (nI (ctr (fun k => (it k).isSome) k + if (it k).isSome then 1 else 0), nI (k + 1)))
    rw [if_neg (show ¬ (4 : Int32) ≤ nI k from nI_ge (b := 4) hk (by decide)), grd_t (jin_nI hk (by omega)), jix_nI (by omega), h k hk, show nI k + (1 : Int32) = nI (k + 1) from nI_1 k]
    by_cases q : (it k).isSome = true
    · rw [if_pos q, if_neg (by decide), if_pos q, show nI (ctr (fun k => (it k).isSome) k) + (1 : Int32) = nI (ctr (fun k => (it k).isSome) k + 1) from nI_1 _]
    · rw [if_neg q, if_pos rfl, if_neg q, Int32.add_zero]; rfl
  · unfold b_m_count_144
    show (if (4 : Int32) ≤ nI 4 then _ else _) = _
    rw [if_pos (by decide)]
theorem sim_count (n : Nat) (hn : 1000 ≤ n) : Sim_count n TheInv := by
  intro j σ it τ bb a hj h
  obtain ⟨v, ji, ok, hx, hm, hi, hsx⟩ := h
  have okv := ok.1
  have hm1 := RF_code hm 0
  have stay : TheInv (j + 1) σ it (sS τ 0 0) := ⟨v, ji, okB_up ok, hx, hm1, ImOK_up hi, hsx⟩
  unfold f_x_count f_m_count j_x_count_105 j_x_count_119 j_m_count_111 j_m_count_125
  simp only [nam_e]
  by_cases a0 : a = 0
  · rw [if_pos a0, if_pos a0]
    exact ⟨σ.1 128, σ, sS τ 0 0, rfl, (by rw [show (sS τ 0 0).1 1 = nI (nN v.1) from hm1.1.1.1, hx.1.1]), stay⟩
  rw [if_neg a0, if_neg a0]
  by_cases a1 : a = 1
  · rw [if_pos a1, if_pos a1]
    exact ⟨σ.1 129, σ, sS τ 0 0, rfl, (by rw [show (sS τ 0 0).1 2 = nI (nK v.1) from hm1.1.1.2.1, hx.1.2.1]), stay⟩
  rw [if_neg a1, if_neg a1]
  by_cases a2 : a = 2
  · rw [if_pos a2, if_pos a2]
    obtain ⟨pt, hpt⟩ := part_all v.1
    obtain ⟨e, f1, f2, f3, f4, f5⟩ := p_follow hx.1 okv n hn 0
    rw [bnd_s f1, bnd_s (p_parts okv f3 f5 hpt n hn), bnd_s (p_mparts (τ := sS τ 0 0) hm1.1.1 okv hpt n hn)]
    exact ⟨_, e, sS τ 0 0, rfl, rfl, v, ji, okB_up ok, RX_paths hx f2 f4, hm1, ImOK_up hi, SX_paths hsx f4⟩
  rw [if_neg a2, if_neg a2]
  by_cases a3 : a = 3
  · rw [if_pos a3, if_pos a3]
    obtain ⟨e, f1, f2, f3⟩ := p_x_isWhole hx okv hsx n hn
    rw [bnd_s f1, bnd_s (p_m_isWhole (τ := sS τ 0 0) hm1.1.1 okv n hn)]
    have st : TheInv (j + 1) e it (sS τ 0 0) := ⟨v, ji, okB_up ok, f2, hm1, ImOK_up hi, f3⟩
    cases whoB v.1
    · exact ⟨0, e, sS τ 0 0, rfl, rfl, st⟩
    · exact ⟨1, e, sS τ 0 0, rfl, rfl, st⟩
  rw [if_neg a3, if_neg a3]
  by_cases a4 : a = 4
  · rw [if_pos a4, if_pos a4]
    obtain ⟨e, f1, f2, f3, _, _⟩ := p_x_isStrong hx okv hsx n hn 0
    rw [bnd_s f1, bnd_s (p_m_isStrongWith (τ := sS τ 0 0) hm1.1.1 okv n hn 0)]
    have st : TheInv (j + 1) e it (sS τ 0 0) := ⟨v, ji, okB_up ok, f2, hm1, ImOK_up hi, f3⟩
    cases strB v.1 (bof 0)
    · exact ⟨0, e, sS τ 0 0, rfl, rfl, st⟩
    · exact ⟨1, e, sS τ 0 0, rfl, rfl, st⟩
  rw [if_neg a4, if_neg a4]
  by_cases a5 : a = 5
  · rw [if_pos a5, if_pos a5]
    obtain ⟨e, e1, e2, e3, e4, e5, e6⟩ := p_find hx.1 okv hsx n hn
    obtain ⟨d, d1, d2, d3, d4, d5⟩ := p_makeSides hm1 okv n hn
    rw [bnd_s e1, bnd_s d1, e3, (d2.2.1.2.2.2.1 d3).1]
    exact ⟨_, e, d, rfl, rfl, v, ji, okB_up ok, RX_find hx e2 e5, d2, ImOK_up hi, e6⟩
  rw [if_neg a5, if_neg a5]
  by_cases a6 : a = 6
  · rw [if_pos a6, if_pos a6]
    rw [bnd_s (p_size (T := famT v.2.2) (fun s hs => ⟨famX_times hx hs, by have := famT_le ok hs; omega⟩) (famT_0 ok) n hn)]
    refine ⟨_, σ, sS τ 0 0, rfl, ?_, stay⟩
    have hf := hm1.1.2.2
    have hle := fun s hs => famT_le ok (s := s) hs
    revert hf hle
    cases v.2.2 with
    | none =>
      intro hf _
      rw [bnd_s (p_members0 (τ := sS τ 0 0) hf n hn)]
      show some ((0 : Int32), sS τ 0 0) = some (nI (cnt (fun _ => 0) 256), sS τ 0 0)
      rw [cnt_none]; rfl
    | some f =>
      intro hf hle
      rw [bnd_s (p_members (τ := sS τ 0 0) (T := f.2.1) hf.1 (fun s hs => ⟨hf.2.2.1 s hs, by have : f.2.1 s ≤ 16000 + 1000 * j := hle s hs; omega⟩) n hn)]
      rfl
  rw [if_neg a6, if_neg a6]
  by_cases a7 : a = 7
  · rw [if_pos a7, if_pos a7]
    rw [bnd_s (p_images n hn), bnd_s (p_mimages (τ := sS τ 0 0) (it := it) (fun k hk => ?_) n hn)]
    · exact ⟨_, σ, sS τ 0 0, rfl, rfl, stay⟩
    · have h1 := hm.2.2 k hk
      have h2 := hi k hk
      show τ.2 6 k = _
      revert h1 h2
      cases ji k with
      | none => intro h1 h2; rw [show it k = none from h2]; exact h1
      | some w => intro h1 h2; obtain ⟨_, σi, h3, _⟩ := h2; rw [h3]; exact h1.1
  rw [if_neg a7, if_neg a7]
  exact ⟨-1, σ, sS τ 0 0, rfl, rfl, stay⟩
