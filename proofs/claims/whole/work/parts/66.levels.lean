/-! uncross: all levels -/
theorem gx_all {N : Nat} (hN : N ≤ 8) : trc (gx (2 ^ N - 1)) 256 ≤ 272504 := by
  rcases (show N = 0 ∨ N = 1 ∨ N = 2 ∨ N = 3 ∨ N = 4 ∨ N = 5 ∨ N = 6 ∨ N = 7 ∨ N = 8 by omega) with q | q | q | q | q | q | q | q | q <;> rw [q]
  · rw [show 2 ^ 0 - 1 = 0 from rfl]; exact @Nat.le_of_ble_eq_true (trc (gx 0) 256) 272504 gx0
  · rw [show 2 ^ 1 - 1 = 1 from rfl]; exact @Nat.le_of_ble_eq_true (trc (gx 1) 256) 272504 gx1
  · rw [show 2 ^ 2 - 1 = 3 from rfl]; exact @Nat.le_of_ble_eq_true (trc (gx 3) 256) 272504 gx2
  · rw [show 2 ^ 3 - 1 = 7 from rfl]; exact @Nat.le_of_ble_eq_true (trc (gx 7) 256) 272504 gx3
  · rw [show 2 ^ 4 - 1 = 15 from rfl]; exact @Nat.le_of_ble_eq_true (trc (gx 15) 256) 272504 gx4
  · rw [show 2 ^ 5 - 1 = 31 from rfl]; exact @Nat.le_of_ble_eq_true (trc (gx 31) 256) 272504 gx5
  · rw [show 2 ^ 6 - 1 = 63 from rfl]; exact @Nat.le_of_ble_eq_true (trc (gx 63) 256) 272504 gx6
  · rw [show 2 ^ 7 - 1 = 127 from rfl]; exact @Nat.le_of_ble_eq_true (trc (gx 127) 256) 272504 gx7
  · rw [show 2 ^ 8 - 1 = 255 from rfl]; exact gx8
/-- k steps -/
def Rn (N : Nat) : Nat → (Nat → Nat) → (Nat → Nat) → Prop
  | 0, t, t' => t = t'
  | k + 1, t, t' => ∃ a w, fcp N t a w ∧ Rn N k (stp t a w) t'
theorem Rn_of {N x u : Nat} : ∀ k t t', RR N x u k t t' → Rn N k t t' := by
  intro k
  induction k with
  | zero => intro t t' h; exact h
  | succ k ih => intro t t' ⟨a, w, h1, _, _, h4⟩; exact ⟨a, w, h1, ih _ _ h4⟩
theorem Rn_app {N : Nat} : ∀ k l t t1 t2, Rn N k t t1 → Rn N l t1 t2 → Rn N (k + l) t t2 := by
  intro k
  induction k with
  | zero => intro l t t1 t2 h1 h2; rw [Nat.zero_add]; have h1 : t = t1 := h1; rw [h1]; exact h2
  | succ k ih =>
    intro l t t1 t2 ⟨a, w, h1, h4⟩ h5
    rw [show k + 1 + l = (k + l) + 1 by omega]
    exact ⟨a, w, h1, ih l _ _ _ h4 h5⟩
theorem Rn_sup {N : Nat} : ∀ k t t', Rn N k t t' → sup N t → sup N t' := by
  intro k
  induction k with
  | zero => intro t t' h1 h2; have h1 : t = t' := h1; rw [← h1]; exact h2
  | succ k ih => intro t t' ⟨a, w, h1, h4⟩ h5; exact ih _ _ h4 (sup_stp h5 h1)
theorem tot_ws (t : Nat → Nat) : ws (fun _ => 1) t = tot t := by
  unfold ws tot
  have : (fun s => 1 * t s) = t := by funext s; exact Nat.one_mul _
  rw [this]
theorem Rn_tot {N : Nat} (hN : N ≤ 8) : ∀ k t t', Rn N k t t' → sup N t → tot t' = tot t := by
  intro k
  induction k with
  | zero => intro t t' h1 h2; have h1 : t = t' := h1; rw [← h1]
  | succ k ih =>
    intro t t' ⟨a, w, h1, h4⟩ h5
    rw [ih _ _ h4 (sup_stp h5 h1), ← tot_ws, ← tot_ws]
    have := ws_stp hN (fun _ => 1) (t := t) (sup_lt h5 h1.2.1) (sup_lt h5 h1.2.2.1) h1.1 h1.2.2.2.1
    omega
def cW (x s : Nat) : Nat := if x ≤ s then awn (pc s) else 0
theorem W_step {x : Nat} (hx : x < 256) (t : Nat → Nat) : ws (cW x) t = VV x t + t x * awn (pc x) := by
  have h := totTo_set (fun q => cV x q * t q) x (awn (pc x) * t x) 256
  rw [if_pos hx, if_pos hx, show cV x x = 0 from if_neg (Nat.lt_irrefl x), Nat.zero_mul, Nat.add_zero] at h
  have e : (fun q => if q = x then awn (pc x) * t x else cV x q * t q) = (fun q => cW x q * t q) := by
    funext q
    unfold cV cW
    by_cases z : q = x
    · rw [if_pos z, if_pos (by omega), z]
    · rw [if_neg z]
      by_cases y : x < q
      · rw [if_pos y, if_pos (by omega)]
      · rw [if_neg y, if_neg (by omega)]
  rw [e] at h
  unfold VV ws
  rw [Nat.mul_comm (t x)]
  exact h
theorem VV_W (x : Nat) (t : Nat → Nat) : VV x t = ws (cW (x + 1)) t := by
  unfold VV
  have : cV x = cW (x + 1) := by
    funext s
    unfold cV cW
    by_cases y : x < s
    · rw [if_pos y, if_pos (by omega)]
    · rw [if_neg y, if_neg (by omega)]
  rw [this]
theorem awn_le : ∀ k, awn k ≤ 7 := by
  intro k
  unfold awn
  split <;> decide
theorem levels {N : Nat} (hN : N ≤ 8) (t : Nat → Nat) (hsup : sup N t) : ∀ m, m ≤ 2 ^ N → ∃ k t', Rn N k t t' ∧ sup N t' ∧ (∀ s, s < m → t' s ≠ 0 → NC N t' s) ∧ 4 * k + ws (cW m) t' ≤ ws (cW 0) t + totTo (gx (2 ^ N - 1)) m := by
  have hp : 2 ^ N ≤ 2 ^ 8 := Nat.pow_le_pow_right (by decide) hN
  intro m
  induction m with
  | zero => intro _; exact ⟨0, t, rfl, hsup, fun s hs => absurd hs (Nat.not_lt_zero _), by omega⟩
  | succ m ih =>
    intro hm
    obtain ⟨k, t1, r1, r2, r3, r4⟩ := ih (by omega)
    obtain ⟨l, t2, s1, s2, s3⟩ := level hN (show m < 2 ^ N by omega) t1 r2 r3
    have hW := W_step (show m < 256 by omega) t1
    have hV := VV_W m t2
    refine ⟨k + l, t2, Rn_app _ _ _ _ _ r1 (Rn_of _ _ _ s1), RR_sup _ _ _ s1 r2, s2, ?_⟩
    show 4 * (k + l) + ws (cW (m + 1)) t2 ≤ ws (cW 0) t + (totTo (gx (2 ^ N - 1)) m + gx (2 ^ N - 1) m)
    omega
theorem totTo_mono {f : Nat → Nat} {a b : Nat} (h : a ≤ b) : totTo f a ≤ totTo f b := by
  induction b with
  | zero => rw [show a = 0 by omega]; exact Nat.le_refl _
  | succ b ih =>
    rcases (show a = b + 1 ∨ a ≤ b by omega) with q | q
    · rw [q]; exact Nat.le_refl _
    · have := ih q
      show totTo f a ≤ totTo f b + f b
      omega
theorem totTo_mul {f : Nat → Nat} (c : Nat) : ∀ m, totTo (fun s => c * f s) m = c * totTo f m := by
  intro m
  induction m with
  | zero => rfl
  | succ m ih =>
    show totTo (fun s => c * f s) m + c * f m = c * (totTo f m + f m)
    rw [ih, Nat.mul_add]
/-- uncrossing ends in time -/
theorem unc_end {N : Nat} (hN : N ≤ 8) {t : Nat → Nat} (hsup : sup N t) (ht : tot t ≤ 527000) : ∃ k t', k < 1000000 ∧ Rn N k t t' ∧ ∀ a b, t' a ≠ 0 → t' b ≠ 0 → ¬ cr N a b := by
  have hp : 2 ^ N ≤ 2 ^ 8 := Nat.pow_le_pow_right (by decide) hN
  obtain ⟨k, t', r1, r2, r3, r4⟩ := levels hN t hsup (2 ^ N) (Nat.le_refl _)
  have h1 : ws (cW 0) t ≤ 7 * tot t := by
    unfold ws tot
    rw [← totTo_mul]
    refine totTo_le 256 (fun i _ => ?_)
    refine Nat.mul_le_mul_right _ ?_
    unfold cW
    rw [if_pos (Nat.zero_le _)]
    exact awn_le _
  have h2 : totTo (gx (2 ^ N - 1)) (2 ^ N) ≤ 272504 := by
    refine Nat.le_trans (totTo_mono (show 2 ^ N ≤ 256 by omega)) ?_
    rw [← trc_tot]
    exact gx_all hN
  refine ⟨k, t', by omega, r1, fun a b ha hb => ?_⟩
  exact r3 a (sup_lt r2 ha) ha b hb
