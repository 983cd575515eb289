/-! uncross: both programs -/
def RT (q : Nat) (σ : ST) (t : Nat → Nat) : Prop := ∀ s, s < 256 → σ.2 q s = nI (t s) ∧ t s < 2 ^ 30
theorem fcp_low {N : Nat} {t : Nat → Nat} {a w : Nat} (h : fcp N t a w) : ∀ x, x < a → t x ≠ 0 → NC N t x := by
  intro x hx hx0 y hy hc
  rcases (show x < y ∨ x = y ∨ y < x by omega) with q | q | q
  · rcases h.2.2.2.2 x y q hx0 hy hc with z | z <;> omega
  · rw [q] at hc; exact cr_nsub hc (sb_refl y)
  · rcases h.2.2.2.2 y x q hy hx0 (cr_sym hc) with z | z <;> omega
theorem fcp_uniq {N : Nat} {t : Nat → Nat} {a w a' w' : Nat} (h : fcp N t a w) (h' : fcp N t a' w') : a = a' ∧ w = w' := by
  have h1 := h.2.2.2.2 a' w' h'.1 h'.2.1 h'.2.2.1 h'.2.2.2.1
  have h2 := h'.2.2.2.2 a w h.1 h.2.1 h.2.2.1 h.2.2.2.1
  omega
theorem low_stp {N : Nat} {t : Nat → Nat} {a w : Nat} (h : fcp N t a w) : ∀ x, x < a &&& w → stp t a w x ≠ 0 → NC N (stp t a w) x := by
  intro x hx hx0
  have h1 := cr_meet_lt h.2.2.2.1
  have h2 := cr_join_gt h.2.2.2.1
  have h3 := h.1
  refine NC_stp h (fcp_low h x (by omega) ?_)
  rcases stp_ne h.2.1 h.2.2.1 hx0 with q | q | q
  · exact q
  · omega
  · omega
theorem p_areCr {σ : ST} {N : Nat} (h : σ.1 385 = nI N) (hN : N ≤ 8) (n : Nat) {x y : Nat} (hx : x < 2 ^ N) (hy : y < 2 ^ N) : (cr N x y → f_Fam_areCrossing n σ (nI x) (nI y) = some 1) ∧ (¬ cr N x y → f_Fam_areCrossing n σ (nI x) (nI y) = some 0) := by
  have hp : 2 ^ N ≤ 2 ^ 8 := Nat.pow_le_pow_right (by decide) hN
  have l1 : x &&& y ≤ x := Nat.and_le_left
  have l2 : x ||| y < 2 ^ N := Nat.or_lt_two_pow hx hy
  have e0 : nI (x &&& y) = 0 ↔ x &&& y = 0 := nI_eq (b := 0) (by omega) (by decide)
  have e1 : nI (x &&& y) = nI x ↔ x &&& y = x := nI_eq (by omega) (by omega)
  have e2 : nI (x &&& y) = nI y ↔ x &&& y = y := nI_eq (by omega) (by omega)
  have e3 : nI (x ||| y) = nI (2 ^ N - 1) ↔ x ||| y = 2 ^ N - 1 := nI_eq (by omega) (by omega)
  have key : f_Fam_areCrossing n σ (nI x) (nI y) = if nI (x &&& y) = 0 then some 0 else if nI (x &&& y) = nI x then some 0 else if nI (x &&& y) = nI y then some 0 else if nI (x ||| y) = nI (2 ^ N - 1) then some 0 else some 1 := by
    unfold f_Fam_areCrossing j_Fam_areCrossing_40 j_Fam_areCrossing_41
    rw [h, and_nI, or_nI, show (1 : Int32) = nI 1 from rfl, jshl_nI (by omega) (by omega), Nat.one_mul, pk_sub Nat.one_le_two_pow]
    rfl
  rw [key, cr_iff hx hy]
  constructor
  · rintro ⟨a, b, c, d⟩
    rw [if_neg (fun q => a (e0.mp q)), if_neg (fun q => b (e1.mp q)), if_neg (fun q => c (e2.mp q)), if_neg (fun q => d (e3.mp q))]
  · intro q
    by_cases a : nI (x &&& y) = 0
    · rw [if_pos a]
    by_cases b : nI (x &&& y) = nI x
    · rw [if_neg a, if_pos b]
    by_cases c : nI (x &&& y) = nI y
    · rw [if_neg a, if_neg b, if_pos c]
    by_cases d : nI (x ||| y) = nI (2 ^ N - 1)
    · rw [if_neg a, if_neg b, if_neg c, if_pos d]
    exact absurd ⟨fun z => a (e0.mpr z), fun z => b (e1.mpr z), fun z => c (e2.mpr z), fun z => d (e3.mpr z)⟩ q
/-- x is a member that crosses a member behind it -/
def crs (N : Nat) (t : Nat → Nat) (x y : Nat) : Prop := t x ≠ 0 ∧ x < y ∧ t y ≠ 0 ∧ cr N x y
theorem le0_nI {a : Nat} (h : a < 2 ^ 30) : nI a ≤ 0 ↔ a = 0 := by
  constructor
  · intro q
    rcases Nat.eq_zero_or_pos a with z | z
    · exact z
    · exact absurd q (show ¬ nI a ≤ (0 : Int32) from nI_ge (a := 0) z (by omega))
  · intro q; rw [q]; decide
theorem p_crossedBy {σ : ST} {N : Nat} {t : Nat → Nat} (h385 : σ.1 385 = nI N) (hN : N ≤ 8) (hT : RT 7 σ t) (hsup : sup N t) (n : Nat) (hn : 1000 ≤ n) {x : Nat} (hx : x < 256) : ((∀ y, ¬ crs N t x y) → f_Fam_crossedBy n σ (nI x) = some 0) ∧ (∀ y, crs N t x y → (∀ z, z < y → ¬ crs N t x z) → f_Fam_crossedBy n σ (nI x) = some (nI y)) := by
  have hp : 2 ^ N ≤ 2 ^ 8 := Nat.pow_le_pow_right (by decide) hN
  by_cases hx0 : t x = 0
  · have : f_Fam_crossedBy n σ (nI x) = some 0 := by
      unfold f_Fam_crossedBy
      rw [grd_t (jin_nI hx (by omega)), jix_nI (by omega), (hT x hx).1, hx0, if_pos (show nI 0 = (0 : Int32) from rfl)]
    exact ⟨fun _ => this, fun y hy => absurd hx0 hy.1⟩
  have hxN := sup_lt hsup hx0
  have start : f_Fam_crossedBy n σ (nI x) = bnd (lp (b_Fam_crossedBy_15 n σ (nI x)) n (nI (x + 1))) fun e2 => Sum.elim (fun t3 => some (0 : Int32)) (fun r => some r) e2 := by
    unfold f_Fam_crossedBy
    rw [grd_t (jin_nI hx (by omega)), jix_nI (by omega), (hT x hx).1, if_neg (show ¬ nI (t x) = (0 : Int32) from fun q => hx0 (nI_inj (b := 0) (by have := (hT x hx).2; omega) (by decide) q)), show nI x + (1 : Int32) = nI (x + 1) from nI_1 x]
  have go : ∀ y, x < y → y < 256 → ¬ crs N t x y → b_Fam_crossedBy_15 n σ (nI x) (nI y) = some (.inl (nI (y + 1))) := by
    intro y hxy hy hc
    unfold b_Fam_crossedBy_15 j_Fam_crossedBy_42_15
    rw [if_neg (show ¬ (256 : Int32) ≤ nI y from nI_ge (b := 256) hy (by decide)), grd_t (jin_nI hy (by omega)), jix_nI (by omega), (hT y hy).1, show nI y + (1 : Int32) = nI (y + 1) from nI_1 y]
    by_cases q : t y = 0
    · rw [if_pos ((le0_nI (hT y hy).2).mpr q)]
    · rw [if_neg (fun z => q ((le0_nI (hT y hy).2).mp z)), bnd_s ((p_areCr h385 hN n hxN (sup_lt hsup q)).2 (fun z => hc ⟨hx0, hxy, q, z⟩)), if_pos rfl]
  constructor
  · intro hno
    have hl : lp (b_Fam_crossedBy_15 n σ (nI x)) n (nI (x + 1)) = some (.inl ()) := by
      refine lp_from (fun i => nI i) (x + 1) 256 (by omega) (fun y hy1 hy2 => go y (by omega) hy2 (hno y)) ?_ n (by omega)
      unfold b_Fam_crossedBy_15
      rw [if_pos (by decide)]
    rw [start, bnd_s hl]
    rfl
  · intro y hy hmin
    have hyN := sup_lt hsup hy.2.2.1
    have hl : lp (b_Fam_crossedBy_15 n σ (nI x)) n (nI (x + 1)) = some (.inr (nI y)) := by
      refine lp_from (fun i => nI i) (x + 1) y (by have := hy.2.1; omega) (fun z hz1 hz2 => go z (by omega) (by omega) (hmin z hz2)) ?_ n (by omega)
      unfold b_Fam_crossedBy_15
      rw [if_neg (show ¬ (256 : Int32) ≤ nI y from nI_ge (b := 256) (by omega) (by decide)), grd_t (jin_nI (by omega) (by omega)), jix_nI (by omega), (hT y (by omega)).1, if_neg (fun z => hy.2.2.1 ((le0_nI (hT y (by omega)).2).mp z)), bnd_s ((p_areCr h385 hN n hxN hyN).1 hy.2.2.2), if_neg (by decide)]
    rw [start, bnd_s hl]
    rfl
theorem p_firstCrossing {σ : ST} {N : Nat} {t : Nat → Nat} (h385 : σ.1 385 = nI N) (hN : N ≤ 8) (hT : RT 7 σ t) (hsup : sup N t) (n : Nat) (hn : 1000 ≤ n) {fr : Nat} (hfr : fr < 256) (hlow : ∀ x, x < fr → t x ≠ 0 → NC N t x) : ((∀ x y, ¬ crs N t x y) → f_Fam_firstCrossing n σ (nI fr) = some 0) ∧ (∀ a w, fcp N t a w → f_Fam_firstCrossing n σ (nI fr) = some (nI a) ∧ f_Fam_crossedBy n σ (nI a) = some (nI w)) := by
  have hp : 2 ^ N ≤ 2 ^ 8 := Nat.pow_le_pow_right (by decide) hN
  have go : ∀ x, x < 256 → (∀ y, ¬ crs N t x y) → b_Fam_firstCrossing_2 n σ (nI x) = some (.inl (nI (x + 1))) := by
    intro x hx hno
    unfold b_Fam_firstCrossing_2
    rw [if_neg (show ¬ (256 : Int32) ≤ nI x from nI_ge (b := 256) hx (by decide)), bnd_s ((p_crossedBy h385 hN hT hsup n hn hx).1 hno), if_pos rfl, show nI x + (1 : Int32) = nI (x + 1) from nI_1 x]
  constructor
  · intro hno
    have hl : lp (b_Fam_firstCrossing_2 n σ) n (nI fr) = some (.inl ()) := by
      refine lp_from (fun i => nI i) fr 256 (by omega) (fun x h1 h2 => go x h2 (hno x)) ?_ n (by omega)
      unfold b_Fam_firstCrossing_2
      rw [if_pos (by decide)]
    unfold f_Fam_firstCrossing
    rw [bnd_s hl]
    rfl
  · intro a w hf
    have haN := sup_lt hsup hf.2.1
    have hfa : fr ≤ a := by
      rcases Nat.lt_or_ge a fr with q | q
      · exact absurd hf.2.2.2.1 (hlow a q hf.2.1 w hf.2.2.1)
      · exact q
    have hcb : f_Fam_crossedBy n σ (nI a) = some (nI w) := by
      refine (p_crossedBy h385 hN hT hsup n hn (show a < 256 by omega)).2 w ⟨hf.2.1, hf.1, hf.2.2.1, hf.2.2.2.1⟩ (fun z hz hc => ?_)
      rcases hf.2.2.2.2 a z hc.2.1 hc.1 hc.2.2.1 hc.2.2.2 with q | q <;> omega
    refine ⟨?_, hcb⟩
    have hl : lp (b_Fam_firstCrossing_2 n σ) n (nI fr) = some (.inr (nI a)) := by
      refine lp_from (fun i => nI i) fr a hfa (fun x h1 h2 => go x (by omega) (fun y hc => ?_)) ?_ n (by omega)
      · exact fcp_low hf x h2 hc.1 y hc.2.2.1 hc.2.2.2
      · unfold b_Fam_firstCrossing_2
        rw [if_neg (show ¬ (256 : Int32) ≤ nI a from nI_ge (b := 256) (by omega) (by decide)), bnd_s hcb, if_neg (show ¬ nI w = (0 : Int32) from fun q => by
          have h1 := nI_inj (b := 0) (by have := sup_lt hsup hf.2.2.1; omega) (by decide) q
          have := (hsup w hf.2.2.1).1
          omega)]
    unfold f_Fam_firstCrossing
    rw [bnd_s hl]
    rfl
/-- the four places of a row as both programs change them -/
def urow (f : Nat → Int32) (a w m : Nat) : Nat → Int32 := upd (upd (upd (upd f a (f a - nI m)) w ((upd f a (f a - nI m)) w - nI m)) (a &&& w) ((upd (upd f a (f a - nI m)) w ((upd f a (f a - nI m)) w - nI m)) (a &&& w) + nI m)) (a ||| w) ((upd (upd (upd f a (f a - nI m)) w ((upd f a (f a - nI m)) w - nI m)) (a &&& w) ((upd (upd f a (f a - nI m)) w ((upd f a (f a - nI m)) w - nI m)) (a &&& w) + nI m)) (a ||| w) + nI m)
theorem urow_stp {N : Nat} (hN : N ≤ 8) {f : Nat → Int32} {t : Nat → Nat} (hf : ∀ s, s < 256 → f s = nI (t s) ∧ t s < 2 ^ 30) {a w : Nat} (ha : a < 2 ^ N) (hw : w < 2 ^ N) (haw : a < w) (hc : cr N a w) : ∀ s, s < 256 → urow f a w (min (t a) (t w)) s = nI (stp t a w s) := by
  have hp : 2 ^ N ≤ 2 ^ 8 := Nat.pow_le_pow_right (by decide) hN
  have h1 := cr_meet_lt hc
  have h2 := cr_join_gt hc
  have h3 := cr_join_lt ha hw hc
  have ea : f a = nI (t a) := (hf a (by omega)).1
  have ew : f w = nI (t w) := (hf w (by omega)).1
  have em : f (a &&& w) = nI (t (a &&& w)) := (hf _ (by omega)).1
  have ej : f (a ||| w) = nI (t (a ||| w)) := (hf _ (by omega)).1
  intro s hs
  unfold urow
  rw [upd_n (show w ≠ a by omega), upd_n (show a &&& w ≠ w by omega), upd_n (show a &&& w ≠ a by omega), upd_n (show a ||| w ≠ a &&& w by omega), upd_n (show a ||| w ≠ w by omega), upd_n (show a ||| w ≠ a by omega), ea, ew, em, ej, pk_sub (Nat.min_le_left _ _), pk_sub (Nat.min_le_right _ _), nI_add, nI_add]
  unfold stp
  by_cases q1 : s = a
  · rw [if_pos q1, upd_n (show s ≠ a ||| w by omega), upd_n (show s ≠ a &&& w by omega), upd_n (show s ≠ w by omega), q1, upd_s]
  by_cases q2 : s = w
  · rw [if_neg q1, if_pos q2, upd_n (show s ≠ a ||| w by omega), upd_n (show s ≠ a &&& w by omega), q2, upd_s]
  by_cases q3 : s = a &&& w
  · rw [if_neg q1, if_neg q2, if_pos q3, upd_n (show s ≠ a ||| w by omega), q3, upd_s]
  by_cases q4 : s = a ||| w
  · rw [if_neg q1, if_neg q2, if_neg q3, if_pos q4, q4, upd_s]
  rw [if_neg q1, if_neg q2, if_neg q3, if_neg q4, upd_n q4, upd_n q3, upd_n q2, upd_n q1]
  exact (hf s hs).1
theorem jmin_nI {a b : Nat} (ha : a < 2 ^ 30) (hb : b < 2 ^ 30) : jmin (nI a) (nI b) = nI (min a b) := by
  unfold jmin
  by_cases q : b < a
  · rw [if_pos (nI_lt q (by omega)), Nat.min_eq_right (by omega)]
  · rw [if_neg (fun z => by
      have := Int32.lt_iff_toInt_lt.mp z
      rw [nI_toInt (by omega), nI_toInt (by omega)] at this
      omega), Nat.min_eq_left (by omega)]
theorem p_pair {σ : ST} {N : Nat} {t : Nat → Nat} (hN : N ≤ 8) (hT : RT 7 σ t) {a w : Nat} (ha : a < 2 ^ N) (hw : w < 2 ^ N) (hc : cr N a w) : f_Fam_uncrossPair σ (nI a) (nI w) = some (sA (sA (sA (sA σ 7 (upd (σ.2 7) a (σ.2 7 a - nI (min (t a) (t w))))) 7 (upd (upd (σ.2 7) a (σ.2 7 a - nI (min (t a) (t w)))) w ((upd (σ.2 7) a (σ.2 7 a - nI (min (t a) (t w)))) w - nI (min (t a) (t w))))) 7 (upd (upd (upd (σ.2 7) a (σ.2 7 a - nI (min (t a) (t w)))) w ((upd (σ.2 7) a (σ.2 7 a - nI (min (t a) (t w)))) w - nI (min (t a) (t w)))) (a &&& w) ((upd (upd (σ.2 7) a (σ.2 7 a - nI (min (t a) (t w)))) w ((upd (σ.2 7) a (σ.2 7 a - nI (min (t a) (t w)))) w - nI (min (t a) (t w)))) (a &&& w) + nI (min (t a) (t w))))) 7 (urow (σ.2 7) a w (min (t a) (t w)))) := by
  have hp : 2 ^ N ≤ 2 ^ 8 := Nat.pow_le_pow_right (by decide) hN
  have l1 := cr_meet_lt hc
  have l2 := cr_join_lt ha hw hc
  have ta := hT a (by omega)
  have tw := hT w (by omega)
  have ga : jin (nI a) 256 = true := jin_nI (by omega) (by omega)
  have gw : jin (nI w) 256 = true := jin_nI (by omega) (by omega)
  have gm : jin (nI (a &&& w)) 256 = true := jin_nI (by omega) (by omega)
  have gj : jin (nI (a ||| w)) 256 = true := jin_nI (by omega) (by omega)
  unfold f_Fam_uncrossPair
  rw [and_nI, or_nI]
  simp only [nam_e, ga, gw, gm, gj, grd_tt, jix_nI (show a < 2 ^ 31 by omega), jix_nI (show w < 2 ^ 31 by omega), jix_nI (show a &&& w < 2 ^ 31 by omega), jix_nI (show a ||| w < 2 ^ 31 by omega)]
  rw [show jmin (σ.2 7 a) (σ.2 7 w) = nI (min (t a) (t w)) from by rw [ta.1, tw.1, jmin_nI ta.2 tw.2]]
  rfl
