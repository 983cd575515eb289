/-! uncross: steps, runs, prices -/
def sup (N : Nat) (t : Nat → Nat) : Prop := ∀ s, t s ≠ 0 → 1 ≤ s ∧ s < 2 ^ N - 1
def stp (t : Nat → Nat) (x y : Nat) : Nat → Nat := fun s => if s = x then t x - min (t x) (t y) else if s = y then t y - min (t x) (t y) else if s = x &&& y then t s + min (t x) (t y) else if s = x ||| y then t s + min (t x) (t y) else t s
/-- the first crossing pair -/
def fcp (N : Nat) (t : Nat → Nat) (x y : Nat) : Prop := x < y ∧ t x ≠ 0 ∧ t y ≠ 0 ∧ cr N x y ∧ ∀ a b, a < b → t a ≠ 0 → t b ≠ 0 → cr N a b → x < a ∨ (x = a ∧ y ≤ b)
/-- k steps, of sets below u with sets behind x -/
def RR (N x u : Nat) : Nat → (Nat → Nat) → (Nat → Nat) → Prop
  | 0, t, t' => t = t'
  | k + 1, t, t' => ∃ a w, fcp N t a w ∧ sb a u ∧ x < w ∧ RR N x u k (stp t a w) t'
def NC (N : Nat) (t : Nat → Nat) (s : Nat) : Prop := ∀ y, t y ≠ 0 → ¬ cr N s y
def JL (N : Nat) (t : Nat → Nat) (z L : Nat) : Prop := ∀ s, s ≤ L → t s ≠ 0 → ¬ cr N z s
def Pre (N : Nat) (t : Nat → Nat) (x u : Nat) : Prop := ∀ s, s ≤ x → t s ≠ 0 → NC N t s ∨ sb u s
def Pst (N : Nat) (t : Nat → Nat) (x u : Nat) : Prop := ∀ s, s ≤ x → t s ≠ 0 → NC N t s ∨ (sb u s ∧ s ≠ u)
theorem sb_refl (u : Nat) : sb u u := fun _ h => h
theorem sb_trans {a b c : Nat} (h1 : sb a b) (h2 : sb b c) : sb a c := fun i h => h2 i (h1 i h)
theorem sb_meet (a b : Nat) : sb (a &&& b) a := fun _ h => (tb_and.mp h).1
theorem RR_app {N x u : Nat} : ∀ k l t t1 t2, RR N x u k t t1 → RR N x u l t1 t2 → RR N x u (k + l) t t2 := by
  intro k
  induction k with
  | zero => intro l t t1 t2 h1 h2; rw [Nat.zero_add]; have h1 : t = t1 := h1; rw [h1]; exact h2
  | succ k ih =>
    intro l t t1 t2 ⟨a, w, h1, h2, h3, h4⟩ h5
    rw [show k + 1 + l = (k + l) + 1 by omega]
    exact ⟨a, w, h1, h2, h3, ih l _ _ _ h4 h5⟩
theorem RR_mono {N x v u : Nat} (h : sb v u) : ∀ k t t', RR N x v k t t' → RR N x u k t t' := by
  intro k
  induction k with
  | zero => intro t t' h1; exact h1
  | succ k ih => intro t t' ⟨a, w, h1, h2, h3, h4⟩; exact ⟨a, w, h1, sb_trans h2 h, h3, ih _ _ h4⟩
theorem stp_ne {t : Nat → Nat} {a w y : Nat} (ha : t a ≠ 0) (hw : t w ≠ 0) (h : stp t a w y ≠ 0) : t y ≠ 0 ∨ y = a &&& w ∨ y = a ||| w := by
  unfold stp at h
  by_cases h1 : y = a
  · rw [h1]; exact Or.inl ha
  by_cases h2 : y = w
  · rw [h2]; exact Or.inl hw
  by_cases h3 : y = a &&& w
  · exact Or.inr (Or.inl h3)
  by_cases h4 : y = a ||| w
  · exact Or.inr (Or.inr h4)
  rw [if_neg h1, if_neg h2, if_neg h3, if_neg h4] at h
  exact Or.inl h
theorem sup_lt {N : Nat} {t : Nat → Nat} (h : sup N t) {s : Nat} (hs : t s ≠ 0) : s < 2 ^ N := by
  have := (h s hs).2; omega
theorem sup_stp {N : Nat} {t : Nat → Nat} (h : sup N t) {a w : Nat} (hf : fcp N t a w) : sup N (stp t a w) := by
  obtain ⟨h1, h2, h3, h4, _⟩ := hf
  intro s hs
  rcases stp_ne h2 h3 hs with q | q | q
  · exact h s q
  · rw [q]
    have := cr_meet_pos h4
    have := cr_meet_lt h4
    have := (h a h2).2
    omega
  · rw [q]
    have := cr_join_lt (sup_lt h h2) (sup_lt h h3) h4
    have := cr_join_gt h4
    omega
theorem RR_sup {N x u : Nat} : ∀ k t t', RR N x u k t t' → sup N t → sup N t' := by
  intro k
  induction k with
  | zero => intro t t' h1 h2; have h1 : t = t' := h1; rw [← h1]; exact h2
  | succ k ih => intro t t' ⟨a, w, h1, h2, h3, h4⟩ h5; exact ih _ _ h4 (sup_stp h5 h1)
theorem NC_stp {N : Nat} {t : Nat → Nat} {a w s : Nat} (hf : fcp N t a w) (h : NC N t s) : NC N (stp t a w) s := by
  obtain ⟨h1, h2, h3, h4, _⟩ := hf
  intro y hy
  rcases stp_ne h2 h3 hy with q | q | q
  · exact h y q
  · rw [q]; exact cr_meet h4 (h a h2) (h w h3)
  · rw [q]; exact cr_join h4 (h a h2) (h w h3)
theorem RR_NC {N x u s : Nat} : ∀ k t t', RR N x u k t t' → NC N t s → NC N t' s := by
  intro k
  induction k with
  | zero => intro t t' h1 h2; have h1 : t = t' := h1; rw [← h1]; exact h2
  | succ k ih => intro t t' ⟨a, w, h1, h2, h3, h4⟩ h5; exact ih _ _ h4 (NC_stp h1 h5)
theorem stp_out {t : Nat → Nat} {a w s : Nat} (h1 : s ≠ a) (h2 : s ≠ w) (h3 : s ≠ a &&& w) (h4 : s ≠ a ||| w) : stp t a w s = t s := by
  unfold stp
  rw [if_neg h1, if_neg h2, if_neg h3, if_neg h4]
theorem RR_frame {N x u s : Nat} (hs : s ≤ x) (hn : ¬ sb s u) : ∀ k t t', RR N x u k t t' → t' s = t s := by
  intro k
  induction k with
  | zero => intro t t' h1; have h1 : t = t' := h1; rw [← h1]
  | succ k ih =>
    intro t t' ⟨a, w, h1, h2, h3, h4⟩
    rw [ih _ _ h4]
    have hj := cr_join_gt h1.2.2.2.1
    refine stp_out (fun q => hn (by rw [q]; exact h2)) (by omega) (fun q => hn (by rw [q]; exact sb_trans (sb_meet a w) h2)) (by omega)
theorem JL_stp {N x u z L : Nat} {t : Nat → Nat} (hsup : sup N t) (hz : sb u z) (hzx : z ≤ x) {a w : Nat} (hf : fcp N t a w) (ha : sb a u) (hw : x < w) (h : JL N t z L) : JL N (stp t a w) z L := by
  obtain ⟨h1, h2, h3, h4, _⟩ := hf
  intro y hy hy0
  rcases stp_ne h2 h3 hy0 with q | q | q
  · exact h y hy q
  · rw [q]; exact sb_ncr (sb_trans (sb_meet a w) (sb_trans ha hz))
  · have hj := cr_join_gt h4
    rw [q]
    refine cr_up (sb_trans ha hz) h4.1 (gt_out (sup_lt hsup h3) (by omega)) (h w (by omega) h3)
theorem RR_JL {N x u z L : Nat} (hz : sb u z) (hzx : z ≤ x) : ∀ k t t', RR N x u k t t' → sup N t → JL N t z L → JL N t' z L := by
  intro k
  induction k with
  | zero => intro t t' h1 _ h2; have h1 : t = t' := h1; rw [← h1]; exact h2
  | succ k ih => intro t t' ⟨a, w, h1, h2, h3, h4⟩ h5 h6; exact ih _ _ h4 (sup_stp h5 h1) (JL_stp h5 hz hzx h1 h2 h3 h6)
/-- weighted sums -/
def ws (c t : Nat → Nat) : Nat := totTo (fun s => c s * t s) 256
def setN (t : Nat → Nat) (s v : Nat) : Nat → Nat := fun q => if q = s then v else t q
theorem ws_set (c t : Nat → Nat) {s : Nat} (hs : s < 256) (v : Nat) : ws c (setN t s v) + c s * t s = ws c t + c s * v := by
  have h := totTo_set (fun q => c q * t q) s (c s * v) 256
  rw [if_pos hs, if_pos hs] at h
  have e : (fun q => c q * setN t s v q) = (fun q => if q = s then c s * v else c q * t q) := by
    funext q
    unfold setN
    by_cases z : q = s
    · rw [if_pos z, if_pos z, z]
    · rw [if_neg z, if_neg z]
  unfold ws
  rw [e]
  exact h
theorem setN_n {t : Nat → Nat} {s v q : Nat} (h : q ≠ s) : setN t s v q = t q := if_neg h
theorem stp_set {N : Nat} {t : Nat → Nat} {a w : Nat} (haw : a < w) (h : cr N a w) : stp t a w = setN (setN (setN (setN t a (t a - min (t a) (t w))) w (t w - min (t a) (t w))) (a &&& w) (t (a &&& w) + min (t a) (t w))) (a ||| w) (t (a ||| w) + min (t a) (t w)) := by
  have h1 := cr_meet_lt h
  have h2 := cr_join_gt h
  funext s
  unfold stp setN
  by_cases q1 : s = a
  · rw [if_pos q1, if_neg (show ¬ s = a ||| w by omega), if_neg (show ¬ s = a &&& w by omega), if_neg (show ¬ s = w by omega), if_pos q1]
  by_cases q2 : s = w
  · rw [if_neg q1, if_pos q2, if_neg (show ¬ s = a ||| w by omega), if_neg (show ¬ s = a &&& w by omega), if_pos q2]
  by_cases q3 : s = a &&& w
  · rw [if_neg q1, if_neg q2, if_pos q3, if_neg (show ¬ s = a ||| w by omega), if_pos q3, q3]
  by_cases q4 : s = a ||| w
  · rw [if_neg q1, if_neg q2, if_neg q3, if_pos q4, if_pos q4, q4]
  rw [if_neg q1, if_neg q2, if_neg q3, if_neg q4, if_neg q4, if_neg q3, if_neg q2, if_neg q1]
theorem ws_stp {N : Nat} (hN : N ≤ 8) (c : Nat → Nat) {t : Nat → Nat} {a w : Nat} (ha : a < 2 ^ N) (hw : w < 2 ^ N) (haw : a < w) (h : cr N a w) : ws c (stp t a w) + min (t a) (t w) * c a + min (t a) (t w) * c w = ws c t + min (t a) (t w) * c (a &&& w) + min (t a) (t w) * c (a ||| w) := by
  have hp : 2 ^ N ≤ 2 ^ 8 := Nat.pow_le_pow_right (by decide) hN
  have h1 := cr_meet_lt h
  have h2 := cr_join_gt h
  have h3 := cr_join_lt ha hw h
  obtain ⟨m, hm⟩ : ∃ m, m = min (t a) (t w) := ⟨_, rfl⟩
  obtain ⟨ra, hra⟩ : ∃ r, t a = m + r := ⟨t a - m, by omega⟩
  obtain ⟨rw', hrw⟩ : ∃ r, t w = m + r := ⟨t w - m, by omega⟩
  rw [stp_set haw h, ← hm]
  have e1 := ws_set c t (s := a) (by omega) (t a - m)
  have e2 := ws_set c (setN t a (t a - m)) (s := w) (by omega) (t w - m)
  have e3 := ws_set c (setN (setN t a (t a - m)) w (t w - m)) (s := a &&& w) (by omega) (t (a &&& w) + m)
  have e4 := ws_set c (setN (setN (setN t a (t a - m)) w (t w - m)) (a &&& w) (t (a &&& w) + m)) (s := a ||| w) (by omega) (t (a ||| w) + m)
  rw [setN_n (show w ≠ a by omega)] at e2
  rw [setN_n (show a &&& w ≠ w by omega), setN_n (show a &&& w ≠ a by omega)] at e3
  rw [setN_n (show a ||| w ≠ a &&& w by omega), setN_n (show a ||| w ≠ w by omega), setN_n (show a ||| w ≠ a by omega)] at e4
  rw [show t a - m = ra by omega] at *
  rw [show t w - m = rw' by omega] at *
  rw [hra, Nat.mul_add] at e1
  rw [hrw, Nat.mul_add] at e2
  rw [Nat.mul_add] at e3 e4
  rw [Nat.mul_comm m (c a), Nat.mul_comm m (c w), Nat.mul_comm m (c (a &&& w)), Nat.mul_comm m (c (a ||| w))]
  omega
/-- prices by the number of nodes, in fourths -/
def awn : Nat → Nat
  | 2 => 7
  | 3 => 7
  | 4 => 7
  | 5 => 6
  | 6 => 5
  | _ => 0
def bbn : Nat → Nat
  | 2 => 4
  | 3 => 8
  | 4 => 11
  | _ => 0
def btn (X k : Nat) : Nat := if X = 5 ∧ k = 4 then 7 else if X = 6 ∧ k = 5 then 10 else bbn k
theorem all9 {p : Nat → Nat → Nat → Bool} (h : ((List.range 9).all fun k => (List.range 9).all fun s => (List.range 9).all fun m => p k s m) = true) {k s m : Nat} (hk : k < 9) (hs : s < 9) (hm : m < 9) : p k s m = true := by
  have h1 := List.all_eq_true.mp h k (List.mem_range.mpr hk)
  have h2 := List.all_eq_true.mp h1 s (List.mem_range.mpr hs)
  exact List.all_eq_true.mp h2 m (List.mem_range.mpr hm)
theorem lp_paid {k s m : Nat} (hk : k < 9) (hs : s < 9) (hm : m < 9) : 1 ≤ m → m < k → m < s → k + s ≤ 7 + m → k ≤ 4 → bbn m + awn (k + s - m) + 4 ≤ bbn k + awn s :=
  of_decide_eq_true (all9 (p := fun k s m => decide (1 ≤ m → m < k → m < s → k + s ≤ 7 + m → k ≤ 4 → bbn m + awn (k + s - m) + 4 ≤ bbn k + awn s)) (by decide +kernel) hk hs hm)
theorem lp_free5 {s m : Nat} (hs : s < 9) (hm : m < 9) : 1 ≤ m → m < 4 → m < s → 4 + s ≤ 7 + m → bbn m + awn (4 + s - m) ≤ 7 + awn s :=
  of_decide_eq_true (all9 (p := fun _ s m => decide (1 ≤ m → m < 4 → m < s → 4 + s ≤ 7 + m → bbn m + awn (4 + s - m) ≤ 7 + awn s)) (by decide +kernel) (show 0 < 9 by decide) hs hm)
theorem lp_free6 {s m : Nat} (hs : s < 9) (hm : m < 9) : 1 ≤ m → m < 5 → m < s → 5 + s ≤ 7 + m → bbn m + awn (5 + s - m) ≤ 10 + awn s :=
  of_decide_eq_true (all9 (p := fun _ s m => decide (1 ≤ m → m < 5 → m < s → 5 + s ≤ 7 + m → bbn m + awn (5 + s - m) ≤ 10 + awn s)) (by decide +kernel) (show 0 < 9 by decide) hs hm)
theorem lp_zero {X s m : Nat} (hX : X < 9) (hs : s < 9) (hm : m < 9) : 1 ≤ m → m < X → m < s → X + s ≤ 7 + m → btn X m + awn (X + s - m) ≤ awn X + awn s ∧ (m ≤ 4 ∨ (X = 6 ∧ m = 5)) :=
  of_decide_eq_true (all9 (p := fun X s m => decide (1 ≤ m → m < X → m < s → X + s ≤ 7 + m → btn X m + awn (X + s - m) ≤ awn X + awn s ∧ (m ≤ 4 ∨ (X = 6 ∧ m = 5)))) (by decide +kernel) hX hs hm)
def cV (x s : Nat) : Nat := if x < s then awn (pc s) else 0
def VV (x : Nat) (t : Nat → Nat) : Nat := ws (cV x) t
theorem VV_stp {N : Nat} (hN : N ≤ 8) {x : Nat} {t : Nat → Nat} {a w : Nat} (ha : a < 2 ^ N) (hw : w < 2 ^ N) (h : cr N a w) (hax : a ≤ x) (hxw : x < w) : VV x (stp t a w) + min (t a) (t w) * awn (pc w) = VV x t + min (t a) (t w) * awn (pc (a ||| w)) := by
  have h1 := cr_meet_lt h
  have h2 := cr_join_gt h
  have := ws_stp hN (cV x) (t := t) ha hw (by omega) h
  have c1 : cV x a = 0 := if_neg (by omega)
  have c2 : cV x (a &&& w) = 0 := if_neg (by omega)
  have c3 : cV x w = awn (pc w) := if_pos hxw
  have c4 : cV x (a ||| w) = awn (pc (a ||| w)) := if_pos (by omega)
  rw [c1, c2, c3, c4] at this
  unfold VV
  omega
def gsum (g : Nat → Nat) (L : Nat) : Nat := totTo (fun w => if L < w then g w else 0) 256
theorem totTo_le {f g : Nat → Nat} : ∀ m, (∀ i, i < m → f i ≤ g i) → totTo f m ≤ totTo g m := by
  intro m
  induction m with
  | zero => exact fun _ => Nat.le_refl _
  | succ m ih =>
    intro h
    have h1 := ih (fun i hi => h i (by omega))
    have h2 := h m (by omega)
    show totTo f m + f m ≤ totTo g m + g m
    omega
theorem gsum_step {g : Nat → Nat} {L w : Nat} (h : L < w) (hw : w < 256) : g w + gsum g w ≤ gsum g L := by
  have h1 := totTo_set (fun y => if w < y then g y else 0) w (g w) 256
  rw [if_pos hw, if_pos hw, if_neg (Nat.lt_irrefl w)] at h1
  have h2 : totTo (fun q => if q = w then g w else (if w < q then g q else 0)) 256 ≤ gsum g L := by
    refine totTo_le 256 (fun i _ => ?_)
    show (if i = w then g w else (if w < i then g i else 0)) ≤ (if L < i then g i else 0)
    by_cases q : i = w
    · rw [if_pos q, if_pos (by omega), q]; exact Nat.le_refl _
    · rw [if_neg q]
      by_cases z : w < i
      · rw [if_pos z, if_pos (by omega)]; exact Nat.le_refl _
      · rw [if_neg z]; exact Nat.zero_le _
  unfold gsum at *
  omega
