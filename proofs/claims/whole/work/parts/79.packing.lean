/-! packing: what both programs compute -/
def subp (p : Nat → Nat) (B t : Nat) : Nat → Nat := fun a => if B.testBit a then p a - t else p a
theorem sm_sub {p : Nat → Nat} {B t D : Nat} : ∀ K, (∀ a, a < K → B.testBit a = true → t ≤ p a) → sm (subp p B t) K D + t * ctr (fun i => D.testBit i && B.testBit i) K = sm p K D := by
  intro K
  induction K with
  | zero => intro _; rfl
  | succ K ih =>
    intro h
    have ih := ih (fun a ha => h a (by omega))
    have hK := h K (by omega)
    rw [sm_succ, sm_succ]
    show sm (subp p B t) K D + (if D.testBit K then subp p B t K else 0) + t * (ctr (fun i => D.testBit i && B.testBit i) K + if (D.testBit K && B.testBit K) then 1 else 0) = sm p K D + (if D.testBit K then p K else 0)
    rw [Nat.mul_add]
    unfold subp
    cases q1 : D.testBit K with
    | false => simp; exact ih
    | true =>
      cases q2 : B.testBit K with
      | false => simp; unfold subp at ih; omega
      | true =>
        have := hK q2
        simp
        unfold subp at ih
        omega
theorem ctr_ext {p : Nat → Bool} {K : Nat} (h : ∀ i, K ≤ i → p i = false) : ∀ M, K ≤ M → ctr p M = ctr p K := by
  intro M
  induction M with
  | zero => intro hM; rw [show K = 0 by omega]
  | succ M ih =>
    intro hM
    rcases (show K = M + 1 ∨ K ≤ M by omega) with q | q
    · rw [q]
    · show ctr p M + (if p M then 1 else 0) = _
      rw [ih q, h M q]; rfl
theorem ctr_and {K D B : Nat} (k16 : K ≤ 16) (hD : D < 2 ^ K) : ctr (fun i => D.testBit i && B.testBit i) K = pc16 (D &&& B) := by
  unfold pc16
  have e : (fun i => (D &&& B).testBit i) = (fun i => D.testBit i && B.testBit i) := by funext i; exact Nat.testBit_and ..
  rw [e, ctr_ext (K := K) (fun i hi => ?_) 16 k16]
  rw [Nat.testBit_lt_two_pow (Nat.lt_of_lt_of_le hD (Nat.pow_le_pow_right (by decide) hi))]; rfl
theorem sm_sub2 {p : Nat → Nat} {K B t D : Nat} (k16 : K ≤ 16) (hD : D < 2 ^ K) (h : ∀ a, a < K → B.testBit a = true → t ≤ p a) : sm (subp p B t) K D + t * pc16 (D &&& B) = sm p K D := by
  rw [← ctr_and k16 hD]; exact sm_sub K h
theorem pc16_pos {x : Nat} (hx : x < 2 ^ 16) (h : x ≠ 0) : 1 ≤ pc16 x := by
  have hex : ∃ i, x.testBit i = true := by
    apply Classical.byContradiction
    intro q
    apply h
    apply Nat.eq_of_testBit_eq
    intro i
    rw [Nat.zero_testBit]
    exact tb_not (fun z => q ⟨i, z⟩)
  obtain ⟨i, hi⟩ := hex
  have := ctr_lt (p := fun _ => false) (q := fun i => x.testBit i) (j := i) 16 (fun _ _ h => by cases h) (lt_bit hx hi) rfl hi
  unfold pc16; omega
def PI (v : NV) (p : Nat → Nat) (L : Nat) : Prop := ∀ D, D < 2 ^ nK v → missB v D = false → L ≤ sm p (nK v) D
def OKb (v : NV) (p : Nat → Nat) (L B t : Nat) : Prop := t ≤ L ∧ (∀ a, a < nK v → B.testBit a = true → t ≤ p a) ∧ ∀ D, D < 2 ^ nK v → missB v D = false → t * (pc16 (D &&& B) - 1) + L ≤ sm p (nK v) D
noncomputable def gtTo (v : NV) (p : Nat → Nat) (L B : Nat) : Nat → Nat
  | 0 => 0
  | t + 1 => @ite _ (OKb v p L B (t + 1)) (Classical.propDecidable _) (t + 1) (gtTo v p L B t)
noncomputable def gt (v : NV) (p : Nat → Nat) (L B : Nat) : Nat := gtTo v p L B L
theorem OKb_0 {v : NV} {p : Nat → Nat} {L B : Nat} (h : PI v p L) : OKb v p L B 0 := ⟨Nat.zero_le _, fun _ _ _ => Nat.zero_le _, fun D hD hm => by rw [Nat.zero_mul, Nat.zero_add]; exact h D hD hm⟩
theorem gtTo_spec {v : NV} {p : Nat → Nat} {L B : Nat} (h : PI v p L) : ∀ m, OKb v p L B (gtTo v p L B m) ∧ ∀ t, t ≤ m → OKb v p L B t → t ≤ gtTo v p L B m := by
  intro m
  induction m with
  | zero => exact ⟨OKb_0 h, fun t ht _ => ht⟩
  | succ m ih =>
    by_cases q : OKb v p L B (m + 1)
    · have e : gtTo v p L B (m + 1) = m + 1 := by unfold gtTo; exact if_pos q
      rw [e]
      exact ⟨q, fun t ht _ => ht⟩
    · have e : gtTo v p L B (m + 1) = gtTo v p L B m := by
        show @ite _ (OKb v p L B (m + 1)) (Classical.propDecidable _) (m + 1) (gtTo v p L B m) = _
        exact if_neg q
      rw [e]
      refine ⟨ih.1, fun t ht hok => ?_⟩
      rcases (show t = m + 1 ∨ t ≤ m by omega) with z | z
      · rw [z] at hok; exact absurd hok q
      · exact ih.2 t z hok
theorem gt_ok {v : NV} {p : Nat → Nat} {L B : Nat} (h : PI v p L) : OKb v p L B (gt v p L B) := (gtTo_spec h L).1
theorem gt_max {v : NV} {p : Nat → Nat} {L B : Nat} (h : PI v p L) {t : Nat} (ht : OKb v p L B t) : t ≤ gt v p L B := (gtTo_spec h L).2 t ht.1 ht
theorem gt_uni {v : NV} {p : Nat → Nat} {L B : Nat} (h : PI v p L) {t : Nat} (h1 : OKb v p L B t) (h2 : ∀ t', OKb v p L B t' → t' ≤ t) : t = gt v p L B := Nat.le_antisymm (gt_max h h1) (h2 _ (gt_ok h))
/-- a set that meets every border meets this one -/
theorem meets {v : NV} {s D : Nat} (hs : s ∈ sidesOf v) (hm : missB v D = false) : D &&& bor v s ≠ 0 := by
  intro q
  rw [Nat.and_comm] at q
  rw [missB_iff.mpr ⟨s, hs, q⟩] at hm
  cases hm
theorem PI_sub {v : NV} (k16 : nK v ≤ 16) {p : Nat → Nat} {L s t : Nat} (hs : s ∈ sidesOf v) (h : OKb v p L (bor v s) t) : PI v (subp p (bor v s) t) (L - t) := by
  have hp : 2 ^ nK v ≤ 2 ^ 16 := Nat.pow_le_pow_right (by decide) k16
  intro D hD hm
  have h1 := h.2.2 D hD hm
  have h2 := sm_sub2 k16 hD h.2.1
  have h3 := pc16_pos (show D &&& bor v s < 2 ^ 16 from Nat.lt_of_le_of_lt Nat.and_le_left (by omega)) (meets hs hm)
  obtain ⟨c, hc⟩ : ∃ c, pc16 (D &&& bor v s) = c + 1 := ⟨pc16 (D &&& bor v s) - 1, by omega⟩
  rw [hc] at h1 h2
  rw [Nat.mul_add] at h2
  rw [show c + 1 - 1 = c by omega] at h1
  have := h.1
  omega
theorem sides_sorted (v : NV) {i j : Nat} (hij : i < j) (hj : j < (sidesOf v).length) : (sidesOf v).getD i 0 < (sidesOf v).getD j 0 := by
  have h : (sidesOf v).Pairwise (· < ·) := List.Pairwise.filter _ List.pairwise_lt_range
  have := List.pairwise_iff_getElem.mp h i j (by omega) hj hij
  rw [List.getD_eq_getElem?_getD, List.getD_eq_getElem?_getD, List.getElem?_eq_getElem (show i < (sidesOf v).length by omega), List.getElem?_eq_getElem hj]
  exact this
abbrev PS : Type := (Nat → Nat) × Nat × (Nat → Nat) × (Nat → Int32)
/-- prices left, times left, times, loads behind k sides -/
noncomputable def ps (v : NV) (L0 : Nat) : Nat → PS
  | 0 => (nW v, L0, fun _ => 0, fun _ => 0)
  | k + 1 => (subp (ps v L0 k).1 (bor v ((sidesOf v).getD k 0)) (gt v (ps v L0 k).1 (ps v L0 k).2.1 (bor v ((sidesOf v).getD k 0))), (ps v L0 k).2.1 - gt v (ps v L0 k).1 (ps v L0 k).2.1 (bor v ((sidesOf v).getD k 0)), fun q => if q = (sidesOf v).getD k 0 then gt v (ps v L0 k).1 (ps v L0 k).2.1 (bor v ((sidesOf v).getD k 0)) else (ps v L0 k).2.2.1 q, fun a => if (bor v ((sidesOf v).getD k 0)).testBit a then (ps v L0 k).2.2.2 a + nI (gt v (ps v L0 k).1 (ps v L0 k).2.1 (bor v ((sidesOf v).getD k 0))) else (ps v L0 k).2.2.2 a)
theorem ps_inv {v : NV} (ok : okN v) {L0 : Nat} (h0 : PI v (nW v) L0) : ∀ k, k ≤ (sidesOf v).length → PI v (ps v L0 k).1 (ps v L0 k).2.1 ∧ (∀ a, a < nK v → (ps v L0 k).1 a ≤ 1000) ∧ (ps v L0 k).2.1 ≤ L0 ∧ (∀ s, (ps v L0 k).2.2.1 s ≠ 0 → ∃ y, y < k ∧ s = (sidesOf v).getD y 0) ∧ tot (ps v L0 k).2.2.1 + (ps v L0 k).2.1 = L0 := by
  have k16 := ok.2.2.1
  have hp8 : 2 ^ nN v ≤ 2 ^ 8 := Nat.pow_le_pow_right (by decide) ok.2.1
  intro k
  induction k with
  | zero =>
    intro _
    refine ⟨h0, fun a ha => (ok.2.2.2 a ha).2.2, Nat.le_refl _, fun s hs => absurd rfl hs, ?_⟩
    show tot (fun _ => 0) + L0 = L0
    unfold tot; rw [totTo_0, Nat.zero_add]
  | succ k ih =>
    intro hk
    obtain ⟨i1, i2, i3, i4, i5⟩ := ih (by omega)
    have hmem := getD_mem (show k < (sidesOf v).length by omega)
    have hok := gt_ok (B := bor v ((sidesOf v).getD k 0)) i1
    have hs256 : (sidesOf v).getD k 0 < 256 := by
      have := (mem_sides.mp hmem).2.1; omega
    have hT0 : (ps v L0 k).2.2.1 ((sidesOf v).getD k 0) = 0 := by
      apply Classical.byContradiction
      intro q
      obtain ⟨y, y1, y2⟩ := i4 _ q
      have := sides_sorted v y1 (by omega)
      omega
    refine ⟨PI_sub k16 hmem hok, fun a ha => ?_, ?_, fun s hs => ?_, ?_⟩
    · show (if (bor v ((sidesOf v).getD k 0)).testBit a then (ps v L0 k).1 a - _ else (ps v L0 k).1 a) ≤ 1000
      have := i2 a ha
      by_cases q : (bor v ((sidesOf v).getD k 0)).testBit a = true
      · rw [if_pos q]; omega
      · rw [if_neg q]; exact this
    · show (ps v L0 k).2.1 - _ ≤ L0
      omega
    · have hs : (if s = (sidesOf v).getD k 0 then gt v (ps v L0 k).1 (ps v L0 k).2.1 (bor v ((sidesOf v).getD k 0)) else (ps v L0 k).2.2.1 s) ≠ 0 := hs
      by_cases q : s = (sidesOf v).getD k 0
      · exact ⟨k, by omega, q⟩
      · rw [if_neg q] at hs
        obtain ⟨y, y1, y2⟩ := i4 s hs
        exact ⟨y, by omega, y2⟩
    · show totTo (fun q => if q = (sidesOf v).getD k 0 then gt v (ps v L0 k).1 (ps v L0 k).2.1 (bor v ((sidesOf v).getD k 0)) else (ps v L0 k).2.2.1 q) 256 + ((ps v L0 k).2.1 - gt v (ps v L0 k).1 (ps v L0 k).2.1 (bor v ((sidesOf v).getD k 0))) = L0
      have h1 := totTo_set (ps v L0 k).2.2.1 ((sidesOf v).getD k 0) (gt v (ps v L0 k).1 (ps v L0 k).2.1 (bor v ((sidesOf v).getD k 0))) 256
      rw [if_pos hs256, if_pos hs256, hT0] at h1
      have h2 : totTo (ps v L0 k).2.2.1 256 + (ps v L0 k).2.1 = L0 := i5
      have := hok.1
      omega
theorem ps_T0 {v : NV} (ok : okN v) {L0 : Nat} (h0 : PI v (nW v) L0) {k : Nat} (hk : k < (sidesOf v).length) : (ps v L0 k).2.2.1 ((sidesOf v).getD k 0) = 0 := by
  apply Classical.byContradiction
  intro q
  obtain ⟨y, y1, y2⟩ := (ps_inv ok h0 k (by omega)).2.2.2.1 _ q
  have := sides_sorted v y1 hk
  omega
/-- when nothing is left, nothing changes -/
theorem ps_end {v : NV} (ok : okN v) {L0 : Nat} (h0 : PI v (nW v) L0) {k : Nat} (hz : (ps v L0 k).2.1 = 0) : ∀ j, k + j ≤ (sidesOf v).length → (ps v L0 (k + j)).2.1 = 0 ∧ (ps v L0 (k + j)).2.2 = (0, (ps v L0 k).2.2).2 ∧ (ps v L0 (k + j)).2.2.1 = (ps v L0 k).2.2.1 := by
  intro j
  induction j with
  | zero => intro _; exact ⟨hz, rfl, rfl⟩
  | succ j ih =>
    intro hj
    obtain ⟨i1, i2, i3⟩ := ih (by omega)
    have hinv := ps_inv ok h0 (k + j) (by omega)
    have hg : gt v (ps v L0 (k + j)).1 (ps v L0 (k + j)).2.1 (bor v ((sidesOf v).getD (k + j) 0)) = 0 := by
      have := (gt_ok (B := bor v ((sidesOf v).getD (k + j) 0)) hinv.1).1
      omega
    have hT := ps_T0 ok h0 (show k + j < (sidesOf v).length by omega)
    have e1 : (ps v L0 (k + (j + 1))).2.1 = 0 := by
      show (ps v L0 (k + j)).2.1 - _ = 0
      omega
    have e2 : (ps v L0 (k + (j + 1))).2.2.1 = (ps v L0 (k + j)).2.2.1 := by
      funext q
      show (if q = (sidesOf v).getD (k + j) 0 then gt v (ps v L0 (k + j)).1 (ps v L0 (k + j)).2.1 (bor v ((sidesOf v).getD (k + j) 0)) else (ps v L0 (k + j)).2.2.1 q) = _
      rw [hg]
      by_cases z : q = (sidesOf v).getD (k + j) 0
      · rw [if_pos z, z, hT]
      · rw [if_neg z]
    have e3 : (ps v L0 (k + (j + 1))).2.2.2 = (ps v L0 (k + j)).2.2.2 := by
      funext a
      show (if (bor v ((sidesOf v).getD (k + j) 0)).testBit a then (ps v L0 (k + j)).2.2.2 a + nI (gt v (ps v L0 (k + j)).1 (ps v L0 (k + j)).2.1 (bor v ((sidesOf v).getD (k + j) 0))) else (ps v L0 (k + j)).2.2.2 a) = _
      rw [hg]
      by_cases z : (bor v ((sidesOf v).getD (k + j) 0)).testBit a = true
      · rw [if_pos z]
        show _ + (0 : Int32) = _
        rw [Int32.add_zero]
      · rw [if_neg z]
    refine ⟨e1, ?_, e2.trans i3⟩
    show ((ps v L0 (k + (j + 1))).2.2.1, (ps v L0 (k + (j + 1))).2.2.2) = (ps v L0 k).2.2
    rw [e2, e3]
    exact i2
