/-! where one comes to: closed sets, and the reference's reach -/
theorem lp_meas {S E : Type} {body : S → Option (S ⊕ E)} (I : S → Prop) (μ : S → Nat) (Q : E → Prop) (hs : ∀ s, I s → (∃ e, body s = some (.inr e) ∧ Q e) ∨ (∃ s', body s = some (.inl s') ∧ I s' ∧ μ s' < μ s)) : ∀ n s, I s → μ s < n → ∃ e, lp body n s = some e ∧ Q e := by
  intro n
  induction n with
  | zero => intro s _ h; omega
  | succ n ih =>
    intro s h1 h2
    rcases hs s h1 with ⟨e, h3, h4⟩ | ⟨s', h3, h4, h5⟩
    · refine ⟨e, ?_, h4⟩
      show (match body s with | none => none | some (.inl s') => lp body n s' | some (.inr e) => some e) = some e
      rw [h3]
    · obtain ⟨e, h6, h7⟩ := ih s' h4 (by omega)
      refine ⟨e, ?_, h7⟩
      show (match body s with | none => none | some (.inl s') => lp body n s' | some (.inr e) => some e) = some e
      rw [h3]
      exact h6
def aa (v : NV) (fo : Bool) (i : Nat) : Nat := if fo then nT v i else nH v i
def ab (v : NV) (fo : Bool) (i : Nat) : Nat := if fo then nH v i else nT v i
def clP (v : NV) (bo : Nat → Bool) (fo : Bool) (P : Nat → Prop) : Prop := ∀ i, i < nK v → (P (aa v fo i) → P (ab v fo i)) ∧ (bo i = true → P (ab v fo i) → P (aa v fo i))
def HR (v : NV) (bo : Nat → Bool) (fo : Bool) (u w : Nat) : Prop := ∀ P : Nat → Prop, clP v bo fo P → P u → P w
noncomputable def hl (v : NV) (bo : Nat → Bool) (fo : Bool) (u : Nat) : Nat := gb (fun w => @decide (HR v bo fo u w) (Classical.propDecidable _)) (nN v)
theorem hl_bit {v : NV} {bo : Nat → Bool} {fo : Bool} {u w : Nat} : (hl v bo fo u).testBit w = true ↔ w < nN v ∧ HR v bo fo u w := by
  unfold hl
  rw [gb_bit, Bool.and_eq_true, decide_eq_true_eq]
  constructor
  · rintro ⟨h1, h2⟩; exact ⟨h1, @of_decide_eq_true _ (Classical.propDecidable _) h2⟩
  · rintro ⟨h1, h2⟩; exact ⟨h1, @decide_eq_true _ (Classical.propDecidable _) h2⟩
theorem hl_lt (v : NV) (bo : Nat → Bool) (fo : Bool) (u : Nat) : hl v bo fo u < 2 ^ nN v := gb_lt _ _
theorem aa_lt {v : NV} (ok : okN v) (fo : Bool) {i : Nat} (hi : i < nK v) : aa v fo i < nN v := by
  have h := ok.2.2.2 i hi
  unfold aa
  cases fo
  · exact h.2.1
  · exact h.1
theorem ab_lt {v : NV} (ok : okN v) (fo : Bool) {i : Nat} (hi : i < nK v) : ab v fo i < nN v := by
  have h := ok.2.2.2 i hi
  unfold ab
  cases fo
  · exact h.1
  · exact h.2.1
theorem HR_refl {v : NV} {bo : Nat → Bool} {fo : Bool} (u : Nat) : HR v bo fo u u := fun _ _ h => h
theorem HR_trans {v : NV} {bo : Nat → Bool} {fo : Bool} {a b c : Nat} (h1 : HR v bo fo a b) (h2 : HR v bo fo b c) : HR v bo fo a c := fun P hP h => h2 P hP (h1 P hP h)
theorem HR_lt {v : NV} (ok : okN v) {bo : Nat → Bool} {fo : Bool} {u w : Nat} (hu : u < nN v) (h : HR v bo fo u w) : w < nN v :=
  h (fun w => w < nN v) (fun i hi => ⟨fun _ => ab_lt ok fo hi, fun _ _ => aa_lt ok fo hi⟩) hu
theorem clP_dual {v : NV} {bo : Nat → Bool} {fo : Bool} {P : Nat → Prop} (h : clP v bo fo P) : clP v bo (!fo) (fun w => ¬ P w) := by
  intro i hi
  obtain ⟨h1, h2⟩ := h i hi
  have e1 : aa v (!fo) i = ab v fo i := by unfold aa ab; cases fo <;> rfl
  have e2 : ab v (!fo) i = aa v fo i := by unfold aa ab; cases fo <;> rfl
  rw [e1, e2]
  exact ⟨fun q p => q (h1 p), fun b q p => q (h2 b p)⟩
theorem HR_dual {v : NV} {bo : Nat → Bool} {u w : Nat} : HR v bo false u w ↔ HR v bo true w u := by
  constructor
  · intro h P hP hw
    apply Classical.byContradiction
    intro hu
    exact h (fun x => ¬ P x) (clP_dual hP) hu hw
  · intro h P hP hu
    apply Classical.byContradiction
    intro hw
    exact h (fun x => ¬ P x) (clP_dual hP) hw hu
theorem HR_sym {v : NV} {bo : Nat → Bool} (hb : ∀ i, i < nK v → bo i = true) {u w : Nat} (h : HR v bo true u w) : HR v bo false u w := by
  intro P hP hu
  refine h P (fun i hi => ?_) hu
  obtain ⟨h1, h2⟩ := hP i hi
  exact ⟨fun q => h2 (hb i hi) q, fun _ q => h1 q⟩
theorem HR_sym2 {v : NV} {bo : Nat → Bool} (hb : ∀ i, i < nK v → bo i = true) {u w : Nat} (h : HR v bo false u w) : HR v bo true u w := by
  intro P hP hu
  refine h P (fun i hi => ?_) hu
  obtain ⟨h1, h2⟩ := hP i hi
  exact ⟨fun q => h2 (hb i hi) q, fun _ q => h1 q⟩
theorem hl_uni {v : NV} (ok : okN v) {bo : Nat → Bool} {fo : Bool} {u r : Nat} (hu : u < nN v) (h1 : r.testBit u = true) (h2 : clP v bo fo (fun w => r.testBit w = true)) (h3 : ∀ P, clP v bo fo P → P u → ∀ w, r.testBit w = true → P w) : r = hl v bo fo u := by
  apply Nat.eq_of_testBit_eq
  intro w
  rw [Bool.eq_iff_iff, hl_bit]
  constructor
  · intro h
    have : HR v bo fo u w := fun P hP hP1 => h3 P hP hP1 w h
    exact ⟨HR_lt ok hu this, this⟩
  · intro h
    exact h.2 _ h2 h1
/-- one arc looked at, one pass over the arcs -/
def rst (v : NV) (bo : Nat → Bool) (fo : Bool) (k s : Nat) : Nat :=
  if bo k && (if s.testBit (aa v fo k) then s ||| 2 ^ ab v fo k else s).testBit (ab v fo k) then (if s.testBit (aa v fo k) then s ||| 2 ^ ab v fo k else s) ||| 2 ^ aa v fo k else (if s.testBit (aa v fo k) then s ||| 2 ^ ab v fo k else s)
def rps (v : NV) (bo : Nat → Bool) (fo : Bool) : Nat → Nat → Nat
  | 0, s => s
  | m + 1, s => rst v bo fo m (rps v bo fo m s)
theorem or_pow_bit {s k w : Nat} : (s ||| 2 ^ k).testBit w = true ↔ s.testBit w = true ∨ k = w := by
  rw [Nat.testBit_or, Nat.testBit_two_pow, Bool.or_eq_true, decide_eq_true_eq]
theorem rst_bit {v : NV} {bo : Nat → Bool} {fo : Bool} {k s w : Nat} : (rst v bo fo k s).testBit w = true ↔ s.testBit w = true ∨ (s.testBit (aa v fo k) = true ∧ ab v fo k = w) ∨ (bo k = true ∧ (s.testBit (ab v fo k) = true ∨ s.testBit (aa v fo k) = true) ∧ aa v fo k = w) := by
  unfold rst
  by_cases h1 : s.testBit (aa v fo k) = true
  · rw [if_pos h1]
    by_cases h2 : (bo k && (s ||| 2 ^ ab v fo k).testBit (ab v fo k)) = true
    · rw [if_pos h2, or_pow_bit, or_pow_bit]
      rw [Bool.and_eq_true] at h2
      constructor
      · rintro ((h | h) | h)
        · exact Or.inl h
        · exact Or.inr (Or.inl ⟨h1, h⟩)
        · exact Or.inr (Or.inr ⟨h2.1, Or.inr h1, h⟩)
      · rintro (h | ⟨_, h⟩ | ⟨_, _, h⟩)
        · exact Or.inl (Or.inl h)
        · exact Or.inl (Or.inr h)
        · exact Or.inr h
    · rw [if_neg h2, or_pow_bit]
      constructor
      · rintro (h | h)
        · exact Or.inl h
        · exact Or.inr (Or.inl ⟨h1, h⟩)
      · rintro (h | ⟨_, h⟩ | ⟨_, _, h⟩)
        · exact Or.inl h
        · exact Or.inr h
        · subst h; exact Or.inl h1
  · rw [if_neg h1]
    by_cases h2 : (bo k && s.testBit (ab v fo k)) = true
    · rw [if_pos h2, or_pow_bit]
      rw [Bool.and_eq_true] at h2
      constructor
      · rintro (h | h)
        · exact Or.inl h
        · exact Or.inr (Or.inr ⟨h2.1, Or.inl h2.2, h⟩)
      · rintro (h | ⟨h, _⟩ | ⟨_, _, h⟩)
        · exact Or.inl h
        · exact absurd h h1
        · exact Or.inr h
    · rw [if_neg h2]
      constructor
      · exact Or.inl
      · rintro (h | ⟨h, _⟩ | ⟨hb, h, _⟩)
        · exact h
        · exact absurd h h1
        · rcases h with h | h
          · exact absurd (by rw [hb, h]; rfl) h2
          · exact absurd h h1
theorem rps_mono {v : NV} {bo : Nat → Bool} {fo : Bool} {s w : Nat} : ∀ m k, k ≤ m → (rps v bo fo k s).testBit w = true → (rps v bo fo m s).testBit w = true := by
  intro m
  induction m with
  | zero => intro k hk h; rw [show k = 0 by omega] at h; exact h
  | succ m ih =>
    intro k hk h
    rcases (show k = m + 1 ∨ k ≤ m by omega) with q | q
    · rw [q] at h; exact h
    · exact rst_bit.mpr (Or.inl (ih k q h))
theorem rps_sound {v : NV} {bo : Nat → Bool} {fo : Bool} {P : Nat → Prop} (hP : clP v bo fo P) {s : Nat} (hs : ∀ w, s.testBit w = true → P w) : ∀ m, m ≤ nK v → ∀ w, (rps v bo fo m s).testBit w = true → P w := by
  intro m
  induction m with
  | zero => intro _ w h; exact hs w h
  | succ m ih =>
    intro hm w h
    have ih := ih (by omega)
    obtain ⟨p1, p2⟩ := hP m (by omega)
    rcases rst_bit.mp h with h0 | ⟨h0, e⟩ | ⟨hb, h0, e⟩
    · exact ih w h0
    · subst e; exact p1 (ih _ h0)
    · subst e
      rcases h0 with h1 | h1
      · exact p2 hb (ih _ h1)
      · exact ih _ h1
theorem rps_closed {v : NV} {bo : Nat → Bool} {fo : Bool} {s : Nat} (h : rps v bo fo (nK v) s = s) : clP v bo fo (fun w => s.testBit w = true) := by
  intro k hk
  have e : ∀ m, m ≤ nK v → rps v bo fo m s = s := by
    intro m hm
    apply Nat.eq_of_testBit_eq
    intro w
    rw [Bool.eq_iff_iff]
    constructor
    · intro q
      have := rps_mono (nK v) m hm q
      rw [h] at this; exact this
    · intro q
      exact rps_mono (s := s) m 0 (Nat.zero_le _) q
  have e1 : rst v bo fo k s = s := by
    have := e (k + 1) (by omega)
    have h2 : rps v bo fo (k + 1) s = rst v bo fo k (rps v bo fo k s) := rfl
    rw [h2, e k (by omega)] at this
    exact this
  refine ⟨fun q => ?_, fun hb q => ?_⟩
  · show s.testBit _ = true
    rw [← e1]
    exact rst_bit.mpr (Or.inr (Or.inl ⟨q, rfl⟩))
  · show s.testBit _ = true
    rw [← e1]
    exact rst_bit.mpr (Or.inr (Or.inr ⟨hb, Or.inl q, rfl⟩))
theorem rps_lt {v : NV} (ok : okN v) {bo : Nat → Bool} {fo : Bool} {s : Nat} (hs : s < 2 ^ nN v) : ∀ m, m ≤ nK v → rps v bo fo m s < 2 ^ nN v := by
  intro m
  induction m with
  | zero => exact fun _ => hs
  | succ m ih =>
    intro hm
    have ih := ih (by omega)
    have ha : 2 ^ aa v fo m < 2 ^ nN v := Nat.pow_lt_pow_right (by decide) (aa_lt ok fo (show m < nK v by omega))
    have hb : 2 ^ ab v fo m < 2 ^ nN v := Nat.pow_lt_pow_right (by decide) (ab_lt ok fo (show m < nK v by omega))
    show rst v bo fo m (rps v bo fo m s) < _
    have h1 : (if (rps v bo fo m s).testBit (aa v fo m) then rps v bo fo m s ||| 2 ^ ab v fo m else rps v bo fo m s) < 2 ^ nN v := by
      by_cases q : (rps v bo fo m s).testBit (aa v fo m) = true
      · rw [if_pos q]; exact Nat.or_lt_two_pow ih hb
      · rw [if_neg q]; exact ih
    unfold rst
    by_cases q : (bo m && (if (rps v bo fo m s).testBit (aa v fo m) then rps v bo fo m s ||| 2 ^ ab v fo m else rps v bo fo m s).testBit (ab v fo m)) = true
    · rw [if_pos q]; exact Nat.or_lt_two_pow h1 ha
    · rw [if_neg q]; exact h1
theorem sub_le {a b : Nat} (h : ∀ w, a.testBit w = true → b.testBit w = true) : a ≤ b := by
  have e : a ||| b = b := by
    apply Nat.eq_of_testBit_eq
    intro w
    rw [Nat.testBit_or]
    cases h1 : a.testBit w with
    | false => rfl
    | true => rw [h w h1]; rfl
  rw [← e]
  exact Nat.left_le_or
/-- an int's bit i, as both sides read it -/
def bof (b : Int32) (i : Nat) : Bool := decide (¬ (jshr b (nI i) &&& (1 : Int32)) = 0)
theorem or_bit2 {s k : Nat} (hk : k < 31) : nI s ||| jshl (1 : Int32) (nI k) = nI (s ||| 2 ^ k) := by
  have hp : 2 ^ k ≤ 2 ^ 30 := Nat.pow_le_pow_right (by decide) (by omega)
  rw [show (1 : Int32) = nI 1 from rfl, jshl_nI (by omega) (by omega), Nat.one_mul, or_nI]
theorem reach_one {τ : ST} {v : NV} (hv : isNet (τ.1 1) (τ.1 2) (τ.2 1) (τ.2 2) (τ.2 3) v) (ok : okN v) (n : Nat) (b : Int32) (fo : Bool) {x : Int32} {i s : Nat} (hi : i < nK v) (hs : s < 2 ^ nN v) : b_m_reach_20 n τ b (if fo then 1 else 0) x (nI s, nI i) = some (.inl (nI (rst v (bof b) fo i s), nI (i + 1))) := by
  obtain ⟨hN, hK, har⟩ := hv
  obtain ⟨h1, h2, h3⟩ := har i hi
  have k16 := ok.2.2.1
  have n8 := ok.2.1
  have hp : 2 ^ nN v ≤ 2 ^ 8 := Nat.pow_le_pow_right (by decide) n8
  have gi : jin (nI i) 16 = true := jin_nI (by omega) (by omega)
  have ha := aa_lt ok fo hi
  have hb := ab_lt ok fo hi
  have key : ∀ s1, s1 < 2 ^ nN v → j_m_reach_94_20 n τ b (if fo then 1 else 0) (nI s1) x (nI i) (nI (aa v fo i)) (nI (ab v fo i)) = some (.inl (nI (if bof b i && s1.testBit (ab v fo i) then s1 ||| 2 ^ aa v fo i else s1), nI (i + 1))) := by
    intro s1 hs1
    unfold j_m_reach_94_20 j_m_reach_122_20
    simp only [nam_e]
    rw [show nI i + (1 : Int32) = nI (i + 1) from nI_1 i, or_bit2 (by omega)]
    by_cases q : (jshr b (nI i) &&& (1 : Int32)) = 0
    · rw [if_pos q, if_neg (by unfold bof; simp [q])]
    · have q1 : bof b i = true := by unfold bof; exact decide_eq_true q
      rw [if_neg q, q1, Bool.true_and]
      by_cases q2 : s1.testBit (ab v fo i) = true
      · rw [if_neg (fun z => by rw [(bit_nI (by omega) (by omega)).mp z] at q2; cases q2), if_pos q2]
      · rw [if_pos ((bit_nI (by omega) (by omega)).mpr (by simpa using q2)), if_neg q2]
  have key2 : j_m_reach_73_20 n τ b (if fo then 1 else 0) (nI s) x (nI i) (nI (aa v fo i)) (nI (ab v fo i)) = some (.inl (nI (rst v (bof b) fo i s), nI (i + 1))) := by
    unfold j_m_reach_73_20 rst
    simp only [nam_e]
    rw [or_bit2 (by omega)]
    by_cases q : s.testBit (aa v fo i) = true
    · rw [if_neg (fun z => by rw [(bit_nI (by omega) (by omega)).mp z] at q; cases q), key _ (Nat.or_lt_two_pow hs (Nat.pow_lt_pow_right (by decide) hb))]
      simp only [if_pos q]
    · rw [if_pos ((bit_nI (by omega) (by omega)).mpr (by simpa using q)), key s hs]
      simp only [if_neg q]
  unfold b_m_reach_20
  show (if τ.1 2 ≤ nI i then _ else _) = _
  rw [hK, if_neg (nI_ge hi (by omega))]
  cases fo with
  | true =>
    rw [if_neg (by decide)]
    show grd (jin (nI i) 16) (j_m_reach_50_20 n τ b 1 (nI s) x (nI i) (τ.2 1 (jix (nI i)))) = _
    rw [grd_t gi, jix_nI (by omega), h1]
    unfold j_m_reach_50_20
    rw [if_neg (by decide), grd_t gi, jix_nI (by omega), h2]
    exact key2
  | false =>
    rw [if_pos (by decide)]
    show grd (jin (nI i) 16) (j_m_reach_50_20 n τ b 0 (nI s) x (nI i) (τ.2 2 (jix (nI i)))) = _
    rw [grd_t gi, jix_nI (by omega), h2]
    unfold j_m_reach_50_20
    rw [if_pos (by decide), grd_t gi, jix_nI (by omega), h1]
    exact key2
theorem p_reach {τ : ST} {v : NV} (hv : isNet (τ.1 1) (τ.1 2) (τ.2 1) (τ.2 2) (τ.2 3) v) (ok : okN v) (n : Nat) (hn : 1000 ≤ n) (b : Int32) (fo : Bool) {u : Nat} (hu : u < nN v) : f_m_reach n τ (nI (2 ^ u)) b (if fo then 1 else 0) = some (nI (hl v (bof b) fo u)) := by
  have n8 := ok.2.1
  have k16 := ok.2.2.1
  have hp : 2 ^ nN v ≤ 2 ^ 8 := Nat.pow_le_pow_right (by decide) n8
  have pass : ∀ s (x : Int32), s < 2 ^ nN v → lp (b_m_reach_20 n τ b (if fo then 1 else 0) x) n (nI s, (0 : Int32)) = some (nI (rps v (bof b) fo (nK v) s)) := by
    intro s x hs
    refine lp_for (fun i => (nI (rps v (bof b) fo i s), nI i)) (nK v) (fun i hi => ?_) ?_ n (by omega)
    · exact reach_one hv ok n b fo hi (rps_lt ok hs i (by omega))
    · unfold b_m_reach_20
      show (if τ.1 2 ≤ nI (nK v) then _ else _) = _
      rw [hv.2.1, if_pos (nI_le (Nat.le_refl _) (by omega))]
  obtain ⟨e, he, hQ⟩ := lp_meas (body := b_m_reach_6 n τ b (if fo then 1 else 0)) (fun (t : Int32 × Int32) => ∃ s p, t = (nI s, nI p) ∧ s < 2 ^ nN v ∧ p < 2 ^ nN v ∧ s.testBit u = true ∧ (∀ P, clP v (bof b) fo P → P u → ∀ w, s.testBit w = true → P w) ∧ (s = p → rps v (bof b) fo (nK v) s = s)) (fun t => 2 * (256 - jix t.1) + if t.1 = t.2 then 0 else 1) (fun e => e = nI (hl v (bof b) fo u)) (by
      rintro t ⟨s, p, rfl, hs, hp1, h1, h2, h3⟩
      unfold b_m_reach_6
      by_cases q : nI s = nI p
      · left
        refine ⟨nI s, if_pos q, ?_⟩
        rw [hl_uni ok hu h1 (rps_closed (h3 (nI_inj (by omega) (by omega) q))) h2]
      · right
        have hr := rps_lt (bo := bof b) (fo := fo) ok hs (nK v) (Nat.le_refl _)
        refine ⟨(nI (rps v (bof b) fo (nK v) s), nI s), ?_, ⟨_, s, rfl, hr, hs, rps_mono (s := s) (nK v) 0 (Nat.zero_le _) h1, fun P hP hPu => rps_sound hP (h2 P hP hPu) (nK v) (Nat.le_refl _), fun z => by rw [z]; exact z⟩, ?_⟩
        · show (if nI s = nI p then _ else bnd (lp (b_m_reach_20 n τ b (if fo then 1 else 0) (nI s)) n (nI s, (0 : Int32))) _) = _
          rw [if_neg q, bnd_s (pass s (nI s) hs)]
        · have hle : s ≤ rps v (bof b) fo (nK v) s := sub_le (fun w hw => rps_mono (s := s) (nK v) 0 (Nat.zero_le _) hw)
          show 2 * (256 - jix (nI (rps v (bof b) fo (nK v) s))) + (if nI (rps v (bof b) fo (nK v) s) = nI s then 0 else 1) < 2 * (256 - jix (nI s)) + (if nI s = nI p then 0 else 1)
          rw [if_neg q, jix_nI (by omega), jix_nI (by omega)]
          by_cases z : rps v (bof b) fo (nK v) s = s
          · rw [z, if_pos rfl]; omega
          · rw [if_neg (fun y => z (nI_inj (by omega) (by omega) y))]; omega) n (nI (2 ^ u), (0 : Int32)) ⟨2 ^ u, 0, rfl, Nat.pow_lt_pow_right (by decide) hu, Nat.pos_of_ne_zero (by simp), by rw [Nat.testBit_two_pow]; simp, fun P hP hPu w hw => by
        rw [Nat.testBit_two_pow, decide_eq_true_eq] at hw
        subst hw; exact hPu, fun q => absurd q (by have := Nat.one_le_two_pow (n := u); omega)⟩ (by
        show 2 * (256 - jix (nI (2 ^ u))) + (if nI (2 ^ u) = (0 : Int32) then 0 else 1) < n
        by_cases z : nI (2 ^ u) = (0 : Int32)
        · rw [if_pos z]; omega
        · rw [if_neg z]; omega)
  unfold f_m_reach
  rw [bnd_s he, hQ]
