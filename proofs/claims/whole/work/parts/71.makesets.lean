/-! the reference's makeSets -/
def BR (f : Nat → Int32) (P : Nat → Prop) (m : Nat) : Prop := ∀ d, d < m → (f d = 1 ∧ P d) ∨ (f d = 0 ∧ ¬ P d)
def coB (v : NV) (s : Nat) : Nat := 2 ^ nK v - 1 &&& (bor v s ^^^ (2 ^ 32 - 1))
def MM (v : NV) (b d : Nat) : Prop := ∃ s, s ∈ sidesOf v ∧ sb d (coB v s) ∧ ∀ i, b ≤ i → (coB v s).testBit i = true → d.testBit i = true
theorem coB_bit {v : NV} (k16 : nK v ≤ 16) {s i : Nat} : (coB v s).testBit i = true ↔ i < nK v ∧ (bor v s).testBit i = false := by
  unfold coB
  rw [Nat.testBit_and, Nat.testBit_xor, Nat.testBit_two_pow_sub_one, Nat.testBit_two_pow_sub_one, Bool.and_eq_true, decide_eq_true_eq]
  constructor
  · rintro ⟨h1, h2⟩
    refine ⟨h1, ?_⟩
    rw [show decide (i < 32) = true from decide_eq_true (by omega)] at h2
    simpa using h2
  · rintro ⟨h1, h2⟩
    refine ⟨h1, ?_⟩
    rw [h2, show decide (i < 32) = true from decide_eq_true (by omega)]; rfl
theorem coB_lt {v : NV} {s : Nat} : coB v s < 2 ^ nK v := by
  have : coB v s ≤ 2 ^ nK v - 1 := Nat.and_le_left
  have := Nat.one_le_two_pow (n := nK v)
  omega
theorem MM_zero {v : NV} {d : Nat} : MM v 0 d ↔ ∃ s, s ∈ sidesOf v ∧ d = coB v s := by
  constructor
  · rintro ⟨s, h1, h2, h3⟩
    refine ⟨s, h1, ?_⟩
    apply Nat.eq_of_testBit_eq
    intro i
    rw [Bool.eq_iff_iff]
    exact ⟨h2 i, h3 i (Nat.zero_le _)⟩
  · rintro ⟨s, h1, h2⟩
    rw [h2]
    exact ⟨s, h1, sb_refl _, fun _ _ h => h⟩
theorem MM_step {v : NV} {b d : Nat} : MM v (b + 1) d ↔ MM v b d ∨ (d.testBit b = false ∧ MM v b (d ||| 2 ^ b)) := by
  constructor
  · rintro ⟨s, h1, h2, h3⟩
    rcases tb_cases d b with q | q
    · refine Or.inl ⟨s, h1, h2, fun i hi hc => ?_⟩
      rcases (show i = b ∨ b + 1 ≤ i by omega) with z | z
      · rw [z]; exact q
      · exact h3 i z hc
    · rcases tb_cases (coB v s) b with y | y
      · refine Or.inr ⟨q, s, h1, fun i hi => ?_, fun i hi hc => ?_⟩
        · rcases or_pow_bit.mp hi with z | z
          · exact h2 i z
          · rw [← z]; exact y
        · rcases (show i = b ∨ b + 1 ≤ i by omega) with z | z
          · exact or_pow_bit.mpr (Or.inr z.symm)
          · exact or_pow_bit.mpr (Or.inl (h3 i z hc))
      · refine Or.inl ⟨s, h1, h2, fun i hi hc => ?_⟩
        rcases (show i = b ∨ b + 1 ≤ i by omega) with z | z
        · rw [z, y] at hc; cases hc
        · exact h3 i z hc
  · rintro (⟨s, h1, h2, h3⟩ | ⟨q, s, h1, h2, h3⟩)
    · exact ⟨s, h1, h2, fun i hi hc => h3 i (by omega) hc⟩
    · refine ⟨s, h1, fun i hi => h2 i (or_pow_bit.mpr (Or.inl hi)), fun i hi hc => ?_⟩
      rcases or_pow_bit.mp (h3 i (by omega) hc) with z | z
      · exact z
      · omega
theorem MM_all {v : NV} (k16 : nK v ≤ 16) {d : Nat} (hd : d < 2 ^ nK v) : MM v (nK v) d ↔ missB v d = true := by
  rw [missB_iff]
  constructor
  · rintro ⟨s, h1, h2, _⟩
    refine ⟨s, h1, ?_⟩
    apply Nat.eq_of_testBit_eq
    intro i
    rw [Nat.zero_testBit]
    apply tb_not
    intro q
    obtain ⟨q1, q2⟩ := tb_and.mp q
    have := ((coB_bit k16).mp (h2 i q2)).2
    rw [q1] at this; cases this
  · rintro ⟨s, h1, h2⟩
    refine ⟨s, h1, fun i hi => (coB_bit k16).mpr ⟨lt_bit hd hi, ?_⟩, fun i hi hc => ?_⟩
    · apply tb_not
      intro q
      have := tb_and.mpr ⟨q, hi⟩
      rw [h2, Nat.zero_testBit] at this; cases this
    · have := ((coB_bit k16).mp hc).1; omega
theorem jnz0 : jnz (0 : Int32) = 0 := by decide
theorem jnz1 : jnz (1 : Int32) = 1 := by decide
theorem ms_1 {σ : ST} {K : Nat} (hK : K ≤ 16) (n : Nat) (hn : 100000 ≤ n) : ∃ e, lp (b_m_makeSets_26 n (nI (2 ^ K))) n (σ, (0 : Int32)) = some e ∧ e.1 = σ.1 ∧ (∀ q, q ≠ 20 → e.2 q = σ.2 q) ∧ ∀ d, d < 2 ^ K → e.2 20 d = 0 := by
  have hp : 2 ^ K ≤ 2 ^ 16 := Nat.pow_le_pow_right (by decide) hK
  refine lp_inv (body := b_m_makeSets_26 n (nI (2 ^ K))) (fun (i : Nat) (t : ST × Int32) => t.2 = nI i ∧ t.1.1 = σ.1 ∧ (∀ q, q ≠ 20 → t.1.2 q = σ.2 q) ∧ ∀ d, d < i → t.1.2 20 d = 0) (fun (e : ST) => e.1 = σ.1 ∧ (∀ q, q ≠ 20 → e.2 q = σ.2 q) ∧ ∀ d, d < 2 ^ K → e.2 20 d = 0) (2 ^ K) ?_ ?_ n 0 (σ, 0) (Nat.zero_le _) (by omega) ⟨rfl, rfl, fun _ _ => rfl, fun d hd => absurd hd (Nat.not_lt_zero _)⟩
  · intro i t hi ⟨h1, h2, h3, h4⟩
    obtain ⟨ρ, y⟩ := t
    subst h1
    refine ⟨(sA ρ 20 (upd (ρ.2 20) i 0), nI (i + 1)), ?_, rfl, h2, fun q hq => ?_, fun d hd => ?_⟩
    · unfold b_m_makeSets_26
      show (if nI (2 ^ K) ≤ nI i then _ else _) = _
      rw [if_neg (nI_ge hi (by omega)), grd_t (jin_nI (by omega) (by omega)), nam_e, jnz0, jix_nI (by omega), show nI i + (1 : Int32) = nI (i + 1) from nI_1 i]
    · show (sA ρ 20 _).2 q = _
      rw [sA2n _ _ hq]; exact h3 q hq
    · show upd (ρ.2 20) i 0 d = 0
      by_cases q : d = i
      · subst q; exact upd_s
      · rw [upd_n q]; exact h4 d (by omega)
  · intro t ⟨h1, h2, h3, h4⟩
    refine ⟨t.1, ?_, h2, h3, h4⟩
    unfold b_m_makeSets_26
    rw [h1, if_pos (nI_le (Nat.le_refl _) (by omega))]
theorem ms_2 {σ : ST} {v : NV} (ok : okN v) (h25 : σ.1 25 = nI (sidesOf v).length) (h19 : ∀ x, x < (sidesOf v).length → σ.2 19 x = nI (bor v ((sidesOf v).getD x 0))) (h0 : ∀ d, d < 2 ^ nK v → σ.2 20 d = 0) (n : Nat) (hn : 100000 ≤ n) : ∃ e, lp (b_m_makeSets_46 n (nI (2 ^ nK v))) n (σ, (0 : Int32)) = some e ∧ e.1 = σ.1 ∧ (∀ q, q ≠ 20 → e.2 q = σ.2 q) ∧ BR (e.2 20) (MM v 0) (2 ^ nK v) := by
  have k16 := ok.2.2.1
  have hp : 2 ^ nK v ≤ 2 ^ 16 := Nat.pow_le_pow_right (by decide) k16
  have hl := sides_le v ok
  refine lp_inv (body := b_m_makeSets_46 n (nI (2 ^ nK v))) (fun (i : Nat) (t : ST × Int32) => t.2 = nI i ∧ t.1.1 = σ.1 ∧ (∀ q, q ≠ 20 → t.1.2 q = σ.2 q) ∧ BR (t.1.2 20) (fun d => ∃ x, x < i ∧ d = coB v ((sidesOf v).getD x 0)) (2 ^ nK v)) (fun (e : ST) => e.1 = σ.1 ∧ (∀ q, q ≠ 20 → e.2 q = σ.2 q) ∧ BR (e.2 20) (MM v 0) (2 ^ nK v)) (sidesOf v).length ?_ ?_ n 0 (σ, 0) (Nat.zero_le _) (by omega) ⟨rfl, rfl, fun _ _ => rfl, fun d hd => Or.inr ⟨h0 d hd, fun ⟨x, hx, _⟩ => absurd hx (Nat.not_lt_zero _)⟩⟩
  · intro i t hi ⟨h1, h2, h3, h4⟩
    obtain ⟨ρ, y⟩ := t
    subst h1
    have h2 : ρ.1 = σ.1 := h2
    have h3 : ∀ q, q ≠ 20 → ρ.2 q = σ.2 q := h3
    have h4 : BR (ρ.2 20) (fun d => ∃ x, x < i ∧ d = coB v ((sidesOf v).getD x 0)) (2 ^ nK v) := h4
    have hc := coB_lt (v := v) (s := (sidesOf v).getD i 0)
    have hidx : (nI (2 ^ nK v) - (1 : Int32)) &&& (ρ.2 19 i ^^^ (-1 : Int32)) = nI (coB v ((sidesOf v).getD i 0)) := by
      rw [h3 19 (by decide), h19 i hi, show (-1 : Int32) = nI (2 ^ 32 - 1) from by decide, show (1 : Int32) = nI 1 from rfl, pk_sub Nat.one_le_two_pow, xor_nI, and_nI]
      rfl
    refine ⟨(sA ρ 20 (upd (ρ.2 20) (coB v ((sidesOf v).getD i 0)) 1), nI (i + 1)), ?_, rfl, h2, fun q hq => ?_, fun d hd => ?_⟩
    · unfold b_m_makeSets_46
      show (if ρ.1 25 ≤ nI i then _ else _) = _
      rw [h2, h25, if_neg (nI_ge hi (by omega)), grd_t (jin_nI (by omega) (by omega))]
      show grd (jin ((nI (2 ^ nK v) - 1) &&& (ρ.2 19 (jix (nI i)) ^^^ -1)) 65536) (nam (sA ρ 20 (upd (ρ.2 20) (jix ((nI (2 ^ nK v) - 1) &&& (ρ.2 19 (jix (nI i)) ^^^ -1))) (jnz 1))) _) = _
      rw [jix_nI (show i < 2 ^ 31 by omega), hidx, grd_t (jin_nI (by omega) (by omega)), nam_e, jnz1, jix_nI (by omega), show nI i + (1 : Int32) = nI (i + 1) from nI_1 i]
    · show (sA ρ 20 _).2 q = _
      rw [sA2n _ _ hq]; exact h3 q hq
    · show (upd (ρ.2 20) (coB v ((sidesOf v).getD i 0)) 1 d = 1 ∧ _) ∨ (upd (ρ.2 20) (coB v ((sidesOf v).getD i 0)) 1 d = 0 ∧ _)
      by_cases q : d = coB v ((sidesOf v).getD i 0)
      · left
        rw [q]
        exact ⟨upd_s, i, by omega, rfl⟩
      · rw [upd_n q]
        rcases h4 d hd with ⟨z1, x, x1, x2⟩ | ⟨z1, z2⟩
        · exact Or.inl ⟨z1, x, by omega, x2⟩
        · refine Or.inr ⟨z1, ?_⟩
          rintro ⟨x, x1, x2⟩
          rcases (show x < i ∨ x = i by omega) with y | y
          · exact z2 ⟨x, y, x2⟩
          · rw [y] at x2; exact q x2
  · intro t ⟨h1, h2, h3, h4⟩
    refine ⟨t.1, ?_, h2, h3, fun d hd => ?_⟩
    · unfold b_m_makeSets_46
      rw [h1, h2, h25, if_pos (nI_le (Nat.le_refl _) (by omega))]
    · rcases h4 d hd with ⟨z1, x, x1, x2⟩ | ⟨z1, z2⟩
      · exact Or.inl ⟨z1, MM_zero.mpr ⟨_, getD_mem x1, x2⟩⟩
      · refine Or.inr ⟨z1, fun z => ?_⟩
        obtain ⟨s, s1, s2⟩ := MM_zero.mp z
        obtain ⟨x, x1, x2⟩ := mem_getD s1
        exact z2 ⟨x, x1, by rw [x2]; exact s2⟩
theorem ms_3i {σ : ST} {v : NV} (ok : okN v) {b : Nat} (hb : b < nK v) (hB : BR (σ.2 20) (MM v b) (2 ^ nK v)) (n : Nat) (hn : 100000 ≤ n) : ∃ e, lp (b_m_makeSets_90 n (nI (2 ^ nK v)) (nI b)) n (σ, (0 : Int32)) = some e ∧ e.1 = σ.1 ∧ (∀ q, q ≠ 20 → e.2 q = σ.2 q) ∧ BR (e.2 20) (MM v (b + 1)) (2 ^ nK v) := by
  have k16 := ok.2.2.1
  have hp : 2 ^ nK v ≤ 2 ^ 16 := Nat.pow_le_pow_right (by decide) k16
  have hpb : 2 ^ b < 2 ^ nK v := Nat.pow_lt_pow_right (by decide) hb
  refine lp_inv (body := b_m_makeSets_90 n (nI (2 ^ nK v)) (nI b)) (fun (i : Nat) (t : ST × Int32) => t.2 = nI i ∧ t.1.1 = σ.1 ∧ (∀ q, q ≠ 20 → t.1.2 q = σ.2 q) ∧ BR (t.1.2 20) (fun d => MM v b d ∨ (d < i ∧ d.testBit b = false ∧ MM v b (d ||| 2 ^ b))) (2 ^ nK v)) (fun (e : ST) => e.1 = σ.1 ∧ (∀ q, q ≠ 20 → e.2 q = σ.2 q) ∧ BR (e.2 20) (MM v (b + 1)) (2 ^ nK v)) (2 ^ nK v) ?_ ?_ n 0 (σ, 0) (Nat.zero_le _) (by omega) ⟨rfl, rfl, fun _ _ => rfl, fun d hd => ?_⟩
  · intro i t hi ⟨h1, h2, h3, h4⟩
    obtain ⟨ρ, y⟩ := t
    subst h1
    have h2 : ρ.1 = σ.1 := h2
    have h3 : ∀ q, q ≠ 20 → ρ.2 q = σ.2 q := h3
    have h4 : BR (ρ.2 20) (fun d => MM v b d ∨ (d < i ∧ d.testBit b = false ∧ MM v b (d ||| 2 ^ b))) (2 ^ nK v) := h4
    have stay : (¬ (i.testBit b = false ∧ MM v b (i ||| 2 ^ b))) → BR (ρ.2 20) (fun d => MM v b d ∨ (d < i + 1 ∧ d.testBit b = false ∧ MM v b (d ||| 2 ^ b))) (2 ^ nK v) := by
      intro hno d hd
      rcases h4 d hd with ⟨z1, z2⟩ | ⟨z1, z2⟩
      · exact Or.inl ⟨z1, z2.elim Or.inl (fun z => Or.inr ⟨by omega, z.2⟩)⟩
      · refine Or.inr ⟨z1, ?_⟩
        rintro (z | ⟨y1, y2⟩)
        · exact z2 (Or.inl z)
        · rcases (show d < i ∨ d = i by omega) with u | u
          · exact z2 (Or.inr ⟨u, y2⟩)
          · rw [u] at y2; exact hno y2
    by_cases q1 : i.testBit b = true
    · refine ⟨(ρ, nI (i + 1)), ?_, rfl, h2, h3, stay (fun z => by rw [q1] at z; cases z.1)⟩
      unfold b_m_makeSets_90 j_m_makeSets_123_90
      show (if nI (2 ^ nK v) ≤ nI i then _ else if (jshr (nI i) (nI b) &&& 1) = 0 then _ else some (Sum.inl (ρ, nI i + 1))) = _
      rw [if_neg (nI_ge hi (by omega)), if_neg (fun z => by rw [(bit_nI (by omega) (by omega)).mp z] at q1; cases q1), show nI i + (1 : Int32) = nI (i + 1) from nI_1 i]
    · have q1' : i.testBit b = false := tb_not q1
      have hor : i ||| 2 ^ b < 2 ^ nK v := Nat.or_lt_two_pow hi hpb
      have hhi : ((ρ.2 20 (i ||| 2 ^ b) = 1 ∧ MM v b (i ||| 2 ^ b)) ∨ (ρ.2 20 (i ||| 2 ^ b) = 0 ∧ ¬ MM v b (i ||| 2 ^ b))) := by
        rcases h4 _ hor with ⟨z1, z2⟩ | ⟨z1, z2⟩
        · refine Or.inl ⟨z1, z2.elim id (fun z => ?_)⟩
          have := z.2.1
          rw [show (i ||| 2 ^ b).testBit b = true from or_pow_bit.mpr (Or.inr rfl)] at this
          cases this
        · exact Or.inr ⟨z1, fun z => z2 (Or.inl z)⟩
      have hbody : b_m_makeSets_90 n (nI (2 ^ nK v)) (nI b) (ρ, nI i) = if ρ.2 20 (i ||| 2 ^ b) = 0 then some (.inl (ρ, nI (i + 1))) else some (.inl (sA ρ 20 (upd (ρ.2 20) i 1), nI (i + 1))) := by
        unfold b_m_makeSets_90 j_m_makeSets_123_90
        show (if nI (2 ^ nK v) ≤ nI i then _ else if (jshr (nI i) (nI b) &&& 1) = 0 then grd (jin (nI i ||| jshl 1 (nI b)) 65536) (if ρ.2 20 (jix (nI i ||| jshl 1 (nI b))) = 0 then some (Sum.inl (ρ, nI i + 1)) else grd (jin (nI i) 65536) (nam (sA ρ 20 (upd (ρ.2 20) (jix (nI i)) (jnz 1))) (fun σ8 => some (Sum.inl (σ8, nI i + 1))))) else _) = _
        rw [if_neg (nI_ge hi (by omega)), if_pos ((bit_nI (by omega) (by omega)).mpr q1'), or_bit2 (by omega), grd_t (jin_nI (by omega) (by omega)), jix_nI (show i ||| 2 ^ b < 2 ^ 31 by omega), grd_t (jin_nI (by omega) (by omega)), nam_e, jnz1, jix_nI (by omega), show nI i + (1 : Int32) = nI (i + 1) from nI_1 i]
      rcases hhi with ⟨z1, z2⟩ | ⟨z1, z2⟩
      · rw [z1, if_neg (by decide)] at hbody
        refine ⟨_, hbody, rfl, h2, fun q hq => ?_, fun d hd => ?_⟩
        · show (sA ρ 20 _).2 q = _
          rw [sA2n _ _ hq]; exact h3 q hq
        · show (upd (ρ.2 20) i 1 d = 1 ∧ _) ∨ (upd (ρ.2 20) i 1 d = 0 ∧ _)
          by_cases q : d = i
          · left
            rw [q]
            exact ⟨upd_s, Or.inr ⟨by omega, q1', z2⟩⟩
          · rw [upd_n q]
            rcases h4 d hd with ⟨y1, y2⟩ | ⟨y1, y2⟩
            · exact Or.inl ⟨y1, y2.elim Or.inl (fun z => Or.inr ⟨by omega, z.2⟩)⟩
            · refine Or.inr ⟨y1, ?_⟩
              rintro (z | ⟨u1, u2⟩)
              · exact y2 (Or.inl z)
              · exact y2 (Or.inr ⟨by omega, u2⟩)
      · rw [z1, if_pos rfl] at hbody
        exact ⟨_, hbody, rfl, h2, h3, stay (fun z => z2 z.2)⟩
  · intro t ⟨h1, h2, h3, h4⟩
    refine ⟨t.1, ?_, h2, h3, fun d hd => ?_⟩
    · unfold b_m_makeSets_90
      rw [h1, if_pos (nI_le (Nat.le_refl _) (by omega))]
    · rcases h4 d hd with ⟨z1, z2⟩ | ⟨z1, z2⟩
      · exact Or.inl ⟨z1, MM_step.mpr (z2.elim Or.inl (fun z => Or.inr z.2))⟩
      · exact Or.inr ⟨z1, fun z => z2 ((MM_step.mp z).elim Or.inl (fun y => Or.inr ⟨hd, y⟩))⟩
  · rcases hB d hd with ⟨z1, z2⟩ | ⟨z1, z2⟩
    · exact Or.inl ⟨z1, Or.inl z2⟩
    · exact Or.inr ⟨z1, fun z => z.elim z2 (fun y => absurd y.1 (Nat.not_lt_zero _))⟩
theorem ms_3 {σ : ST} {v : NV} (ok : okN v) (h2' : σ.1 2 = nI (nK v)) (hB : BR (σ.2 20) (MM v 0) (2 ^ nK v)) (n : Nat) (hn : 100000 ≤ n) : ∃ e, lp (b_m_makeSets_80 n (nI (2 ^ nK v))) n (σ, (0 : Int32)) = some e ∧ e.1 = σ.1 ∧ (∀ q, q ≠ 20 → e.2 q = σ.2 q) ∧ ∀ d, d < 2 ^ nK v → e.2 20 d = if missB v d then 1 else 0 := by
  have k16 := ok.2.2.1
  refine lp_inv (body := b_m_makeSets_80 n (nI (2 ^ nK v))) (fun (i : Nat) (t : ST × Int32) => t.2 = nI i ∧ t.1.1 = σ.1 ∧ (∀ q, q ≠ 20 → t.1.2 q = σ.2 q) ∧ BR (t.1.2 20) (MM v i) (2 ^ nK v)) (fun (e : ST) => e.1 = σ.1 ∧ (∀ q, q ≠ 20 → e.2 q = σ.2 q) ∧ ∀ d, d < 2 ^ nK v → e.2 20 d = if missB v d then 1 else 0) (nK v) ?_ ?_ n 0 (σ, 0) (Nat.zero_le _) (by omega) ⟨rfl, rfl, fun _ _ => rfl, hB⟩
  · intro i t hi ⟨h1, h2, h3, h4⟩
    obtain ⟨ρ, y⟩ := t
    subst h1
    have h2 : ρ.1 = σ.1 := h2
    obtain ⟨e, e1, e2, e3, e4⟩ := ms_3i ok hi h4 n hn
    refine ⟨(e, nI (i + 1)), ?_, rfl, e2.trans h2, fun q hq => (e3 q hq).trans (h3 q hq), e4⟩
    unfold b_m_makeSets_80
    show (if ρ.1 2 ≤ nI i then _ else bnd (lp (b_m_makeSets_90 n (nI (2 ^ nK v)) (nI i)) n (ρ, 0)) _) = _
    rw [h2, h2', if_neg (nI_ge hi (by omega)), bnd_s e1, show nI i + (1 : Int32) = nI (i + 1) from nI_1 i]
  · intro t ⟨h1, h2, h3, h4⟩
    refine ⟨t.1, ?_, h2, h3, fun d hd => ?_⟩
    · unfold b_m_makeSets_80
      rw [h1, h2, h2', if_pos (nI_le (Nat.le_refl _) (by omega))]
    · rcases h4 d hd with ⟨z1, z2⟩ | ⟨z1, z2⟩
      · rw [if_pos ((MM_all k16 hd).mp z2)]; exact z1
      · rw [if_neg (fun z => z2 ((MM_all k16 hd).mpr z))]; exact z1
