/-! Search.boundOf, all of it -/
theorem cl_bit {b C a : Nat} (ha : b < 2 ^ 16) : (b &&& (C ^^^ (2 ^ 32 - 1))).testBit a = true ↔ b.testBit a = true ∧ C.testBit a = false := by
  rw [Nat.testBit_and, Nat.testBit_xor, Nat.testBit_two_pow_sub_one, Bool.and_eq_true]
  constructor
  · rintro ⟨h1, h2⟩
    have := lt_bit ha h1
    rw [show decide (a < 32) = true from decide_eq_true (by omega)] at h2
    exact ⟨h1, by simpa using h2⟩
  · rintro ⟨h1, h2⟩
    have := lt_bit ha h1
    rw [h2, show decide (a < 32) = true from decide_eq_true (by omega)]
    exact ⟨h1, rfl⟩
theorem cl_nI (b C : Nat) : nI b &&& (nI C ^^^ (-1 : Int32)) = nI (b &&& (C ^^^ (2 ^ 32 - 1))) := by
  rw [show (-1 : Int32) = nI (2 ^ 32 - 1) from by decide, xor_nI, and_nI]
/-- what boundOf leaves -/
def bndG (m : Nat) (kb : Nat → Nat) (T C G : Nat) : Prop := (G = 0 ∧ ∀ x, x < m → kb x &&& T ≠ 0) ∨ (G ≠ 0 ∧ ∃ x, x < m ∧ kb x &&& T = 0 ∧ G = kb x &&& (C ^^^ (2 ^ 32 - 1)))
def hits (m : Nat) (kb : Nat → Nat) (T C Z : Nat) : Prop := ∀ x, x < m → kb x &&& T = 0 → ∃ a, (kb x).testBit a = true ∧ C.testBit a = false ∧ Z.testBit a = true
theorem p_bound {σ : ST} {K m : Nat} {kb p : Nat → Nat} (hK : σ.1 1158 = nI K) (k16 : K ≤ 16) (hm : σ.1 1154 = nI m) (m256 : m ≤ 256) (hkb : ∀ x, x < m → σ.2 19 x = nI (kb x) ∧ kb x < 2 ^ K) (hpr : ∀ a, a < K → σ.2 20 a = nI (p a)) (hpl : sm p K (2 ^ K - 1) < 2 ^ 30) {T C : Nat} (hT : T < 2 ^ 16) (n : Nat) (hn : 1000 ≤ n) : ∃ r e, f_Search_boundOf n σ (nI T) (nI C) = some (r, e) ∧ (∀ c, c ≠ 1155 → c ≠ 1156 → e.1 c = σ.1 c) ∧ (∀ q, q ≠ 21 → e.2 q = σ.2 q) ∧ ((r = -1 ∧ ∃ x, x < m ∧ kb x &&& T = 0 ∧ kb x &&& (C ^^^ (2 ^ 32 - 1)) = 0) ∨ ∃ S G, r = nI S ∧ S < 2 ^ 30 ∧ e.1 1155 = nI G ∧ bndG m kb T C G ∧ ∀ Z, hits m kb T C Z → S ≤ sm p K Z) := by
  have hp : 2 ^ K ≤ 2 ^ 16 := Nat.pow_le_pow_right (by decide) k16
  have hall : ∀ Z, sm p K Z ≤ sm p K (2 ^ K - 1) := by
    intro Z
    refine totTo_le K (fun i hi => ?_)
    rw [Nat.testBit_two_pow_sub_one, show decide (i < K) = true from decide_eq_true hi, if_pos rfl]
    by_cases q : Z.testBit i = true
    · rw [if_pos q]; exact Nat.le_refl _
    · rw [if_neg q]; exact Nat.zero_le _
  have hsl0 : ∀ a, a < K → p a < 2 ^ 30 := by
    intro a ha
    have h1 : totTo (fun i => if i = a then p a else 0) K ≤ sm p K (2 ^ K - 1) := by
      refine totTo_le K (fun i hi => ?_)
      rw [Nat.testBit_two_pow_sub_one, show decide (i < K) = true from decide_eq_true hi, if_pos rfl]
      by_cases q : i = a
      · rw [if_pos q, q]; exact Nat.le_refl _
      · rw [if_neg q]; exact Nat.zero_le _
    rw [totTo_one, if_pos ha] at h1
    omega
  obtain ⟨e9, he9, hQ⟩ := lp_meas (body := b_Search_boundOf_34 n (nI T) (nI C)) (fun (t : ST × Int32 × Int32 × Int32) => ∃ i S F G sl, t.2.1 = nI S ∧ t.2.2.1 = nI F ∧ t.2.2.2 = nI i ∧ i ≤ m ∧ F ≤ 17 ∧ (∃ dr, t.1.1 1156 = nI dr) ∧ (∀ c, c ≠ 1155 → c ≠ 1156 → t.1.1 c = σ.1 c) ∧ (∀ q, q ≠ 21 → t.1.2 q = σ.2 q) ∧ (∀ a, a < K → t.1.2 21 a = nI (sl a) ∧ sl a < 2 ^ 30) ∧ t.1.1 1155 = nI G ∧ bndG i kb T C G ∧ (G = 0 → F = 17) ∧ (∀ x, x < i → kb x &&& T = 0 → kb x &&& (C ^^^ (2 ^ 32 - 1)) ≠ 0) ∧ ∀ Z, hits i kb T C Z → S + sm sl K Z ≤ sm p K Z) (fun t => m - jix t.2.2.2) (fun (e : (ST × Int32) ⊕ (Int32 × ST)) => ∃ r ρ, Sum.elim (fun (t : ST × Int32) => some (t.2, t.1)) (fun r => some r) e = some (r, ρ) ∧ (∀ c, c ≠ 1155 → c ≠ 1156 → ρ.1 c = σ.1 c) ∧ (∀ q, q ≠ 21 → ρ.2 q = σ.2 q) ∧ ((r = -1 ∧ ∃ x, x < m ∧ kb x &&& T = 0 ∧ kb x &&& (C ^^^ (2 ^ 32 - 1)) = 0) ∨ ∃ S G, r = nI S ∧ S < 2 ^ 30 ∧ ρ.1 1155 = nI G ∧ bndG m kb T C G ∧ ∀ Z, hits m kb T C Z → S ≤ sm p K Z)) (by
      rintro ⟨ρ, t1, t2, t3⟩ ⟨i, S, F, G, sl, h1, h2, h3, h4, h5, ⟨dr, h6⟩, h7, h8, h9, h10, h11, h12, h13, h14⟩
      have h1 : t1 = nI S := h1
      have h2 : t2 = nI F := h2
      have h3 : t3 = nI i := h3
      subst h1 h2 h3
      have h6 : ρ.1 1156 = nI dr := h6
      have h7 : ∀ c, c ≠ 1155 → c ≠ 1156 → ρ.1 c = σ.1 c := h7
      have h8 : ∀ q, q ≠ 21 → ρ.2 q = σ.2 q := h8
      have h9 : ∀ a, a < K → ρ.2 21 a = nI (sl a) ∧ sl a < 2 ^ 30 := h9
      have h10 : ρ.1 1155 = nI G := h10
      have r1154 : ρ.1 1154 = nI m := by rw [h7 1154 (by decide) (by decide)]; exact hm
      by_cases hi : i = m
      · left
        subst hi
        refine ⟨.inl (ρ, nI S), ?_, nI S, ρ, rfl, h7, h8, Or.inr ⟨S, G, rfl, ?_, h10, h11, fun Z hZ => by have := h14 Z hZ; omega⟩⟩
        · unfold b_Search_boundOf_34
          show (if ρ.1 1154 ≤ nI i then _ else _) = _
          rw [r1154, if_pos (nI_le (Nat.le_refl _) (by omega))]
        · have hh : hits i kb T C (2 ^ K - 1) := by
            intro x hx h0
            obtain ⟨a, a1, a2⟩ := and_ne_iff.mp (h13 x hx h0)
            have hb := (cl_bit (C := C) (a := a) (Nat.lt_of_lt_of_le (hkb x hx).2 hp)).mp (tb_and.mpr ⟨a1, a2⟩)
            refine ⟨a, hb.1, hb.2, ?_⟩
            rw [Nat.testBit_two_pow_sub_one]; exact decide_eq_true (lt_bit (hkb x hx).2 hb.1)
          have := h14 _ hh
          omega
      · have hlt : i < m := by omega
        obtain ⟨k1, k2⟩ := hkb i hlt
        have ri : ρ.2 19 i = nI (kb i) := by rw [h8 19 (by decide)]; exact k1
        have gi : jin (nI i) 256 = true := jin_nI (by omega) (by omega)
        have ji : jix (nI i) = i := jix_nI (by omega)
        have hkl : kb i &&& T ≤ kb i := Nat.and_le_left
        have hz := nI_zero_iff (a := kb i &&& T) (by omega)
        obtain ⟨op, hop⟩ : ∃ op, op = kb i &&& (C ^^^ (2 ^ 32 - 1)) := ⟨_, rfl⟩
        have hopl : op ≤ kb i := by rw [hop]; exact Nat.and_le_left
        have hzo := nI_zero_iff (a := op) (by omega)
        have start : b_Search_boundOf_34 n (nI T) (nI C) (ρ, nI S, nI F, nI i) = if kb i &&& T = 0 then (if op = 0 then some (.inr (.inr ((-1 : Int32), ρ))) else bnd (f_Search_drawFromSlack n ρ (nI op)) fun o5 => bnd (f_bitCount (nI op)) fun o6 => if nI F ≤ o6 then some (.inl (o5.2, nI S + o5.1, nI F, nI (i + 1))) else bnd (f_bitCount (nI op)) fun o7 => some (.inl (sS o5.2 1155 (nI op), nI S + o5.1, o7, nI (i + 1)))) else some (.inl (ρ, nI S, nI F, nI (i + 1))) := by
          unfold b_Search_boundOf_34 j_Search_boundOf_110_34
          show (if ρ.1 1154 ≤ nI i then _ else _) = _
          rw [r1154, if_neg (nI_ge hlt (by omega))]
          simp only [nam_e, gi, grd_tt, ji, ri]
          rw [show nI i + (1 : Int32) = nI (i + 1) from nI_1 i, cl_nI, and_nI, ← hop]
          by_cases q : kb i &&& T = 0
          · rw [if_pos (hz.mpr q), if_pos q]
            by_cases z : op = 0
            · rw [if_pos (hzo.mpr z), if_pos z]
            · rw [if_neg (fun y => z (hzo.mp y)), if_neg z]
          · rw [if_neg (fun y => q (hz.mp y)), if_neg q]
        have hμ : m - jix (nI (i + 1)) < m - jix (nI i) := by rw [jix_nI (by omega), ji]; omega
        by_cases q : kb i &&& T = 0
        · rw [if_pos q] at start
          by_cases z : op = 0
          · left
            rw [if_pos z] at start
            exact ⟨_, start, -1, ρ, rfl, h7, h8, Or.inl ⟨rfl, i, hlt, q, by rw [← hop]; exact z⟩⟩
          · right
            rw [if_neg z] at start
            have hne : ∃ a, op.testBit a = true := by
              apply Classical.byContradiction
              intro y
              apply z
              apply Nat.eq_of_testBit_eq
              intro a
              rw [Nat.zero_testBit]
              exact tb_not (fun u => y ⟨a, u⟩)
            obtain ⟨d, e, d1, d2, d3, ⟨dr', d4⟩, d5, d6⟩ := p_draw (σ := ρ) (K := K) (sl := sl) (by rw [h7 1158 (by decide) (by decide)]; exact hK) k16 h9 h6 (op := op) (by omega) hne n hn
            have hbc := p_bitCount (s := op) (by omega)
            have hpc : pc16 op ≤ 16 := ctr_max _ 16
            have hpc1 : 1 ≤ pc16 op := by
              obtain ⟨a, ha⟩ := hne
              have := ctr_lt (p := fun _ => false) (q := fun i => op.testBit i) (j := a) 16 (fun _ _ h => by cases h) (by have := lt_bit (show op < 2 ^ 16 by omega) ha; omega) rfl ha
              unfold pc16; omega
            rw [bnd_s d1, bnd_s hbc, bnd_s hbc] at start
            have ob : ∀ a, op.testBit a = true ↔ (kb i).testBit a = true ∧ C.testBit a = false := fun a => by rw [hop]; exact cl_bit (Nat.lt_of_lt_of_le k2 hp)
            have sl' : ∀ a, a < K → e.2 21 a = nI (if op.testBit a then sl a - d else sl a) ∧ (if op.testBit a then sl a - d else sl a) < 2 ^ 30 := by
              intro a ha
              refine ⟨d3 a ha, ?_⟩
              have := (h9 a ha).2
              by_cases y : op.testBit a = true
              · rw [if_pos y]; omega
              · rw [if_neg y]; exact this
            have hS : ∀ Z, hits (i + 1) kb T C Z → S + d + sm (fun a => if op.testBit a then sl a - d else sl a) K Z ≤ sm p K Z := by
              intro Z hZ
              obtain ⟨a, a1, a2, a3⟩ := hZ i (by omega) q
              have h := h14 Z (fun x hx => hZ x (by omega))
              have := sm_take (K := K) (sl := sl) (sl' := fun a => if op.testBit a then sl a - d else sl a) (op := op) (Z := Z) (d := d) (a := a) (fun _ _ => rfl) d2 (lt_bit k2 a1) ((ob a).mpr ⟨a1, a2⟩) a3
              omega
            have h13' : ∀ x, x < i + 1 → kb x &&& T = 0 → kb x &&& (C ^^^ (2 ^ 32 - 1)) ≠ 0 := by
              intro x hx h0
              rcases (show x < i ∨ x = i by omega) with y | y
              · exact h13 x y h0
              · rw [y, ← hop]; exact z
            by_cases hF : F ≤ pc16 op
            · rw [if_pos (nI_le hF (by omega)), nI_add] at start
              have hG : G ≠ 0 := fun y => by have := h12 y; omega
              have hG2 : bndG (i + 1) kb T C G := by
                rcases h11 with ⟨y, _⟩ | ⟨y, x, x1, x2⟩
                · exact absurd y hG
                · exact Or.inr ⟨y, x, by omega, x2⟩
              exact ⟨_, start, ⟨i + 1, S + d, F, G, fun a => if op.testBit a then sl a - d else sl a, rfl, rfl, rfl, by omega, h5, ⟨dr', d4⟩, fun c c1 c2 => (d5 c c2).trans (h7 c c1 c2), fun y hy => (d6 y hy).trans (h8 y hy), sl', (d5 1155 (by decide)).trans h10, hG2, fun y => absurd y hG, h13', hS⟩, hμ⟩
            · rw [if_neg (nI_ge (by omega) (by omega)), nI_add] at start
              refine ⟨_, start, ⟨i + 1, S + d, pc16 op, op, fun a => if op.testBit a then sl a - d else sl a, rfl, rfl, rfl, by omega, by omega, ⟨dr', ?_⟩, fun c c1 c2 => ?_, fun y hy => (d6 y hy).trans (h8 y hy), sl', sS1s _ _ _, Or.inr ⟨z, i, by omega, q, hop⟩, fun y => absurd y z, h13', hS⟩, hμ⟩
              · show (sS e 1155 _).1 1156 = _
                rw [sS1n _ _ (by decide)]; exact d4
              · show (sS e 1155 _).1 c = _
                rw [sS1n _ _ c1]; exact (d5 c c2).trans (h7 c c1 c2)
        · right
          rw [if_neg q] at start
          have hG2 : bndG (i + 1) kb T C G := by
            rcases h11 with ⟨y, y2⟩ | ⟨y, x, x1, x2⟩
            · refine Or.inl ⟨y, fun x hx => ?_⟩
              rcases (show x < i ∨ x = i by omega) with u | u
              · exact y2 x u
              · rw [u]; exact q
            · exact Or.inr ⟨y, x, by omega, x2⟩
          refine ⟨_, start, ⟨i + 1, S, F, G, sl, rfl, rfl, rfl, by omega, h5, ⟨dr, h6⟩, h7, h8, h9, h10, hG2, h12, fun x hx h0 => ?_, fun Z hZ => h14 Z (fun x hx => hZ x (by omega))⟩, hμ⟩
          rcases (show x < i ∨ x = i by omega) with y | y
          · exact h13 x y h0
          · rw [y] at h0; exact absurd h0 q) n (sA (sS (sS σ 1155 0) 1156 0) 21 (va_cpy (σ.2 20) (σ.2 21) 0 0 16), (0 : Int32), (17 : Int32), (0 : Int32)) ⟨0, 0, 17, 0, p, rfl, rfl, rfl, Nat.zero_le _, Nat.le_refl _, ⟨0, rfl⟩, fun c c1 c2 => by
        show (sS (sS σ 1155 0) 1156 0).1 c = _
        rw [sS1n _ _ c2, sS1n _ _ c1], fun q hq => by rw [sA2n _ _ hq]; rfl, fun a ha => ⟨by
        rw [sA2s, pk_cpy_in (Nat.zero_le _) (by omega), show 0 + (a - 0) = a by omega]; exact hpr a ha, hsl0 a ha⟩, rfl, Or.inl ⟨rfl, fun x hx => absurd hx (Nat.not_lt_zero _)⟩, fun _ => rfl, fun x hx => absurd hx (Nat.not_lt_zero _), fun Z _ => by omega⟩ (by
        show m - jix (0 : Int32) < n
        omega)
  obtain ⟨r, ρ, g1, g2, g3, g4⟩ := hQ
  refine ⟨r, ρ, ?_, g2, g3, g4⟩
  unfold f_Search_boundOf
  simp only [nam_e]
  rw [show (sS (sS σ 1155 (0 : Int32)) 1156 (0 : Int32)).2 20 = σ.2 20 from rfl, show (sS (sS σ 1155 (0 : Int32)) 1156 (0 : Int32)).2 21 = σ.2 21 from rfl, bnd_s he9]
  exact g1
