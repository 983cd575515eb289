/-! Search.boundOf -/
theorem and_ne_iff {a b : Nat} : a &&& b ≠ 0 ↔ ∃ i, a.testBit i = true ∧ b.testBit i = true := by
  constructor
  · intro h
    apply Classical.byContradiction
    intro q
    apply h
    apply Nat.eq_of_testBit_eq
    intro i
    rw [Nat.zero_testBit]
    apply tb_not
    intro z
    obtain ⟨z1, z2⟩ := tb_and.mp z
    exact q ⟨i, z1, z2⟩
  · rintro ⟨i, h1, h2⟩ h
    have := tb_and.mpr ⟨h1, h2⟩
    rw [h, Nat.zero_testBit] at this; cases this
theorem jmin_nI2 {a b : Nat} (ha : a < 2 ^ 31) (hb : b < 2 ^ 31) : jmin (nI a) (nI b) = nI (min a b) := by
  unfold jmin
  by_cases q : b < a
  · rw [if_pos ((nI_ltI hb ha).mpr q), Nat.min_eq_right (by omega)]
  · rw [if_neg (fun z => q ((nI_ltI hb ha).mp z)), Nat.min_eq_left (by omega)]
theorem nI_zero_iff {a : Nat} (ha : a < 2 ^ 31) : nI a = (0 : Int32) ↔ a = 0 := nI_eq (b := 0) ha (by decide)
theorem sm_take {K : Nat} {sl sl' : Nat → Nat} {op Z d a : Nat} (h : ∀ i, i < K → sl' i = if op.testBit i then sl i - d else sl i) (hd : ∀ i, op.testBit i = true → d ≤ sl i) (ha : a < K) (h1 : op.testBit a = true) (h2 : Z.testBit a = true) : sm sl' K Z + d ≤ sm sl K Z := by
  have e : totTo (fun i => (if Z.testBit i then sl' i else 0) + (if i = a then d else 0)) K ≤ totTo (fun i => if Z.testBit i then sl i else 0) K := by
    refine totTo_le K (fun i hi => ?_)
    show (if Z.testBit i then sl' i else 0) + (if i = a then d else 0) ≤ (if Z.testBit i then sl i else 0)
    by_cases q : i = a
    · rw [if_pos q, q, if_pos h2, if_pos h2, h a ha, if_pos h1]
      have := hd a h1; omega
    · rw [if_neg q]
      by_cases z : Z.testBit i = true
      · rw [if_pos z, if_pos z, h i hi]
        by_cases y : op.testBit i = true
        · rw [if_pos y]; omega
        · rw [if_neg y]; exact Nat.le_refl _
      · rw [if_neg z, if_neg z]; exact Nat.le_refl _
  rw [totTo_add, totTo_one, if_pos ha] at e
  exact e
theorem p_draw {σ : ST} {K : Nat} (hK : σ.1 1158 = nI K) (k16 : K ≤ 16) {sl : Nat → Nat} (hsl : ∀ a, a < K → σ.2 21 a = nI (sl a) ∧ sl a < 2 ^ 30) {dr : Nat} (hdr : σ.1 1156 = nI dr) {op : Nat} (hop : op < 2 ^ K) (hne : ∃ a, op.testBit a = true) (n : Nat) (hn : 1000 ≤ n) : ∃ d e, f_Search_drawFromSlack n σ (nI op) = some (nI d, e) ∧ (∀ a, op.testBit a = true → d ≤ sl a) ∧ (∀ a, a < K → e.2 21 a = nI (if op.testBit a then sl a - d else sl a)) ∧ (∃ dr', e.1 1156 = nI dr') ∧ (∀ c, c ≠ 1156 → e.1 c = σ.1 c) ∧ ∀ q, q ≠ 21 → e.2 q = σ.2 q := by
  have hp : 2 ^ K ≤ 2 ^ 16 := Nat.pow_le_pow_right (by decide) k16
  unfold f_Search_drawFromSlack
  by_cases hdry : (nI op &&& σ.1 1156) = 0
  · rw [if_pos hdry]
    obtain ⟨e3, he3, d, rfl, hd1, hd2⟩ := lp_inv (body := b_Search_drawFromSlack_16 n σ (nI op)) (fun (i : Nat) (t : Int32 × Int32) => ∃ d, t = (nI d, nI i) ∧ d < 2 ^ 31 ∧ ∀ a, a < i → op.testBit a = true → d ≤ sl a) (fun (e : Int32) => ∃ d, e = nI d ∧ d < 2 ^ 31 ∧ ∀ a, a < K → op.testBit a = true → d ≤ sl a) K (by
        rintro i t hi ⟨d, rfl, h1, h2⟩
        obtain ⟨s1, s2⟩ := hsl i hi
        by_cases q : op.testBit i = true
        · refine ⟨(nI (min d (sl i)), nI (i + 1)), ?_, min d (sl i), rfl, by omega, fun a ha hb => ?_⟩
          · unfold b_Search_drawFromSlack_16 j_Search_drawFromSlack_43_16
            show (if σ.1 1158 ≤ nI i then _ else bnd (f_contains n (nI op) (nI i)) _) = _
            rw [hK, if_neg (nI_ge hi (by omega)), bnd_s (p_contains n (by omega) (by omega)), if_pos q, if_neg (by decide)]
            show grd (jin (nI i) 16) (nam (jmin (nI d) (σ.2 21 (jix (nI i)))) (fun x2 => some (Sum.inl (x2, nI i + 1)))) = _
            rw [grd_t (jin_nI (by omega) (by omega)), nam_e, jix_nI (by omega), s1, jmin_nI2 h1 (by omega), show nI i + (1 : Int32) = nI (i + 1) from nI_1 i]
          · rcases (show a < i ∨ a = i by omega) with z | z
            · have := h2 a z hb; omega
            · rw [z]; omega
        · refine ⟨(nI d, nI (i + 1)), ?_, d, rfl, h1, fun a ha hb => ?_⟩
          · unfold b_Search_drawFromSlack_16 j_Search_drawFromSlack_43_16
            show (if σ.1 1158 ≤ nI i then _ else bnd (f_contains n (nI op) (nI i)) _) = _
            rw [hK, if_neg (nI_ge hi (by omega)), bnd_s (p_contains n (by omega) (by omega)), if_neg q, if_pos rfl, show nI i + (1 : Int32) = nI (i + 1) from nI_1 i]
          · rcases (show a < i ∨ a = i by omega) with z | z
            · exact h2 a z hb
            · rw [z] at hb; exact absurd hb q) (by
        rintro t ⟨d, rfl, h1, h2⟩
        refine ⟨nI d, ?_, d, rfl, h1, h2⟩
        unfold b_Search_drawFromSlack_16
        show (if σ.1 1158 ≤ nI K then _ else _) = _
        rw [hK, if_pos (nI_le (Nat.le_refl _) (by omega))]) n 0 ((2147483647 : Int32), (0 : Int32)) (Nat.zero_le _) (by omega) ⟨2147483647, rfl, by decide, fun a ha => absurd ha (Nat.not_lt_zero _)⟩
    have hd : ∀ a, op.testBit a = true → d ≤ sl a := fun a ha => hd2 a (lt_bit hop ha) ha
    rw [bnd_s he3]
    obtain ⟨e, he, g1, g2, g3, g4⟩ := lp_inv (body := b_Search_drawFromSlack_51 n (nI op) (nI d)) (fun (i : Nat) (t : ST × Int32) => t.2 = nI i ∧ (∀ a, a < K → t.1.2 21 a = nI (if a < i ∧ op.testBit a = true then sl a - d else sl a)) ∧ (∃ dr', t.1.1 1156 = nI dr') ∧ (∀ c, c ≠ 1156 → t.1.1 c = σ.1 c) ∧ ∀ q, q ≠ 21 → t.1.2 q = σ.2 q) (fun (e : ST) => (∀ a, a < K → e.2 21 a = nI (if op.testBit a then sl a - d else sl a)) ∧ (∃ dr', e.1 1156 = nI dr') ∧ (∀ c, c ≠ 1156 → e.1 c = σ.1 c) ∧ ∀ q, q ≠ 21 → e.2 q = σ.2 q) K (by
        rintro i ⟨ρ, y⟩ hi ⟨h1, h2, ⟨dr1, h3⟩, h4, h5⟩
        have h1 : y = nI i := h1
        subst h1
        have h2 : ∀ a, a < K → ρ.2 21 a = nI (if a < i ∧ op.testBit a = true then sl a - d else sl a) := h2
        have h3 : ρ.1 1156 = nI dr1 := h3
        have h4 : ∀ c, c ≠ 1156 → ρ.1 c = σ.1 c := h4
        have gi : jin (nI i) 16 = true := jin_nI (by omega) (by omega)
        have ji : jix (nI i) = i := jix_nI (by omega)
        have ri : ρ.2 21 i = nI (sl i) := by rw [h2 i hi, if_neg (fun q => Nat.lt_irrefl _ q.1)]
        by_cases q : op.testBit i = true
        · have hsub : ρ.2 21 i - nI d = nI (sl i - d) := by rw [ri, pk_sub (hd i q)]
          refine ⟨(sS (sA ρ 21 (upd (ρ.2 21) i (nI (sl i - d)))) 1156 (nI (if sl i - d = 0 then dr1 ||| 2 ^ i else dr1)), nI (i + 1)), ?_, rfl, fun a ha => ?_, ⟨_, sS1s _ _ _⟩, fun c hc => ?_, fun y hy => ?_⟩
          · unfold b_Search_drawFromSlack_51 j_Search_drawFromSlack_98_51 j_Search_drawFromSlack_102_51
            show (if ρ.1 1158 ≤ nI i then _ else bnd (f_contains n (nI op) (nI i)) _) = _
            rw [h4 1158 (by decide), hK, if_neg (nI_ge hi (by omega)), bnd_s (p_contains n (by omega) (by omega)), if_pos q, if_neg (by decide)]
            simp only [nam_e, gi, grd_tt, ji, hsub]
            show (if upd (ρ.2 21) i (nI (sl i - d)) i = 0 then some (Sum.inl (sS (sA ρ 21 (upd (ρ.2 21) i (nI (sl i - d)))) 1156 (ρ.1 1156 ||| jshl 1 (nI i)), nI i + 1)) else some (Sum.inl (sS (sA ρ 21 (upd (ρ.2 21) i (nI (sl i - d)))) 1156 (ρ.1 1156 ||| 0), nI i + 1))) = _
            rw [upd_s, h3, or_bit2 (by omega), show nI dr1 ||| (0 : Int32) = nI dr1 from by rw [show (0 : Int32) = nI 0 from rfl, or_nI, Nat.or_zero], show nI i + (1 : Int32) = nI (i + 1) from nI_1 i]
            have hz := nI_zero_iff (a := sl i - d) (by have := (hsl i hi).2; omega)
            by_cases z : sl i - d = 0
            · rw [if_pos (hz.mpr z), if_pos z]
            · rw [if_neg (fun y => z (hz.mp y)), if_neg z]
          · show upd (ρ.2 21) i (nI (sl i - d)) a = _
            by_cases z : a = i
            · subst z; rw [upd_s, if_pos ⟨Nat.lt_succ_self _, q⟩]
            · rw [upd_n z, h2 a ha]
              by_cases y : a < i ∧ op.testBit a = true
              · rw [if_pos y, if_pos ⟨by omega, y.2⟩]
              · rw [if_neg y, if_neg (fun u => y ⟨by omega, u.2⟩)]
          · show (sS _ 1156 _).1 c = _
            rw [sS1n _ _ hc]; exact h4 c hc
          · show (sA ρ 21 _).2 y = _
            rw [sA2n _ _ hy]; exact h5 y hy
        · refine ⟨(ρ, nI (i + 1)), ?_, rfl, fun a ha => ?_, ⟨dr1, h3⟩, h4, h5⟩
          · unfold b_Search_drawFromSlack_51 j_Search_drawFromSlack_102_51
            show (if ρ.1 1158 ≤ nI i then _ else bnd (f_contains n (nI op) (nI i)) _) = _
            rw [h4 1158 (by decide), hK, if_neg (nI_ge hi (by omega)), bnd_s (p_contains n (by omega) (by omega)), if_neg q, if_pos rfl, show nI i + (1 : Int32) = nI (i + 1) from nI_1 i]
          · show ρ.2 21 a = _
            rw [h2 a ha]
            by_cases y : a < i ∧ op.testBit a = true
            · rw [if_pos y, if_pos ⟨by omega, y.2⟩]
            · rw [if_neg y, if_neg]
              intro u
              rcases (show a < i ∨ a = i by omega) with z | z
              · exact y ⟨z, u.2⟩
              · rw [z] at u; exact q u.2) (by
        rintro ⟨ρ, y⟩ ⟨h1, h2, h3, h4, h5⟩
        have h1 : y = nI K := h1
        subst h1
        have h4 : ∀ c, c ≠ 1156 → ρ.1 c = σ.1 c := h4
        refine ⟨ρ, ?_, fun a ha => ?_, h3, h4, h5⟩
        · unfold b_Search_drawFromSlack_51
          show (if ρ.1 1158 ≤ nI K then _ else _) = _
          rw [h4 1158 (by decide), hK, if_pos (nI_le (Nat.le_refl _) (by omega))]
        · rw [show ρ.2 21 a = _ from h2 a ha]
          by_cases y : op.testBit a = true
          · rw [if_pos ⟨ha, y⟩, if_pos y]
          · rw [if_neg (fun u => y u.2), if_neg y]) n 0 (σ, (0 : Int32)) (Nat.zero_le _) (by omega) ⟨rfl, fun a ha => by rw [if_neg (fun q => Nat.not_lt_zero _ q.1)]; exact (hsl a ha).1, ⟨dr, hdr⟩, fun _ _ => rfl, fun _ _ => rfl⟩
    rw [bnd_s he]
    exact ⟨d, e, rfl, hd, g1, g2, g3, g4⟩
  · rw [if_neg hdry]
    refine ⟨0, σ, rfl, fun _ _ => Nat.zero_le _, fun a ha => ?_, ⟨dr, hdr⟩, fun _ _ => rfl, fun _ _ => rfl⟩
    rw [(hsl a ha).1]
    by_cases y : op.testBit a = true
    · rw [if_pos y]; rfl
    · rw [if_neg y]
/-! bitCount -/
theorem ush_cnt : ∀ j : Fin 32, (UInt32.ofNat j.val &&& Int32.toUInt32 31).toNat % 32 = j.val := by decide +kernel
theorem jushr_nI {k j : Nat} (hk : k < 2 ^ 32) (hj : j < 32) : jushr (nI k) (nI j) = nI (k >>> j) := by
  have hs : k >>> j ≤ k := by
    rw [Nat.shiftRight_eq_div_pow]
    exact Nat.div_le_self _ _
  have e2 : UInt32.ofNat k >>> (UInt32.ofNat j &&& Int32.toUInt32 31) = UInt32.ofNat (k >>> j) := by
    apply UInt32.toNat_inj.1
    have h1 : (UInt32.ofNat k).toNat = k := Nat.mod_eq_of_lt (by omega)
    have h2 : (UInt32.ofNat (k >>> j)).toNat = k >>> j := Nat.mod_eq_of_lt (by omega)
    rw [UInt32.toNat_shiftRight, ush_cnt ⟨j, hj⟩, h1, h2]
  show (UInt32.ofNat k >>> (UInt32.ofNat j &&& Int32.toUInt32 31)).toInt32 = _
  rw [e2]
  rfl
theorem pc_two (h l : Nat) (hl : l < 256) : pc16 (256 * h + l) = pc h + pc l := by
  have key : ∀ m, ctr (fun i => (256 * h + l).testBit i) (8 + m) = ctr (fun i => l.testBit i) 8 + ctr (fun i => h.testBit i) m := by
    intro m
    induction m with
    | zero =>
      show ctr (fun i => (256 * h + l).testBit i) 8 = ctr (fun i => l.testBit i) 8 + 0
      rw [Nat.add_zero]
      have e : ∀ i, i < 8 → (256 * h + l).testBit i = l.testBit i := by
        intro i hi
        have := Nat.testBit_two_pow_mul_add h (show l < 2 ^ 8 from hl) i
        rw [show 256 = 2 ^ 8 from rfl, this, if_pos hi]
      exact Nat.le_antisymm (ctr_le 8 (fun i hi z => by rw [e i hi] at z; exact z)) (ctr_le 8 (fun i hi z => by rw [e i hi]; exact z))
    | succ m ih =>
      show ctr (fun i => (256 * h + l).testBit i) (8 + m) + (if (256 * h + l).testBit (8 + m) then 1 else 0) = ctr (fun i => l.testBit i) 8 + (ctr (fun i => h.testBit i) m + if h.testBit m then 1 else 0)
      have := Nat.testBit_two_pow_mul_add h (show l < 2 ^ 8 from hl) (8 + m)
      rw [if_neg (by omega), show 8 + m - 8 = m by omega] at this
      rw [ih, show 256 = 2 ^ 8 from rfl, this]
      omega
  have h8 : ctr (fun i => (256 * h + l).testBit i) 16 = ctr (fun i => l.testBit i) 8 + ctr (fun i => h.testBit i) 8 := key 8
  show ctr (fun i => (256 * h + l).testBit i) 16 = _
  unfold pc
  omega
theorem bcN_pc {s : Nat} (hs : s < 2 ^ 16) : bcN s = pc16 s := by
  have h1 := allB_true 256 bc_all (s / 256) (by omega)
  have h2 := allB_true 256 h1 (s % 256) (by omega)
  have h3 : bcN (256 * (s / 256) + s % 256) = pcb (s / 256) + pcb (s % 256) := Nat.eq_of_beq_eq_true h2
  rw [pcb_pc, pcb_pc, ← pc_two _ _ (by omega), show 256 * (s / 256) + s % 256 = s by omega] at h3
  exact h3
theorem p_bitCount {s : Nat} (hs : s < 2 ^ 16) : f_bitCount (nI s) = some (nI (pc16 s)) := by
  have shle : ∀ a j, a >>> j ≤ a := fun a j => by rw [Nat.shiftRight_eq_div_pow]; exact Nat.div_le_self _ _
  have a1 : s >>> 1 &&& 1431655765 ≤ s := Nat.le_trans Nat.and_le_left (shle s 1)
  rw [← bcN_pc hs]
  unfold f_bitCount
  simp only [nam_e]
  rw [show (1 : Int32) = nI 1 from rfl, show (2 : Int32) = nI 2 from rfl, show (4 : Int32) = nI 4 from rfl, show (8 : Int32) = nI 8 from rfl, show (16 : Int32) = nI 16 from rfl, show (63 : Int32) = nI 63 from rfl, show (1431655765 : Int32) = nI 1431655765 from rfl, show (858993459 : Int32) = nI 858993459 from rfl, show (252645135 : Int32) = nI 252645135 from rfl]
  obtain ⟨x1, hx1⟩ : ∃ x, x = s - (s >>> 1 &&& 1431655765) := ⟨_, rfl⟩
  obtain ⟨x2, hx2⟩ : ∃ x, x = (x1 &&& 858993459) + (x1 >>> 2 &&& 858993459) := ⟨_, rfl⟩
  obtain ⟨x3, hx3⟩ : ∃ x, x = x2 + x2 >>> 4 &&& 252645135 := ⟨_, rfl⟩
  obtain ⟨x4, hx4⟩ : ∃ x, x = x3 + x3 >>> 8 := ⟨_, rfl⟩
  have l2a : x1 &&& 858993459 ≤ x1 := Nat.and_le_left
  have l2b : x1 >>> 2 &&& 858993459 ≤ x1 := Nat.le_trans Nat.and_le_left (shle x1 2)
  have l3 : x2 >>> 4 ≤ x2 := shle x2 4
  have l3' : x3 ≤ x2 + x2 >>> 4 := by rw [hx3]; exact Nat.and_le_left
  have l4 : x3 >>> 8 ≤ x3 := shle x3 8
  rw [jushr_nI (by omega) (by omega), and_nI, pk_sub a1, ← hx1, jushr_nI (by omega) (by omega), and_nI, and_nI, nI_add, ← hx2, jushr_nI (by omega) (by omega), nI_add, and_nI, ← hx3, jushr_nI (by omega) (by omega), nI_add, ← hx4, jushr_nI (by omega) (by omega), nI_add, and_nI, hx4, hx3, hx2, hx1]
  rfl
