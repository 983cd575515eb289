/-! dijoins; the class's borders and prices -/
theorem dj_mono {v : NV} {D D' : Nat} (h : sb D D') (hd : missB v D = false) : missB v D' = false := by
  cases q : missB v D' with
  | false => rfl
  | true => rw [missB_mono h q] at hd; cases hd
theorem mem_least {v : NV} {d : Nat} : d ∈ leastOf v ↔ d < 2 ^ nK v ∧ minB v d = true := by
  unfold leastOf leastTo
  rw [List.mem_filter, List.mem_range]
theorem xor_lt_self {d i : Nat} (h : d.testBit i = true) : d ^^^ 2 ^ i < d := by
  have h1 : d ^^^ 2 ^ i ≤ d := by
    apply sub_le
    intro j hj
    by_cases q : j = i
    · rw [q]; exact h
    · rw [tb_xor_ne q] at hj; exact hj
  have h2 : d ^^^ 2 ^ i ≠ d := by
    intro q
    have := tb_xor_self h
    rw [q, h] at this; cases this
  omega
theorem least_below {v : NV} : ∀ B D, D < B → D < 2 ^ nK v → missB v D = false → ∃ d, d ∈ leastOf v ∧ sb d D := by
  intro B
  induction B with
  | zero => intro D h; omega
  | succ B ih =>
    intro D hB hD hm
    by_cases q : minB v D = true
    · exact ⟨D, mem_least.mpr ⟨hD, q⟩, sb_refl D⟩
    · have hex : ∃ i, i < nK v ∧ D.testBit i = true ∧ missB v (D ^^^ 2 ^ i) = false := by
        apply Classical.byContradiction
        intro z
        apply q
        refine minB_iff.mpr ⟨hm, fun i hi hb => ?_⟩
        cases y : missB v (D ^^^ 2 ^ i) with
        | true => rfl
        | false => exact absurd ⟨i, hi, hb, y⟩ z
      obtain ⟨i, h1, h2, h3⟩ := hex
      have hlt := xor_lt_self h2
      obtain ⟨d, d1, d2⟩ := ih (D ^^^ 2 ^ i) (by omega) (by omega) h3
      refine ⟨d, d1, fun j hj => ?_⟩
      have := d2 j hj
      by_cases y : j = i
      · rw [y]; exact h2
      · rw [tb_xor_ne y] at this; exact this
theorem side_bor {v : NV} (ok : okN v) (hw : whoB v = true) {s : Nat} (hs : s ∈ sidesOf v) : bor v s ≠ 0 := by
  obtain ⟨h1, h2, h3⟩ := mem_sides.mp hs
  intro hb
  have k16 := ok.2.2.1
  have hlt : s < 2 ^ nN v := by omega
  have hno : ∀ i, i < nK v → en v s i = false := by
    intro i hi
    have := bor_bit (v := v) (s := s) (i := i)
    rw [hb, Nat.zero_testBit, show decide (i < nK v) = true from decide_eq_true hi] at this
    simpa using this.symm
  have hlv := sideB_true.mp h3
  have hiff : ∀ i, i < nK v → (s.testBit (nT v i) = true ↔ s.testBit (nH v i) = true) := by
    intro i hi
    have e1 := hno i hi
    have e2 := hlv i hi
    unfold en at e1
    unfold lv at e2
    revert e1 e2
    cases s.testBit (nT v i) <;> cases s.testBit (nH v i) <;> simp
  unfold whoB strB at hw
  rw [Bool.and_eq_true, decide_eq_true_eq] at hw
  have hall : ∀ w, w < nN v → HR v (bof 65535) true 0 w := by
    intro w hwn
    have : (hl v (bof 65535) true 0).testBit w = true := by
      rw [hw.1, Nat.testBit_two_pow_sub_one]; exact decide_eq_true hwn
    exact (hl_bit.mp this).2
  rcases tb_cases s 0 with q | q
  · have hc : clP v (bof 65535) true (fun w => s.testBit w = true) := fun i hi => ⟨(hiff i hi).mp, fun _ => (hiff i hi).mpr⟩
    have : s = 2 ^ nN v - 1 := by
      apply Nat.eq_of_testBit_eq
      intro w
      rw [Nat.testBit_two_pow_sub_one, Bool.eq_iff_iff, decide_eq_true_eq]
      exact ⟨fun z => lt_bit hlt z, fun z => hall w z _ hc q⟩
    omega
  · have hc : clP v (bof 65535) true (fun w => ¬ s.testBit w = true) := fun i hi => ⟨fun z y => z ((hiff i hi).mpr y), fun _ z y => z ((hiff i hi).mp y)⟩
    have : s = 0 := by
      apply Nat.eq_of_testBit_eq
      intro w
      rw [Nat.zero_testBit]
      apply tb_not
      intro z
      exact hall w (lt_bit hlt z) _ hc (by rw [q]; decide) z
    omega
theorem whole_dj {v : NV} (ok : okN v) (hw : whoB v = true) : missB v (2 ^ nK v - 1) = false := by
  cases q : missB v (2 ^ nK v - 1) with
  | false => rfl
  | true =>
    obtain ⟨s, h1, h2⟩ := missB_iff.mp q
    exfalso
    apply side_bor ok hw h1
    apply Nat.eq_of_testBit_eq
    intro i
    rw [Nat.zero_testBit]
    apply tb_not
    intro z
    have hi : i < nK v := lt_bit (bor_lt v s) z
    have := tb_and.mpr ⟨z, show (2 ^ nK v - 1).testBit i = true by rw [Nat.testBit_two_pow_sub_one]; exact decide_eq_true hi⟩
    rw [h2, Nat.zero_testBit] at this; cases this
/-- what the search changes -/
def FR (σ e : ST) : Prop := (∀ c, c < 1152 → e.1 c = σ.1 c) ∧ ∀ q, q < 19 → e.2 q = σ.2 q
theorem FR_refl (σ : ST) : FR σ σ := ⟨fun _ _ => rfl, fun _ _ => rfl⟩
theorem FR_trans {a b c : ST} (h1 : FR a b) (h2 : FR b c) : FR a c := ⟨fun k hk => (h2.1 k hk).trans (h1.1 k hk), fun q hq => (h2.2 q hq).trans (h1.2 q hq)⟩
theorem RX_FR {σ e : ST} {v : BV} (h : RX σ v) (f : FR σ e) : RX e v := by
  refine RX_of h ?_ rfl (f.1 66 (by decide)) (f.1 384 (by decide)) (f.1 385 (by decide)) (f.2 7 (by decide)) (f.2 8 (by decide))
  rw [f.1 128 (by decide), f.1 129 (by decide), f.2 3 (by decide), f.2 4 (by decide), f.2 5 (by decide)]
  exact h.1
theorem SX_FR {σ e : ST} (h : SX σ) (f : FR σ e) : SX e := ⟨by rw [f.2 16 (by decide)]; exact h.1, by rw [f.2 17 (by decide)]; exact h.2⟩
/-- the borders kept of the first k sides -/
def KB (v : NV) (k : Nat) (σ : ST) : Prop := ∃ m, σ.1 1154 = nI m ∧ m ≤ k ∧ (∀ x, x < m → ∃ y, y < k ∧ σ.2 19 x = nI (bor v ((sidesOf v).getD y 0))) ∧ ∀ y, y < k → ∃ x z, x < m ∧ z < k ∧ σ.2 19 x = nI (bor v ((sidesOf v).getD z 0)) ∧ sb (bor v ((sidesOf v).getD z 0)) (bor v ((sidesOf v).getD y 0))
theorem p_takeBorder {σ : ST} {v : NV} (ok : okN v) {k : Nat} (hk : k < (sidesOf v).length) (hKB : KB v k σ) (n : Nat) (hn : 1000 ≤ n) : ∃ e, f_Search_takeBorder n σ (nI (bor v ((sidesOf v).getD k 0))) = some e ∧ KB v (k + 1) e ∧ (∀ c, c ≠ 1154 → e.1 c = σ.1 c) ∧ ∀ q, q ≠ 19 → e.2 q = σ.2 q := by
  have k16 := ok.2.2.1
  have hp : 2 ^ nK v ≤ 2 ^ 16 := Nat.pow_le_pow_right (by decide) k16
  have hl := sides_le v ok
  obtain ⟨m, m1, m2, m3, m4⟩ := hKB
  have hone := bor_lt v ((sidesOf v).getD k 0)
  have blt : ∀ y, bor v ((sidesOf v).getD y 0) < 2 ^ 16 := fun y => Nat.lt_of_lt_of_le (bor_lt v _) hp
  by_cases hex : ∃ x, x < m ∧ (σ.2 19 x &&& (nI (bor v ((sidesOf v).getD k 0)) ^^^ (-1 : Int32))) = 0
  · obtain ⟨x, ⟨hx, h0⟩, hmin⟩ := pk_least (fun x => x < m ∧ (σ.2 19 x &&& (nI (bor v ((sidesOf v).getD k 0)) ^^^ (-1 : Int32))) = 0) hex
    have hlp : lp (b_Search_takeBorder_4 n σ (nI (bor v ((sidesOf v).getD k 0))) 0) n (0 : Int32) = some (.inr σ) := by
      refine lp_for (fun i => nI i) x (fun y hy => ?_) ?_ n (by omega)
      · unfold b_Search_takeBorder_4
        rw [m1, if_neg (nI_ge (show y < m by omega) (by omega)), grd_t (jin_nI (by omega) (by omega)), jix_nI (by omega), if_neg (fun z => hmin y hy ⟨by omega, z⟩), show nI y + (1 : Int32) = nI (y + 1) from nI_1 y]
      · unfold b_Search_takeBorder_4
        rw [m1, if_neg (nI_ge hx (by omega)), grd_t (jin_nI (by omega) (by omega)), jix_nI (by omega), if_pos h0]
    obtain ⟨y, y1, y2⟩ := m3 x hx
    refine ⟨σ, ?_, ⟨m, m1, by omega, fun x hx => ?_, fun w hw => ?_⟩, fun _ _ => rfl, fun _ _ => rfl⟩
    · unfold f_Search_takeBorder
      rw [bnd_s hlp]
      rfl
    · obtain ⟨y, y1, y2⟩ := m3 x hx
      exact ⟨y, by omega, y2⟩
    · rcases (show w < k ∨ w = k by omega) with q | q
      · obtain ⟨x, z, z1, z2, z3, z4⟩ := m4 w q
        exact ⟨x, z, z1, by omega, z3, z4⟩
      · refine ⟨x, y, hx, by omega, y2, ?_⟩
        rw [q]
        rw [y2] at h0
        exact (andnot_0 (blt y)).mp h0
  · have hlp : lp (b_Search_takeBorder_4 n σ (nI (bor v ((sidesOf v).getD k 0))) 0) n (0 : Int32) = some (.inl ()) := by
      refine lp_for (fun i => nI i) m (fun y hy => ?_) ?_ n (by omega)
      · unfold b_Search_takeBorder_4
        rw [m1, if_neg (nI_ge hy (by omega)), grd_t (jin_nI (by omega) (by omega)), jix_nI (by omega), if_neg (fun z => hex ⟨y, hy, z⟩), show nI y + (1 : Int32) = nI (y + 1) from nI_1 y]
      · unfold b_Search_takeBorder_4
        rw [m1, if_pos (nI_le (Nat.le_refl _) (by omega))]
    obtain ⟨e, he, kp, q0, q1, q2, q3, q4, q5⟩ := lp_inv (body := b_Search_takeBorder_34 n (nI (bor v ((sidesOf v).getD k 0)))) (fun (i : Nat) (t : ST × Int32 × Int32) => ∃ kp, t.2.1 = nI kp ∧ t.2.2 = nI i ∧ kp ≤ i ∧ t.1.1 = σ.1 ∧ (∀ q, q ≠ 19 → t.1.2 q = σ.2 q) ∧ (∀ x, i ≤ x → t.1.2 19 x = σ.2 19 x) ∧ (∀ x, x < kp → ∃ j, j < i ∧ t.1.2 19 x = σ.2 19 j) ∧ ∀ j, j < i → ¬ (nI (bor v ((sidesOf v).getD k 0)) &&& (σ.2 19 j ^^^ (-1 : Int32))) = 0 → ∃ x, x < kp ∧ t.1.2 19 x = σ.2 19 j) (fun (e : ST × Int32) => ∃ kp, e.2 = nI kp ∧ kp ≤ m ∧ e.1.1 = σ.1 ∧ (∀ q, q ≠ 19 → e.1.2 q = σ.2 q) ∧ (∀ x, x < kp → ∃ j, j < m ∧ e.1.2 19 x = σ.2 19 j) ∧ ∀ j, j < m → ¬ (nI (bor v ((sidesOf v).getD k 0)) &&& (σ.2 19 j ^^^ (-1 : Int32))) = 0 → ∃ x, x < kp ∧ e.1.2 19 x = σ.2 19 j) m (by
        rintro i ⟨ρ, t1, t2⟩ hi ⟨kp, h1, h2, h3, h4, h5, h6, h7, h8⟩
        have h1 : t1 = nI kp := h1
        have h2 : t2 = nI i := h2
        subst h1 h2
        have h4 : ρ.1 = σ.1 := h4
        have h5 : ∀ q, q ≠ 19 → ρ.2 q = σ.2 q := h5
        have h6 : ∀ x, i ≤ x → ρ.2 19 x = σ.2 19 x := h6
        have h7 : ∀ x, x < kp → ∃ j, j < i ∧ ρ.2 19 x = σ.2 19 j := h7
        have h8 : ∀ j, j < i → ¬ (nI (bor v ((sidesOf v).getD k 0)) &&& (σ.2 19 j ^^^ (-1 : Int32))) = 0 → ∃ x, x < kp ∧ ρ.2 19 x = σ.2 19 j := h8
        have gi : jin (nI i) 256 = true := jin_nI (by omega) (by omega)
        have gk : jin (nI kp) 256 = true := jin_nI (by omega) (by omega)
        have ji : jix (nI i) = i := jix_nI (by omega)
        have jk : jix (nI kp) = kp := jix_nI (by omega)
        have ri : ρ.2 19 i = σ.2 19 i := h6 i (Nat.le_refl _)
        have hbody : b_Search_takeBorder_34 n (nI (bor v ((sidesOf v).getD k 0))) (ρ, nI kp, nI i) = if (nI (bor v ((sidesOf v).getD k 0)) &&& (σ.2 19 i ^^^ (-1 : Int32))) = 0 then some (.inl (ρ, nI kp, nI (i + 1))) else some (.inl (sA ρ 19 (upd (ρ.2 19) kp (σ.2 19 i)), nI (kp + 1), nI (i + 1))) := by
          unfold b_Search_takeBorder_34 j_Search_takeBorder_70_34
          show (if ρ.1 1154 ≤ nI i then _ else _) = _
          rw [h4, m1, if_neg (nI_ge hi (by omega))]
          simp only [nam_e, gi, gk, grd_tt, ji, jk, ri]
          rw [show nI i + (1 : Int32) = nI (i + 1) from nI_1 i, show nI kp + (1 : Int32) = nI (kp + 1) from nI_1 kp]
        by_cases q : (nI (bor v ((sidesOf v).getD k 0)) &&& (σ.2 19 i ^^^ (-1 : Int32))) = 0
        · rw [if_pos q] at hbody
          refine ⟨_, hbody, kp, rfl, rfl, by omega, h4, h5, fun x hx => h6 x (by omega), fun x hx => ?_, fun j hj hne => ?_⟩
          · obtain ⟨j, j1, j2⟩ := h7 x hx
            exact ⟨j, by omega, j2⟩
          · rcases (show j < i ∨ j = i by omega) with z | z
            · exact h8 j z hne
            · rw [z] at hne; exact absurd q hne
        · rw [if_neg q] at hbody
          refine ⟨_, hbody, kp + 1, rfl, rfl, by omega, h4, fun y hy => ?_, fun x hx => ?_, fun x hx => ?_, fun j hj hne => ?_⟩
          · show (sA ρ 19 _).2 y = _
            rw [sA2n _ _ hy]; exact h5 y hy
          · show upd (ρ.2 19) kp (σ.2 19 i) x = _
            rw [upd_n (by omega)]; exact h6 x (by omega)
          · show ∃ j, j < i + 1 ∧ upd (ρ.2 19) kp (σ.2 19 i) x = σ.2 19 j
            rcases (show x = kp ∨ x < kp by omega) with z | z
            · rw [z, upd_s]; exact ⟨i, by omega, rfl⟩
            · rw [upd_n (by omega)]
              obtain ⟨j, j1, j2⟩ := h7 x z
              exact ⟨j, by omega, j2⟩
          · show ∃ x, x < kp + 1 ∧ upd (ρ.2 19) kp (σ.2 19 i) x = σ.2 19 j
            rcases (show j < i ∨ j = i by omega) with z | z
            · obtain ⟨x, x1, x2⟩ := h8 j z hne
              exact ⟨x, by omega, by rw [upd_n (by omega)]; exact x2⟩
            · rw [z]; exact ⟨kp, by omega, upd_s⟩) (by
        rintro ⟨ρ, t1, t2⟩ ⟨kp, h1, h2, h3, h4, h5, h6, h7, h8⟩
        have h1 : t1 = nI kp := h1
        have h2 : t2 = nI m := h2
        subst h1 h2
        have h4 : ρ.1 = σ.1 := h4
        refine ⟨(ρ, nI kp), ?_, kp, rfl, h3, h4, h5, h7, h8⟩
        unfold b_Search_takeBorder_34
        show (if ρ.1 1154 ≤ nI m then _ else _) = _
        rw [h4, m1, if_pos (nI_le (Nat.le_refl _) (by omega))]) n 0 (σ, (0 : Int32), (0 : Int32)) (Nat.zero_le _) (by omega) ⟨0, rfl, rfl, Nat.le_refl _, rfl, fun _ _ => rfl, fun _ _ => rfl, fun x hx => absurd hx (Nat.not_lt_zero _), fun j hj => absurd hj (Nat.not_lt_zero _)⟩
    obtain ⟨ρ, t⟩ := e
    have q0 : t = nI kp := q0
    subst q0
    have q2 : ρ.1 = σ.1 := q2
    have q4 : ∀ x, x < kp → ∃ j, j < m ∧ ρ.2 19 x = σ.2 19 j := q4
    refine ⟨sS (sA ρ 19 (upd (ρ.2 19) kp (nI (bor v ((sidesOf v).getD k 0))))) 1154 (nI (kp + 1)), ?_, ⟨kp + 1, sS1s _ _ _, by omega, fun x hx => ?_, fun w hw => ?_⟩, fun c hc => ?_, fun q hq => ?_⟩
    · unfold f_Search_takeBorder j_Search_takeBorder_97
      rw [bnd_s hlp]
      show bnd (lp (b_Search_takeBorder_34 n (nI (bor v ((sidesOf v).getD k 0)))) n (σ, (0 : Int32), (0 : Int32))) _ = _
      rw [bnd_s he]
      show (if (256 : Int32) ≤ nI kp then _ else grd (jin (nI kp) 256) (nam (sA ρ 19 (upd (ρ.2 19) (jix (nI kp)) (nI (bor v ((sidesOf v).getD k 0))))) (fun σ5 => nam (sS σ5 1154 (nI kp + 1)) (fun σ6 => some σ6)))) = _
      rw [if_neg (show ¬ (256 : Int32) ≤ nI kp from nI_ge (b := 256) (by omega) (by decide)), grd_t (jin_nI (by omega) (by omega)), nam_e, nam_e, jix_nI (by omega), show nI kp + (1 : Int32) = nI (kp + 1) from nI_1 kp]
    · show ∃ y, y < k + 1 ∧ upd (ρ.2 19) kp (nI (bor v ((sidesOf v).getD k 0))) x = nI (bor v ((sidesOf v).getD y 0))
      rcases (show x = kp ∨ x < kp by omega) with z | z
      · rw [z, upd_s]; exact ⟨k, by omega, rfl⟩
      · rw [upd_n (by omega)]
        obtain ⟨j, j1, j2⟩ := q4 x z
        obtain ⟨y, y1, y2⟩ := m3 j j1
        exact ⟨y, by omega, j2.trans y2⟩
    · show ∃ x z, x < kp + 1 ∧ z < k + 1 ∧ upd (ρ.2 19) kp (nI (bor v ((sidesOf v).getD k 0))) x = nI (bor v ((sidesOf v).getD z 0)) ∧ _
      rcases (show w < k ∨ w = k by omega) with z | z
      · obtain ⟨x, y, y1, y2, y3, y4⟩ := m4 w z
        by_cases hh : (nI (bor v ((sidesOf v).getD k 0)) &&& (σ.2 19 x ^^^ (-1 : Int32))) = 0
        · refine ⟨kp, k, by omega, by omega, upd_s, ?_⟩
          rw [y3] at hh
          exact sb_trans ((andnot_0 (blt k)).mp hh) y4
        · obtain ⟨x', x1, x2⟩ := q5 x y1 hh
          exact ⟨x', y, by omega, by omega, by rw [upd_n (by omega)]; exact x2.trans y3, y4⟩
      · rw [z]
        exact ⟨kp, k, by omega, by omega, upd_s, sb_refl _⟩
    · show (sS _ 1154 _).1 c = _
      rw [sS1n _ _ hc]
      show ρ.1 c = _
      rw [q2]
    · show (sA ρ 19 _).2 q = _
      rw [sA2n _ _ hq]; exact q3 q hq
theorem p_takeBorders {σ : ST} {v : NV} (ok : okN v) (h832 : σ.1 832 = nI (sidesOf v).length) (h15 : ∀ x, x < (sidesOf v).length → σ.2 15 x = nI (bor v ((sidesOf v).getD x 0))) (n : Nat) (hn : 1000 ≤ n) : ∃ e, f_Search_takeBorders n σ = some e ∧ KB v (sidesOf v).length e ∧ FR σ e := by
  have hl := sides_le v ok
  obtain ⟨e, he, h1, h2, h3⟩ := lp_inv (body := b_Search_takeBorders_7 n) (fun (i : Nat) (t : ST × Int32) => t.2 = nI i ∧ KB v i t.1 ∧ (∀ c, c ≠ 1154 → t.1.1 c = σ.1 c) ∧ ∀ q, q ≠ 19 → t.1.2 q = σ.2 q) (fun (e : ST) => KB v (sidesOf v).length e ∧ (∀ c, c ≠ 1154 → e.1 c = σ.1 c) ∧ ∀ q, q ≠ 19 → e.2 q = σ.2 q) (sidesOf v).length (by
      rintro i ⟨ρ, y⟩ hi ⟨h1, h2, h3, h4⟩
      have h1 : y = nI i := h1
      subst h1
      have h3 : ∀ c, c ≠ 1154 → ρ.1 c = σ.1 c := h3
      have h4 : ∀ q, q ≠ 19 → ρ.2 q = σ.2 q := h4
      obtain ⟨d, d1, d2, d3, d4⟩ := p_takeBorder (σ := ρ) ok hi h2 n hn
      refine ⟨(d, nI (i + 1)), ?_, rfl, d2, fun c hc => (d3 c hc).trans (h3 c hc), fun q hq => (d4 q hq).trans (h4 q hq)⟩
      unfold b_Search_takeBorders_7
      show (if ρ.1 832 ≤ nI i then _ else grd (jin (nI i) 256) (bnd (f_Search_takeBorder n ρ (ρ.2 15 (jix (nI i)))) _)) = _
      rw [h3 832 (by decide), h832, if_neg (nI_ge hi (by omega)), grd_t (jin_nI (by omega) (by omega)), jix_nI (by omega), h4 15 (by decide), h15 i hi, bnd_s d1, show nI i + (1 : Int32) = nI (i + 1) from nI_1 i]) (by
      rintro ⟨ρ, y⟩ ⟨h1, h2, h3, h4⟩
      have h1 : y = nI (sidesOf v).length := h1
      subst h1
      have h3 : ∀ c, c ≠ 1154 → ρ.1 c = σ.1 c := h3
      refine ⟨ρ, ?_, h2, h3, h4⟩
      unfold b_Search_takeBorders_7
      show (if ρ.1 832 ≤ nI (sidesOf v).length then _ else _) = _
      rw [h3 832 (by decide), h832, if_pos (nI_le (Nat.le_refl _) (by omega))]) n 0 (sS σ 1154 0, (0 : Int32)) (Nat.zero_le _) (by omega) ⟨rfl, ⟨0, rfl, Nat.le_refl _, fun x hx => absurd hx (Nat.not_lt_zero _), fun y hy => absurd hy (Nat.not_lt_zero _)⟩, fun c hc => sS1n _ _ hc, fun _ _ => rfl⟩
  refine ⟨e, ?_, h1, fun c hc => h2 c (by omega), fun q hq => h3 q (by omega)⟩
  unfold f_Search_takeBorders
  rw [nam_e, bnd_s he]
