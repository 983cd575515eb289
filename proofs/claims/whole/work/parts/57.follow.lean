/-! the class's Paths.follow -/
theorem grd_tt {α : Type} {t : Option α} : grd true t = t := rfl
def OW (v : NV) (bo : Nat → Bool) (o : Nat → Nat) : Prop := ∀ u, u < nN v → o u < 2 ^ nN v ∧ (o u).testBit u = true ∧ ∀ w, (o u).testBit w = true → HR v bo true u w
def EW (v : NV) (bo : Nat → Bool) (m : Nat) (o : Nat → Nat) : Prop := ∀ k, k < m → (o (nT v k)).testBit (nH v k) = true ∧ (bo k = true → (o (nH v k)).testBit (nT v k) = true)
def TW (v : NV) (m : Nat) (o : Nat → Nat) : Prop := ∀ a u w, a < nN v → u < m → (o a).testBit u = true → (o u).testBit w = true → (o a).testBit w = true
theorem HR_arc {v : NV} {bo : Nat → Bool} {i : Nat} (hi : i < nK v) : HR v bo true (nT v i) (nH v i) := fun _ hP h => (hP i hi).1 h
theorem HR_arc2 {v : NV} {bo : Nat → Bool} {i : Nat} (hi : i < nK v) (hb : bo i = true) : HR v bo true (nH v i) (nT v i) := fun _ hP h => (hP i hi).2 hb h
def seto (o : Nat → Nat) (a b : Nat) : Nat → Nat := fun u => if u = a then o u ||| 2 ^ b else o u
theorem seto_bit {o : Nat → Nat} {a b u w : Nat} : (seto o a b u).testBit w = true ↔ (o u).testBit w = true ∨ (u = a ∧ b = w) := by
  unfold seto
  by_cases h : u = a
  · rw [if_pos h, or_pow_bit]
    exact ⟨fun q => q.elim Or.inl (fun z => Or.inr ⟨h, z⟩), fun q => q.elim Or.inl (fun z => Or.inr z.2)⟩
  · rw [if_neg h]
    exact ⟨Or.inl, fun q => q.elim id (fun z => absurd z.1 h)⟩
theorem OW_seto {v : NV} {bo : Nat → Bool} {o : Nat → Nat} (h : OW v bo o) {a b : Nat} (hb : b < nN v) (hr : HR v bo true a b) : OW v bo (seto o a b) := by
  intro u hu
  obtain ⟨h1, h2, h3⟩ := h u hu
  refine ⟨?_, seto_bit.mpr (Or.inl h2), fun w hw => ?_⟩
  · unfold seto
    by_cases q : u = a
    · rw [if_pos q]; exact Nat.or_lt_two_pow h1 (Nat.pow_lt_pow_right (by decide) hb)
    · rw [if_neg q]; exact h1
  · rcases seto_bit.mp hw with q | ⟨q1, q2⟩
    · exact h3 w q
    · subst q1 q2; exact hr
theorem EW_seto {v : NV} {bo : Nat → Bool} {m : Nat} {o : Nat → Nat} (h : EW v bo m o) (a b : Nat) : EW v bo m (seto o a b) := fun k hk => ⟨seto_bit.mpr (Or.inl (h k hk).1), fun hb => seto_bit.mpr (Or.inl ((h k hk).2 hb))⟩
theorem p_contains2 (n : Nat) (b : Int32) (i : Nat) : f_contains n b (nI i) = some (if bof b i then 1 else 0) := by
  unfold f_contains j_contains_13 bof
  by_cases h : (jshr b (nI i) &&& (1 : Int32)) = 0
  · rw [if_pos h, grd_t (by decide), if_neg (by simp [h])]
  · rw [if_neg h, grd_t (by decide), if_pos (decide_eq_true h)]
theorem upd_row {f : Nat → Int32} {o : Nat → Nat} {N a b : Nat} (h : ∀ u, u < N → f u = nI (o u)) (ha : a < N) (hb : b < 31) : ∀ u, u < N → upd f a (f a ||| jshl (1 : Int32) (nI b)) u = nI (seto o a b u) := by
  intro u hu
  unfold seto
  by_cases q : u = a
  · subst q; rw [upd_s, if_pos rfl, h u hu, or_bit2 hb]
  · rw [upd_n q, if_neg q, h u hu]
theorem p_follow1 {σ : ST} {v : NV} (h642 : σ.1 642 = nI (nN v)) (ok : okN v) (n : Nat) (hn : 1000 ≤ n) (b : Int32) : ∃ e, lp (b_Paths_follow_10 n b) n (σ, (0 : Int32)) = some e ∧ e.1 = σ.1 ∧ (∀ q, q ≠ 11 → e.2 q = σ.2 q) ∧ ∀ u, u < nN v → e.2 11 u = nI (2 ^ u) := by
  have n8 := ok.2.1
  refine lp_inv (body := b_Paths_follow_10 n b) (fun (i : Nat) (t : ST × Int32) => t.2 = nI i ∧ t.1.1 = σ.1 ∧ (∀ q, q ≠ 11 → t.1.2 q = σ.2 q) ∧ ∀ u, u < i → t.1.2 11 u = nI (2 ^ u)) (fun (e : ST) => e.1 = σ.1 ∧ (∀ q, q ≠ 11 → e.2 q = σ.2 q) ∧ ∀ u, u < nN v → e.2 11 u = nI (2 ^ u)) (nN v) ?_ ?_ n 0 (σ, 0) (Nat.zero_le _) (by omega) ⟨rfl, rfl, fun _ _ => rfl, fun u hu => absurd hu (Nat.not_lt_zero _)⟩
  · intro i t hi ⟨h1, h2, h3, h4⟩
    obtain ⟨ρ, y⟩ := t
    subst h1
    have h2 : ρ.1 = σ.1 := h2
    refine ⟨(sA ρ 11 (upd (ρ.2 11) i (nI (2 ^ i))), nI (i + 1)), ?_, rfl, h2, fun q hq => ?_, fun u hu => ?_⟩
    · have hp : 2 ^ i ≤ 2 ^ 8 := Nat.pow_le_pow_right (by decide) (by omega)
      unfold b_Paths_follow_10
      show (if ρ.1 642 ≤ nI i then _ else _) = _
      rw [h2, h642, if_neg (nI_ge hi (by omega))]
      show grd (jin (nI i) 8) (nam (sA ρ 11 (upd (ρ.2 11) (jix (nI i)) (jshl 1 (nI i)))) _) = _
      rw [grd_t (jin_nI (by omega) (by omega)), nam_e, jix_nI (by omega), show (1 : Int32) = nI 1 from rfl, jshl_nI (by omega) (by omega), Nat.one_mul]
      rw [show nI i + nI 1 = nI (i + 1) from nI_1 i]
    · show (sA ρ 11 _).2 q = _
      rw [sA2n _ _ hq]; exact h3 q hq
    · show upd (ρ.2 11) i (nI (2 ^ i)) u = _
      by_cases q : u = i
      · subst q; exact upd_s
      · rw [upd_n q]; exact h4 u (by omega)
  · intro t ⟨h1, h2, h3, h4⟩
    refine ⟨t.1, ?_, h2, h3, h4⟩
    unfold b_Paths_follow_10
    rw [h1, h2, h642, if_pos (nI_le (Nat.le_refl _) (by omega))]
theorem p_follow2 {σ : ST} {v : NV} (hK : σ.1 129 = nI (nK v)) (har : ∀ i, i < nK v → σ.2 3 i = nI (nT v i) ∧ σ.2 4 i = nI (nH v i)) (ok : okN v) (h11 : ∀ u, u < nN v → σ.2 11 u = nI (2 ^ u)) (n : Nat) (hn : 1000 ≤ n) (b : Int32) : ∃ e, lp (b_Paths_follow_35 n b) n (σ, (0 : Int32)) = some e ∧ e.1 = σ.1 ∧ (∀ q, q ≠ 11 → e.2 q = σ.2 q) ∧ ∃ o, (∀ u, u < nN v → e.2 11 u = nI (o u)) ∧ OW v (bof b) o ∧ EW v (bof b) (nK v) o := by
  have n8 := ok.2.1
  have k16 := ok.2.2.1
  refine lp_inv (body := b_Paths_follow_35 n b) (fun (i : Nat) (t : ST × Int32) => t.2 = nI i ∧ t.1.1 = σ.1 ∧ (∀ q, q ≠ 11 → t.1.2 q = σ.2 q) ∧ ∃ o, (∀ u, u < nN v → t.1.2 11 u = nI (o u)) ∧ OW v (bof b) o ∧ EW v (bof b) i o) (fun (e : ST) => e.1 = σ.1 ∧ (∀ q, q ≠ 11 → e.2 q = σ.2 q) ∧ ∃ o, (∀ u, u < nN v → e.2 11 u = nI (o u)) ∧ OW v (bof b) o ∧ EW v (bof b) (nK v) o) (nK v) ?_ ?_ n 0 (σ, 0) (Nat.zero_le _) (by omega) ⟨rfl, rfl, fun _ _ => rfl, fun u => 2 ^ u, h11, ?_, fun k hk => absurd hk (Nat.not_lt_zero _)⟩
  · intro i t hi ⟨h1, h2, h3, o, h4, h5, h6⟩
    obtain ⟨ρ, y⟩ := t
    subst h1
    have h2 : ρ.1 = σ.1 := h2
    have h3 : ∀ q, q ≠ 11 → ρ.2 q = σ.2 q := h3
    have h4 : ∀ u, u < nN v → ρ.2 11 u = nI (o u) := h4
    obtain ⟨t1, t2, t3⟩ := ok.2.2.2 i hi
    have r3 : ρ.2 3 i = nI (nT v i) := by rw [h3 3 (by decide)]; exact (har i hi).1
    have r4 : ρ.2 4 i = nI (nH v i) := by rw [h3 4 (by decide)]; exact (har i hi).2
    have gi : jin (nI i) 16 = true := jin_nI (by omega) (by omega)
    have ji : jix (nI i) = i := jix_nI (by omega)
    have gT : jin (nI (nT v i)) 8 = true := jin_nI (by omega) (by omega)
    have jT : jix (nI (nT v i)) = nT v i := jix_nI (by omega)
    have gH : jin (nI (nH v i)) 8 = true := jin_nI (by omega) (by omega)
    have jH : jix (nI (nH v i)) = nH v i := jix_nI (by omega)
    have hr1 := upd_row (b := nH v i) h4 t1 (by omega)
    have ho1 : OW v (bof b) (seto o (nT v i) (nH v i)) := OW_seto h5 t2 (HR_arc hi)
    have he1 := EW_seto h6 (nT v i) (nH v i)
    by_cases hb : bof b i = true
    · have hr2 := upd_row (b := nT v i) hr1 t2 (by omega)
      refine ⟨(sA (sA ρ 11 (upd (ρ.2 11) (nT v i) (ρ.2 11 (nT v i) ||| jshl 1 (nI (nH v i))))) 11 (upd (upd (ρ.2 11) (nT v i) (ρ.2 11 (nT v i) ||| jshl 1 (nI (nH v i)))) (nH v i) ((upd (ρ.2 11) (nT v i) (ρ.2 11 (nT v i) ||| jshl 1 (nI (nH v i)))) (nH v i) ||| jshl 1 (nI (nT v i)))), nI (i + 1)), ?_, rfl, h2, fun q hq => ?_, seto (seto o (nT v i) (nH v i)) (nH v i) (nT v i), hr2, OW_seto ho1 t1 (HR_arc2 hi hb), fun k hk => ?_⟩
      · unfold b_Paths_follow_35 j_Paths_follow_95_35
        show (if ρ.1 129 ≤ nI i then _ else _) = _
        rw [h2, hK, if_neg (nI_ge hi (by omega))]
        simp only [nam_e, ji, r3, gi, gT, grd_tt, jT, r4]
        rw [bnd_s (p_contains2 n b i), if_pos hb, if_neg (by decide)]
        rw [show (sA ρ 11 (upd (ρ.2 11) (nT v i) (ρ.2 11 (nT v i) ||| jshl 1 (nI (nH v i))))).2 4 i = nI (nH v i) from r4, show (sA ρ 11 (upd (ρ.2 11) (nT v i) (ρ.2 11 (nT v i) ||| jshl 1 (nI (nH v i))))).2 3 i = nI (nT v i) from r3]
        simp only [gH, grd_tt, jH]
        rw [show nI i + (1 : Int32) = nI (i + 1) from nI_1 i]
        rfl
      · show (sA (sA ρ 11 _) 11 _).2 q = _
        rw [sA2n _ _ hq, sA2n _ _ hq]; exact h3 q hq
      · rcases (show k < i ∨ k = i by omega) with q | q
        · exact EW_seto he1 _ _ k q
        · subst q
          exact ⟨seto_bit.mpr (Or.inl (seto_bit.mpr (Or.inr ⟨rfl, rfl⟩))), fun _ => seto_bit.mpr (Or.inr ⟨rfl, rfl⟩)⟩
    · refine ⟨(sA ρ 11 (upd (ρ.2 11) (nT v i) (ρ.2 11 (nT v i) ||| jshl 1 (nI (nH v i)))), nI (i + 1)), ?_, rfl, h2, fun q hq => ?_, seto o (nT v i) (nH v i), hr1, ho1, fun k hk => ?_⟩
      · unfold b_Paths_follow_35 j_Paths_follow_95_35
        show (if ρ.1 129 ≤ nI i then _ else _) = _
        rw [h2, hK, if_neg (nI_ge hi (by omega))]
        simp only [nam_e, ji, r3, gi, gT, grd_tt, jT, r4]
        rw [bnd_s (p_contains2 n b i), if_neg hb, if_pos rfl, show nI i + (1 : Int32) = nI (i + 1) from nI_1 i]
      · show (sA ρ 11 _).2 q = _
        rw [sA2n _ _ hq]; exact h3 q hq
      · rcases (show k < i ∨ k = i by omega) with q | q
        · exact he1 k q
        · subst q
          exact ⟨seto_bit.mpr (Or.inr ⟨rfl, rfl⟩), fun z => absurd z hb⟩
  · intro t ⟨h1, h2, h3, h4⟩
    refine ⟨t.1, ?_, h2, h3, h4⟩
    unfold b_Paths_follow_35
    rw [h1, h2, hK, if_pos (nI_le (Nat.le_refl _) (by omega))]
  · intro u hu
    refine ⟨Nat.pow_lt_pow_right (by decide) hu, by rw [Nat.testBit_two_pow]; simp, fun w hw => ?_⟩
    rw [Nat.testBit_two_pow, decide_eq_true_eq] at hw
    subst hw; exact HR_refl _
theorem TW_step {v : NV} {i : Nat} {o : Nat → Nat} (hi : i < nN v) (h : TW v i o) : TW v (i + 1) (fun u => if (o u).testBit i then o u ||| o i else o u) := by
  have nb : ∀ u w, ((if (o u).testBit i then o u ||| o i else o u).testBit w = true ↔ (o u).testBit w = true ∨ ((o u).testBit i = true ∧ (o i).testBit w = true)) := by
    intro u w
    by_cases q : (o u).testBit i = true
    · rw [if_pos q, Nat.testBit_or, Bool.or_eq_true]
      exact ⟨fun z => z.elim Or.inl (fun y => Or.inr ⟨q, y⟩), fun z => z.elim Or.inl (fun y => Or.inr y.2)⟩
    · rw [if_neg q]
      exact ⟨Or.inl, fun z => z.elim id (fun y => absurd y.1 q)⟩
  intro a u w ha hu h1 h2
  have h1 := (nb a u).mp h1
  have h2 := (nb u w).mp h2
  refine (nb a w).mpr ?_
  rcases (show u < i ∨ u = i by omega) with q | q
  · rcases h1 with h1 | ⟨h1, h1'⟩
    · rcases h2 with h2 | ⟨h2, h2'⟩
      · exact Or.inl (h a u w ha q h1 h2)
      · exact Or.inr ⟨h a u i ha q h1 h2, h2'⟩
    · rcases h2 with h2 | ⟨h2, h2'⟩
      · exact Or.inr ⟨h1, h i u w hi q h1' h2⟩
      · exact Or.inr ⟨h1, h2'⟩
  · subst q
    have h3 : (o a).testBit u = true := h1.elim id (fun z => z.1)
    exact Or.inr ⟨h3, h2.elim id (fun z => z.2)⟩
theorem OW_step {v : NV} {bo : Nat → Bool} {i : Nat} {o : Nat → Nat} (hi : i < nN v) (h : OW v bo o) : OW v bo (fun u => if (o u).testBit i then o u ||| o i else o u) := by
  intro u hu
  obtain ⟨h1, h2, h3⟩ := h u hu
  obtain ⟨g1, g2, g3⟩ := h i hi
  show (if (o u).testBit i then o u ||| o i else o u) < _ ∧ (if (o u).testBit i then o u ||| o i else o u).testBit u = true ∧ ∀ w, (if (o u).testBit i then o u ||| o i else o u).testBit w = true → _
  by_cases q : (o u).testBit i = true
  · rw [if_pos q]
    refine ⟨Nat.or_lt_two_pow h1 g1, by rw [Nat.testBit_or, h2]; rfl, fun w hw => ?_⟩
    rw [Nat.testBit_or, Bool.or_eq_true] at hw
    rcases hw with hw | hw
    · exact h3 w hw
    · exact HR_trans (h3 i q) (g3 w hw)
  · rw [if_neg q]; exact ⟨h1, h2, h3⟩
theorem EW_step {v : NV} {bo : Nat → Bool} {m i : Nat} {o : Nat → Nat} (h : EW v bo m o) : EW v bo m (fun u => if (o u).testBit i then o u ||| o i else o u) := by
  have nb : ∀ u w, (o u).testBit w = true → (if (o u).testBit i then o u ||| o i else o u).testBit w = true := by
    intro u w q
    by_cases z : (o u).testBit i = true
    · rw [if_pos z, Nat.testBit_or, q]; rfl
    · rw [if_neg z]; exact q
  exact fun k hk => ⟨nb _ _ (h k hk).1, fun hb => nb _ _ ((h k hk).2 hb)⟩
theorem p_close {σ : ST} {v : NV} (h642 : σ.1 642 = nI (nN v)) (ok : okN v) {bo : Nat → Bool} {o : Nat → Nat} (h11 : ∀ u, u < nN v → σ.2 11 u = nI (o u)) (hO : OW v bo o) (hE : EW v bo (nK v) o) (n : Nat) (hn : 1000 ≤ n) : ∃ e, f_Paths_closeOnward n σ = some e ∧ e.1 = σ.1 ∧ (∀ q, q ≠ 11 → e.2 q = σ.2 q) ∧ ∃ o, (∀ u, u < nN v → e.2 11 u = nI (o u)) ∧ OW v bo o ∧ EW v bo (nK v) o ∧ TW v (nN v) o := by
  have n8 := ok.2.1
  have hp : 2 ^ nN v ≤ 2 ^ 8 := Nat.pow_le_pow_right (by decide) n8
  obtain ⟨e, he, hQ⟩ := lp_inv (body := b_Paths_closeOnward_2 n) (fun (i : Nat) (t : ST × Int32) => t.2 = nI i ∧ t.1.1 = σ.1 ∧ (∀ q, q ≠ 11 → t.1.2 q = σ.2 q) ∧ ∃ o, (∀ u, u < nN v → t.1.2 11 u = nI (o u)) ∧ OW v bo o ∧ EW v bo (nK v) o ∧ TW v i o) (fun (e : ST) => e.1 = σ.1 ∧ (∀ q, q ≠ 11 → e.2 q = σ.2 q) ∧ ∃ o, (∀ u, u < nN v → e.2 11 u = nI (o u)) ∧ OW v bo o ∧ EW v bo (nK v) o ∧ TW v (nN v) o) (nN v) (by
      intro i t hi ⟨h1, h2, h3, o, h4, h5, h6, h7⟩
      obtain ⟨ρ, y⟩ := t
      subst h1
      have h2 : ρ.1 = σ.1 := h2
      have h3 : ∀ q, q ≠ 11 → ρ.2 q = σ.2 q := h3
      have h4 : ∀ u, u < nN v → ρ.2 11 u = nI (o u) := h4
      obtain ⟨d, hd, d1, d2, d3⟩ := lp_inv (body := b_Paths_closeOnward_12 n (nI i)) (fun (y : Nat) (t : ST × Int32) => t.2 = nI y ∧ t.1.1 = ρ.1 ∧ (∀ q, q ≠ 11 → t.1.2 q = ρ.2 q) ∧ ∀ u, u < nN v → t.1.2 11 u = nI (if u < y ∧ (o u).testBit i = true then o u ||| o i else o u)) (fun (e : ST) => e.1 = ρ.1 ∧ (∀ q, q ≠ 11 → e.2 q = ρ.2 q) ∧ ∀ u, u < nN v → e.2 11 u = nI (if (o u).testBit i then o u ||| o i else o u)) (nN v) (by
          intro y t hy ⟨g1, g2, g3, g4⟩
          obtain ⟨π, z⟩ := t
          subst g1
          have g2 : π.1 = ρ.1 := g2
          have g4 : ∀ u, u < nN v → π.2 11 u = nI (if u < y ∧ (o u).testBit i = true then o u ||| o i else o u) := g4
          have ry : π.2 11 y = nI (o y) := by rw [g4 y hy, if_neg (fun q => Nat.lt_irrefl _ q.1)]
          have ri : π.2 11 i = nI (o i) := by
            rw [g4 i hi]
            by_cases q : i < y ∧ (o i).testBit i = true
            · rw [if_pos q, Nat.or_self]
            · rw [if_neg q]
          have gy : jin (nI y) 8 = true := jin_nI (by omega) (by omega)
          have gi : jin (nI i) 8 = true := jin_nI (by omega) (by omega)
          have jy : jix (nI y) = y := jix_nI (by omega)
          have ji : jix (nI i) = i := jix_nI (by omega)
          have hoy := (h5 y hy).1
          by_cases hb : (o y).testBit i = true
          · refine ⟨(sA π 11 (upd (π.2 11) y (nI (o y ||| o i))), nI (y + 1)), ?_, rfl, g2, fun q hq => ?_, fun u hu => ?_⟩
            · unfold b_Paths_closeOnward_12 j_Paths_closeOnward_48_12
              show (if π.1 642 ≤ nI y then _ else _) = _
              rw [g2, h2, h642, if_neg (nI_ge hy (by omega))]
              simp only [nam_e, gy, gi, grd_tt, jy, ji, ry, ri]
              rw [bnd_s (p_contains n (by omega) (by omega)), if_pos hb, if_neg (by decide), or_nI, show nI y + (1 : Int32) = nI (y + 1) from nI_1 y]
            · show (sA π 11 _).2 q = _
              rw [sA2n _ _ hq]; exact g3 q hq
            · show upd (π.2 11) y (nI (o y ||| o i)) u = _
              by_cases q : u = y
              · subst q; rw [upd_s, if_pos ⟨Nat.lt_succ_self _, hb⟩]
              · rw [upd_n q, g4 u hu]
                by_cases z : u < y ∧ (o u).testBit i = true
                · rw [if_pos z, if_pos ⟨by omega, z.2⟩]
                · rw [if_neg z, if_neg (fun x => z ⟨by omega, x.2⟩)]
          · refine ⟨(π, nI (y + 1)), ?_, rfl, g2, g3, fun u hu => ?_⟩
            · unfold b_Paths_closeOnward_12 j_Paths_closeOnward_48_12
              show (if π.1 642 ≤ nI y then _ else _) = _
              rw [g2, h2, h642, if_neg (nI_ge hy (by omega))]
              simp only [nam_e, gy, gi, grd_tt, jy, ji, ry, ri]
              rw [bnd_s (p_contains n (by omega) (by omega)), if_neg hb, if_pos rfl, show nI y + (1 : Int32) = nI (y + 1) from nI_1 y]
            · show π.2 11 u = _
              rw [g4 u hu]
              by_cases z : u < y ∧ (o u).testBit i = true
              · rw [if_pos z, if_pos ⟨by omega, z.2⟩]
              · rw [if_neg z, if_neg]
                intro x
                rcases (show u < y ∨ u = y by omega) with q | q
                · exact z ⟨q, x.2⟩
                · subst q; exact hb x.2) (by
          intro t ⟨g1, g2, g3, g4⟩
          refine ⟨t.1, ?_, g2, g3, fun u hu => ?_⟩
          · unfold b_Paths_closeOnward_12
            rw [g1, g2, h2, h642, if_pos (nI_le (Nat.le_refl _) (by omega))]
          · rw [g4 u hu]
            by_cases z : (o u).testBit i = true
            · rw [if_pos ⟨hu, z⟩, if_pos z]
            · rw [if_neg (fun x => z x.2), if_neg z]) n 0 (ρ, 0) (Nat.zero_le _) (by omega) ⟨rfl, rfl, fun _ _ => rfl, fun u hu => by rw [if_neg (fun q => Nat.not_lt_zero _ q.1)]; exact h4 u hu⟩
      refine ⟨(d, nI (i + 1)), ?_, rfl, d1.trans h2, fun q hq => (d2 q hq).trans (h3 q hq), fun u => if (o u).testBit i then o u ||| o i else o u, d3, OW_step hi h5, EW_step h6, TW_step hi h7⟩
      unfold b_Paths_closeOnward_2
      show (if ρ.1 642 ≤ nI i then _ else bnd (lp (b_Paths_closeOnward_12 n (nI i)) n (ρ, 0)) _) = _
      rw [h2, h642, if_neg (nI_ge hi (by omega)), bnd_s hd, show nI i + (1 : Int32) = nI (i + 1) from nI_1 i]) (by
      intro t ⟨h1, h2, h3, h4⟩
      refine ⟨t.1, ?_, h2, h3, h4⟩
      unfold b_Paths_closeOnward_2
      rw [h1, h2, h642, if_pos (nI_le (Nat.le_refl _) (by omega))]) n 0 (σ, 0) (Nat.zero_le _) (by omega) ⟨rfl, rfl, fun _ _ => rfl, o, h11, hO, hE, fun a u w _ hu => absurd hu (Nat.not_lt_zero _)⟩
  refine ⟨e, ?_, hQ⟩
  unfold f_Paths_closeOnward
  rw [bnd_s he]
