/-! uncross: one set worked off -/
theorem Pre_child {N x u w : Nat} {t : Nat → Nat} (hpre : Pre N t x u) (hf : fcp N t u w) (hux : u ≤ x) (hxw : x < w) : Pre N (stp t u w) x (u &&& w) ∧ (t (u &&& w) = 0 → stp t u w (u &&& w) = min (t u) (t w)) ∧ (t (u &&& w) ≠ 0 → Pst N (stp t u w) x (u &&& w)) := by
  have hc := hf.2.2.2.1
  have h1 := cr_meet_lt hc
  have h2 := cr_join_gt hc
  have p1 : Pre N (stp t u w) x (u &&& w) := by
    intro s hs hs0
    by_cases q1 : s = u
    · rw [q1]; exact Or.inr (sb_meet u w)
    by_cases q2 : s = u &&& w
    · rw [q2]; exact Or.inr (sb_refl _)
    rw [stp_out q1 (by omega) q2 (by omega)] at hs0
    rcases hpre s hs hs0 with z | z
    · exact Or.inl (NC_stp hf z)
    · exact Or.inr (sb_trans (sb_meet u w) z)
  refine ⟨p1, fun q => ?_, fun q => ?_⟩
  · unfold stp
    rw [if_neg (by omega), if_neg (by omega), if_pos rfl, q, Nat.zero_add]
  · have hv : NC N t (u &&& w) := by
      rcases hpre (u &&& w) (by omega) q with z | z
      · exact z
      · have := sb_le z; omega
    have hv1 := NC_stp hf hv
    intro s hs hs0
    rcases p1 s hs hs0 with z | z
    · exact Or.inl z
    · by_cases y : s = u &&& w
      · rw [y]; exact Or.inl hv1
      · exact Or.inr ⟨z, y⟩
theorem ploop {N x u : Nat} (hN : N ≤ 8) (hu : u ≤ x) (bu : Nat) (g : Nat → Nat) (E : (Nat → Nat) → Prop) (hE : ∀ k t t', sup N t → E t → RR N x u k t t' → E t') (H : ∀ t w, sup N t → Pre N t x u → E t → fcp N t u w → x < w → ∃ k t2, RR N x (u &&& w) k (stp t u w) t2 ∧ Pst N t2 x (u &&& w) ∧ 4 + 4 * k + VV x t2 ≤ min (t u) (t w) * bu + VV x t + g w) : ∀ U t L, t u < U → sup N t → Pre N t x u → JL N t u L → E t → ∃ k t', RR N x u k t t' ∧ Pst N t' x u ∧ 4 * k + VV x t' ≤ t u * bu + VV x t + gsum g L := by
  have hp : 2 ^ N ≤ 2 ^ 8 := Nat.pow_le_pow_right (by decide) hN
  intro U
  induction U with
  | zero => intro t L h; omega
  | succ U ih =>
    intro t L hU hsup hpre hJ hEt
    by_cases hd : t u = 0 ∨ NC N t u
    · refine ⟨0, t, rfl, fun s hs hs0 => ?_, by omega⟩
      rcases hpre s hs hs0 with z | z
      · exact Or.inl z
      · by_cases q : s = u
        · rw [q] at hs0 ⊢
          exact Or.inl (hd.resolve_left hs0)
        · exact Or.inr ⟨z, q⟩
    · rw [not_or] at hd
      obtain ⟨hu0, hnc⟩ := hd
      have hex : ∃ y, t y ≠ 0 ∧ cr N u y := by
        apply Classical.byContradiction
        intro q
        exact hnc (fun y hy hc => q ⟨y, hy, hc⟩)
      obtain ⟨w, ⟨hw0, hc⟩, hmin⟩ := pk_least (fun y => t y ≠ 0 ∧ cr N u y) hex
      have hxw : x < w := by
        rcases Nat.lt_or_ge x w with q | q
        · exact q
        · rcases hpre w q hw0 with z | z
          · exact absurd (cr_sym hc) (z u hu0)
          · exact absurd z (cr_nsub hc)
      have hf : fcp N t u w := by
        refine ⟨by omega, hu0, hw0, hc, fun a b hab ha0 hb0 hcab => ?_⟩
        rcases (show u < a ∨ u = a ∨ a < u by omega) with q | q | q
        · exact Or.inl q
        · refine Or.inr ⟨q, ?_⟩
          rcases Nat.lt_or_ge b w with z | z
          · exact absurd ⟨hb0, by rw [q]; exact hcab⟩ (hmin b z)
          · exact z
        · rcases hpre a (by omega) ha0 with z | z
          · exact absurd hcab (z b hb0)
          · have := sb_le z; omega
      have hLw : L < w := by
        rcases Nat.lt_or_ge L w with q | q
        · exact q
        · exact absurd hc (hJ w q hw0)
      have hmt := cr_meet_lt hc
      have hjn := cr_join_gt hc
      have hw256 : w < 256 := by have := sup_lt hsup hw0; omega
      obtain ⟨k1, t2, r1, r2, r3⟩ := H t w hsup hpre hEt hf hxw
      have hnsb : ¬ sb u (u &&& w) := fun q => by have := sb_le q; omega
      have ht1u : stp t u w u = t u - min (t u) (t w) := by unfold stp; rw [if_pos rfl]
      have ht2u : t2 u = t u - min (t u) (t w) := by rw [RR_frame hu hnsb _ _ _ r1, ht1u]
      have hsup1 := sup_stp hsup hf
      have hsup2 := RR_sup _ _ _ r1 hsup1
      have rA : RR N x u (k1 + 1) t t2 := ⟨u, w, hf, sb_refl u, hxw, RR_mono (sb_meet u w) _ _ _ r1⟩
      have hg := gsum_step (g := g) hLw hw256
      have hpre2 : Pre N t2 x u := by
        intro s hs hs0
        rcases r2 s hs hs0 with z | ⟨z, zn⟩
        · exact Or.inl z
        · by_cases q : s = u
          · rw [q]; exact Or.inr (sb_refl u)
          · have hns : ¬ sb s (u &&& w) := by
              intro y
              have a1 := sb_le y
              have a2 := sb_le z
              exact zn (by omega)
            have e1 : t2 s = t s := by rw [RR_frame hs hns _ _ _ r1, stp_out q (by omega) zn (by omega)]
            rw [e1] at hs0
            rcases hpre s hs hs0 with y | y
            · exact Or.inl (RR_NC _ _ _ rA y)
            · exact Or.inr y
      by_cases hz : t2 u = 0
      · refine ⟨k1 + 1, t2, rA, fun s hs hs0 => ?_, ?_⟩
        · rcases hpre2 s hs hs0 with z | z
          · exact Or.inl z
          · exact Or.inr ⟨z, fun q => by rw [q] at hs0; exact hs0 hz⟩
        · have : min (t u) (t w) * bu ≤ t u * bu := Nat.mul_le_mul_right bu (Nat.min_le_left _ _)
          omega
      · have ht1w : stp t u w w = 0 := by unfold stp; rw [if_neg (by omega), if_pos rfl]; omega
        have hJ1 : JL N (stp t u w) u w := by
          intro s hs hs0
          rcases stp_ne hu0 hw0 hs0 with q | q | q
          · intro hcs
            rcases (show s < w ∨ s = w by omega) with z | z
            · exact hmin s z ⟨q, hcs⟩
            · rw [z] at hs0; exact hs0 ht1w
          · rw [q]; exact sb_ncr (sb_meet u w)
          · omega
        have hJ2 := RR_JL (sb_meet u w) hu _ _ _ r1 hsup1 hJ1
        obtain ⟨k2, t3, s1, s2, s3⟩ := ih t2 w (by omega) hsup2 hpre2 hJ2 (hE _ _ _ hsup hEt rA)
        refine ⟨k1 + 1 + k2, t3, RR_app _ _ _ _ _ rA s1, s2, ?_⟩
        have e : t u * bu = min (t u) (t w) * bu + t2 u * bu := by
          rw [← Nat.add_mul, ht2u]
          congr 1
          omega
        omega
theorem child_run {N x u w bv gc : Nat} {t : Nat → Nat} (hpre : Pre N t x u) (hf : fcp N t u w) (hux : u ≤ x) (hxw : x < w) (H : Pre N (stp t u w) x (u &&& w) → ∃ k t2, RR N x (u &&& w) k (stp t u w) t2 ∧ Pst N t2 x (u &&& w) ∧ 4 * k + VV x t2 ≤ stp t u w (u &&& w) * bv + VV x (stp t u w) + gc) : ∃ k t2, RR N x (u &&& w) k (stp t u w) t2 ∧ Pst N t2 x (u &&& w) ∧ 4 * k + VV x t2 ≤ min (t u) (t w) * bv + VV x (stp t u w) + gc := by
  obtain ⟨h1, h2, h3⟩ := Pre_child hpre hf hux hxw
  by_cases q : t (u &&& w) = 0
  · rw [← h2 q]; exact H h1
  · exact ⟨0, stp t u w, rfl, h3 q, by omega⟩
theorem pc_le (s : Nat) : pc s ≤ 8 := ctr_max _ 8
theorem JL_0 {N : Nat} {t : Nat → Nat} (h : sup N t) (z : Nat) : JL N t z 0 := by
  intro s hs hs0
  have := (h s hs0).1
  omega
theorem gsum_0 (L : Nat) : gsum (fun _ => 0) L = 0 := by
  unfold gsum
  have : (fun w => if L < w then 0 else 0) = (fun _ : Nat => 0) := by
    funext w
    by_cases q : L < w
    · rw [if_pos q]
    · rw [if_neg q]
  rw [this, totTo_0]
/-- the paid ones -/
theorem proc {N x : Nat} (hN : N ≤ 8) (hx : x < 2 ^ N) : ∀ B u, u < B → u ≤ x → pc u ≤ 4 → ∀ t, sup N t → Pre N t x u → ∃ k t', RR N x u k t t' ∧ Pst N t' x u ∧ 4 * k + VV x t' ≤ t u * bbn (pc u) + VV x t := by
  intro B
  induction B with
  | zero => intro u h; omega
  | succ B ih =>
    intro u hB hux hpc t hsup hpre
    have main := ploop (N := N) (x := x) (u := u) hN hux (bbn (pc u)) (fun _ => 0) (fun _ => True) (fun _ _ _ _ _ _ => trivial) (by
      intro t w hsup hpre _ hf hxw
      have hc := hf.2.2.2.1
      have hmt := cr_meet_lt hc
      obtain ⟨c1, c2, c3, c4, c5⟩ := cr_pc hN hc
      obtain ⟨k, t2, r1, r2, r3⟩ := child_run (gc := 0) (bv := bbn (pc (u &&& w))) hpre hf hux hxw (fun hp1 => by
        obtain ⟨k, t2, r1, r2, r3⟩ := ih (u &&& w) (by omega) (by omega) (by omega) (stp t u w) (sup_stp hsup hf) hp1
        exact ⟨k, t2, r1, r2, by omega⟩)
      refine ⟨k, t2, r1, r2, ?_⟩
      have hV := VV_stp hN (t := t) (show u < 2 ^ N by omega) (sup_lt hsup hf.2.2.1) hc hux hxw
      have hl := lp_paid (k := pc u) (s := pc w) (m := pc (u &&& w)) (by have := pc_le u; omega) (by have := pc_le w; omega) (by have := pc_le (u &&& w); omega) c1 c2 c3 (by omega) hpc
      rw [show pc u + pc w - pc (u &&& w) = pc (u ||| w) by omega] at hl
      have hm : 1 ≤ min (t u) (t w) := by have := hf.2.1; have := hf.2.2.1; omega
      have hl2 := Nat.mul_le_mul_left (min (t u) (t w)) hl
      rw [Nat.mul_add, Nat.mul_add, Nat.mul_add] at hl2
      omega) (t u + 1) t 0 (by omega) hsup hpre (JL_0 hsup u) trivial
    rw [gsum_0] at main
    exact main
