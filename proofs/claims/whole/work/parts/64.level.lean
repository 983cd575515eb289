/-! uncross: the steps that are counted -/
noncomputable def trc (f : Nat → Nat) (m : Nat) : Nat := Nat.rec (motive := fun _ => Nat) 0 (fun i r => Nat.add r (f i)) m
theorem trc_tot (f : Nat → Nat) : ∀ m, trc f m = totTo f m := by
  intro m
  induction m with
  | zero => rfl
  | succ m ih => show trc f m + f m = totTo f m + f m; rw [ih]
noncomputable def pcb (s : Nat) : Nat := Nat.rec (motive := fun _ => Nat) 0 (fun i r => Nat.add r (Nat.land (Nat.shiftRight s i) 1)) 8
def crB (A x y : Nat) : Bool := !(Nat.beq (Nat.land x y) 0) && !(Nat.beq (Nat.land x y) x) && !(Nat.beq (Nat.land x y) y) && !(Nat.beq (Nat.lor x y) A)
def freeB (X k : Nat) : Bool := (Nat.beq X 5 && Nat.beq k 4) || (Nat.beq X 6 && Nat.beq k 5)
noncomputable def g1 (A x w y : Nat) : Nat := cond (Nat.blt x y && Nat.blt y A && crB A (Nat.land x w) y && (Nat.blt w y || Nat.beq (Nat.lor x y) A)) 4 0
noncomputable def gf (A x w : Nat) : Nat := cond (Nat.ble 5 (pcb x)) (cond (freeB (pcb x) (pcb (Nat.land x w))) (trc (g1 A x w) 256) 0) 0
noncomputable def g0 (A x w : Nat) : Nat := cond (Nat.blt x w && Nat.blt w A && crB A x w) (Nat.add 4 (gf A x w)) 0
noncomputable def gx (A x : Nat) : Nat := trc (g0 A x) 256
theorem pcb_step (s : Nat) : ∀ m, (Nat.rec (motive := fun _ => Nat) 0 (fun i r => Nat.add r (Nat.land (Nat.shiftRight s i) 1)) m : Nat) = ctr (fun i => s.testBit i) m := by
  intro m
  induction m with
  | zero => rfl
  | succ m ih =>
    show (Nat.rec (motive := fun _ => Nat) 0 (fun i r => Nat.add r (Nat.land (Nat.shiftRight s i) 1)) m : Nat) + (s >>> m &&& 1) = ctr (fun i => s.testBit i) m + if s.testBit m then 1 else 0
    rw [ih, Nat.and_one_is_mod, Nat.shiftRight_eq_div_pow, Nat.testBit_eq_decide_div_mod_eq]
    congr 1
    by_cases q : s / 2 ^ m % 2 = 1
    · rw [q]; simp
    · rw [show s / 2 ^ m % 2 = 0 by omega]; simp
theorem pcb_pc (s : Nat) : pcb s = pc s := pcb_step s 8
theorem blt_iff {a b : Nat} : Nat.blt a b = true ↔ a < b := by
  show Nat.ble (a + 1) b = true ↔ a < b
  rw [Nat.ble_eq]
  omega
theorem crB_iff {N x y : Nat} (hx : x < 2 ^ N) (hy : y < 2 ^ N) : crB (2 ^ N - 1) x y = true ↔ cr N x y := by
  rw [cr_iff hx hy]
  unfold crB
  show (!(Nat.beq (x &&& y) 0) && !(Nat.beq (x &&& y) x) && !(Nat.beq (x &&& y) y) && !(Nat.beq (x ||| y) (2 ^ N - 1))) = true ↔ _
  simp only [Bool.and_eq_true, Bool.not_eq_true', ← Bool.not_eq_true, Nat.beq_eq]
  constructor
  · rintro ⟨⟨⟨a, b⟩, c⟩, d⟩; exact ⟨a, b, c, d⟩
  · rintro ⟨a, b, c, d⟩; exact ⟨⟨⟨a, b⟩, c⟩, d⟩
theorem gsum_trc (g : Nat → Nat) : gsum g 0 ≤ trc g 256 := by
  rw [trc_tot]
  unfold gsum
  refine totTo_le 256 (fun i _ => ?_)
  by_cases q : 0 < i
  · rw [if_pos q]; exact Nat.le_refl _
  · rw [if_neg q]; exact Nat.zero_le _
/-- a set at depth 1, of one node less than x, that has five or six -/
theorem proc1 {N x w0 : Nat} (hN : N ≤ 8) (hx : x < 2 ^ N) (hc0 : cr N x w0) (hw0 : w0 < 2 ^ N) (hfr : (pc x = 5 ∧ pc (x &&& w0) = 4) ∨ (pc x = 6 ∧ pc (x &&& w0) = 5)) : ∀ t, sup N t → Pre N t x (x &&& w0) → JL N t x (w0 - 1) → ∃ k t', RR N x (x &&& w0) k t t' ∧ Pst N t' x (x &&& w0) ∧ 4 * k + VV x t' ≤ t (x &&& w0) * btn (pc x) (pc (x &&& w0)) + VV x t + trc (g1 (2 ^ N - 1) x w0) 256 := by
  intro t hsup hpre hJ
  have hm0 := cr_meet_lt hc0
  have hux : x &&& w0 ≤ x := by omega
  have main := ploop (N := N) (x := x) (u := x &&& w0) hN hux (btn (pc x) (pc (x &&& w0))) (g1 (2 ^ N - 1) x w0) (fun t => JL N t x (w0 - 1)) (fun k t t' h1 h2 h3 => RR_JL (sb_meet x w0) (Nat.le_refl x) k t t' h3 h1 h2) (by
      intro t w hsup hpre hE hf hxw
      have hc := hf.2.2.2.1
      have hmt := cr_meet_lt hc
      have hwN := sup_lt hsup hf.2.2.1
      have hwA := (hsup w hf.2.2.1).2
      obtain ⟨c1, c2, c3, c4, c5⟩ := cr_pc hN hc
      have hg : g1 (2 ^ N - 1) x w0 w = 4 := by
        unfold g1
        have a1 : Nat.blt x w = true := blt_iff.mpr hxw
        have a2 : Nat.blt w (2 ^ N - 1) = true := blt_iff.mpr hwA
        have a3 : crB (2 ^ N - 1) (Nat.land x w0) w = true := (crB_iff (show x &&& w0 < 2 ^ N by omega) hwN).mpr hc
        have a4 : (Nat.blt w0 w || Nat.beq (Nat.lor x w) (2 ^ N - 1)) = true := by
          rcases (show w0 < w ∨ w = w0 ∨ w < w0 by omega) with q | q | q
          · rw [blt_iff.mpr q]; rfl
          · rw [q] at hc
            exact absurd (fun i hi => (tb_and.mp hi).2) (cr_nsub hc)
          · have hn := hE w (by omega) hf.2.2.1
            have : x ||| w = 2 ^ N - 1 := by
              apply Classical.byContradiction
              intro z
              apply hn
              obtain ⟨⟨i1, i2, i3, i4⟩, ⟨j1, j2, j3, j4⟩, _, _⟩ := hc
              obtain ⟨o1, o2, o3, o4⟩ := gt_out hwN hxw
              refine (cr_iff hx hwN).mpr ⟨fun y => ?_, fun y => ?_, fun y => ?_, z⟩
              · have := tb_and.mpr ⟨(tb_and.mp i3).1, i4⟩
                rw [y, Nat.zero_testBit] at this; cases this
              · have h1 := (tb_and.mp j3).1
                rw [← y] at h1
                rw [(tb_and.mp h1).2] at j4; cases j4
              · rw [← y] at o4
                rw [(tb_and.mp o4).1] at o3; cases o3
            have e : Nat.beq (Nat.lor x w) (2 ^ N - 1) = true := by rw [Nat.beq_eq]; exact this
            rw [e, Bool.or_true]
        rw [a1, a2, a3, a4]
        rfl
      obtain ⟨k, t2, r1, r2, r3⟩ := child_run (gc := 0) (bv := bbn (pc (x &&& w0 &&& w))) hpre hf hux hxw (fun hp1 => by
        obtain ⟨k, t2, r1, r2, r3⟩ := proc hN hx ((x &&& w0 &&& w) + 1) (x &&& w0 &&& w) (by omega) (by omega) (by omega) (stp t (x &&& w0) w) (sup_stp hsup hf) hp1
        exact ⟨k, t2, r1, r2, by omega⟩)
      refine ⟨k, t2, r1, r2, ?_⟩
      have hV := VV_stp hN (t := t) (show x &&& w0 < 2 ^ N by omega) hwN hc hux hxw
      have hl : bbn (pc (x &&& w0 &&& w)) + awn (pc (x &&& w0 ||| w)) ≤ btn (pc x) (pc (x &&& w0)) + awn (pc w) := by
        have l3 := pc_le w
        have l4 := pc_le (x &&& w0 &&& w)
        rcases hfr with ⟨q1, q2⟩ | ⟨q1, q2⟩
        · have := lp_free5 (s := pc w) (m := pc (x &&& w0 &&& w)) (by omega) (by omega) c1 (by omega) c3 (by omega)
          rw [show 4 + pc w - pc (x &&& w0 &&& w) = pc (x &&& w0 ||| w) by omega] at this
          rw [q1, q2]
          exact this
        · have := lp_free6 (s := pc w) (m := pc (x &&& w0 &&& w)) (by omega) (by omega) c1 (by omega) c3 (by omega)
          rw [show 5 + pc w - pc (x &&& w0 &&& w) = pc (x &&& w0 ||| w) by omega] at this
          rw [q1, q2]
          exact this
      have hl2 := Nat.mul_le_mul_left (min (t (x &&& w0)) (t w)) hl
      rw [Nat.mul_add, Nat.mul_add] at hl2
      omega) (t (x &&& w0) + 1) t 0 (by omega) hsup hpre (JL_0 hsup _) hJ
  obtain ⟨k, t', r1, r2, r3⟩ := main
  have := gsum_trc (g1 (2 ^ N - 1) x w0)
  exact ⟨k, t', r1, r2, by omega⟩
/-- a level -/
theorem level {N x : Nat} (hN : N ≤ 8) (hx : x < 2 ^ N) : ∀ t, sup N t → (∀ s, s < x → t s ≠ 0 → NC N t s) → ∃ k t', RR N x x k t t' ∧ (∀ s, s < x + 1 → t' s ≠ 0 → NC N t' s) ∧ 4 * k + VV x t' ≤ t x * awn (pc x) + VV x t + gx (2 ^ N - 1) x := by
  intro t hsup hlow
  have hpre : Pre N t x x := by
    intro s hs hs0
    rcases (show s < x ∨ s = x by omega) with q | q
    · exact Or.inl (hlow s q hs0)
    · rw [q]; exact Or.inr (sb_refl x)
  have main := ploop (N := N) (x := x) (u := x) hN (Nat.le_refl x) (awn (pc x)) (g0 (2 ^ N - 1) x) (fun _ => True) (fun _ _ _ _ _ _ => trivial) (by
      intro t w hsup hpre _ hf hxw
      have hc := hf.2.2.2.1
      have hmt := cr_meet_lt hc
      have hjn := cr_join_gt hc
      have hwN := sup_lt hsup hf.2.2.1
      have hwA := (hsup w hf.2.2.1).2
      obtain ⟨c1, c2, c3, c4, c5⟩ := cr_pc hN hc
      have lX := pc_le x
      have lW := pc_le w
      have lM := pc_le (x &&& w)
      obtain ⟨z1, z2⟩ := lp_zero (X := pc x) (s := pc w) (m := pc (x &&& w)) (by omega) (by omega) (by omega) c1 c2 c3 (by omega)
      rw [show pc x + pc w - pc (x &&& w) = pc (x ||| w) by omega] at z1
      have hg : g0 (2 ^ N - 1) x w = 4 + gf (2 ^ N - 1) x w := by
        unfold g0
        have a1 : Nat.blt x w = true := blt_iff.mpr hxw
        have a2 : Nat.blt w (2 ^ N - 1) = true := blt_iff.mpr hwA
        have a3 : crB (2 ^ N - 1) x w = true := (crB_iff hx hwN).mpr hc
        rw [a1, a2, a3]
        rfl
      obtain ⟨k, t2, r1, r2, r3⟩ := child_run (gc := gf (2 ^ N - 1) x w) (bv := btn (pc x) (pc (x &&& w))) hpre hf (Nat.le_refl x) hxw (fun hp1 => by
        by_cases hfr : (pc x = 5 ∧ pc (x &&& w) = 4) ∨ (pc x = 6 ∧ pc (x &&& w) = 5)
        · have hgf : gf (2 ^ N - 1) x w = trc (g1 (2 ^ N - 1) x w) 256 := by
            unfold gf
            rw [pcb_pc, show Nat.land x w = x &&& w from rfl, pcb_pc]
            rcases hfr with ⟨q1, q2⟩ | ⟨q1, q2⟩
            · rw [q1, q2]; rfl
            · rw [q1, q2]; rfl
          have hJ : JL N (stp t x w) x (w - 1) := by
            intro s hs hs0
            rcases stp_ne hf.2.1 hf.2.2.1 hs0 with q | q | q
            · intro hcs
              rcases hpre x (Nat.le_refl x) hf.2.1 with z | z
              · exact z w hf.2.2.1 hc
              · rcases (show x < s ∨ s ≤ x by omega) with y | y
                · rcases hf.2.2.2.2 x s y hf.2.1 q hcs with u | u
                  · omega
                  · omega
                · rcases hpre s y q with u | u
                  · exact u x hf.2.1 (cr_sym hcs)
                  · exact cr_nsub hcs u
            · rw [q]; exact sb_ncr (sb_meet x w)
            · omega
          obtain ⟨k, t2, r1, r2, r3⟩ := proc1 hN hx hc hwN hfr (stp t x w) (sup_stp hsup hf) hp1 hJ
          rw [hgf]
          exact ⟨k, t2, r1, r2, r3⟩
        · have hb : btn (pc x) (pc (x &&& w)) = bbn (pc (x &&& w)) := by
            unfold btn
            rw [if_neg (fun q => hfr (Or.inl q)), if_neg (fun q => hfr (Or.inr q))]
          rw [hb]
          obtain ⟨k, t2, r1, r2, r3⟩ := proc hN hx ((x &&& w) + 1) (x &&& w) (by omega) (by omega) (z2.resolve_right (fun q => hfr (Or.inr q))) (stp t x w) (sup_stp hsup hf) hp1
          exact ⟨k, t2, r1, r2, by omega⟩)
      refine ⟨k, t2, r1, r2, ?_⟩
      have hV := VV_stp hN (t := t) hx hwN hc (Nat.le_refl x) hxw
      have hl2 := Nat.mul_le_mul_left (min (t x) (t w)) z1
      rw [Nat.mul_add, Nat.mul_add] at hl2
      omega) (t x + 1) t 0 (by omega) hsup hpre (JL_0 hsup x) trivial
  obtain ⟨k, t', r1, r2, r3⟩ := main
  have hgg := gsum_trc (g0 (2 ^ N - 1) x)
  refine ⟨k, t', r1, fun s hs hs0 => ?_, ?_⟩
  · rcases r2 s (by omega) hs0 with z | ⟨z, zn⟩
    · exact z
    · have := sb_le z; omega
  · unfold gx
    omega
