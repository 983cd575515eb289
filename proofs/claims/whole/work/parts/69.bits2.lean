/-! how many bits a number has, as both programs count them -/
def pc16 (s : Nat) : Nat := ctr (fun i => s.testBit i) 16
theorem ctr_split (p : Nat → Bool) : ∀ n, ctr p (n + 1) = (if p 0 then 1 else 0) + ctr (fun i => p (i + 1)) n := by
  intro n
  induction n with
  | zero => show 0 + (if p 0 then 1 else 0) = (if p 0 then 1 else 0) + 0; omega
  | succ n ih =>
    show ctr p (n + 1) + (if p (n + 1) then 1 else 0) = (if p 0 then 1 else 0) + (ctr (fun i => p (i + 1)) n + (if p (n + 1) then 1 else 0))
    rw [ih]; omega
theorem ctr_half (s n : Nat) : ctr (fun i => s.testBit i) (n + 1) = s % 2 + ctr (fun i => (s / 2).testBit i) n := by
  rw [ctr_split]
  have e : (fun i => s.testBit (i + 1)) = (fun i => (s / 2).testBit i) := by funext i; exact Nat.testBit_succ ..
  rw [e]
  congr 1
  rw [Nat.testBit_zero]
  by_cases q : s % 2 = 1
  · rw [q]; rfl
  · rw [show s % 2 = 0 by omega]; rfl
theorem ctr_zero (n : Nat) : ctr (fun i => (0 : Nat).testBit i) n = 0 := by
  have : (fun i => (0 : Nat).testBit i) = (fun _ => false) := by funext i; exact Nat.zero_testBit i
  rw [this]
  induction n with
  | zero => rfl
  | succ n ih => show ctr (fun _ => false) n + 0 = 0; rw [ih]
theorem and_half (a b : Nat) : (a &&& b) / 2 = a / 2 &&& b / 2 := by
  apply Nat.eq_of_testBit_eq
  intro i
  rw [← Nat.testBit_succ, Nat.testBit_and, Nat.testBit_and, Nat.testBit_succ, Nat.testBit_succ]
theorem and_odd (a b : Nat) : (a &&& b) % 2 = a % 2 * (b % 2) := by
  have h := Nat.testBit_and a b 0
  rw [Nat.testBit_zero, Nat.testBit_zero, Nat.testBit_zero] at h
  have ha : a % 2 = 0 ∨ a % 2 = 1 := by omega
  have hb : b % 2 = 0 ∨ b % 2 = 1 := by omega
  have hc : (a &&& b) % 2 = 0 ∨ (a &&& b) % 2 = 1 := by omega
  rcases ha with ha | ha <;> rcases hb with hb | hb <;> rcases hc with hc | hc <;> rw [ha, hb, hc] at h ⊢ <;> first | rfl | (exact absurd h (by decide))
theorem ctr_clear : ∀ n s, s < 2 ^ n → 0 < s → ctr (fun i => (s &&& (s - 1)).testBit i) n + 1 = ctr (fun i => s.testBit i) n := by
  intro n
  induction n with
  | zero => intro s h1 h2; omega
  | succ n ih =>
    intro s h1 h2
    rw [ctr_half, ctr_half, and_half, and_odd]
    rw [Nat.pow_succ] at h1
    rcases (show s % 2 = 0 ∨ s % 2 = 1 by omega) with q | q
    · have e : (s - 1) / 2 = s / 2 - 1 := by omega
      have := ih (s / 2) (by omega) (by omega)
      rw [q, e, Nat.zero_mul]
      omega
    · have e : (s - 1) / 2 = s / 2 := by omega
      rw [q, e, Nat.and_self, show (s - 1) % 2 = 0 by omega]
      omega
theorem p_ones {s : Nat} (hs : s < 2 ^ 16) (n : Nat) (hn : 1000 ≤ n) : f_m_ones n (nI s) = some (nI (pc16 s)) := by
  obtain ⟨e, he, hq⟩ := lp_meas (body := b_m_ones_4 n) (fun (t : Int32 × Int32) => ∃ c x, t = (nI c, nI x) ∧ x < 2 ^ 16 ∧ c + pc16 x = pc16 s) (fun t => pc16 (jix t.2)) (fun e => e = nI (pc16 s)) (by
    rintro t ⟨c, x, rfl, hx, hc⟩
    unfold b_m_ones_4
    by_cases q : x = 0
    · left
      refine ⟨nI c, ?_, ?_⟩
      · rw [if_pos (show nI x = (0 : Int32) by rw [q]; rfl)]
      · rw [q] at hc
        have : pc16 0 = 0 := ctr_zero 16
        rw [← hc, this]; rfl
    · right
      have hcl := ctr_clear 16 x hx (by omega)
      have hlt : x &&& (x - 1) < 2 ^ 16 := Nat.lt_of_le_of_lt Nat.and_le_left hx
      refine ⟨(nI (c + 1), nI (x &&& (x - 1))), ?_, ⟨c + 1, x &&& (x - 1), rfl, hlt, ?_⟩, ?_⟩
      · rw [if_neg (show ¬ nI x = (0 : Int32) from fun z => q (nI_inj (b := 0) (by omega) (by decide) z)), nam_e]
        show some (Sum.inl (nI c + 1, nI x &&& (nI x - 1))) = _
        rw [show (1 : Int32) = nI 1 from rfl, pk_sub (by omega), and_nI, nI_add]
      · unfold pc16 at hc ⊢; omega
      · show pc16 (jix (nI (x &&& (x - 1)))) < pc16 (jix (nI x))
        rw [jix_nI (by omega), jix_nI (by omega)]
        unfold pc16; omega) n ((0 : Int32), nI s) ⟨0, s, rfl, hs, Nat.zero_add _⟩ (by
      show pc16 (jix (nI s)) < n
      have := ctr_max (fun i => (jix (nI s)).testBit i) 16
      unfold pc16; omega)
  unfold f_m_ones
  rw [bnd_s he, hq]
/-- the JDK's way -/
def bcN (s : Nat) : Nat :=
  Nat.land (Nat.add (Nat.add (Nat.land (Nat.add (Nat.add (Nat.land (Nat.sub s (Nat.land (Nat.shiftRight s 1) 1431655765)) 858993459) (Nat.land (Nat.shiftRight (Nat.sub s (Nat.land (Nat.shiftRight s 1) 1431655765)) 2) 858993459)) (Nat.shiftRight (Nat.add (Nat.land (Nat.sub s (Nat.land (Nat.shiftRight s 1) 1431655765)) 858993459) (Nat.land (Nat.shiftRight (Nat.sub s (Nat.land (Nat.shiftRight s 1) 1431655765)) 2) 858993459)) 4)) 252645135) (Nat.shiftRight (Nat.land (Nat.add (Nat.add (Nat.land (Nat.sub s (Nat.land (Nat.shiftRight s 1) 1431655765)) 858993459) (Nat.land (Nat.shiftRight (Nat.sub s (Nat.land (Nat.shiftRight s 1) 1431655765)) 2) 858993459)) (Nat.shiftRight (Nat.add (Nat.land (Nat.sub s (Nat.land (Nat.shiftRight s 1) 1431655765)) 858993459) (Nat.land (Nat.shiftRight (Nat.sub s (Nat.land (Nat.shiftRight s 1) 1431655765)) 2) 858993459)) 4)) 252645135) 8)) (Nat.shiftRight (Nat.add (Nat.land (Nat.add (Nat.add (Nat.land (Nat.sub s (Nat.land (Nat.shiftRight s 1) 1431655765)) 858993459) (Nat.land (Nat.shiftRight (Nat.sub s (Nat.land (Nat.shiftRight s 1) 1431655765)) 2) 858993459)) (Nat.shiftRight (Nat.add (Nat.land (Nat.sub s (Nat.land (Nat.shiftRight s 1) 1431655765)) 858993459) (Nat.land (Nat.shiftRight (Nat.sub s (Nat.land (Nat.shiftRight s 1) 1431655765)) 2) 858993459)) 4)) 252645135) (Nat.shiftRight (Nat.land (Nat.add (Nat.add (Nat.land (Nat.sub s (Nat.land (Nat.shiftRight s 1) 1431655765)) 858993459) (Nat.land (Nat.shiftRight (Nat.sub s (Nat.land (Nat.shiftRight s 1) 1431655765)) 2) 858993459)) (Nat.shiftRight (Nat.add (Nat.land (Nat.sub s (Nat.land (Nat.shiftRight s 1) 1431655765)) 858993459) (Nat.land (Nat.shiftRight (Nat.sub s (Nat.land (Nat.shiftRight s 1) 1431655765)) 2) 858993459)) 4)) 252645135) 8)) 16)) 63
noncomputable def allB (p : Nat → Bool) (m : Nat) : Bool := Nat.rec (motive := fun _ => Bool) true (fun i r => cond (p i) r false) m
theorem allB_true {p : Nat → Bool} : ∀ m, allB p m = true → ∀ i, i < m → p i = true := by
  intro m
  induction m with
  | zero => intro _ i hi; omega
  | succ m ih =>
    intro h i hi
    have h : cond (p m) (allB p m) false = true := h
    cases hp : p m with
    | false => rw [hp] at h; cases h
    | true =>
      rw [hp] at h
      rcases (show i = m ∨ i < m by omega) with q | q
      · rw [q]; exact hp
      · exact ih h i q
set_option maxRecDepth 100000 in
theorem bc_all : allB (fun h => allB (fun l => Nat.beq (bcN (Nat.add (Nat.mul 256 h) l)) (Nat.add (pcb h) (pcb l))) 256) 256 = true := by decide +kernel
