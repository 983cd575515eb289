/-! the mathematical value of a bench, and how class and reference hold it -/
/-- a net: nodes, arcs, tails, heads, weights -/
abbrev NV : Type := Nat × Nat × (Nat → Nat) × (Nat → Nat) × (Nat → Nat)
/-- a family: nodes, times of each set, loads -/
abbrev FV : Type := Nat × (Nat → Nat) × (Nat → Int32)
abbrev BV : Type := NV × Option Nat × Option FV
def nN (v : NV) : Nat := v.1
def nK (v : NV) : Nat := v.2.1
def nT (v : NV) : Nat → Nat := v.2.2.1
def nH (v : NV) : Nat → Nat := v.2.2.2.1
def nW (v : NV) : Nat → Nat := v.2.2.2.2
def okN (v : NV) : Prop := 1 ≤ nN v ∧ nN v ≤ 8 ∧ nK v ≤ 16 ∧ ∀ i, i < nK v → nT v i < nN v ∧ nH v i < nN v ∧ nW v i ≤ 1000
def isNet (nd ac : Int32) (t h w : Nat → Int32) (v : NV) : Prop := nd = nI (nN v) ∧ ac = nI (nK v) ∧ ∀ i, i < nK v → t i = nI (nT v i) ∧ h i = nI (nH v i) ∧ w i = nI (nW v i)
/-- a set as bits: does arc i leave, enter it? -/
def lv (v : NV) (s i : Nat) : Bool := s.testBit (nT v i) && !s.testBit (nH v i)
def en (v : NV) (s i : Nat) : Bool := s.testBit (nH v i) && !s.testBit (nT v i)
def sideB (v : NV) (s : Nat) : Bool := (List.range (nK v)).all (fun i => !lv v s i)
/-- the border's bits, of the first m arcs -/
def bord (v : NV) (s : Nat) : Nat → Nat
  | 0 => 0
  | m + 1 => bord v s m + if en v s m then 2 ^ m else 0
def bor (v : NV) (s : Nat) : Nat := bord v s (nK v)
/-- the sides below m, in order -/
def sidesTo (v : NV) (m : Nat) : List Nat := (List.range m).filter (fun s => decide (1 ≤ s) && sideB v s)
def sidesOf (v : NV) : List Nat := sidesTo v (2 ^ nN v - 1)
/-- a dijoin: it meets each border -/
def dij (v : NV) (d : Nat) : Prop := ∀ s ∈ sidesOf v, bor v s &&& d ≠ 0
/-- does a set of arcs miss a border? -/
def missB (v : NV) (d : Nat) : Bool := (sidesOf v).any (fun s => decide (bor v s &&& d = 0))
def minB (v : NV) (d : Nat) : Bool := !missB v d && (List.range (nK v)).all (fun i => !d.testBit i || missB v (d ^^^ 2 ^ i))
def leastTo (v : NV) (m : Nat) : List Nat := (List.range m).filter (minB v)
def leastOf (v : NV) : List Nat := leastTo v (2 ^ nK v)
/-- (a price of the units of a family is not needed: see NOTES, uncross) -/
def pot (_ : Nat → Nat) : Nat := 0
def totTo (T : Nat → Nat) : Nat → Nat
  | 0 => 0
  | m + 1 => totTo T m + T m
def tot (T : Nat → Nat) : Nat := totTo T 256
def okF (j : Nat) (f : FV) : Prop := 1 ≤ f.1 ∧ f.1 ≤ 8 ∧ f.2.1 0 = 0 ∧ (∀ s, s < 256 → f.2.1 s ≠ 0 → s < 2 ^ f.1 - 1) ∧ pot f.2.1 ≤ 120000 + 3000 * j ∧ tot f.2.1 ≤ 16000 + 1000 * j
def okB (j : Nat) (v : BV) : Prop := okN v.1 ∧ (∀ c, v.2.1 = some c → c < 65536) ∧ ∀ f, v.2.2 = some f → okF j f
/-- the class's bench -/
def RX (σ : ST) (v : BV) : Prop := isNet (σ.1 128) (σ.1 129) (σ.2 3) (σ.2 4) (σ.2 5) v.1 ∧ σ.1 66 = nI (v.2.1.getD 0) ∧
  match v.2.2 with
  | none => σ.1 384 = 0 ∧ (∀ s, s < 256 → σ.2 7 s = 0) ∧ ∀ a, a < 16 → σ.2 8 a = 0
  | some f => σ.1 384 = 1 ∧ σ.1 385 = nI f.1 ∧ (∀ s, s < 256 → σ.2 7 s = nI (f.2.1 s)) ∧ ∀ a, a < 16 → σ.2 8 a = f.2.2 a
/-- a set at hand and a family as the reference has them -/
def isSet (hs st : Int32) (c : Option Nat) : Prop := match c with
  | none => hs = 0
  | some c => hs = 1 ∧ st = nI c
def isFam (hf fn : Int32) (tm ld : Nat → Int32) (f : Option FV) : Prop := match f with
  | none => hf = 0
  | some f => hf = 1 ∧ fn = nI f.1 ∧ (∀ s, s < 256 → tm s = nI (f.2.1 s)) ∧ ∀ a, a < 16 → ld a = f.2.2 a
def RM (τ : ST) (v : BV) : Prop := isNet (τ.1 1) (τ.1 2) (τ.2 1) (τ.2 2) (τ.2 3) v.1 ∧ isSet (τ.1 6) (τ.1 7) v.2.1 ∧ isFam (τ.1 8) (τ.1 9) (τ.2 5) (τ.2 4) v.2.2
/-- the reference's image k -/
def RI (τ : ST) (k : Nat) (v : BV) : Prop := isNet (τ.2 7 k) (τ.2 8 k) (fun i => τ.2 9 (16 * k + i)) (fun i => τ.2 10 (16 * k + i)) (fun i => τ.2 11 (16 * k + i)) v.1 ∧ isSet (τ.2 12 k) (τ.2 13 k) v.2.1 ∧ isFam (τ.2 14 k) (τ.2 15 k) (fun s => τ.2 17 (256 * k + s)) (fun a => τ.2 16 (16 * k + a)) v.2.2
def RIs (τ : ST) (ji : Nat → Option BV) : Prop := ∀ k, k < 4 → match ji k with
  | none => τ.2 6 k = 0
  | some v => τ.2 6 k = 1 ∧ RI τ k v
/-- what the reference has found already of the net -/
def RC (τ : ST) (v : NV) : Prop := (τ.1 24 = 0 ∨ τ.1 24 = 1) ∧ (τ.1 31 = 0 ∨ τ.1 31 = 1) ∧ (τ.1 31 = 1 → τ.1 24 = 1) ∧
  (τ.1 24 = 1 → τ.1 25 = nI (sidesOf v).length ∧ ∀ i, i < (sidesOf v).length → τ.2 18 i = nI ((sidesOf v).getD i 0) ∧ τ.2 19 i = nI (bor v ((sidesOf v).getD i 0))) ∧
  (τ.1 31 = 1 → τ.1 29 = nI (leastOf v).length ∧ (∀ d, d < 2 ^ nK v → τ.2 20 d = if missB v d then 1 else 0) ∧ ∀ i, i < (leastOf v).length → τ.2 21 i = nI ((leastOf v).getD i 0))
/-- all of the reference -/
def RF (τ : ST) (v : BV) (ji : Nat → Option BV) : Prop := RM τ v ∧ RC τ v.1 ∧ RIs τ ji
/-- the images' part of the relation -/
def ImOK (j : Nat) (it : Nat → Option ST) (ji : Nat → Option BV) : Prop := ∀ k, k < 4 → match ji k with
  | none => it k = none
  | some w => okB j w ∧ ∃ σi, it k = some σi ∧ RX σi w
/-- places of the class's rows that are never written -/
def SX (σ : ST) : Prop := σ.2 16 0 = 0 ∧ σ.2 17 0 = 0
/-- THE RELATION -/
def TheInv : InvT := fun j σ it τ => ∃ (v : BV) (ji : Nat → Option BV), okB j v ∧ RX σ v ∧ RF τ v ji ∧ ImOK j it ji ∧ SX σ
theorem nI0 : nI 0 = 0 := rfl
theorem nI1 : nI 1 = 1 := rfl
theorem inv_start : TheInv 0 (sS (sS z0 128 1) 129 0) (fun _ => none) (sS z0 1 1) := by
  refine ⟨((1, 0, fun _ => 0, fun _ => 0, fun _ => 0), none, none), fun _ => none, ⟨⟨Nat.le_refl _, by decide, by decide, fun i hi => absurd hi (Nat.not_lt_zero _)⟩, (fun c h => by cases h), (fun f h => by cases h)⟩, ⟨⟨rfl, rfl, fun i hi => absurd hi (Nat.not_lt_zero _)⟩, rfl, rfl, fun _ _ => rfl, fun _ _ => rfl⟩, ⟨⟨⟨rfl, rfl, fun i hi => absurd hi (Nat.not_lt_zero _)⟩, rfl, rfl⟩, ⟨Or.inl rfl, Or.inl rfl, fun h => absurd h (by decide), fun h => absurd h (by decide), fun h => absurd h (by decide)⟩, fun k _ => rfl⟩, fun k _ => rfl, rfl, rfl⟩
theorem okF_up {j : Nat} {f : FV} (h : okF j f) : okF (j + 1) f := by
  obtain ⟨h1, h2, h3, h4, h5, h6⟩ := h
  exact ⟨h1, h2, h3, h4, by omega, by omega⟩
theorem okB_up {j : Nat} {v : BV} (h : okB j v) : okB (j + 1) v := ⟨h.1, h.2.1, fun f hf => okF_up (h.2.2 f hf)⟩
theorem ImOK_up {j : Nat} {it : Nat → Option ST} {ji : Nat → Option BV} (h : ImOK j it ji) : ImOK (j + 1) it ji := by
  intro k hk
  have h1 := h k hk
  revert h1
  cases ji k with
  | none => exact fun h => h
  | some w => exact fun h => ⟨okB_up h.1, h.2⟩
theorem inv_up {j : Nat} {σ : ST} {it : Nat → Option ST} {τ : ST} (h : TheInv j σ it τ) : TheInv (j + 1) σ it τ := by
  obtain ⟨v, ji, h1, h2, h3, h4, h5⟩ := h
  exact ⟨v, ji, okB_up h1, h2, h3, ImOK_up h4, h5⟩
theorem le_tot (T : Nat → Nat) : ∀ m s, s < m → T s ≤ totTo T m := by
  intro m
  induction m with
  | zero => intro s h; omega
  | succ m ih =>
    intro s h
    show T s ≤ totTo T m + T m
    by_cases hs : s = m
    · subst hs; omega
    · have := ih s (by omega); omega
theorem okF_le {j : Nat} {f : FV} (h : okF j f) {s : Nat} (hs : s < 256) : f.2.1 s ≤ 16000 + 1000 * j := Nat.le_trans (le_tot _ 256 s hs) h.2.2.2.2.2
