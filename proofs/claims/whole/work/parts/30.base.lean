/-! plain facts for the pure functions -/
theorem grd_t {α : Type} {b : Bool} {t : Option α} (h : b = true) : grd b t = t := by unfold grd; rw [if_pos h]
theorem bnd_s {α β : Type} {x : Option α} {f : α → Option β} {a : α} (h : x = some a) : bnd x f = f a := by rw [h]; rfl
theorem nam_e {α β : Type} (x : α) (f : α → Option β) : nam x f = f x := rfl
/-- a loop that counts from i0 to N and comes out there -/
theorem lp_from {S E : Type} {body : S → Option (S ⊕ E)} (st : Nat → S) (i0 N : Nat) {e : E} (hi : i0 ≤ N) (hs : ∀ i, i0 ≤ i → i < N → body (st i) = some (.inl (st (i + 1)))) (he : body (st N) = some (.inr e)) : ∀ n, N - i0 < n → lp body n (st i0) = some e := by
  have key : ∀ d n, d ≤ N - i0 → d < n → lp body n (st (N - d)) = some e := by
    intro d
    induction d with
    | zero =>
      intro n _ hn
      cases n with
      | zero => omega
      | succ n =>
        show (match body (st (N - 0)) with | none => none | some (.inl s') => lp body n s' | some (.inr e) => some e) = some e
        rw [Nat.sub_zero, he]
    | succ d ih =>
      intro n hd hn
      cases n with
      | zero => omega
      | succ n =>
        show (match body (st (N - (d + 1))) with | none => none | some (.inl s') => lp body n s' | some (.inr e) => some e) = some e
        rw [hs (N - (d + 1)) (by omega) (by omega)]
        have h1 : N - (d + 1) + 1 = N - d := by omega
        rw [h1]
        exact ih n (by omega) (by omega)
  intro n hn
  have h2 := key (N - i0) n (Nat.le_refl _) hn
  rw [show N - (N - i0) = i0 by omega] at h2
  exact h2
theorem lp_for {S E : Type} {body : S → Option (S ⊕ E)} (st : Nat → S) (N : Nat) {e : E} (hs : ∀ i, i < N → body (st i) = some (.inl (st (i + 1)))) (he : body (st N) = some (.inr e)) (n : Nat) (hn : N < n) : lp body n (st 0) = some e :=
  lp_from st 0 N (Nat.zero_le _) (fun i _ h => hs i h) he n (by omega)
theorem jix_nI {i : Nat} (h : i < 2 ^ 31) : jix (nI i) = i := nI_clamp h
theorem jin_nI {i n : Nat} (h : i < n) (hi : i < 2 ^ 31) : jin (nI i) n = true := by
  unfold jin
  rw [nI_toInt hi]
  simp
  omega
theorem lit_nI (k : Nat) : (OfNat.ofNat k : Int32) = nI k := rfl
theorem nI_inj {a b : Nat} (ha : a < 2 ^ 31) (hb : b < 2 ^ 31) (h : nI a = nI b) : a = b := (nI_eq ha hb).mp h
theorem upd_s {f : Nat → Int32} {k : Nat} {x : Int32} : upd f k x k = x := pk_us
theorem upd_n {f : Nat → Int32} {k j : Nat} {x : Int32} (h : j ≠ k) : upd f k x j = f j := pk_un h
theorem sS1s (σ : ST) (k : Nat) (v : Int32) : (sS σ k v).1 k = v := by unfold sS; exact upd_s
theorem sS1n (σ : ST) {k j : Nat} (v : Int32) (h : j ≠ k) : (sS σ k v).1 j = σ.1 j := by unfold sS; exact upd_n h
theorem sS2 (σ : ST) (k : Nat) (v : Int32) (q : Nat) : (sS σ k v).2 q = σ.2 q := rfl
theorem sA1 (σ : ST) (q : Nat) (f : Nat → Int32) (j : Nat) : (sA σ q f).1 j = σ.1 j := rfl
theorem sA2s (σ : ST) (q : Nat) (f : Nat → Int32) : (sA σ q f).2 q = f := by unfold sA; exact if_pos rfl
theorem sA2n (σ : ST) {q j : Nat} (f : Nat → Int32) (h : j ≠ q) : (sA σ q f).2 j = σ.2 j := by unfold sA; exact if_neg h
/-- bits of small numbers -/
theorem and_nI (a b : Nat) : nI a &&& nI b = nI (a &&& b) := by
  unfold nI
  apply Int32.toBitVec_inj.mp
  simp
theorem or_nI (a b : Nat) : nI a ||| nI b = nI (a ||| b) := by
  unfold nI
  apply Int32.toBitVec_inj.mp
  simp
theorem xor_nI (a b : Nat) : nI a ^^^ nI b = nI (a ^^^ b) := by
  unfold nI
  apply Int32.toBitVec_inj.mp
  simp
theorem sh_amt : ∀ k : Fin 32, (((nI k.val) &&& 31).toBitVec.smod 32).toNat = k.val := by decide
theorem jshr_nI {n k : Nat} (h : n < 2 ^ 31) (hk : k < 32) : jshr (nI n) (nI k) = nI (n / 2 ^ k) := pk_shrN h _ k (sh_amt ⟨k, hk⟩)
theorem jshl_nI {n k : Nat} (hk : k < 32) (h : n * 2 ^ k < 2 ^ 32) : jshl (nI n) (nI k) = nI (n * 2 ^ k) := pk_shlN _ k (sh_amt ⟨k, hk⟩) h
theorem bit_nI {n k : Nat} (h : n < 2 ^ 31) (hk : k < 32) : (jshr (nI n) (nI k) &&& (1 : Int32)) = 0 ↔ n.testBit k = false := by
  rw [jshr_nI h hk, lit_nI 1, and_nI]
  have h1 : n / 2 ^ k &&& 1 = (n / 2 ^ k) % 2 := Nat.and_one_is_mod _
  rw [h1]
  have h2 : n / 2 ^ k % 2 < 2 := Nat.mod_lt _ (by decide)
  rw [show (0 : Int32) = nI 0 from rfl, nI_eq (by omega) (by omega), Nat.testBit_eq_decide_div_mod_eq]
  simp only [decide_eq_false_iff_not]
  omega
theorem p_contains (n : Nat) {s k : Nat} (hs : s < 2 ^ 31) (hk : k < 32) : f_contains n (nI s) (nI k) = some (if s.testBit k then 1 else 0) := by
  unfold f_contains j_contains_13
  by_cases h : s.testBit k = true
  · rw [if_neg (fun q => by rw [(bit_nI hs hk).mp q] at h; cases h), grd_t (by decide), if_pos h]
  · rw [if_pos ((bit_nI hs hk).mpr (by simpa using h)), grd_t (by decide), if_neg h]
theorem p_isWeight (n : Nat) (w : Int32) : f_isWeight n w = some (if w < 0 ∨ 1000 < w then 0 else 1) := by
  unfold f_isWeight j_isWeight_15 j_isWeight_16
  by_cases h : w < 0
  · rw [if_pos h, grd_t (by decide), if_pos (Or.inl h)]
  · rw [if_neg h]
    by_cases h2 : (1000 : Int32) < w
    · rw [if_pos h2, grd_t (by decide), if_pos (Or.inr h2)]
    · rw [if_neg h2, grd_t (by decide), if_neg (fun q => q.elim h h2)]
theorem p_in (n : Nat) (v lo hi : Int32) : f_m_in n v lo hi = some (if v < lo ∨ hi < v then 0 else 1) := by
  unfold f_m_in j_m_in_14 j_m_in_15
  by_cases h : v < lo
  · rw [if_pos h, grd_t (by decide), if_pos (Or.inl h)]
  · rw [if_neg h]
    by_cases h2 : hi < v
    · rw [if_pos h2, grd_t (by decide), if_pos (Or.inr h2)]
    · rw [if_neg h2, grd_t (by decide), if_neg (fun q => q.elim h h2)]
theorem p_renumbered (n : Nat) (v a b : Int32) : f_renumbered n v a b = f_m_joined n v a b := by
  unfold f_renumbered f_m_joined j_renumbered_10 j_m_joined_10 j_renumbered_23 j_m_joined_23
  rfl
