theorem cpy_at {f g : Nat → Int32} {n i : Nat} (h : i < n) : va_cpy f g 0 0 n i = f i := by
  rw [pk_cpy_in (Nat.zero_le _) (by omega), Nat.zero_add, Nat.sub_zero]
theorem RX_cpx {σ : ST} {v : BV} (h : RX σ v) (ok : okN v.1) (ρ : ST) : RX (cpx ρ σ) v := by
  refine ⟨⟨h.1.1, h.1.2.1, fun i hi => ?_⟩, h.2.1, ?_⟩
  · have h16 : i < 16 := Nat.lt_of_lt_of_le hi ok.2.2.1
    show va_cpy (σ.2 3) (ρ.2 3) 0 0 16 i = _ ∧ va_cpy (σ.2 4) (ρ.2 4) 0 0 16 i = _ ∧ va_cpy (σ.2 5) (ρ.2 5) 0 0 16 i = _
    rw [cpy_at h16, cpy_at h16, cpy_at h16]
    exact h.1.2.2 i hi
  · have h1 := h.2.2
    revert h1
    cases v.2.2 with
    | none =>
      intro h1
      refine ⟨h1.1, fun s hs => ?_, fun a ha => ?_⟩
      · show va_cpy (σ.2 7) (ρ.2 7) 0 0 256 s = 0
        rw [cpy_at hs]; exact h1.2.1 s hs
      · show va_cpy (σ.2 8) (ρ.2 8) 0 0 16 a = 0
        rw [cpy_at ha]; exact h1.2.2 a ha
    | some f =>
      intro h1
      refine ⟨h1.1, h1.2.1, fun s hs => ?_, fun a ha => ?_⟩
      · show va_cpy (σ.2 7) (ρ.2 7) 0 0 256 s = _
        rw [cpy_at hs]; exact h1.2.2.1 s hs
      · show va_cpy (σ.2 8) (ρ.2 8) 0 0 16 a = _
        rw [cpy_at ha]; exact h1.2.2.2 a ha
theorem RX_jz {σ : ST} {v : BV} (h : RX σ v) : jz (σ.1 384) = true := by
  have h1 := h.2.2
  revert h1
  cases v.2.2 with
  | none => intro h1; rw [h1.1]; decide
  | some f => intro h1; rw [h1.1]; decide
theorem isSet_nz {a b : Int32} {c : Option Nat} (h : isSet a b c) : isSet (jnz a) b c := by
  cases c with
  | none => rw [show a = 0 from h]; exact jnz_0
  | some c => exact ⟨by rw [h.1]; exact jnz_1, h.2⟩
theorem isFam_of {a b a1 b1 : Int32} {t l t1 l1 : Nat → Int32} {f : Option FV} (h : isFam a b t l f) (ha : a1 = jnz a ∨ a1 = a) (hb : b1 = b) (ht : ∀ s, s < 256 → t1 s = t s) (hl : ∀ s, s < 16 → l1 s = l s) : isFam a1 b1 t1 l1 f := by
  cases f with
  | none =>
    have h0 : a = 0 := h
    show a1 = 0
    rcases ha with q | q
    · rw [q, h0]; exact jnz_0
    · rw [q, h0]
  | some f =>
    obtain ⟨h1, h2, h3, h4⟩ := h
    refine ⟨?_, by rw [hb, h2], fun s hs => by rw [ht s hs, h3 s hs], fun s hs => by rw [hl s hs, h4 s hs]⟩
    rcases ha with q | q
    · rw [q, h1]; exact jnz_1
    · rw [q, h1]
theorem sim_image (n : Nat) (hn : 1000 ≤ n) : Sim_image n TheInv := by
  intro j σ it τ bb a hj h
  obtain ⟨v, ji, ok, hx, hm, hi, hsx⟩ := h
  have hm1 := RF_code hm 0
  have stay : TheInv (j + 1) σ it (sS τ 0 0) := ⟨v, ji, okB_up ok, hx, hm1, ImOK_up hi, hsx⟩
  rcases pk_ix a (show 4 < 2 ^ 31 by decide) with h1 | h1 | ⟨k, hk, rfl⟩
  · refine ⟨0, sS τ 0 0, ?_, Or.inl ⟨?_, rfl, stay⟩⟩
    · unfold f_m_image; rw [nam_e, bnd_s (p_in n a 0 3), if_pos (if_pos (Or.inl h1))]
    · unfold f_x_image; rw [if_pos h1]
  · have h0 : ¬ a < 0 := fun q => absurd (Int32.lt_of_le_of_lt h1 q) (by decide)
    have h3 : (3 : Int32) < a := Int32.lt_of_lt_of_le (show (3 : Int32) < nI 4 by decide) h1
    refine ⟨0, sS τ 0 0, ?_, Or.inl ⟨?_, rfl, stay⟩⟩
    · unfold f_m_image; rw [nam_e, bnd_s (p_in n a 0 3), if_pos (if_pos (Or.inr h3))]
    · unfold f_x_image; rw [if_neg h0, if_neg (show ¬ a < (4 : Int32) from fun q => absurd (Int32.lt_of_lt_of_le q h1) (Int32.lt_irrefl))]
  · obtain ⟨e, p0, p1, p2, p3, p6, p7, p8, p9, p10, p11, p12, p13, p14, p15, p16, p17⟩ := p_image n hn τ hk
    have hjk : jix (nI k) = k := jix_nI (by omega)
    have hjn : jin (nI k) 4 = true := jin_nI hk (by omega)
    have hf : f_x_image (nI k) = some true := by
      unfold f_x_image
      rw [if_neg (nI_pos (by omega)), if_pos (show nI k < (4 : Int32) from nI_lt hk (by decide)), grd_t hjn]
    have hRF : RF e v (va_up ji k (some v)) := by
      have q1 : ∀ q, e.1 q = (sS τ 0 0).1 q := fun q => by rw [p1]
      refine ⟨⟨⟨?_, ?_, ?_⟩, ?_, ?_⟩, ?_, ?_⟩
      · rw [q1]; exact hm1.1.1.1
      · rw [q1]; exact hm1.1.1.2.1
      · rw [p2 1 (by decide), p2 2 (by decide), p2 3 (by decide)]; exact hm.1.1.2.2
      · rw [q1, q1]; exact hm1.1.2.1
      · rw [q1, q1, p2 5 (by decide), p2 4 (by decide)]; exact hm1.1.2.2
      · unfold RC
        rw [q1, q1, q1, q1, p3 18 (by decide), p3 19 (by decide), p3 20 (by decide), p3 21 (by decide)]
        exact hm1.2.1
      · intro k1 hk1
        by_cases hkk : k1 = k
        · subst hkk
          rw [show va_up ji k1 (some v) k1 = some v from if_pos rfl]
          refine ⟨by rw [p6]; exact upd_s, ⟨?_, ?_, fun i hi1 => ?_⟩, ?_, ?_⟩
          · rw [p7, upd_s]; exact hm.1.1.1
          · rw [p8, upd_s]; exact hm.1.1.2.1
          · have h16 : i < 16 := Nat.lt_of_lt_of_le hi1 ok.1.2.2.1
            show e.2 9 (16 * k1 + i) = _ ∧ e.2 10 (16 * k1 + i) = _ ∧ e.2 11 (16 * k1 + i) = _
            rw [p9, p10, p11, cpA_in h16, cpA_in h16, cpA_in h16]
            exact hm.1.1.2.2 i hi1
          · rw [p12, p13, upd_s, upd_s]; exact isSet_nz hm.1.2.1
          · refine isFam_of hm.1.2.2 (Or.inl ?_) ?_ (fun s hs => ?_) (fun s hs => ?_)
            · rw [p14, upd_s]
            · rw [p15, upd_s]
            · show e.2 17 (256 * k1 + s) = _; rw [p17, cpA_in hs]
            · show e.2 16 (16 * k1 + s) = _; rw [p16, cpA_in hs]
        · rw [show va_up ji k (some v) k1 = ji k1 from if_neg hkk]
          have h2 := hm.2.2 k1 hk1
          have h3 := hi k1 hk1
          revert h2 h3
          cases ji k1 with
          | none => intro h2 _; show e.2 6 k1 = 0; rw [p6, upd_n hkk]; exact h2
          | some w =>
            intro h2 h3
            refine ⟨by rw [p6, upd_n hkk]; exact h2.1, ⟨?_, ?_, fun i hi1 => ?_⟩, ?_, ?_⟩
            · rw [p7, upd_n hkk]; exact h2.2.1.1
            · rw [p8, upd_n hkk]; exact h2.2.1.2.1
            · have h16 : i < 16 := Nat.lt_of_lt_of_le hi1 h3.1.1.2.2.1
              show e.2 9 (16 * k1 + i) = _ ∧ e.2 10 (16 * k1 + i) = _ ∧ e.2 11 (16 * k1 + i) = _
              rw [p9, p10, p11, cpA_out (by omega), cpA_out (by omega), cpA_out (by omega)]
              exact h2.2.1.2.2 i hi1
            · rw [p12, p13, upd_n hkk, upd_n hkk]; exact h2.2.2.1
            · refine isFam_of h2.2.2.2 (Or.inr ?_) ?_ (fun s hs => ?_) (fun s hs => ?_)
              · rw [p14, upd_n hkk]
              · rw [p15, upd_n hkk]
              · show e.2 17 (256 * k1 + s) = _; rw [p17, cpA_out (by omega)]
              · show e.2 16 (16 * k1 + s) = _; rw [p16, cpA_out (by omega)]
    have fin : ∀ ρ : ST, TheInv (j + 1) σ (va_up it k (some (cpx ρ σ))) e := by
      intro ρ
      refine ⟨v, va_up ji k (some v), okB_up ok, hx, hRF, ?_, hsx⟩
      intro k1 hk1
      by_cases hkk : k1 = k
      · subst hkk
        rw [show va_up ji k1 (some v) k1 = some v from if_pos rfl]
        exact ⟨okB_up ok, cpx ρ σ, if_pos rfl, RX_cpx hx ok.1 ρ⟩
      · rw [show va_up ji k (some v) k1 = ji k1 from if_neg hkk, show va_up it k (some (cpx ρ σ)) k1 = it k1 from if_neg hkk]
        exact ImOK_up hi k1 hk1
    refine ⟨1, e, p0, Or.inr ⟨hf, rfl, hjn, RX_jz hx, ?_⟩⟩
    rw [hjk]
    cases hit : it k with
    | none => exact Or.inr ⟨rfl, fin z0⟩
    | some τi => exact Or.inl ⟨τi, rfl, fin τi⟩
