/-! Search.descend, findBelow -/
def feas (m : Nat) (kb : Nat → Nat) (D : Nat) : Prop := ∀ x, x < m → kb x &&& D ≠ 0
def dsj (A C : Nat) : Prop := ∀ i, A.testBit i = true → C.testBit i = false
def SC (σ : ST) (K m : Nat) (kb p : Nat → Nat) : Prop := σ.1 1158 = nI K ∧ σ.1 1154 = nI m ∧ (∀ x, x < m → σ.2 19 x = nI (kb x)) ∧ ∀ a, a < K → σ.2 20 a = nI (p a)
def FS (σ e : ST) : Prop := (∀ c, c ≠ 1152 → c ≠ 1153 → c ≠ 1155 → c ≠ 1156 → e.1 c = σ.1 c) ∧ ∀ q, q ≠ 21 → e.2 q = σ.2 q
theorem FS_refl (σ : ST) : FS σ σ := ⟨fun _ _ _ _ _ => rfl, fun _ _ => rfl⟩
theorem FS_trans {a b c : ST} (h1 : FS a b) (h2 : FS b c) : FS a c := ⟨fun k q1 q2 q3 q4 => (h2.1 k q1 q2 q3 q4).trans (h1.1 k q1 q2 q3 q4), fun q hq => (h2.2 q hq).trans (h1.2 q hq)⟩
theorem FS_FR {σ e : ST} (h : FS σ e) : FR σ e := ⟨fun c hc => h.1 c (by omega) (by omega) (by omega) (by omega), fun q hq => h.2 q (by omega)⟩
theorem SC_FS {σ e : ST} {K m : Nat} {kb p : Nat → Nat} (h : SC σ K m kb p) (f : FS σ e) : SC e K m kb p := by
  obtain ⟨h1, h2, h3, h4⟩ := h
  refine ⟨?_, ?_, fun x hx => ?_, fun a ha => ?_⟩
  · rw [f.1 1158 (by decide) (by decide) (by decide) (by decide)]; exact h1
  · rw [f.1 1154 (by decide) (by decide) (by decide) (by decide)]; exact h2
  · rw [f.2 19 (by decide)]; exact h3 x hx
  · rw [f.2 20 (by decide)]; exact h4 a ha
theorem sm_mono {p : Nat → Nat} {K T D : Nat} (h : sb T D) : sm p K T ≤ sm p K D := by
  refine totTo_le K (fun i _ => ?_)
  by_cases q : T.testBit i = true
  · rw [if_pos q, if_pos (h i q)]; exact Nat.le_refl _
  · rw [if_neg q]; exact Nat.zero_le _
theorem sm_split {p : Nat → Nat} {K T D Z : Nat} (h : sb T D) (hZ : ∀ i, i < K → (Z.testBit i = true ↔ D.testBit i = true ∧ T.testBit i = false)) : sm p K T + sm p K Z = sm p K D := by
  unfold sm
  rw [← totTo_add]
  refine totTo_congr K (fun i hi => ?_)
  have hz := hZ i hi
  rcases tb_cases T i with q | q
  · rw [if_pos q, if_pos (h i q), if_neg (fun z => by rw [(hz.mp z).2] at q; cases q)]; rfl
  · rw [if_neg (by rw [q]; decide)]
    rcases tb_cases D i with y | y
    · rw [if_pos y, if_pos (hz.mpr ⟨y, q⟩)]; omega
    · rw [if_neg (show ¬ Z.testBit i = true from fun z => by rw [(hz.mp z).1] at y; cases y), if_neg (show ¬ D.testBit i = true by rw [y]; decide)]
theorem sm_add {p : Nat → Nat} {K T a : Nat} (ha : a < K) (h : T.testBit a = false) : sm p K (T ||| 2 ^ a) = sm p K T + p a := by
  have e : totTo (fun i => (if T.testBit i then p i else 0) + (if i = a then p a else 0)) K = sm p K (T ||| 2 ^ a) := by
    refine totTo_congr K (fun i hi => ?_)
    by_cases q : i = a
    · rw [if_pos q, q, h, if_neg (by decide), if_pos (or_pow_bit.mpr (Or.inr rfl))]; omega
    · rw [if_neg q]
      by_cases z : T.testBit i = true
      · rw [if_pos z, if_pos (or_pow_bit.mpr (Or.inl z))]; rfl
      · rw [if_neg z, if_neg (fun y => (or_pow_bit.mp y).elim z (fun u => q u.symm))]
  rw [← e, totTo_add, totTo_one, if_pos ha]
  rfl
theorem pc16_or {T a : Nat} (ha : a < 16) (h : T.testBit a = false) : pc16 (T ||| 2 ^ a) = pc16 T + 1 := by
  have h1 : (T ||| 2 ^ a).testBit a = true := or_pow_bit.mpr (Or.inr rfl)
  have h2 := pc16_xor ha h1
  have e : (T ||| 2 ^ a) ^^^ 2 ^ a = T := by
    apply Nat.eq_of_testBit_eq
    intro i
    by_cases q : i = a
    · rw [q, tb_xor_self h1, h]
    · rw [tb_xor_ne q, Nat.testBit_or, Nat.testBit_two_pow, show decide (a = i) = false from decide_eq_false (fun z => q z.symm), Bool.or_false]
  rw [e] at h2
  omega
theorem sm_tot {p : Nat → Nat} {K : Nat} (Z : Nat) : sm p K Z ≤ sm p K (2 ^ K - 1) := by
  refine totTo_le K (fun i hi => ?_)
  rw [Nat.testBit_two_pow_sub_one, show decide (i < K) = true from decide_eq_true hi, if_pos rfl]
  by_cases q : Z.testBit i = true
  · rw [if_pos q]; exact Nat.le_refl _
  · rw [if_neg q]; exact Nat.zero_le _
/-- what a search below a node gives -/
def dsc (K m : Nat) (kb p : Nat → Nat) (T C B : Nat) (σ e : ST) : Prop := ∃ B', FS σ e ∧ e.1 1152 = nI B' ∧ B' ≤ B ∧ (∀ D, D < 2 ^ K → feas m kb D → sb T D → dsj D C → B' ≤ sm p K D) ∧ ((B' = B ∧ e.1 1153 = σ.1 1153) ∨ (B' < B ∧ ∃ A, e.1 1153 = nI A ∧ A < 2 ^ K ∧ feas m kb A ∧ dsj A C ∧ sm p K A = B'))
theorem descend {K m : Nat} {kb p : Nat → Nat} (k16 : K ≤ 16) (m256 : m ≤ 256) (hkl : ∀ x, x < m → kb x < 2 ^ K) (hpl : sm p K (2 ^ K - 1) < 2 ^ 30) (n : Nat) (hn : 1000 ≤ n) : ∀ dd d T C B σ, 18 ≤ dd + d → d ≤ pc16 T → T < 2 ^ K → C < 2 ^ 16 → dsj T C → SC σ K m kb p → σ.1 1152 = nI B → B < 2 ^ 31 → ∃ e, f_Search_descend n dd σ (nI T) (nI C) (nI (sm p K T)) (nI d) = some e ∧ dsc K m kb p T C B σ e := by
  have hp : 2 ^ K ≤ 2 ^ 16 := Nat.pow_le_pow_right (by decide) k16
  intro dd
  induction dd with
  | zero =>
    intro d T C B σ h1 h2
    have : pc16 T ≤ 16 := ctr_max _ 16
    omega
  | succ dd ih =>
    intro d T C B σ hdd hd hT hC hTC hSC hB hB31
    have hpcT : pc16 T ≤ 16 := ctr_max _ 16
    obtain ⟨s1, s2, s3, s4⟩ := hSC
    obtain ⟨r, o, o1, o2, o3, o4⟩ := p_bound (σ := σ) s1 k16 s2 m256 (fun x hx => ⟨s3 x hx, hkl x hx⟩) s4 hpl (T := T) (C := C) (by omega) n hn
    have hFo : FS σ o := ⟨fun c _ _ c3 c4 => o2 c c3 c4, o3⟩
    have oB : o.1 1152 = nI B := by rw [o2 1152 (by decide) (by decide)]; exact hB
    have oA : o.1 1153 = σ.1 1153 := o2 1153 (by decide) (by decide)
    have hSCo : SC o K m kb p := SC_FS ⟨s1, s2, s3, s4⟩ hFo
    have hTt := sm_tot (p := p) (K := K) T
    show ∃ e, g_Search_descend (f_Search_descend n dd) n σ (nI T) (nI C) (nI (sm p K T)) (nI d) = some e ∧ _
    unfold g_Search_descend j_Search_descend_32
    rw [bnd_s o1]
    rcases o4 with ⟨rfl, x, x1, x2, x3⟩ | ⟨S, G, rfl, hS30, hG, hbG, hlow⟩
    · refine ⟨o, if_pos rfl, B, hFo, oB, Nat.le_refl _, fun D hD hf hsb hdj => ?_, Or.inl ⟨rfl, oA⟩⟩
      exfalso
      obtain ⟨a, a1, a2⟩ := and_ne_iff.mp (hf x x1)
      have := (cl_bit (C := C) (a := a) (Nat.lt_of_lt_of_le (hkl x x1) hp)).mpr ⟨a1, hdj a a2⟩
      rw [x3, Nat.zero_testBit] at this; cases this
    · have hne : ¬ nI S = (-1 : Int32) := by
        intro q
        have h1 := congrArg Int32.toInt q
        rw [nI_toInt (by omega)] at h1
        have h2 : (-1 : Int32).toInt = -1 := by decide
        omega
      have hDlow : ∀ D, D < 2 ^ K → feas m kb D → sb T D → dsj D C → sm p K T + S ≤ sm p K D := by
        intro D hD hf hsb hdj
        have hz : ∀ i, (D &&& (T ^^^ (2 ^ 32 - 1))).testBit i = true ↔ D.testBit i = true ∧ T.testBit i = false := fun i => cl_bit (Nat.lt_of_lt_of_le hD hp)
        have hh : hits m kb T C (D &&& (T ^^^ (2 ^ 32 - 1))) := by
          intro x hx h0
          obtain ⟨a, a1, a2⟩ := and_ne_iff.mp (hf x hx)
          refine ⟨a, a1, hdj a a2, (hz a).mpr ⟨a2, ?_⟩⟩
          apply tb_not
          intro q
          exact and_ne_iff.mpr ⟨a, a1, q⟩ h0
        have h1 := hlow _ hh
        have h2 := sm_split (p := p) (K := K) hsb (fun i _ => hz i)
        omega
      rw [if_neg hne]
      show ∃ e, (if o.1 1152 ≤ nI (sm p K T) + nI S then some o else _) = some e ∧ _
      rw [oB, nI_add]
      by_cases hle : B ≤ sm p K T + S
      · rw [if_pos ((nI_leI hB31 (by omega)).mpr hle)]
        exact ⟨o, rfl, B, hFo, oB, Nat.le_refl _, fun D hD hf hsb hdj => Nat.le_trans hle (hDlow D hD hf hsb hdj), Or.inl ⟨rfl, oA⟩⟩
      · rw [if_neg (fun q => hle ((nI_leI hB31 (by omega)).mp q)), if_pos (show nI d ≤ (16 : Int32) from nI_le (b := 16) (by omega) (by decide))]
        show ∃ e, (if o.1 1155 = 0 then _ else _) = some e ∧ _
        rw [hG]
        rcases hbG with ⟨hG0, hmet⟩ | ⟨hG0, x, x1, x2, x3⟩
        · rw [if_pos (show nI G = (0 : Int32) by rw [hG0]; rfl), nam_e, nam_e]
          refine ⟨_, rfl, sm p K T, ⟨fun c c1 c2 c3 c4 => ?_, o3⟩, rfl, by omega, fun D hD hf hsb hdj => sm_mono hsb, Or.inr ⟨by omega, T, rfl, hT, hmet, hTC, rfl⟩⟩
          show (sS (sS o 1152 _) 1153 _).1 c = _
          rw [sS1n _ _ c2, sS1n _ _ c1]; exact o2 c c3 c4
        · have hkx := hkl x x1
          have gb : ∀ i, G.testBit i = true ↔ (kb x).testBit i = true ∧ C.testBit i = false := fun i => by rw [x3]; exact cl_bit (Nat.lt_of_lt_of_le hkx hp)
          have hGl : G ≤ kb x := by rw [x3]; exact Nat.and_le_left
          have gT : ∀ i, G.testBit i = true → T.testBit i = false := by
            intro i hi
            apply tb_not
            intro q
            exact and_ne_iff.mpr ⟨i, ((gb i).mp hi).1, q⟩ x2
          rw [if_neg (fun q => hG0 ((nI_zero_iff (by omega)).mp q))]
          obtain ⟨e5, he5, hQ⟩ := lp_inv (body := b_Search_descend_61 (f_Search_descend n dd) n (nI T) (nI (sm p K T)) (nI d) (nI G)) (fun (a : Nat) (t : ST × Int32 × Int32) => ∃ Ca Ba, t.2.1 = nI Ca ∧ t.2.2 = nI a ∧ Ca < 2 ^ 16 ∧ (∀ i, Ca.testBit i = true ↔ C.testBit i = true ∨ (i < a ∧ G.testBit i = true)) ∧ FS σ t.1 ∧ t.1.1 1152 = nI Ba ∧ Ba ≤ B ∧ (∀ D, D < 2 ^ K → feas m kb D → sb T D → dsj D C → (∃ i, i < a ∧ G.testBit i = true ∧ D.testBit i = true) → Ba ≤ sm p K D) ∧ ((Ba = B ∧ t.1.1 1153 = σ.1 1153) ∨ (Ba < B ∧ ∃ A, t.1.1 1153 = nI A ∧ A < 2 ^ K ∧ feas m kb A ∧ dsj A C ∧ sm p K A = Ba))) (fun (e : ST) => dsc K m kb p T C B σ e) 16 (by
              rintro a ⟨ρ, t1, t2⟩ ha ⟨Ca, Ba, h1, h2, h3, h4, h5, h6, h7, h8, h9⟩
              have h1 : t1 = nI Ca := h1
              have h2 : t2 = nI a := h2
              subst h1 h2
              have h5 : FS σ ρ := h5
              have h6 : ρ.1 1152 = nI Ba := h6
              have ga : jin (nI a) 16 = true := jin_nI (by omega) (by omega)
              have ja : jix (nI a) = a := jix_nI (by omega)
              by_cases q : G.testBit a = true
              · have haK : a < K := lt_bit (show G < 2 ^ K by omega) q
                have hTa : T.testBit a = false := gT a q
                have hpa : 2 ^ a < 2 ^ K := Nat.pow_lt_pow_right (by decide) haK
                have hpa16 : 2 ^ a < 2 ^ 16 := Nat.pow_lt_pow_right (by decide) ha
                have hd1 : dsj (T ||| 2 ^ a) Ca := by
                  intro i hi
                  apply tb_not
                  intro z
                  rcases or_pow_bit.mp hi with y | y
                  · rcases (h4 i).mp z with u | u
                    · rw [hTC i y] at u; cases u
                    · rw [gT i u.2] at y; cases y
                  · rcases (h4 i).mp z with u | u
                    · rw [← y, ((gb a).mp q).2] at u; cases u
                    · omega
                obtain ⟨e, e1, B2, e2, e3, e4, e5, e6⟩ := ih (d + 1) (T ||| 2 ^ a) Ca Ba ρ (by omega) (by rw [pc16_or ha hTa]; omega) (Nat.or_lt_two_pow hT hpa) h3 hd1 (SC_FS ⟨s1, s2, s3, s4⟩ h5) h6 (by omega)
                refine ⟨(e, nI (Ca ||| 2 ^ a), nI (a + 1)), ?_, Ca ||| 2 ^ a, B2, rfl, rfl, Nat.or_lt_two_pow h3 hpa16, fun i => ?_, FS_trans h5 e2, e3, by omega, fun D hD hf hsb hdj hex => ?_, ?_⟩
                · unfold b_Search_descend_61 j_Search_descend_112_61
                  show (if (16 : Int32) ≤ nI a then _ else bnd (f_contains n (nI G) (nI a)) _) = _
                  rw [if_neg (show ¬ (16 : Int32) ≤ nI a from nI_ge (b := 16) ha (by decide)), bnd_s (p_contains n (by omega) (by omega)), if_pos q, if_neg (by decide)]
                  show grd (jin (nI a) 16) (bnd (f_Search_descend n dd ρ (nI T ||| jshl 1 (nI a)) (nI Ca) (nI (sm p K T) + ρ.2 20 (jix (nI a))) (nI d + 1)) (fun o3 => nam (nI Ca ||| jshl 1 (nI a)) (fun x4 => some (Sum.inl (o3, x4, nI a + 1))))) = _
                  rw [grd_t ga, ja, or_bit2 (by omega), or_bit2 (by omega), h5.2 20 (by decide), s4 a haK, nI_add, ← sm_add haK hTa, show nI d + (1 : Int32) = nI (d + 1) from nI_1 d, bnd_s e1, nam_e, show nI a + (1 : Int32) = nI (a + 1) from nI_1 a]
                · rw [or_pow_bit, h4 i]
                  constructor
                  · rintro ((z | z) | z)
                    · exact Or.inl z
                    · exact Or.inr ⟨by omega, z.2⟩
                    · exact Or.inr ⟨by omega, by rw [← z]; exact q⟩
                  · rintro (z | z)
                    · exact Or.inl (Or.inl z)
                    · rcases (show i < a ∨ a = i by omega) with y | y
                      · exact Or.inl (Or.inr ⟨y, z.2⟩)
                      · exact Or.inr y
                · by_cases hold : ∃ i, i < a ∧ G.testBit i = true ∧ D.testBit i = true
                  · exact Nat.le_trans e4 (h8 D hD hf hsb hdj hold)
                  · obtain ⟨i, i1, i2, i3⟩ := hex
                    have hia : i = a := by
                      rcases (show i < a ∨ i = a by omega) with z | z
                      · exact absurd ⟨i, z, i2, i3⟩ hold
                      · exact z
                    rw [hia] at i3
                    refine e5 D hD hf (fun j hj => ?_) (fun j hj => ?_)
                    · rcases or_pow_bit.mp hj with z | z
                      · exact hsb j z
                      · rw [← z]; exact i3
                    · apply tb_not
                      intro z
                      rcases (h4 j).mp z with u | u
                      · rw [hdj j hj] at u; cases u
                      · exact hold ⟨j, u.1, u.2, hj⟩
                · rcases e6 with ⟨z1, z2⟩ | ⟨z1, A, a1, a2, a3, a4, a5⟩
                  · rcases h9 with ⟨y1, y2⟩ | ⟨y1, A, a1, a2, a3, a4, a5⟩
                    · exact Or.inl ⟨z1.trans y1, z2.trans y2⟩
                    · exact Or.inr ⟨by omega, A, z2.trans a1, a2, a3, a4, a5.trans z1.symm⟩
                  · refine Or.inr ⟨by omega, A, a1, a2, a3, fun i hi => ?_, a5⟩
                    apply tb_not
                    intro z
                    have := a4 i hi
                    rw [(h4 i).mpr (Or.inl z)] at this; cases this
              · refine ⟨(ρ, nI Ca, nI (a + 1)), ?_, Ca, Ba, rfl, rfl, h3, fun i => ?_, h5, h6, h7, fun D hD hf hsb hdj hex => ?_, h9⟩
                · unfold b_Search_descend_61 j_Search_descend_112_61
                  show (if (16 : Int32) ≤ nI a then _ else bnd (f_contains n (nI G) (nI a)) _) = _
                  rw [if_neg (show ¬ (16 : Int32) ≤ nI a from nI_ge (b := 16) ha (by decide)), bnd_s (p_contains n (by omega) (by omega)), if_neg q, if_pos rfl, show nI a + (1 : Int32) = nI (a + 1) from nI_1 a]
                · rw [h4 i]
                  constructor
                  · rintro (z | z)
                    · exact Or.inl z
                    · exact Or.inr ⟨by omega, z.2⟩
                  · rintro (z | z)
                    · exact Or.inl z
                    · rcases (show i < a ∨ i = a by omega) with y | y
                      · exact Or.inr ⟨y, z.2⟩
                      · rw [y] at z; exact absurd z.2 q
                · obtain ⟨i, i1, i2, i3⟩ := hex
                  rcases (show i < a ∨ i = a by omega) with z | z
                  · exact h8 D hD hf hsb hdj ⟨i, z, i2, i3⟩
                  · rw [z] at i2; exact absurd i2 q) (by
              rintro ⟨ρ, t1, t2⟩ ⟨Ca, Ba, h1, h2, h3, h4, h5, h6, h7, h8, h9⟩
              have h2 : t2 = nI 16 := h2
              subst h2
              refine ⟨ρ, ?_, Ba, h5, h6, h7, fun D hD hf hsb hdj => ?_, h9⟩
              · unfold b_Search_descend_61
                show (if (16 : Int32) ≤ nI 16 then _ else _) = _
                rw [if_pos (by decide)]
              · obtain ⟨i, i1, i2⟩ := and_ne_iff.mp (hf x x1)
                exact h8 D hD hf hsb hdj ⟨i, by have := lt_bit hkx i1; omega, (gb i).mpr ⟨i1, hdj i i2⟩, i2⟩) n 0 (o, nI C, (0 : Int32)) (Nat.zero_le _) (by omega) ⟨C, B, rfl, rfl, hC, fun i => ⟨Or.inl, fun z => z.elim id (fun y => absurd y.1 (Nat.not_lt_zero _))⟩, hFo, oB, Nat.le_refl _, fun D _ _ _ _ hex => (by obtain ⟨i, i1, _⟩ := hex; omega), Or.inl ⟨rfl, oA⟩⟩
          rw [bnd_s he5]
          exact ⟨e5, rfl, hQ⟩
theorem p_findBelow {K m : Nat} {kb p : Nat → Nat} (k16 : K ≤ 16) (m256 : m ≤ 256) (hkl : ∀ x, x < m → kb x < 2 ^ K) (hpl : sm p K (2 ^ K - 1) < 2 ^ 30) (n : Nat) (hn : 1000 ≤ n) {σ : ST} (hSC : SC σ K m kb p) {X : Nat} (hX : σ.1 1157 = nI X) (hX16 : X < 2 ^ 16) {lim : Nat} (hlim : lim < 2 ^ 31) : ∃ e B, f_Search_findBelow n σ (nI lim) = some (if B < lim then 1 else 0, e) ∧ FS σ e ∧ e.1 1152 = nI B ∧ B ≤ lim ∧ (∀ D, D < 2 ^ K → feas m kb D → dsj D X → B ≤ sm p K D) ∧ (B < lim → ∃ A, e.1 1153 = nI A ∧ A < 2 ^ K ∧ feas m kb A ∧ dsj A X ∧ sm p K A = B) := by
  have hp : 2 ^ K ≤ 2 ^ 16 := Nat.pow_le_pow_right (by decide) k16
  obtain ⟨s1, s2, s3, s4⟩ := hSC
  have hpa : ∀ a, a < K → p a < 2 ^ 30 := by
    intro a ha
    have h1 : totTo (fun i => if i = a then p a else 0) K ≤ sm p K (2 ^ K - 1) := by
      refine totTo_le K (fun i hi => ?_)
      rw [Nat.testBit_two_pow_sub_one, show decide (i < K) = true from decide_eq_true hi, if_pos rfl]
      by_cases q : i = a
      · rw [if_pos q, q]; exact Nat.le_refl _
      · rw [if_neg q]; exact Nat.zero_le _
    rw [totTo_one, if_pos ha] at h1
    omega
  have hfree : lp (b_Search_findBelow_14 n (sS (sS σ 1152 (nI lim)) 1153 0) (nI lim)) n ((0 : Int32), (0 : Int32)) = some (nI (gb (fun a => decide (p a = 0)) K)) := by
    refine lp_for (fun i => (nI (gb (fun a => decide (p a = 0)) i), nI i)) K (fun i hi => ?_) ?_ n (by omega)
    · have hlt := gb_lt (fun a => decide (p a = 0)) i
      unfold b_Search_findBelow_14 j_Search_findBelow_37_14
      show (if σ.1 1158 ≤ nI i then _ else grd (jin (nI i) 16) (if σ.2 20 (jix (nI i)) = 0 then nam (nI (gb (fun a => decide (p a = 0)) i) ||| jshl 1 (nI i)) (fun x3 => some (Sum.inl (x3, nI i + 1))) else some (Sum.inl (nI (gb (fun a => decide (p a = 0)) i), nI i + 1)))) = some (Sum.inl (nI (gb (fun a => decide (p a = 0)) i + if decide (p i = 0) then 2 ^ i else 0), nI (i + 1)))
      rw [s1, if_neg (nI_ge hi (by omega)), grd_t (jin_nI (by omega) (by omega)), jix_nI (by omega), s4 i hi, nam_e, or_bit hlt (by omega), show nI i + (1 : Int32) = nI (i + 1) from nI_1 i]
      have hz := nI_zero_iff (a := p i) (by have := hpa i hi; omega)
      by_cases q : p i = 0
      · rw [if_pos (hz.mpr q), if_pos (decide_eq_true q)]
      · rw [if_neg (fun z => q (hz.mp z)), if_neg (by simp [q])]; rfl
    · unfold b_Search_findBelow_14
      show (if σ.1 1158 ≤ nI K then _ else _) = _
      rw [s1, if_pos (nI_le (Nat.le_refl _) (by omega))]
  have hFl := gb_lt (fun a => decide (p a = 0)) K
  obtain ⟨T, hT⟩ : ∃ T, T = gb (fun a => decide (p a = 0)) K &&& (X ^^^ (2 ^ 32 - 1)) := ⟨_, rfl⟩
  have hTl : T < 2 ^ K := by rw [hT]; exact Nat.lt_of_le_of_lt Nat.and_le_left hFl
  have tb : ∀ i, T.testBit i = true ↔ (i < K ∧ p i = 0) ∧ X.testBit i = false := by
    intro i
    rw [hT, cl_bit (by omega), gb_bit, Bool.and_eq_true, decide_eq_true_eq, decide_eq_true_eq]
  have hsmT : ∀ D, sm p K (D ||| T) = sm p K D := by
    intro D
    refine totTo_congr K (fun i hi => ?_)
    by_cases q : D.testBit i = true
    · rw [if_pos q, if_pos (tb_or.mpr (Or.inl q))]
    · rw [if_neg q]
      by_cases z : T.testBit i = true
      · rw [if_pos (tb_or.mpr (Or.inr z)), ((tb i).mp z).1.2]
      · rw [if_neg (fun y => (tb_or.mp y).elim q z)]
  have hsm0 : sm p K T = 0 := by
    have h1 := hsmT 0
    rw [Nat.zero_or] at h1
    rw [h1]
    show totTo (fun i => if (0 : Nat).testBit i then p i else 0) K = 0
    have : (fun i => if (0 : Nat).testBit i then p i else 0) = (fun _ => 0) := by
      funext i
      rw [Nat.zero_testBit]; rfl
    rw [this, totTo_0]
  obtain ⟨e, e1, B, e2, e3, e4, e5, e6⟩ := descend k16 m256 hkl hpl n hn 18 0 T X lim (sS (sS σ 1152 (nI lim)) 1153 0) (by omega) (Nat.zero_le _) hTl hX16 (fun i hi => ((tb i).mp hi).2) ⟨s1, s2, s3, s4⟩ rfl hlim
  refine ⟨e, B, ?_, ⟨fun c c1 c2 c3 c4 => ?_, e2.2⟩, e3, e4, fun D hD hf hdj => ?_, fun hlt => ?_⟩
  · unfold f_Search_findBelow j_Search_findBelow_74
    rw [nam_e, nam_e, bnd_s hfree]
    show bnd (f_Search_descend n 18 (sS (sS σ 1152 (nI lim)) 1153 0) (nI (gb (fun a => decide (p a = 0)) K) &&& (σ.1 1157 ^^^ -1)) (σ.1 1157) 0 0) _ = _
    rw [hX, cl_nI, ← hT, show (0 : Int32) = nI (sm p K T) from by rw [hsm0]; rfl]
    rw [show f_Search_descend n 18 (sS (sS σ 1152 (nI lim)) 1153 (nI (sm p K T))) (nI T) (nI X) (nI (sm p K T)) (nI (sm p K T)) = some e from by rw [hsm0] at e1 ⊢; exact e1, bnd_s rfl, e3]
    by_cases q : lim ≤ B
    · rw [if_pos ((nI_leI hlim (by omega)).mpr q), if_neg (show ¬ B < lim by omega), grd_t (by rw [hsm0]; decide), hsm0]
    · rw [if_neg (fun z => q ((nI_leI hlim (by omega)).mp z)), if_pos (show B < lim by omega), grd_t (by decide)]
  · rw [e2.1 c c1 c2 c3 c4, sS1n _ _ c2, sS1n _ _ c1]
  · rw [← hsmT D]
    refine e5 (D ||| T) (Nat.or_lt_two_pow hD hTl) (fun x hx => ?_) (fun i hi => tb_or.mpr (Or.inr hi)) (fun i hi => ?_)
    · obtain ⟨i, i1, i2⟩ := and_ne_iff.mp (hf x hx)
      exact and_ne_iff.mpr ⟨i, i1, tb_or.mpr (Or.inl i2)⟩
    · rcases tb_or.mp hi with z | z
      · exact hdj i z
      · exact ((tb i).mp z).2
  · rcases e6 with ⟨z, _⟩ | ⟨_, A, a1, a2, a3, a4, a5⟩
    · omega
    · exact ⟨A, a1, a2, a3, a4, a5⟩
