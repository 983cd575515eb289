abbrev rm_m_reach : Room := { frames := 0, cells := 0, slots := 0, locals := 0 }
def j_m_reach_122_20 (n : Nat) (σ : ST) (v2 : Int32) (v3 : Int32) (v4 : Int32) (v5 : Int32) (v6 : Int32) : Option ((Int32 × Int32) ⊕ (Int32)) :=
  some (.inl (v4, v6 + (1 : Int32)))
def j_m_reach_94_20 (n : Nat) (σ : ST) (v2 : Int32) (v3 : Int32) (v4 : Int32) (v5 : Int32) (v6 : Int32) (v7 : Int32) (v8 : Int32) : Option ((Int32 × Int32) ⊕ (Int32)) :=
  if ((jshr v2 v6) &&& (1 : Int32)) = 0 then
    j_m_reach_122_20 n σ v2 v3 v4 v5 v6
  else
    if ((jshr v4 v8) &&& (1 : Int32)) = 0 then
      j_m_reach_122_20 n σ v2 v3 v4 v5 v6
    else
      nam (v4 ||| (jshl (1 : Int32) v7)) fun x1 =>
      j_m_reach_122_20 n σ v2 v3 x1 v5 v6
def j_m_reach_73_20 (n : Nat) (σ : ST) (v2 : Int32) (v3 : Int32) (v4 : Int32) (v5 : Int32) (v6 : Int32) (v7 : Int32) (t0 : Int32) : Option ((Int32 × Int32) ⊕ (Int32)) :=
  if ((jshr v4 v7) &&& (1 : Int32)) = 0 then
    j_m_reach_94_20 n σ v2 v3 v4 v5 v6 v7 t0
  else
    nam (v4 ||| (jshl (1 : Int32) t0)) fun x2 =>
    j_m_reach_94_20 n σ v2 v3 x2 v5 v6 v7 t0
def j_m_reach_50_20 (n : Nat) (σ : ST) (v2 : Int32) (v3 : Int32) (v4 : Int32) (v5 : Int32) (v6 : Int32) (t0 : Int32) : Option ((Int32 × Int32) ⊕ (Int32)) :=
  if v3 = 0 then
    grd (jin v6 16) <|
    j_m_reach_73_20 n σ v2 v3 v4 v5 v6 t0 (σ.2 1 (jix v6))
  else
    grd (jin v6 16) <|
    j_m_reach_73_20 n σ v2 v3 v4 v5 v6 t0 (σ.2 2 (jix v6))
def b_m_reach_20 (n : Nat) (σ : ST) (v2 : Int32) (v3 : Int32) (v5 : Int32) (s : Int32 × Int32) : Option ((Int32 × Int32) ⊕ (Int32)) :=
  if (σ.1 2) ≤ s.2 then
    some (.inr s.1)
  else
    if v3 = 0 then
      grd (jin s.2 16) <|
      j_m_reach_50_20 n σ v2 v3 s.1 v5 s.2 (σ.2 2 (jix s.2))
    else
      grd (jin s.2 16) <|
      j_m_reach_50_20 n σ v2 v3 s.1 v5 s.2 (σ.2 1 (jix s.2))
def b_m_reach_6 (n : Nat) (σ : ST) (v2 : Int32) (v3 : Int32) (s : Int32 × Int32) : Option ((Int32 × Int32) ⊕ (Int32)) :=
  if s.1 = s.2 then
    some (.inr s.1)
  else
    bnd (lp (b_m_reach_20 n σ v2 v3 s.1) n (s.1, (0 : Int32))) fun e3 =>
    some (.inl (e3, s.1))
def f_m_reach (n : Nat) (σ : ST) (a0 : Int32) (a1 : Int32) (a2 : Int32) : Option (Int32) :=
  bnd (lp (b_m_reach_6 n σ a1 a2) n (a0, (0 : Int32))) fun e4 =>
  some e4
theorem hf13_m_reach : Cond.fieldLink RX7 13 (TX7 3).1 (TX7 3).2.1 (TX7 3).2.2.1 ∈ wsX7_reach := by decide +kernel
theorem hf17_m_reach : Cond.fieldLink RX7 17 (TX7 4).1 (TX7 4).2.1 (TX7 4).2.2.1 ∈ wsX7_reach := by decide +kernel
theorem hf95_m_reach : Cond.fieldLink RX7 95 (TX7 2).1 (TX7 2).2.1 (TX7 2).2.2.1 ∈ wsX7_reach := by decide +kernel
theorem hi7_m_reach : ∀ w ∈ u_ws RX7 TX7 34, w ∈ wsX7_reach := by decide +kernel
set_option maxHeartbeats 4000000 in
set_option maxRecDepth 100000 in
theorem wj_m_reach_122_20 {l : Launch} {D : va_G} {cs : Nat → ClassId} {K : XK} {ad : Nat → Nat} {rest : va_W} (C : XC D cs K 9 rm_m_reach cX7_reach RX7 wsX7_reach (some .int)) {n : Nat} {σ : ST} {v2 : Int32} {v3 : Int32} {v4 : Int32} {v5 : Int32} {v6 : Int32} {o : (Int32 × Int32) ⊕ (Int32)} {e : (Int32)} (h : j_m_reach_122_20 n σ v2 v3 v4 v5 v6 = some o) (kin : ∀ (s : Int32 × Int32), o = .inl s → XW l D K 0 0 (wM cs ad σ rest) 20 [(0, .ref (ad 0)), (2, .int v2), (3, .int v3), (4, .int s.1), (5, .int v5), (6, .int s.2)] []) (kex : ∀ e1, o = .inr e1 → e1 = e) (kx : ∀ (t : Int32), e = t → XW l D K 0 0 (wM cs ad σ rest) 128 [(0, .ref (ad 0)), (2, .int v2), (3, .int v3), (4, .int t), (5, .int v5)] []) : XW l D K 0 0 (wM cs ad σ rest) 122 [(0, .ref (ad 0)), (2, .int v2), (3, .int v3), (4, .int v4), (5, .int v5), (6, .int v6)] [] := by
  unfold j_m_reach_122_20 at h
  refine X_iinc (v := v6 + (1 : Int32)) (vs1 := [(6, .int (v6 + (1 : Int32))), (0, .ref (ad 0)), (2, .int v2), (3, .int v3), (4, .int v4), (5, .int v5)]) C 5 rfl rfl (by decide) rfl dX7_reach_122 ?_
  refine X_goto C (tgt := 20) (by decide) dX7_reach_125 ?_
  obtain rfl := Option.some.inj h
  refine X_loc (vs1 := [(0, .ref (ad 0)), (2, .int v2), (3, .int v3), (4, .int v4), (5, .int v5), (6, .int (v6 + (1 : Int32)))]) [1, 2, 3, 4, 5, 0] rfl ?_
  exact kin _ rfl
set_option maxHeartbeats 4000000 in
set_option maxRecDepth 100000 in
theorem wj_m_reach_94_20 {l : Launch} {D : va_G} {cs : Nat → ClassId} {K : XK} {ad : Nat → Nat} {rest : va_W} (C : XC D cs K 9 rm_m_reach cX7_reach RX7 wsX7_reach (some .int)) {n : Nat} {σ : ST} {v2 : Int32} {v3 : Int32} {v4 : Int32} {v5 : Int32} {v6 : Int32} {v7 : Int32} {v8 : Int32} {o : (Int32 × Int32) ⊕ (Int32)} {e : (Int32)} (h : j_m_reach_94_20 n σ v2 v3 v4 v5 v6 v7 v8 = some o) (kin : ∀ (s : Int32 × Int32), o = .inl s → XW l D K 0 0 (wM cs ad σ rest) 20 [(0, .ref (ad 0)), (2, .int v2), (3, .int v3), (4, .int s.1), (5, .int v5), (6, .int s.2)] []) (kex : ∀ e1, o = .inr e1 → e1 = e) (kx : ∀ (t : Int32), e = t → XW l D K 0 0 (wM cs ad σ rest) 128 [(0, .ref (ad 0)), (2, .int v2), (3, .int v3), (4, .int t), (5, .int v5)] []) : XW l D K 0 0 (wM cs ad σ rest) 94 [(0, .ref (ad 0)), (2, .int v2), (3, .int v3), (4, .int v4), (5, .int v5), (6, .int v6), (7, .int v7), (8, .int v8)] [] := by
  unfold j_m_reach_94_20 at h
  refine X_iload_n C 1 rfl rfl dX7_reach_94 ?_
  refine X_iload C 5 rfl dX7_reach_95 ?_
  refine X_ishr C dX7_reach_97 ?_
  refine X_iconst (v := 1) C (by decide) dX7_reach_98 ?_
  refine X_iand C dX7_reach_99 ?_
  refine X_ifeq C (tgt := 122) (by decide) dX7_reach_100 h (fun h => ?_) (fun h => ?_)
  · refine X_loc (vs1 := [(0, .ref (ad 0)), (2, .int v2), (3, .int v3), (4, .int v4), (5, .int v5), (6, .int v6)]) [0, 1, 2, 3, 4, 5] rfl ?_
    exact wj_m_reach_122_20 C h kin kex kx
  · refine X_iload C 3 rfl dX7_reach_103 ?_
    refine X_iload C 7 rfl dX7_reach_105 ?_
    refine X_ishr C dX7_reach_107 ?_
    refine X_iconst (v := 1) C (by decide) dX7_reach_108 ?_
    refine X_iand C dX7_reach_109 ?_
    refine X_ifeq C (tgt := 122) (by decide) dX7_reach_110 h (fun h => ?_) (fun h => ?_)
    · refine X_loc (vs1 := [(0, .ref (ad 0)), (2, .int v2), (3, .int v3), (4, .int v4), (5, .int v5), (6, .int v6)]) [0, 1, 2, 3, 4, 5] rfl ?_
      exact wj_m_reach_122_20 C h kin kex kx
    · refine X_iload C 3 rfl dX7_reach_113 ?_
      refine X_iconst (v := 1) C (by decide) dX7_reach_115 ?_
      refine X_iload C 6 rfl dX7_reach_116 ?_
      refine X_ishl C dX7_reach_118 ?_
      refine X_ior C dX7_reach_119 ?_
      refine X_nam (G := fun x1 => XW l D K 0 0 (wM cs ad σ rest) 120 [(0, .ref (ad 0)), (2, .int v2), (3, .int v3), (4, .int v4), (5, .int v5), (6, .int v6), (7, .int v7), (8, .int v8)] [.int x1]) h (fun x1 h => ?_)
      refine X_istore (vs1 := [(4, .int x1), (0, .ref (ad 0)), (2, .int v2), (3, .int v3), (5, .int v5), (6, .int v6), (7, .int v7), (8, .int v8)]) C (by decide) rfl dX7_reach_120 ?_
      refine X_loc (vs1 := [(0, .ref (ad 0)), (2, .int v2), (3, .int v3), (4, .int x1), (5, .int v5), (6, .int v6)]) [1, 2, 3, 0, 4, 5] rfl ?_
      exact wj_m_reach_122_20 C h kin kex kx
set_option maxHeartbeats 4000000 in
set_option maxRecDepth 100000 in
theorem wj_m_reach_73_20 {l : Launch} {D : va_G} {cs : Nat → ClassId} {K : XK} {ad : Nat → Nat} {rest : va_W} (C : XC D cs K 9 rm_m_reach cX7_reach RX7 wsX7_reach (some .int)) {n : Nat} {σ : ST} {v2 : Int32} {v3 : Int32} {v4 : Int32} {v5 : Int32} {v6 : Int32} {v7 : Int32} {t0 : Int32} {o : (Int32 × Int32) ⊕ (Int32)} {e : (Int32)} (h : j_m_reach_73_20 n σ v2 v3 v4 v5 v6 v7 t0 = some o) (kin : ∀ (s : Int32 × Int32), o = .inl s → XW l D K 0 0 (wM cs ad σ rest) 20 [(0, .ref (ad 0)), (2, .int v2), (3, .int v3), (4, .int s.1), (5, .int v5), (6, .int s.2)] []) (kex : ∀ e1, o = .inr e1 → e1 = e) (kx : ∀ (t : Int32), e = t → XW l D K 0 0 (wM cs ad σ rest) 128 [(0, .ref (ad 0)), (2, .int v2), (3, .int v3), (4, .int t), (5, .int v5)] []) : XW l D K 0 0 (wM cs ad σ rest) 73 [(0, .ref (ad 0)), (2, .int v2), (3, .int v3), (4, .int v4), (5, .int v5), (6, .int v6), (7, .int v7)] [.int t0] := by
  unfold j_m_reach_73_20 at h
  refine X_istore (vs1 := [(8, .int t0), (0, .ref (ad 0)), (2, .int v2), (3, .int v3), (4, .int v4), (5, .int v5), (6, .int v6), (7, .int v7)]) C (by decide) rfl dX7_reach_73 ?_
  refine X_iload C 4 rfl dX7_reach_75 ?_
  refine X_iload C 7 rfl dX7_reach_77 ?_
  refine X_ishr C dX7_reach_79 ?_
  refine X_iconst (v := 1) C (by decide) dX7_reach_80 ?_
  refine X_iand C dX7_reach_81 ?_
  refine X_ifeq C (tgt := 94) (by decide) dX7_reach_82 h (fun h => ?_) (fun h => ?_)
  · refine X_loc (vs1 := [(0, .ref (ad 0)), (2, .int v2), (3, .int v3), (4, .int v4), (5, .int v5), (6, .int v6), (7, .int v7), (8, .int t0)]) [1, 2, 3, 4, 5, 6, 7, 0] rfl ?_
    exact wj_m_reach_94_20 C h kin kex kx
  · refine X_iload C 4 rfl dX7_reach_85 ?_
    refine X_iconst (v := 1) C (by decide) dX7_reach_87 ?_
    refine X_iload C 0 rfl dX7_reach_88 ?_
    refine X_ishl C dX7_reach_90 ?_
    refine X_ior C dX7_reach_91 ?_
    refine X_nam (G := fun x2 => XW l D K 0 0 (wM cs ad σ rest) 92 [(8, .int t0), (0, .ref (ad 0)), (2, .int v2), (3, .int v3), (4, .int v4), (5, .int v5), (6, .int v6), (7, .int v7)] [.int x2]) h (fun x2 h => ?_)
    refine X_istore (vs1 := [(4, .int x2), (8, .int t0), (0, .ref (ad 0)), (2, .int v2), (3, .int v3), (5, .int v5), (6, .int v6), (7, .int v7)]) C (by decide) rfl dX7_reach_92 ?_
    refine X_loc (vs1 := [(0, .ref (ad 0)), (2, .int v2), (3, .int v3), (4, .int x2), (5, .int v5), (6, .int v6), (7, .int v7), (8, .int t0)]) [2, 3, 4, 0, 5, 6, 7, 1] rfl ?_
    exact wj_m_reach_94_20 C h kin kex kx
set_option maxHeartbeats 4000000 in
set_option maxRecDepth 100000 in
theorem wj_m_reach_50_20 {l : Launch} {D : va_G} {cs : Nat → ClassId} {K : XK} {ad : Nat → Nat} {rest : va_W} (C : XC D cs K 9 rm_m_reach cX7_reach RX7 wsX7_reach (some .int)) {n : Nat} {σ : ST} {v2 : Int32} {v3 : Int32} {v4 : Int32} {v5 : Int32} {v6 : Int32} {t0 : Int32} {o : (Int32 × Int32) ⊕ (Int32)} {e : (Int32)} (h : j_m_reach_50_20 n σ v2 v3 v4 v5 v6 t0 = some o) (kin : ∀ (s : Int32 × Int32), o = .inl s → XW l D K 0 0 (wM cs ad σ rest) 20 [(0, .ref (ad 0)), (2, .int v2), (3, .int v3), (4, .int s.1), (5, .int v5), (6, .int s.2)] []) (kex : ∀ e1, o = .inr e1 → e1 = e) (kx : ∀ (t : Int32), e = t → XW l D K 0 0 (wM cs ad σ rest) 128 [(0, .ref (ad 0)), (2, .int v2), (3, .int v3), (4, .int t), (5, .int v5)] []) : XW l D K 0 0 (wM cs ad σ rest) 50 [(0, .ref (ad 0)), (2, .int v2), (3, .int v3), (4, .int v4), (5, .int v5), (6, .int v6)] [.int t0] := by
  unfold j_m_reach_50_20 at h
  refine X_istore (vs1 := [(7, .int t0), (0, .ref (ad 0)), (2, .int v2), (3, .int v3), (4, .int v4), (5, .int v5), (6, .int v6)]) C (by decide) rfl dX7_reach_50 ?_
  refine X_iload_n C 3 rfl rfl dX7_reach_52 ?_
  refine X_ifeq C (tgt := 66) (by decide) dX7_reach_53 h (fun h => ?_) (fun h => ?_)
  · refine X_aload_n C 1 rfl rfl dX7_reach_66 ?_
    refine X_get C 0 3 hi7_m_reach hf13_m_reach (me_0 _ _ _ _) rfl (by decide) rfl dX7_reach_67 ?_
    refine X_iload C 6 rfl dX7_reach_70 ?_
    refine X_iald C 1 (me_1 _ _ _ _) h dX7_reach_72 (fun h => ?_)
    refine X_loc (vs1 := [(0, .ref (ad 0)), (2, .int v2), (3, .int v3), (4, .int v4), (5, .int v5), (6, .int v6), (7, .int t0)]) [1, 2, 3, 4, 5, 6, 0] rfl ?_
    exact wj_m_reach_73_20 C h kin kex kx
  · refine X_aload_n C 1 rfl rfl dX7_reach_56 ?_
    refine X_get C 0 4 hi7_m_reach hf17_m_reach (me_0 _ _ _ _) rfl (by decide) rfl dX7_reach_57 ?_
    refine X_iload C 6 rfl dX7_reach_60 ?_
    refine X_iald C 2 (me_2 _ _ _ _) h dX7_reach_62 (fun h => ?_)
    refine X_goto C (tgt := 73) (by decide) dX7_reach_63 ?_
    refine X_loc (vs1 := [(0, .ref (ad 0)), (2, .int v2), (3, .int v3), (4, .int v4), (5, .int v5), (6, .int v6), (7, .int t0)]) [1, 2, 3, 4, 5, 6, 0] rfl ?_
    exact wj_m_reach_73_20 C h kin kex kx
set_option maxHeartbeats 4000000 in
set_option maxRecDepth 100000 in
theorem wb_m_reach_20 {l : Launch} {D : va_G} {cs : Nat → ClassId} {K : XK} {ad : Nat → Nat} {rest : va_W} (C : XC D cs K 9 rm_m_reach cX7_reach RX7 wsX7_reach (some .int)) {n : Nat} {σ : ST} {v2 : Int32} {v3 : Int32} {v5 : Int32} {e : (Int32)} (kx : ∀ (t : Int32), e = t → XW l D K 0 0 (wM cs ad σ rest) 128 [(0, .ref (ad 0)), (2, .int v2), (3, .int v3), (4, .int t), (5, .int v5)] []) : ∀ (q : Nat) (s : Int32 × Int32), lp (b_m_reach_20 n σ v2 v3 v5) q s = some e → XW l D K 0 0 (wM cs ad σ rest) 20 [(0, .ref (ad 0)), (2, .int v2), (3, .int v3), (4, .int s.1), (5, .int v5), (6, .int s.2)] [] := by
  refine lp_walk (G := fun (s : Int32 × Int32) => XW l D K 0 0 (wM cs ad σ rest) 20 [(0, .ref (ad 0)), (2, .int v2), (3, .int v3), (4, .int s.1), (5, .int v5), (6, .int s.2)] []) ?_
  intro s o h kin kex
  unfold b_m_reach_20 at h
  refine X_iload C 5 rfl dX7_reach_20 ?_
  refine X_aload_n C 0 rfl rfl dX7_reach_22 ?_
  refine X_get C 0 2 hi7_m_reach hf95_m_reach (me_0 _ _ _ _) rfl (by decide) rfl dX7_reach_23 ?_
  refine X_icmpge C (tgt := 128) (by decide) dX7_reach_26 h (fun h => ?_) (fun h => ?_)
  · obtain rfl := Option.some.inj h
    refine X_loc (vs1 := [(0, .ref (ad 0)), (2, .int v2), (3, .int v3), (4, .int s.1), (5, .int v5)]) [0, 1, 2, 3, 4] rfl ?_
    exact kx _ (kex _ rfl).symm
  · refine X_iload_n C 2 rfl rfl dX7_reach_29 ?_
    refine X_ifeq C (tgt := 43) (by decide) dX7_reach_30 h (fun h => ?_) (fun h => ?_)
    · refine X_aload_n C 0 rfl rfl dX7_reach_43 ?_
      refine X_get C 0 4 hi7_m_reach hf17_m_reach (me_0 _ _ _ _) rfl (by decide) rfl dX7_reach_44 ?_
      refine X_iload C 5 rfl dX7_reach_47 ?_
      refine X_iald C 2 (me_2 _ _ _ _) h dX7_reach_49 (fun h => ?_)
      exact wj_m_reach_50_20 C h kin kex kx
    · refine X_aload_n C 0 rfl rfl dX7_reach_33 ?_
      refine X_get C 0 3 hi7_m_reach hf13_m_reach (me_0 _ _ _ _) rfl (by decide) rfl dX7_reach_34 ?_
      refine X_iload C 5 rfl dX7_reach_37 ?_
      refine X_iald C 1 (me_1 _ _ _ _) h dX7_reach_39 (fun h => ?_)
      refine X_goto C (tgt := 50) (by decide) dX7_reach_40 ?_
      exact wj_m_reach_50_20 C h kin kex kx
set_option maxHeartbeats 4000000 in
set_option maxRecDepth 100000 in
theorem wb_m_reach_6 {l : Launch} {D : va_G} {cs : Nat → ClassId} {K : XK} {ad : Nat → Nat} {rest : va_W} (C : XC D cs K 9 rm_m_reach cX7_reach RX7 wsX7_reach (some .int)) {n : Nat} {σ : ST} {v2 : Int32} {v3 : Int32} {e : (Int32)} (kx : ∀ (t : Int32), e = t → XW l D K 0 0 (wM cs ad σ rest) 131 [(4, .int t)] []) : ∀ (q : Nat) (s : Int32 × Int32), lp (b_m_reach_6 n σ v2 v3) q s = some e → XW l D K 0 0 (wM cs ad σ rest) 6 [(0, .ref (ad 0)), (2, .int v2), (3, .int v3), (4, .int s.1), (5, .int s.2)] [] := by
  refine lp_walk (G := fun (s : Int32 × Int32) => XW l D K 0 0 (wM cs ad σ rest) 6 [(0, .ref (ad 0)), (2, .int v2), (3, .int v3), (4, .int s.1), (5, .int s.2)] []) ?_
  intro s o h kin kex
  unfold b_m_reach_6 at h
  refine X_iload C 3 rfl dX7_reach_6 ?_
  refine X_iload C 4 rfl dX7_reach_8 ?_
  refine X_icmpeq C (tgt := 131) (by decide) dX7_reach_10 h (fun h => ?_) (fun h => ?_)
  · obtain rfl := Option.some.inj h
    refine X_loc (vs1 := [(4, .int s.1)]) [3] rfl ?_
    exact kx _ (kex _ rfl).symm
  · refine X_iload C 3 rfl dX7_reach_13 ?_
    refine X_istore (vs1 := [(5, .int s.1), (0, .ref (ad 0)), (2, .int v2), (3, .int v3), (4, .int s.1)]) C (by decide) rfl dX7_reach_15 ?_
    refine X_iconst (v := 0) C (by decide) dX7_reach_17 ?_
    refine X_istore (vs1 := [(6, .int (0 : Int32)), (5, .int s.1), (0, .ref (ad 0)), (2, .int v2), (3, .int v3), (4, .int s.1)]) C (by decide) rfl dX7_reach_18 ?_
    obtain ⟨e3, he3, h⟩ := bnd_some h
    refine X_loc (vs1 := [(0, .ref (ad 0)), (2, .int v2), (3, .int v3), (4, .int s.1), (5, .int s.1), (6, .int (0 : Int32))]) [2, 3, 4, 5, 1, 0] rfl ?_
    refine wb_m_reach_20 C (e := e3) (fun t ht => ?_) n _ he3
    subst ht
    refine X_goto C (tgt := 6) (by decide) dX7_reach_128 ?_
    obtain rfl := Option.some.inj h
    exact kin _ rfl
set_option maxHeartbeats 4000000 in
set_option maxRecDepth 100000 in
theorem c_m_reach {l : Launch} {D : va_G} {cs : Nat → ClassId} {ad : Nat → Nat} {rest : va_W} {n : Nat} {σ : ST} {a0 : Int32} {a1 : Int32} {a2 : Int32} {o : Int32} (h : f_m_reach n σ a0 a1 a2 = some o) : CTi l D cs yX7_reach wsX7_reach rm_m_reach [.ref (ad 0), .int a0, .int a1, .int a2] (wM cs ad σ rest) o (wM cs ad σ rest) := by
  refine CTi_of (cc := cX7_reach) (nL := 9) (by decide) rfl (Nat.le_of_ble_eq_true rfl) ?_
  intro K C hret
  unfold f_m_reach at h
  refine X_loc (vs1 := [(0, .ref (ad 0)), (1, .int a0), (2, .int a1), (3, .int a2)]) [0, 1, 2, 3] rfl ?_
  refine X_iload_n C 1 rfl rfl dX7_reach_0 ?_
  refine X_istore (vs1 := [(4, .int a0), (0, .ref (ad 0)), (1, .int a0), (2, .int a1), (3, .int a2)]) C (by decide) rfl dX7_reach_1 ?_
  refine X_iconst (v := 0) C (by decide) dX7_reach_3 ?_
  refine X_istore (vs1 := [(5, .int (0 : Int32)), (4, .int a0), (0, .ref (ad 0)), (1, .int a0), (2, .int a1), (3, .int a2)]) C (by decide) rfl dX7_reach_4 ?_
  obtain ⟨e4, he4, h⟩ := bnd_some h
  refine X_loc (vs1 := [(0, .ref (ad 0)), (2, .int a1), (3, .int a2), (4, .int a0), (5, .int (0 : Int32))]) [2, 4, 5, 1, 0] rfl ?_
  refine wb_m_reach_6 C (e := e4) (fun t ht => ?_) n _ he4
  subst ht
  refine X_iload C 0 rfl dX7_reach_131 ?_
  obtain rfl := Option.some.inj h
  exact hret _ _ dX7_reach_133

abbrev rm_m_isWhole : Room := { frames := 1, cells := 0, slots := 0, locals := 28 }
def j_m_isWhole_20 (n : Nat) (σ : ST) (t0 : Int32) : Option (Int32) :=
  grd (jz t0) <|
  some t0
def f_m_isWhole (n : Nat) (σ : ST) : Option (Int32) :=
  bnd (f_m_reach n σ (1 : Int32) (65535 : Int32) (1 : Int32)) fun o1 =>
  bnd (f_m_all σ) fun o2 =>
  if o1 = o2 then
    j_m_isWhole_20 n σ (1 : Int32)
  else
    j_m_isWhole_20 n σ (0 : Int32)
theorem hc122_m_isWhole : Cond.constant RX7 122 (65535) ∈ wsX7_isWhole := by decide +kernel
set_option maxHeartbeats 4000000 in
set_option maxRecDepth 100000 in
theorem wj_m_isWhole_20 {l : Launch} {D : va_G} {cs : Nat → ClassId} {K : XK} {ad : Nat → Nat} {rest : va_W} (C : XC D cs K 1 rm_m_isWhole cX7_isWhole RX7 wsX7_isWhole (some .boolean)) {n : Nat} {σ : ST} {t0 : Int32} {o : Int32} (h : j_m_isWhole_20 n σ t0 = some o) (hret : XRz l D K cX7_isWhole o (wM cs ad σ rest)) : XW l D K 0 0 (wM cs ad σ rest) 20 [] [.int t0] := by
  unfold j_m_isWhole_20 at h
  obtain ⟨hz, h⟩ := grd_some h
  obtain rfl := Option.some.inj h
  exact hret _ _ hz dX7_isWhole_20
set_option maxHeartbeats 4000000 in
set_option maxRecDepth 100000 in
theorem c_m_isWhole {l : Launch} {D : va_G} {cs : Nat → ClassId} {ad : Nat → Nat} {rest : va_W} {n : Nat} {σ : ST} {o : Int32} (h : f_m_isWhole n σ = some o) : CTi l D cs yX7_isWhole wsX7_isWhole rm_m_isWhole [.ref (ad 0)] (wM cs ad σ rest) o (wM cs ad σ rest) := by
  refine CTz_of (cc := cX7_isWhole) (nL := 1) (by decide) rfl (Nat.le_of_ble_eq_true rfl) ?_
  intro K C hret
  unfold f_m_isWhole at h
  refine X_loc (vs1 := [(0, .ref (ad 0))]) [0] rfl ?_
  refine X_aload_n C 0 rfl rfl dX7_isWhole_0 ?_
  refine X_iconst (v := 1) C (by decide) dX7_isWhole_1 ?_
  refine X_ldc (v := 65535) C hc122_m_isWhole dX7_isWhole_2 ?_
  refine X_iconst (v := 1) C (by decide) dX7_isWhole_4 ?_
  obtain ⟨o1, eo1, h⟩ := bnd_some h
  refine X_callVi C (n := 3) (As := [.int (1 : Int32), .int (65535 : Int32), .int (1 : Int32)]) (c_m_reach eo1) rfl gX7_isWhole_X7_reach rfl rfl (me_0 _ _ _ _) rfl rfl (by decide +kernel) ⟨Nat.le_of_ble_eq_true rfl, Nat.le_of_ble_eq_true rfl⟩ ⟨Nat.zero_le _, Nat.zero_le _⟩ rfl rfl (Nat.le_of_ble_eq_true rfl) dX7_isWhole_5 ?_
  refine X_aload_n C 0 rfl rfl dX7_isWhole_8 ?_
  obtain ⟨o2, eo2, h⟩ := bnd_some h
  refine X_callVi C (n := 0) (As := []) (c_m_all eo2) rfl gX7_isWhole_X7_all rfl rfl (me_0 _ _ _ _) rfl rfl (by decide +kernel) ⟨Nat.le_of_ble_eq_true rfl, Nat.le_of_ble_eq_true rfl⟩ ⟨Nat.zero_le _, Nat.zero_le _⟩ rfl rfl (Nat.le_of_ble_eq_true rfl) dX7_isWhole_9 ?_
  refine X_icmpne C (tgt := 19) (by decide) dX7_isWhole_12 h (fun h => ?_) (fun h => ?_)
  · refine X_iconst (v := 0) C (by decide) dX7_isWhole_19 ?_
    refine X_loc (vs1 := []) [] rfl ?_
    exact wj_m_isWhole_20 C h hret
  · refine X_iconst (v := 1) C (by decide) dX7_isWhole_15 ?_
    refine X_goto C (tgt := 20) (by decide) dX7_isWhole_16 ?_
    refine X_loc (vs1 := []) [] rfl ?_
    exact wj_m_isWhole_20 C h hret

abbrev rm_m_isStrongWith : Room := { frames := 1, cells := 0, slots := 0, locals := 28 }
def j_m_isStrongWith_33 (n : Nat) (σ : ST) (t0 : Int32) : Option (Int32) :=
  grd (jz t0) <|
  some t0
def j_m_isStrongWith_32 (n : Nat) (σ : ST) : Option (Int32) :=
  j_m_isStrongWith_33 n σ (0 : Int32)
def f_m_isStrongWith (n : Nat) (σ : ST) (a0 : Int32) : Option (Int32) :=
  bnd (f_m_reach n σ (1 : Int32) a0 (1 : Int32)) fun o1 =>
  bnd (f_m_all σ) fun o2 =>
  if o1 = o2 then
    bnd (f_m_reach n σ (1 : Int32) a0 (0 : Int32)) fun o3 =>
    bnd (f_m_all σ) fun o4 =>
    if o3 = o4 then
      j_m_isStrongWith_33 n σ (1 : Int32)
    else
      j_m_isStrongWith_32 n σ
  else
    j_m_isStrongWith_32 n σ
set_option maxHeartbeats 4000000 in
set_option maxRecDepth 100000 in
theorem wj_m_isStrongWith_33 {l : Launch} {D : va_G} {cs : Nat → ClassId} {K : XK} {ad : Nat → Nat} {rest : va_W} (C : XC D cs K 2 rm_m_isStrongWith cX7_isStrongWith RX7 wsX7_isStrongWith (some .boolean)) {n : Nat} {σ : ST} {t0 : Int32} {o : Int32} (h : j_m_isStrongWith_33 n σ t0 = some o) (hret : XRz l D K cX7_isStrongWith o (wM cs ad σ rest)) : XW l D K 0 0 (wM cs ad σ rest) 33 [] [.int t0] := by
  unfold j_m_isStrongWith_33 at h
  obtain ⟨hz, h⟩ := grd_some h
  obtain rfl := Option.some.inj h
  exact hret _ _ hz dX7_isStrongWith_33
set_option maxHeartbeats 4000000 in
set_option maxRecDepth 100000 in
theorem wj_m_isStrongWith_32 {l : Launch} {D : va_G} {cs : Nat → ClassId} {K : XK} {ad : Nat → Nat} {rest : va_W} (C : XC D cs K 2 rm_m_isStrongWith cX7_isStrongWith RX7 wsX7_isStrongWith (some .boolean)) {n : Nat} {σ : ST} {o : Int32} (h : j_m_isStrongWith_32 n σ = some o) (hret : XRz l D K cX7_isStrongWith o (wM cs ad σ rest)) : XW l D K 0 0 (wM cs ad σ rest) 32 [] [] := by
  unfold j_m_isStrongWith_32 at h
  refine X_iconst (v := 0) C (by decide) dX7_isStrongWith_32 ?_
  exact wj_m_isStrongWith_33 C h hret
set_option maxHeartbeats 4000000 in
set_option maxRecDepth 100000 in
theorem c_m_isStrongWith {l : Launch} {D : va_G} {cs : Nat → ClassId} {ad : Nat → Nat} {rest : va_W} {n : Nat} {σ : ST} {a0 : Int32} {o : Int32} (h : f_m_isStrongWith n σ a0 = some o) : CTi l D cs yX7_isStrongWith wsX7_isStrongWith rm_m_isStrongWith [.ref (ad 0), .int a0] (wM cs ad σ rest) o (wM cs ad σ rest) := by
  refine CTz_of (cc := cX7_isStrongWith) (nL := 2) (by decide) rfl (Nat.le_of_ble_eq_true rfl) ?_
  intro K C hret
  unfold f_m_isStrongWith at h
  refine X_loc (vs1 := [(0, .ref (ad 0)), (1, .int a0)]) [0, 1] rfl ?_
  refine X_aload_n C 0 rfl rfl dX7_isStrongWith_0 ?_
  refine X_iconst (v := 1) C (by decide) dX7_isStrongWith_1 ?_
  refine X_iload_n C 1 rfl rfl dX7_isStrongWith_2 ?_
  refine X_iconst (v := 1) C (by decide) dX7_isStrongWith_3 ?_
  obtain ⟨o1, eo1, h⟩ := bnd_some h
  refine X_callVi C (n := 3) (As := [.int (1 : Int32), .int a0, .int (1 : Int32)]) (c_m_reach eo1) rfl gX7_isStrongWith_X7_reach rfl rfl (me_0 _ _ _ _) rfl rfl (by decide +kernel) ⟨Nat.le_of_ble_eq_true rfl, Nat.le_of_ble_eq_true rfl⟩ ⟨Nat.zero_le _, Nat.zero_le _⟩ rfl rfl (Nat.le_of_ble_eq_true rfl) dX7_isStrongWith_4 ?_
  refine X_aload_n C 0 rfl rfl dX7_isStrongWith_7 ?_
  obtain ⟨o2, eo2, h⟩ := bnd_some h
  refine X_callVi C (n := 0) (As := []) (c_m_all eo2) rfl gX7_isStrongWith_X7_all rfl rfl (me_0 _ _ _ _) rfl rfl (by decide +kernel) ⟨Nat.le_of_ble_eq_true rfl, Nat.le_of_ble_eq_true rfl⟩ ⟨Nat.zero_le _, Nat.zero_le _⟩ rfl rfl (Nat.le_of_ble_eq_true rfl) dX7_isStrongWith_8 ?_
  refine X_icmpne C (tgt := 32) (by decide) dX7_isStrongWith_11 h (fun h => ?_) (fun h => ?_)
  · refine X_loc (vs1 := []) [] rfl ?_
    exact wj_m_isStrongWith_32 C h hret
  · refine X_aload_n C 0 rfl rfl dX7_isStrongWith_14 ?_
    refine X_iconst (v := 1) C (by decide) dX7_isStrongWith_15 ?_
    refine X_iload_n C 1 rfl rfl dX7_isStrongWith_16 ?_
    refine X_iconst (v := 0) C (by decide) dX7_isStrongWith_17 ?_
    obtain ⟨o3, eo3, h⟩ := bnd_some h
    refine X_callVi C (n := 3) (As := [.int (1 : Int32), .int a0, .int (0 : Int32)]) (c_m_reach eo3) rfl gX7_isStrongWith_X7_reach rfl rfl (me_0 _ _ _ _) rfl rfl (by decide +kernel) ⟨Nat.le_of_ble_eq_true rfl, Nat.le_of_ble_eq_true rfl⟩ ⟨Nat.zero_le _, Nat.zero_le _⟩ rfl rfl (Nat.le_of_ble_eq_true rfl) dX7_isStrongWith_18 ?_
    refine X_aload_n C 0 rfl rfl dX7_isStrongWith_21 ?_
    obtain ⟨o4, eo4, h⟩ := bnd_some h
    refine X_callVi C (n := 0) (As := []) (c_m_all eo4) rfl gX7_isStrongWith_X7_all rfl rfl (me_0 _ _ _ _) rfl rfl (by decide +kernel) ⟨Nat.le_of_ble_eq_true rfl, Nat.le_of_ble_eq_true rfl⟩ ⟨Nat.zero_le _, Nat.zero_le _⟩ rfl rfl (Nat.le_of_ble_eq_true rfl) dX7_isStrongWith_22 ?_
    refine X_icmpne C (tgt := 32) (by decide) dX7_isStrongWith_25 h (fun h => ?_) (fun h => ?_)
    · refine X_loc (vs1 := []) [] rfl ?_
      exact wj_m_isStrongWith_32 C h hret
    · refine X_iconst (v := 1) C (by decide) dX7_isStrongWith_28 ?_
      refine X_goto C (tgt := 33) (by decide) dX7_isStrongWith_29 ?_
      refine X_loc (vs1 := []) [] rfl ?_
      exact wj_m_isStrongWith_33 C h hret

abbrev rm_m_partOf : Room := { frames := 1, cells := 0, slots := 0, locals := 28 }
def f_m_partOf (n : Nat) (σ : ST) (a0 : Int32) : Option (Int32) :=
  bnd (f_m_reach n σ (jshl (1 : Int32) a0) (0 : Int32) (1 : Int32)) fun o1 =>
  bnd (f_m_reach n σ (jshl (1 : Int32) a0) (0 : Int32) (0 : Int32)) fun o2 =>
  bnd (f_m_lowest n (o1 &&& o2)) fun o3 =>
  some o3
set_option maxHeartbeats 4000000 in
set_option maxRecDepth 100000 in
theorem c_m_partOf {l : Launch} {D : va_G} {cs : Nat → ClassId} {ad : Nat → Nat} {rest : va_W} {n : Nat} {σ : ST} {a0 : Int32} {o : Int32} (h : f_m_partOf n σ a0 = some o) : CTi l D cs yX7_partOf wsX7_partOf rm_m_partOf [.ref (ad 0), .int a0] (wM cs ad σ rest) o (wM cs ad σ rest) := by
  refine CTi_of (cc := cX7_partOf) (nL := 2) (by decide) rfl (Nat.le_of_ble_eq_true rfl) ?_
  intro K C hret
  unfold f_m_partOf at h
  refine X_loc (vs1 := [(0, .ref (ad 0)), (1, .int a0)]) [0, 1] rfl ?_
  refine X_aload_n C 0 rfl rfl dX7_partOf_0 ?_
  refine X_iconst (v := 1) C (by decide) dX7_partOf_1 ?_
  refine X_iload_n C 1 rfl rfl dX7_partOf_2 ?_
  refine X_ishl C dX7_partOf_3 ?_
  refine X_iconst (v := 0) C (by decide) dX7_partOf_4 ?_
  refine X_iconst (v := 1) C (by decide) dX7_partOf_5 ?_
  obtain ⟨o1, eo1, h⟩ := bnd_some h
  refine X_callVi C (n := 3) (As := [.int (jshl (1 : Int32) a0), .int (0 : Int32), .int (1 : Int32)]) (c_m_reach eo1) rfl gX7_partOf_X7_reach rfl rfl (me_0 _ _ _ _) rfl rfl (by decide +kernel) ⟨Nat.le_of_ble_eq_true rfl, Nat.le_of_ble_eq_true rfl⟩ ⟨Nat.zero_le _, Nat.zero_le _⟩ rfl rfl (Nat.le_of_ble_eq_true rfl) dX7_partOf_6 ?_
  refine X_aload_n C 0 rfl rfl dX7_partOf_9 ?_
  refine X_iconst (v := 1) C (by decide) dX7_partOf_10 ?_
  refine X_iload_n C 1 rfl rfl dX7_partOf_11 ?_
  refine X_ishl C dX7_partOf_12 ?_
  refine X_iconst (v := 0) C (by decide) dX7_partOf_13 ?_
  refine X_iconst (v := 0) C (by decide) dX7_partOf_14 ?_
  obtain ⟨o2, eo2, h⟩ := bnd_some h
  refine X_callVi C (n := 3) (As := [.int (jshl (1 : Int32) a0), .int (0 : Int32), .int (0 : Int32)]) (c_m_reach eo2) rfl gX7_partOf_X7_reach rfl rfl (me_0 _ _ _ _) rfl rfl (by decide +kernel) ⟨Nat.le_of_ble_eq_true rfl, Nat.le_of_ble_eq_true rfl⟩ ⟨Nat.zero_le _, Nat.zero_le _⟩ rfl rfl (Nat.le_of_ble_eq_true rfl) dX7_partOf_15 ?_
  refine X_iand C dX7_partOf_18 ?_
  obtain ⟨o3, eo3, h⟩ := bnd_some h
  refine X_callSi C (n := 1) (As := [.int (o1 &&& o2)]) (c_m_lowest eo3) gX7_partOf_X7_lowest rfl rfl rfl (by decide +kernel) ⟨Nat.le_of_ble_eq_true rfl, Nat.le_of_ble_eq_true rfl⟩ ⟨Nat.zero_le _, Nat.zero_le _⟩ rfl rfl (Nat.le_of_ble_eq_true rfl) dX7_partOf_19 ?_
  obtain rfl := Option.some.inj h
  exact hret _ _ dX7_partOf_22

abbrev rm_m_isArc : Room := { frames := 1, cells := 0, slots := 0, locals := 22 }
def f_m_isArc (n : Nat) (σ : ST) (a0 : Int32) : Option (Int32) :=
  bnd (f_m_in n a0 (0 : Int32) ((σ.1 2) - (1 : Int32))) fun o1 =>
  grd (jz o1) <|
  some o1
theorem hf95_m_isArc : Cond.fieldLink RX7 95 (TX7 2).1 (TX7 2).2.1 (TX7 2).2.2.1 ∈ wsX7_isArc := by decide +kernel
theorem hi7_m_isArc : ∀ w ∈ u_ws RX7 TX7 34, w ∈ wsX7_isArc := by decide +kernel
set_option maxHeartbeats 4000000 in
set_option maxRecDepth 100000 in
theorem c_m_isArc {l : Launch} {D : va_G} {cs : Nat → ClassId} {ad : Nat → Nat} {rest : va_W} {n : Nat} {σ : ST} {a0 : Int32} {o : Int32} (h : f_m_isArc n σ a0 = some o) : CTi l D cs yX7_isArc wsX7_isArc rm_m_isArc [.ref (ad 0), .int a0] (wM cs ad σ rest) o (wM cs ad σ rest) := by
  refine CTz_of (cc := cX7_isArc) (nL := 2) (by decide) rfl (Nat.le_of_ble_eq_true rfl) ?_
  intro K C hret
  unfold f_m_isArc at h
  refine X_loc (vs1 := [(0, .ref (ad 0)), (1, .int a0)]) [0, 1] rfl ?_
  refine X_iload_n C 1 rfl rfl dX7_isArc_0 ?_
  refine X_iconst (v := 0) C (by decide) dX7_isArc_1 ?_
  refine X_aload_n C 0 rfl rfl dX7_isArc_2 ?_
  refine X_get C 0 2 hi7_m_isArc hf95_m_isArc (me_0 _ _ _ _) rfl (by decide) rfl dX7_isArc_3 ?_
  refine X_iconst (v := 1) C (by decide) dX7_isArc_6 ?_
  refine X_isub C dX7_isArc_7 ?_
  obtain ⟨o1, eo1, h⟩ := bnd_some h
  refine X_callSi C (n := 3) (As := [.int a0, .int (0 : Int32), .int ((σ.1 2) - (1 : Int32))]) (c_m_in eo1) gX7_isArc_X7_in rfl rfl rfl (by decide +kernel) ⟨Nat.le_of_ble_eq_true rfl, Nat.le_of_ble_eq_true rfl⟩ ⟨Nat.zero_le _, Nat.zero_le _⟩ rfl rfl (Nat.le_of_ble_eq_true rfl) dX7_isArc_8 ?_
  obtain ⟨hz, h⟩ := grd_some h
  obtain rfl := Option.some.inj h
  exact hret _ _ hz dX7_isArc_11

abbrev rm_m_isNode : Room := { frames := 1, cells := 0, slots := 0, locals := 22 }
def f_m_isNode (n : Nat) (σ : ST) (a0 : Int32) : Option (Int32) :=
  bnd (f_m_in n a0 (0 : Int32) ((σ.1 1) - (1 : Int32))) fun o1 =>
  grd (jz o1) <|
  some o1
theorem hf7_m_isNode : Cond.fieldLink RX7 7 (TX7 1).1 (TX7 1).2.1 (TX7 1).2.2.1 ∈ wsX7_isNode := by decide +kernel
theorem hi7_m_isNode : ∀ w ∈ u_ws RX7 TX7 34, w ∈ wsX7_isNode := by decide +kernel
set_option maxHeartbeats 4000000 in
set_option maxRecDepth 100000 in
theorem c_m_isNode {l : Launch} {D : va_G} {cs : Nat → ClassId} {ad : Nat → Nat} {rest : va_W} {n : Nat} {σ : ST} {a0 : Int32} {o : Int32} (h : f_m_isNode n σ a0 = some o) : CTi l D cs yX7_isNode wsX7_isNode rm_m_isNode [.ref (ad 0), .int a0] (wM cs ad σ rest) o (wM cs ad σ rest) := by
  refine CTz_of (cc := cX7_isNode) (nL := 2) (by decide) rfl (Nat.le_of_ble_eq_true rfl) ?_
  intro K C hret
  unfold f_m_isNode at h
  refine X_loc (vs1 := [(0, .ref (ad 0)), (1, .int a0)]) [0, 1] rfl ?_
  refine X_iload_n C 1 rfl rfl dX7_isNode_0 ?_
  refine X_iconst (v := 0) C (by decide) dX7_isNode_1 ?_
  refine X_aload_n C 0 rfl rfl dX7_isNode_2 ?_
  refine X_get C 0 1 hi7_m_isNode hf7_m_isNode (me_0 _ _ _ _) rfl (by decide) rfl dX7_isNode_3 ?_
  refine X_iconst (v := 1) C (by decide) dX7_isNode_6 ?_
  refine X_isub C dX7_isNode_7 ?_
  obtain ⟨o1, eo1, h⟩ := bnd_some h
  refine X_callSi C (n := 3) (As := [.int a0, .int (0 : Int32), .int ((σ.1 1) - (1 : Int32))]) (c_m_in eo1) gX7_isNode_X7_in rfl rfl rfl (by decide +kernel) ⟨Nat.le_of_ble_eq_true rfl, Nat.le_of_ble_eq_true rfl⟩ ⟨Nat.zero_le _, Nat.zero_le _⟩ rfl rfl (Nat.le_of_ble_eq_true rfl) dX7_isNode_8 ?_
  obtain ⟨hz, h⟩ := grd_some h
  obtain rfl := Option.some.inj h
  exact hret _ _ hz dX7_isNode_11

abbrev rm_m_begin : Room := { frames := 1, cells := 0, slots := 0, locals := 22 }
def f_m_begin (n : Nat) (σ : ST) (a0 : Int32) : Option (Int32 × ST) :=
  nam (sS σ 0 (0 : Int32)) fun σ1 =>
  bnd (f_m_in n a0 (1 : Int32) (8 : Int32)) fun o2 =>
  if o2 = 0 then
    some ((0 : Int32), σ1)
  else
    nam (sS σ1 1 a0) fun σ3 =>
    nam (sS σ3 2 (0 : Int32)) fun σ4 =>
    nam (sS σ4 6 (0 : Int32)) fun σ5 =>
    nam (sS σ5 8 (0 : Int32)) fun σ6 =>
    bnd (f_m_changed σ6) fun o7 =>
    some ((1 : Int32), o7)
theorem hf137_m_begin : Cond.fieldLink RX7 137 (TX7 8).1 (TX7 8).2.1 (TX7 8).2.2.1 ∈ wsX7_begin := by decide +kernel
theorem hf134_m_begin : Cond.fieldLink RX7 134 (TX7 6).1 (TX7 6).2.1 (TX7 6).2.2.1 ∈ wsX7_begin := by decide +kernel
theorem hf95_m_begin : Cond.fieldLink RX7 95 (TX7 2).1 (TX7 2).2.1 (TX7 2).2.2.1 ∈ wsX7_begin := by decide +kernel
theorem hf7_m_begin : Cond.fieldLink RX7 7 (TX7 1).1 (TX7 1).2.1 (TX7 1).2.2.1 ∈ wsX7_begin := by decide +kernel
theorem hf85_m_begin : Cond.fieldLink RX7 85 (TX7 0).1 (TX7 0).2.1 (TX7 0).2.2.1 ∈ wsX7_begin := by decide +kernel
theorem hi7_m_begin : ∀ w ∈ u_ws RX7 TX7 34, w ∈ wsX7_begin := by decide +kernel
set_option maxHeartbeats 4000000 in
set_option maxRecDepth 100000 in
theorem c_m_begin {l : Launch} {D : va_G} {cs : Nat → ClassId} {ad : Nat → Nat} {rest : va_W} {n : Nat} {σ : ST} {a0 : Int32} {o : Int32 × ST} (h : f_m_begin n σ a0 = some o) : CTi l D cs yX7_begin wsX7_begin rm_m_begin [.ref (ad 0), .int a0] (wM cs ad σ rest) o.1 (wM cs ad o.2 rest) := by
  refine CTz_of (cc := cX7_begin) (nL := 2) (by decide) rfl (Nat.le_of_ble_eq_true rfl) ?_
  intro K C hret
  unfold f_m_begin at h
  refine X_loc (vs1 := [(0, .ref (ad 0)), (1, .int a0)]) [0, 1] rfl ?_
  refine X_aload_n C 0 rfl rfl dX7_begin_0 ?_
  refine X_iconst (v := 0) C (by decide) dX7_begin_1 ?_
  refine X_put (ty := .int) C 0 0 hi7_m_begin hf85_m_begin tyX7 tyX7_ok nmX7 (me_0 _ _ _ _) rfl (by decide) rfl (by decide +kernel) rfl rfl (Nat.le_of_ble_eq_true rfl) (ms_0_0 _ _ _ _ _) dX7_begin_2 ?_
  refine X_nam (G := fun σ1 => XW l D K 0 0 (wM cs ad σ1 rest) 5 [(0, .ref (ad 0)), (1, .int a0)] []) h (fun σ1 h => ?_)
  refine X_iload_n C 1 rfl rfl dX7_begin_5 ?_
  refine X_iconst (v := 1) C (by decide) dX7_begin_6 ?_
  refine X_bipush (v := 8) C (by decide) dX7_begin_7 ?_
  obtain ⟨o2, eo2, h⟩ := bnd_some h
  refine X_callSi C (n := 3) (As := [.int a0, .int (1 : Int32), .int (8 : Int32)]) (c_m_in eo2) gX7_begin_X7_in rfl rfl rfl (by decide +kernel) ⟨Nat.le_of_ble_eq_true rfl, Nat.le_of_ble_eq_true rfl⟩ ⟨Nat.zero_le _, Nat.zero_le _⟩ rfl rfl (Nat.le_of_ble_eq_true rfl) dX7_begin_9 ?_
  refine X_ifne C (tgt := 17) (by decide) dX7_begin_12 h (fun h => ?_) (fun h => ?_)
  · refine X_aload_n C 0 rfl rfl dX7_begin_17 ?_
    refine X_iload_n C 1 rfl rfl dX7_begin_18 ?_
    refine X_put (ty := .int) C 0 1 hi7_m_begin hf7_m_begin tyX7 tyX7_ok nmX7 (me_0 _ _ _ _) rfl (by decide) rfl (by decide +kernel) rfl rfl (Nat.le_of_ble_eq_true rfl) (ms_0_1 _ _ _ _ _) dX7_begin_19 ?_
    refine X_nam (G := fun σ3 => XW l D K 0 0 (wM cs ad σ3 rest) 22 [(0, .ref (ad 0)), (1, .int a0)] []) h (fun σ3 h => ?_)
    refine X_aload_n C 0 rfl rfl dX7_begin_22 ?_
    refine X_iconst (v := 0) C (by decide) dX7_begin_23 ?_
    refine X_put (ty := .int) C 0 2 hi7_m_begin hf95_m_begin tyX7 tyX7_ok nmX7 (me_0 _ _ _ _) rfl (by decide) rfl (by decide +kernel) rfl rfl (Nat.le_of_ble_eq_true rfl) (ms_0_2 _ _ _ _ _) dX7_begin_24 ?_
    refine X_nam (G := fun σ4 => XW l D K 0 0 (wM cs ad σ4 rest) 27 [(0, .ref (ad 0)), (1, .int a0)] []) h (fun σ4 h => ?_)
    refine X_aload_n C 0 rfl rfl dX7_begin_27 ?_
    refine X_iconst (v := 0) C (by decide) dX7_begin_28 ?_
    refine X_put (ty := .boolean) C 0 6 hi7_m_begin hf134_m_begin tyX7 tyX7_ok nmX7 (me_0 _ _ _ _) rfl (by decide) rfl (by decide +kernel) (jz_nar (by decide)) (jz_fit (by decide)) (Nat.le_of_ble_eq_true rfl) (ms_0_6 _ _ _ _ _) dX7_begin_29 ?_
    refine X_nam (G := fun σ5 => XW l D K 0 0 (wM cs ad σ5 rest) 32 [(0, .ref (ad 0)), (1, .int a0)] []) h (fun σ5 h => ?_)
    refine X_aload_n C 0 rfl rfl dX7_begin_32 ?_
    refine X_iconst (v := 0) C (by decide) dX7_begin_33 ?_
    refine X_put (ty := .boolean) C 0 8 hi7_m_begin hf137_m_begin tyX7 tyX7_ok nmX7 (me_0 _ _ _ _) rfl (by decide) rfl (by decide +kernel) (jz_nar (by decide)) (jz_fit (by decide)) (Nat.le_of_ble_eq_true rfl) (ms_0_8 _ _ _ _ _) dX7_begin_34 ?_
    refine X_nam (G := fun σ6 => XW l D K 0 0 (wM cs ad σ6 rest) 37 [(0, .ref (ad 0)), (1, .int a0)] []) h (fun σ6 h => ?_)
    refine X_aload_n C 0 rfl rfl dX7_begin_37 ?_
    obtain ⟨o7, eo7, h⟩ := bnd_some h
    refine X_callVv C (n := 0) (As := []) (c_m_changed eo7) rfl gX7_begin_X7_changed rfl rfl (me_0 _ _ _ _) rfl rfl (by decide +kernel) ⟨Nat.le_of_ble_eq_true rfl, Nat.le_of_ble_eq_true rfl⟩ ⟨Nat.zero_le _, Nat.zero_le _⟩ rfl rfl (Nat.le_of_ble_eq_true rfl) dX7_begin_38 ?_
    refine X_iconst (v := 1) C (by decide) dX7_begin_41 ?_
    obtain rfl := Option.some.inj h
    exact hret _ _ jz_1 dX7_begin_42
  · refine X_iconst (v := 0) C (by decide) dX7_begin_15 ?_
    obtain rfl := Option.some.inj h
    exact hret _ _ jz_0 dX7_begin_16

abbrev rm_m_arc : Room := { frames := 1, cells := 0, slots := 0, locals := 22 }
def j_m_arc_53 (n : Nat) (σ : ST) : Option (Int32 × ST) :=
  some ((-1 : Int32), σ)
def f_m_arc (n : Nat) (σ : ST) (a0 : Int32) (a1 : Int32) (a2 : Int32) : Option (Int32 × ST) :=
  nam (sS σ 0 (0 : Int32)) fun σ1 =>
  if (σ1.1 2) = (16 : Int32) then
    j_m_arc_53 n σ1
  else
    bnd (f_m_in n a0 (0 : Int32) ((σ1.1 1) - (1 : Int32))) fun o2 =>
    if o2 = 0 then
      j_m_arc_53 n σ1
    else
      bnd (f_m_in n a1 (0 : Int32) ((σ1.1 1) - (1 : Int32))) fun o3 =>
      if o3 = 0 then
        j_m_arc_53 n σ1
      else
        bnd (f_m_in n a2 (0 : Int32) (1000 : Int32)) fun o4 =>
        if o4 = 0 then
          j_m_arc_53 n σ1
        else
          grd (jin (σ1.1 2) 16) <|
          nam (sA σ1 1 (upd (σ1.2 1) (jix (σ1.1 2)) a0)) fun σ5 =>
          grd (jin (σ5.1 2) 16) <|
          nam (sA σ5 2 (upd (σ5.2 2) (jix (σ5.1 2)) a1)) fun σ6 =>
          grd (jin (σ6.1 2) 16) <|
          nam (sA σ6 3 (upd (σ6.2 3) (jix (σ6.1 2)) a2)) fun σ7 =>
          nam (sS σ7 2 ((σ7.1 2) + (1 : Int32))) fun σ8 =>
          bnd (f_m_changed σ8) fun o9 =>
          some ((o9.1 2) - (1 : Int32), o9)
theorem hf20_m_arc : Cond.fieldLink RX7 20 (TX7 5).1 (TX7 5).2.1 (TX7 5).2.2.1 ∈ wsX7_arc := by decide +kernel
theorem hf17_m_arc : Cond.fieldLink RX7 17 (TX7 4).1 (TX7 4).2.1 (TX7 4).2.2.1 ∈ wsX7_arc := by decide +kernel
theorem hf13_m_arc : Cond.fieldLink RX7 13 (TX7 3).1 (TX7 3).2.1 (TX7 3).2.2.1 ∈ wsX7_arc := by decide +kernel
theorem hf7_m_arc : Cond.fieldLink RX7 7 (TX7 1).1 (TX7 1).2.1 (TX7 1).2.2.1 ∈ wsX7_arc := by decide +kernel
theorem hf95_m_arc : Cond.fieldLink RX7 95 (TX7 2).1 (TX7 2).2.1 (TX7 2).2.2.1 ∈ wsX7_arc := by decide +kernel
theorem hf85_m_arc : Cond.fieldLink RX7 85 (TX7 0).1 (TX7 0).2.1 (TX7 0).2.2.1 ∈ wsX7_arc := by decide +kernel
theorem hi7_m_arc : ∀ w ∈ u_ws RX7 TX7 34, w ∈ wsX7_arc := by decide +kernel
set_option maxHeartbeats 4000000 in
set_option maxRecDepth 100000 in
theorem wj_m_arc_53 {l : Launch} {D : va_G} {cs : Nat → ClassId} {K : XK} {ad : Nat → Nat} {rest : va_W} (C : XC D cs K 4 rm_m_arc cX7_arc RX7 wsX7_arc (some .int)) {n : Nat} {σ : ST} {o : Int32 × ST} (h : j_m_arc_53 n σ = some o) (hret : XRi l D K cX7_arc o.1 (wM cs ad o.2 rest)) : XW l D K 0 0 (wM cs ad σ rest) 53 [] [] := by
  unfold j_m_arc_53 at h
  refine X_iconst (v := (-1)) C (by decide) dX7_arc_53 ?_
  obtain rfl := Option.some.inj h
  exact hret _ _ dX7_arc_54
set_option maxHeartbeats 4000000 in
set_option maxRecDepth 100000 in
theorem c_m_arc {l : Launch} {D : va_G} {cs : Nat → ClassId} {ad : Nat → Nat} {rest : va_W} {n : Nat} {σ : ST} {a0 : Int32} {a1 : Int32} {a2 : Int32} {o : Int32 × ST} (h : f_m_arc n σ a0 a1 a2 = some o) : CTi l D cs yX7_arc wsX7_arc rm_m_arc [.ref (ad 0), .int a0, .int a1, .int a2] (wM cs ad σ rest) o.1 (wM cs ad o.2 rest) := by
  refine CTi_of (cc := cX7_arc) (nL := 4) (by decide) rfl (Nat.le_of_ble_eq_true rfl) ?_
  intro K C hret
  unfold f_m_arc at h
  refine X_loc (vs1 := [(0, .ref (ad 0)), (1, .int a0), (2, .int a1), (3, .int a2)]) [0, 1, 2, 3] rfl ?_
  refine X_aload_n C 0 rfl rfl dX7_arc_0 ?_
  refine X_iconst (v := 0) C (by decide) dX7_arc_1 ?_
  refine X_put (ty := .int) C 0 0 hi7_m_arc hf85_m_arc tyX7 tyX7_ok nmX7 (me_0 _ _ _ _) rfl (by decide) rfl (by decide +kernel) rfl rfl (Nat.le_of_ble_eq_true rfl) (ms_0_0 _ _ _ _ _) dX7_arc_2 ?_
  refine X_nam (G := fun σ1 => XW l D K 0 0 (wM cs ad σ1 rest) 5 [(0, .ref (ad 0)), (1, .int a0), (2, .int a1), (3, .int a2)] []) h (fun σ1 h => ?_)
  refine X_aload_n C 0 rfl rfl dX7_arc_5 ?_
  refine X_get C 0 2 hi7_m_arc hf95_m_arc (me_0 _ _ _ _) rfl (by decide) rfl dX7_arc_6 ?_
  refine X_bipush (v := 16) C (by decide) dX7_arc_9 ?_
  refine X_icmpeq C (tgt := 53) (by decide) dX7_arc_11 h (fun h => ?_) (fun h => ?_)
  · refine X_loc (vs1 := []) [] rfl ?_
    exact wj_m_arc_53 C h hret
  · refine X_iload_n C 1 rfl rfl dX7_arc_14 ?_
    refine X_iconst (v := 0) C (by decide) dX7_arc_15 ?_
    refine X_aload_n C 0 rfl rfl dX7_arc_16 ?_
    refine X_get C 0 1 hi7_m_arc hf7_m_arc (me_0 _ _ _ _) rfl (by decide) rfl dX7_arc_17 ?_
    refine X_iconst (v := 1) C (by decide) dX7_arc_20 ?_
    refine X_isub C dX7_arc_21 ?_
    obtain ⟨o2, eo2, h⟩ := bnd_some h
    refine X_callSi C (n := 3) (As := [.int a0, .int (0 : Int32), .int ((σ1.1 1) - (1 : Int32))]) (c_m_in eo2) gX7_arc_X7_in rfl rfl rfl (by decide +kernel) ⟨Nat.le_of_ble_eq_true rfl, Nat.le_of_ble_eq_true rfl⟩ ⟨Nat.zero_le _, Nat.zero_le _⟩ rfl rfl (Nat.le_of_ble_eq_true rfl) dX7_arc_22 ?_
    refine X_ifeq C (tgt := 53) (by decide) dX7_arc_25 h (fun h => ?_) (fun h => ?_)
    · refine X_loc (vs1 := []) [] rfl ?_
      exact wj_m_arc_53 C h hret
    · refine X_iload_n C 2 rfl rfl dX7_arc_28 ?_
      refine X_iconst (v := 0) C (by decide) dX7_arc_29 ?_
      refine X_aload_n C 0 rfl rfl dX7_arc_30 ?_
      refine X_get C 0 1 hi7_m_arc hf7_m_arc (me_0 _ _ _ _) rfl (by decide) rfl dX7_arc_31 ?_
      refine X_iconst (v := 1) C (by decide) dX7_arc_34 ?_
      refine X_isub C dX7_arc_35 ?_
      obtain ⟨o3, eo3, h⟩ := bnd_some h
      refine X_callSi C (n := 3) (As := [.int a1, .int (0 : Int32), .int ((σ1.1 1) - (1 : Int32))]) (c_m_in eo3) gX7_arc_X7_in rfl rfl rfl (by decide +kernel) ⟨Nat.le_of_ble_eq_true rfl, Nat.le_of_ble_eq_true rfl⟩ ⟨Nat.zero_le _, Nat.zero_le _⟩ rfl rfl (Nat.le_of_ble_eq_true rfl) dX7_arc_36 ?_
      refine X_ifeq C (tgt := 53) (by decide) dX7_arc_39 h (fun h => ?_) (fun h => ?_)
      · refine X_loc (vs1 := []) [] rfl ?_
        exact wj_m_arc_53 C h hret
      · refine X_iload_n C 3 rfl rfl dX7_arc_42 ?_
        refine X_iconst (v := 0) C (by decide) dX7_arc_43 ?_
        refine X_sipush (v := 1000) C (by decide) dX7_arc_44 ?_
        obtain ⟨o4, eo4, h⟩ := bnd_some h
        refine X_callSi C (n := 3) (As := [.int a2, .int (0 : Int32), .int (1000 : Int32)]) (c_m_in eo4) gX7_arc_X7_in rfl rfl rfl (by decide +kernel) ⟨Nat.le_of_ble_eq_true rfl, Nat.le_of_ble_eq_true rfl⟩ ⟨Nat.zero_le _, Nat.zero_le _⟩ rfl rfl (Nat.le_of_ble_eq_true rfl) dX7_arc_47 ?_
        refine X_ifne C (tgt := 55) (by decide) dX7_arc_50 h (fun h => ?_) (fun h => ?_)
        · refine X_aload_n C 0 rfl rfl dX7_arc_55 ?_
          refine X_get C 0 3 hi7_m_arc hf13_m_arc (me_0 _ _ _ _) rfl (by decide) rfl dX7_arc_56 ?_
          refine X_aload_n C 0 rfl rfl dX7_arc_59 ?_
          refine X_get C 0 2 hi7_m_arc hf95_m_arc (me_0 _ _ _ _) rfl (by decide) rfl dX7_arc_60 ?_
          refine X_iload_n C 1 rfl rfl dX7_arc_63 ?_
          refine X_iast C 1 (me_1 _ _ _ _) (ma_1 _ _ _ _ _) h dX7_arc_64 (fun h => ?_)
          refine X_nam (G := fun σ5 => XW l D K 0 0 (wM cs ad σ5 rest) 65 [(0, .ref (ad 0)), (1, .int a0), (2, .int a1), (3, .int a2)] []) h (fun σ5 h => ?_)
          refine X_aload_n C 0 rfl rfl dX7_arc_65 ?_
          refine X_get C 0 4 hi7_m_arc hf17_m_arc (me_0 _ _ _ _) rfl (by decide) rfl dX7_arc_66 ?_
          refine X_aload_n C 0 rfl rfl dX7_arc_69 ?_
          refine X_get C 0 2 hi7_m_arc hf95_m_arc (me_0 _ _ _ _) rfl (by decide) rfl dX7_arc_70 ?_
          refine X_iload_n C 2 rfl rfl dX7_arc_73 ?_
          refine X_iast C 2 (me_2 _ _ _ _) (ma_2 _ _ _ _ _) h dX7_arc_74 (fun h => ?_)
          refine X_nam (G := fun σ6 => XW l D K 0 0 (wM cs ad σ6 rest) 75 [(0, .ref (ad 0)), (1, .int a0), (2, .int a1), (3, .int a2)] []) h (fun σ6 h => ?_)
          refine X_aload_n C 0 rfl rfl dX7_arc_75 ?_
          refine X_get C 0 5 hi7_m_arc hf20_m_arc (me_0 _ _ _ _) rfl (by decide) rfl dX7_arc_76 ?_
          refine X_aload_n C 0 rfl rfl dX7_arc_79 ?_
          refine X_get C 0 2 hi7_m_arc hf95_m_arc (me_0 _ _ _ _) rfl (by decide) rfl dX7_arc_80 ?_
          refine X_iload_n C 3 rfl rfl dX7_arc_83 ?_
          refine X_iast C 3 (me_3 _ _ _ _) (ma_3 _ _ _ _ _) h dX7_arc_84 (fun h => ?_)
          refine X_nam (G := fun σ7 => XW l D K 0 0 (wM cs ad σ7 rest) 85 [(0, .ref (ad 0)), (1, .int a0), (2, .int a1), (3, .int a2)] []) h (fun σ7 h => ?_)
          refine X_aload_n C 0 rfl rfl dX7_arc_85 ?_
          refine X_dup C rfl dX7_arc_86 ?_
          refine X_get C 0 2 hi7_m_arc hf95_m_arc (me_0 _ _ _ _) rfl (by decide) rfl dX7_arc_87 ?_
          refine X_iconst (v := 1) C (by decide) dX7_arc_90 ?_
          refine X_iadd C dX7_arc_91 ?_
          refine X_put (ty := .int) C 0 2 hi7_m_arc hf95_m_arc tyX7 tyX7_ok nmX7 (me_0 _ _ _ _) rfl (by decide) rfl (by decide +kernel) rfl rfl (Nat.le_of_ble_eq_true rfl) (ms_0_2 _ _ _ _ _) dX7_arc_92 ?_
          refine X_nam (G := fun σ8 => XW l D K 0 0 (wM cs ad σ8 rest) 95 [(0, .ref (ad 0)), (1, .int a0), (2, .int a1), (3, .int a2)] []) h (fun σ8 h => ?_)
          refine X_aload_n C 0 rfl rfl dX7_arc_95 ?_
          obtain ⟨o9, eo9, h⟩ := bnd_some h
          refine X_callVv C (n := 0) (As := []) (c_m_changed eo9) rfl gX7_arc_X7_changed rfl rfl (me_0 _ _ _ _) rfl rfl (by decide +kernel) ⟨Nat.le_of_ble_eq_true rfl, Nat.le_of_ble_eq_true rfl⟩ ⟨Nat.zero_le _, Nat.zero_le _⟩ rfl rfl (Nat.le_of_ble_eq_true rfl) dX7_arc_96 ?_
          refine X_aload_n C 0 rfl rfl dX7_arc_99 ?_
          refine X_get C 0 2 hi7_m_arc hf95_m_arc (me_0 _ _ _ _) rfl (by decide) rfl dX7_arc_100 ?_
          refine X_iconst (v := 1) C (by decide) dX7_arc_103 ?_
          refine X_isub C dX7_arc_104 ?_
          obtain rfl := Option.some.inj h
          exact hret _ _ dX7_arc_105
        · refine X_loc (vs1 := []) [] rfl ?_
          exact wj_m_arc_53 C h hret

abbrev rm_m_drop : Room := { frames := 2, cells := 0, slots := 0, locals := 43 }
def b_m_drop_27 (n : Nat) (s : ST × Int32) : Option ((ST × Int32) ⊕ (ST)) :=
  if (s.1.1 2) ≤ s.2 then
    some (.inr s.1)
  else
    grd (jin (s.2 + (1 : Int32)) 16) <|
    grd (jin s.2 16) <|
    nam (sA s.1 1 (upd (s.1.2 1) (jix s.2) (s.1.2 1 (jix (s.2 + (1 : Int32)))))) fun σ4 =>
    grd (jin (s.2 + (1 : Int32)) 16) <|
    grd (jin s.2 16) <|
    nam (sA σ4 2 (upd (σ4.2 2) (jix s.2) (σ4.2 2 (jix (s.2 + (1 : Int32)))))) fun σ5 =>
    grd (jin (s.2 + (1 : Int32)) 16) <|
    grd (jin s.2 16) <|
    nam (sA σ5 3 (upd (σ5.2 3) (jix s.2) (σ5.2 3 (jix (s.2 + (1 : Int32)))))) fun σ6 =>
    some (.inl (σ6, s.2 + (1 : Int32)))
def f_m_drop (n : Nat) (σ : ST) (a0 : Int32) : Option (Int32 × ST) :=
  nam (sS σ 0 (0 : Int32)) fun σ1 =>
  bnd (f_m_isArc n σ1 a0) fun o2 =>
  if o2 = 0 then
    some ((-1 : Int32), σ1)
  else
    nam (sS σ1 2 ((σ1.1 2) - (1 : Int32))) fun σ3 =>
    bnd (lp (b_m_drop_27 n) n (σ3, a0)) fun e7 =>
    bnd (f_m_changed e7) fun o8 =>
    some (o8.1 2, o8)
theorem hf20_m_drop : Cond.fieldLink RX7 20 (TX7 5).1 (TX7 5).2.1 (TX7 5).2.2.1 ∈ wsX7_drop := by decide +kernel
theorem hf17_m_drop : Cond.fieldLink RX7 17 (TX7 4).1 (TX7 4).2.1 (TX7 4).2.2.1 ∈ wsX7_drop := by decide +kernel
theorem hf13_m_drop : Cond.fieldLink RX7 13 (TX7 3).1 (TX7 3).2.1 (TX7 3).2.2.1 ∈ wsX7_drop := by decide +kernel
theorem hf95_m_drop : Cond.fieldLink RX7 95 (TX7 2).1 (TX7 2).2.1 (TX7 2).2.2.1 ∈ wsX7_drop := by decide +kernel
theorem hf85_m_drop : Cond.fieldLink RX7 85 (TX7 0).1 (TX7 0).2.1 (TX7 0).2.2.1 ∈ wsX7_drop := by decide +kernel
theorem hi7_m_drop : ∀ w ∈ u_ws RX7 TX7 34, w ∈ wsX7_drop := by decide +kernel
set_option maxHeartbeats 4000000 in
set_option maxRecDepth 100000 in
theorem wb_m_drop_27 {l : Launch} {D : va_G} {cs : Nat → ClassId} {K : XK} {ad : Nat → Nat} {rest : va_W} (C : XC D cs K 3 rm_m_drop cX7_drop RX7 wsX7_drop (some .int)) {n : Nat} {e : (ST)} (kx : ∀ (t : ST), e = t → XW l D K 0 0 (wM cs ad t rest) 83 [(0, .ref (ad 0))] []) : ∀ (q : Nat) (s : ST × Int32), lp (b_m_drop_27 n) q s = some e → XW l D K 0 0 (wM cs ad s.1 rest) 27 [(0, .ref (ad 0)), (2, .int s.2)] [] := by
  refine lp_walk (G := fun (s : ST × Int32) => XW l D K 0 0 (wM cs ad s.1 rest) 27 [(0, .ref (ad 0)), (2, .int s.2)] []) ?_
  intro s o h kin kex
  unfold b_m_drop_27 at h
  refine X_iload_n C 1 rfl rfl dX7_drop_27 ?_
  refine X_aload_n C 0 rfl rfl dX7_drop_28 ?_
  refine X_get C 0 2 hi7_m_drop hf95_m_drop (me_0 _ _ _ _) rfl (by decide) rfl dX7_drop_29 ?_
  refine X_icmpge C (tgt := 83) (by decide) dX7_drop_32 h (fun h => ?_) (fun h => ?_)
  · obtain rfl := Option.some.inj h
    refine X_loc (vs1 := [(0, .ref (ad 0))]) [0] rfl ?_
    exact kx _ (kex _ rfl).symm
  · refine X_aload_n C 0 rfl rfl dX7_drop_35 ?_
    refine X_get C 0 3 hi7_m_drop hf13_m_drop (me_0 _ _ _ _) rfl (by decide) rfl dX7_drop_36 ?_
    refine X_iload_n C 1 rfl rfl dX7_drop_39 ?_
    refine X_aload_n C 0 rfl rfl dX7_drop_40 ?_
    refine X_get C 0 3 hi7_m_drop hf13_m_drop (me_0 _ _ _ _) rfl (by decide) rfl dX7_drop_41 ?_
    refine X_iload_n C 1 rfl rfl dX7_drop_44 ?_
    refine X_iconst (v := 1) C (by decide) dX7_drop_45 ?_
    refine X_iadd C dX7_drop_46 ?_
    refine X_iald C 1 (me_1 _ _ _ _) h dX7_drop_47 (fun h => ?_)
    refine X_iast C 1 (me_1 _ _ _ _) (ma_1 _ _ _ _ _) h dX7_drop_48 (fun h => ?_)
    refine X_nam (G := fun σ4 => XW l D K 0 0 (wM cs ad σ4 rest) 49 [(0, .ref (ad 0)), (2, .int s.2)] []) h (fun σ4 h => ?_)
    refine X_aload_n C 0 rfl rfl dX7_drop_49 ?_
    refine X_get C 0 4 hi7_m_drop hf17_m_drop (me_0 _ _ _ _) rfl (by decide) rfl dX7_drop_50 ?_
    refine X_iload_n C 1 rfl rfl dX7_drop_53 ?_
    refine X_aload_n C 0 rfl rfl dX7_drop_54 ?_
    refine X_get C 0 4 hi7_m_drop hf17_m_drop (me_0 _ _ _ _) rfl (by decide) rfl dX7_drop_55 ?_
    refine X_iload_n C 1 rfl rfl dX7_drop_58 ?_
    refine X_iconst (v := 1) C (by decide) dX7_drop_59 ?_
    refine X_iadd C dX7_drop_60 ?_
    refine X_iald C 2 (me_2 _ _ _ _) h dX7_drop_61 (fun h => ?_)
    refine X_iast C 2 (me_2 _ _ _ _) (ma_2 _ _ _ _ _) h dX7_drop_62 (fun h => ?_)
    refine X_nam (G := fun σ5 => XW l D K 0 0 (wM cs ad σ5 rest) 63 [(0, .ref (ad 0)), (2, .int s.2)] []) h (fun σ5 h => ?_)
    refine X_aload_n C 0 rfl rfl dX7_drop_63 ?_
    refine X_get C 0 5 hi7_m_drop hf20_m_drop (me_0 _ _ _ _) rfl (by decide) rfl dX7_drop_64 ?_
    refine X_iload_n C 1 rfl rfl dX7_drop_67 ?_
    refine X_aload_n C 0 rfl rfl dX7_drop_68 ?_
    refine X_get C 0 5 hi7_m_drop hf20_m_drop (me_0 _ _ _ _) rfl (by decide) rfl dX7_drop_69 ?_
    refine X_iload_n C 1 rfl rfl dX7_drop_72 ?_
    refine X_iconst (v := 1) C (by decide) dX7_drop_73 ?_
    refine X_iadd C dX7_drop_74 ?_
    refine X_iald C 3 (me_3 _ _ _ _) h dX7_drop_75 (fun h => ?_)
    refine X_iast C 3 (me_3 _ _ _ _) (ma_3 _ _ _ _ _) h dX7_drop_76 (fun h => ?_)
    refine X_nam (G := fun σ6 => XW l D K 0 0 (wM cs ad σ6 rest) 77 [(0, .ref (ad 0)), (2, .int s.2)] []) h (fun σ6 h => ?_)
    refine X_iinc (v := s.2 + (1 : Int32)) (vs1 := [(2, .int (s.2 + (1 : Int32))), (0, .ref (ad 0))]) C 1 rfl rfl (by decide) rfl dX7_drop_77 ?_
    refine X_goto C (tgt := 27) (by decide) dX7_drop_80 ?_
    obtain rfl := Option.some.inj h
    refine X_loc (vs1 := [(0, .ref (ad 0)), (2, .int (s.2 + (1 : Int32)))]) [1, 0] rfl ?_
    exact kin _ rfl
set_option maxHeartbeats 4000000 in
set_option maxRecDepth 100000 in
theorem c_m_drop {l : Launch} {D : va_G} {cs : Nat → ClassId} {ad : Nat → Nat} {rest : va_W} {n : Nat} {σ : ST} {a0 : Int32} {o : Int32 × ST} (h : f_m_drop n σ a0 = some o) : CTi l D cs yX7_drop wsX7_drop rm_m_drop [.ref (ad 0), .int a0] (wM cs ad σ rest) o.1 (wM cs ad o.2 rest) := by
  refine CTi_of (cc := cX7_drop) (nL := 3) (by decide) rfl (Nat.le_of_ble_eq_true rfl) ?_
  intro K C hret
  unfold f_m_drop at h
  refine X_loc (vs1 := [(0, .ref (ad 0)), (1, .int a0)]) [0, 1] rfl ?_
  refine X_aload_n C 0 rfl rfl dX7_drop_0 ?_
  refine X_iconst (v := 0) C (by decide) dX7_drop_1 ?_
  refine X_put (ty := .int) C 0 0 hi7_m_drop hf85_m_drop tyX7 tyX7_ok nmX7 (me_0 _ _ _ _) rfl (by decide) rfl (by decide +kernel) rfl rfl (Nat.le_of_ble_eq_true rfl) (ms_0_0 _ _ _ _ _) dX7_drop_2 ?_
  refine X_nam (G := fun σ1 => XW l D K 0 0 (wM cs ad σ1 rest) 5 [(0, .ref (ad 0)), (1, .int a0)] []) h (fun σ1 h => ?_)
  refine X_aload_n C 0 rfl rfl dX7_drop_5 ?_
  refine X_iload_n C 1 rfl rfl dX7_drop_6 ?_
  obtain ⟨o2, eo2, h⟩ := bnd_some h
  refine X_callVi C (n := 1) (As := [.int a0]) (c_m_isArc eo2) rfl gX7_drop_X7_isArc rfl rfl (me_0 _ _ _ _) rfl rfl (by decide +kernel) ⟨Nat.le_of_ble_eq_true rfl, Nat.le_of_ble_eq_true rfl⟩ ⟨Nat.zero_le _, Nat.zero_le _⟩ rfl rfl (Nat.le_of_ble_eq_true rfl) dX7_drop_7 ?_
  refine X_ifne C (tgt := 15) (by decide) dX7_drop_10 h (fun h => ?_) (fun h => ?_)
  · refine X_aload_n C 0 rfl rfl dX7_drop_15 ?_
    refine X_dup C rfl dX7_drop_16 ?_
    refine X_get C 0 2 hi7_m_drop hf95_m_drop (me_0 _ _ _ _) rfl (by decide) rfl dX7_drop_17 ?_
    refine X_iconst (v := 1) C (by decide) dX7_drop_20 ?_
    refine X_isub C dX7_drop_21 ?_
    refine X_put (ty := .int) C 0 2 hi7_m_drop hf95_m_drop tyX7 tyX7_ok nmX7 (me_0 _ _ _ _) rfl (by decide) rfl (by decide +kernel) rfl rfl (Nat.le_of_ble_eq_true rfl) (ms_0_2 _ _ _ _ _) dX7_drop_22 ?_
    refine X_nam (G := fun σ3 => XW l D K 0 0 (wM cs ad σ3 rest) 25 [(0, .ref (ad 0)), (1, .int a0)] []) h (fun σ3 h => ?_)
    refine X_iload_n C 1 rfl rfl dX7_drop_25 ?_
    refine X_istore_n (vs1 := [(2, .int a0), (0, .ref (ad 0)), (1, .int a0)]) C rfl (by decide) rfl dX7_drop_26 ?_
    obtain ⟨e7, he7, h⟩ := bnd_some h
    refine X_loc (vs1 := [(0, .ref (ad 0)), (2, .int a0)]) [1, 0] rfl ?_
    refine wb_m_drop_27 C (e := e7) (fun t ht => ?_) n _ he7
    subst ht
    refine X_aload_n C 0 rfl rfl dX7_drop_83 ?_
    obtain ⟨o8, eo8, h⟩ := bnd_some h
    refine X_callVv C (n := 0) (As := []) (c_m_changed eo8) rfl gX7_drop_X7_changed rfl rfl (me_0 _ _ _ _) rfl rfl (by decide +kernel) ⟨Nat.le_of_ble_eq_true rfl, Nat.le_of_ble_eq_true rfl⟩ ⟨Nat.zero_le _, Nat.zero_le _⟩ rfl rfl (Nat.le_of_ble_eq_true rfl) dX7_drop_84 ?_
    refine X_aload_n C 0 rfl rfl dX7_drop_87 ?_
    refine X_get C 0 2 hi7_m_drop hf95_m_drop (me_0 _ _ _ _) rfl (by decide) rfl dX7_drop_88 ?_
    obtain rfl := Option.some.inj h
    exact hret _ _ dX7_drop_91
  · refine X_iconst (v := (-1)) C (by decide) dX7_drop_13 ?_
    obtain rfl := Option.some.inj h
    exact hret _ _ dX7_drop_14

abbrev rm_m_weigh : Room := { frames := 2, cells := 0, slots := 0, locals := 43 }
def j_m_weigh_24 (n : Nat) (σ : ST) : Option (Int32 × ST) :=
  some ((-1 : Int32), σ)
def f_m_weigh (n : Nat) (σ : ST) (a0 : Int32) (a1 : Int32) : Option (Int32 × ST) :=
  nam (sS σ 0 (0 : Int32)) fun σ1 =>
  bnd (f_m_isArc n σ1 a0) fun o2 =>
  if o2 = 0 then
    j_m_weigh_24 n σ1
  else
    bnd (f_m_in n a1 (0 : Int32) (1000 : Int32)) fun o3 =>
    if o3 = 0 then
      j_m_weigh_24 n σ1
    else
      grd (jin a0 16) <|
      grd (jin a0 16) <|
      nam (sA σ1 3 (upd (σ1.2 3) (jix a0) a1)) fun σ4 =>
      some (σ1.2 3 (jix a0), σ4)
theorem hf20_m_weigh : Cond.fieldLink RX7 20 (TX7 5).1 (TX7 5).2.1 (TX7 5).2.2.1 ∈ wsX7_weigh := by decide +kernel
theorem hf85_m_weigh : Cond.fieldLink RX7 85 (TX7 0).1 (TX7 0).2.1 (TX7 0).2.2.1 ∈ wsX7_weigh := by decide +kernel
theorem hi7_m_weigh : ∀ w ∈ u_ws RX7 TX7 34, w ∈ wsX7_weigh := by decide +kernel
set_option maxHeartbeats 4000000 in
set_option maxRecDepth 100000 in
theorem wj_m_weigh_24 {l : Launch} {D : va_G} {cs : Nat → ClassId} {K : XK} {ad : Nat → Nat} {rest : va_W} (C : XC D cs K 4 rm_m_weigh cX7_weigh RX7 wsX7_weigh (some .int)) {n : Nat} {σ : ST} {o : Int32 × ST} (h : j_m_weigh_24 n σ = some o) (hret : XRi l D K cX7_weigh o.1 (wM cs ad o.2 rest)) : XW l D K 0 0 (wM cs ad σ rest) 24 [] [] := by
  unfold j_m_weigh_24 at h
  refine X_iconst (v := (-1)) C (by decide) dX7_weigh_24 ?_
  obtain rfl := Option.some.inj h
  exact hret _ _ dX7_weigh_25
set_option maxHeartbeats 4000000 in
set_option maxRecDepth 100000 in
theorem c_m_weigh {l : Launch} {D : va_G} {cs : Nat → ClassId} {ad : Nat → Nat} {rest : va_W} {n : Nat} {σ : ST} {a0 : Int32} {a1 : Int32} {o : Int32 × ST} (h : f_m_weigh n σ a0 a1 = some o) : CTi l D cs yX7_weigh wsX7_weigh rm_m_weigh [.ref (ad 0), .int a0, .int a1] (wM cs ad σ rest) o.1 (wM cs ad o.2 rest) := by
  refine CTi_of (cc := cX7_weigh) (nL := 4) (by decide) rfl (Nat.le_of_ble_eq_true rfl) ?_
  intro K C hret
  unfold f_m_weigh at h
  refine X_loc (vs1 := [(0, .ref (ad 0)), (1, .int a0), (2, .int a1)]) [0, 1, 2] rfl ?_
  refine X_aload_n C 0 rfl rfl dX7_weigh_0 ?_
  refine X_iconst (v := 0) C (by decide) dX7_weigh_1 ?_
  refine X_put (ty := .int) C 0 0 hi7_m_weigh hf85_m_weigh tyX7 tyX7_ok nmX7 (me_0 _ _ _ _) rfl (by decide) rfl (by decide +kernel) rfl rfl (Nat.le_of_ble_eq_true rfl) (ms_0_0 _ _ _ _ _) dX7_weigh_2 ?_
  refine X_nam (G := fun σ1 => XW l D K 0 0 (wM cs ad σ1 rest) 5 [(0, .ref (ad 0)), (1, .int a0), (2, .int a1)] []) h (fun σ1 h => ?_)
  refine X_aload_n C 0 rfl rfl dX7_weigh_5 ?_
  refine X_iload_n C 1 rfl rfl dX7_weigh_6 ?_
  obtain ⟨o2, eo2, h⟩ := bnd_some h
  refine X_callVi C (n := 1) (As := [.int a0]) (c_m_isArc eo2) rfl gX7_weigh_X7_isArc rfl rfl (me_0 _ _ _ _) rfl rfl (by decide +kernel) ⟨Nat.le_of_ble_eq_true rfl, Nat.le_of_ble_eq_true rfl⟩ ⟨Nat.zero_le _, Nat.zero_le _⟩ rfl rfl (Nat.le_of_ble_eq_true rfl) dX7_weigh_7 ?_
  refine X_ifeq C (tgt := 24) (by decide) dX7_weigh_10 h (fun h => ?_) (fun h => ?_)
  · refine X_loc (vs1 := []) [] rfl ?_
    exact wj_m_weigh_24 C h hret
  · refine X_iload_n C 2 rfl rfl dX7_weigh_13 ?_
    refine X_iconst (v := 0) C (by decide) dX7_weigh_14 ?_
    refine X_sipush (v := 1000) C (by decide) dX7_weigh_15 ?_
    obtain ⟨o3, eo3, h⟩ := bnd_some h
    refine X_callSi C (n := 3) (As := [.int a1, .int (0 : Int32), .int (1000 : Int32)]) (c_m_in eo3) gX7_weigh_X7_in rfl rfl rfl (by decide +kernel) ⟨Nat.le_of_ble_eq_true rfl, Nat.le_of_ble_eq_true rfl⟩ ⟨Nat.zero_le _, Nat.zero_le _⟩ rfl rfl (Nat.le_of_ble_eq_true rfl) dX7_weigh_18 ?_
    refine X_ifne C (tgt := 26) (by decide) dX7_weigh_21 h (fun h => ?_) (fun h => ?_)
    · refine X_aload_n C 0 rfl rfl dX7_weigh_26 ?_
      refine X_get C 0 5 hi7_m_weigh hf20_m_weigh (me_0 _ _ _ _) rfl (by decide) rfl dX7_weigh_27 ?_
      refine X_iload_n C 1 rfl rfl dX7_weigh_30 ?_
      refine X_iald C 3 (me_3 _ _ _ _) h dX7_weigh_31 (fun h => ?_)
      refine X_istore_n (vs1 := [(3, .int (σ1.2 3 (jix a0))), (0, .ref (ad 0)), (1, .int a0), (2, .int a1)]) C rfl (by decide) rfl dX7_weigh_32 ?_
      refine X_aload_n C 1 rfl rfl dX7_weigh_33 ?_
      refine X_get C 0 5 hi7_m_weigh hf20_m_weigh (me_0 _ _ _ _) rfl (by decide) rfl dX7_weigh_34 ?_
      refine X_iload_n C 2 rfl rfl dX7_weigh_37 ?_
      refine X_iload_n C 3 rfl rfl dX7_weigh_38 ?_
      refine X_iast C 3 (me_3 _ _ _ _) (ma_3 _ _ _ _ _) h dX7_weigh_39 (fun h => ?_)
      refine X_nam (G := fun σ4 => XW l D K 0 0 (wM cs ad σ4 rest) 40 [(3, .int (σ1.2 3 (jix a0))), (0, .ref (ad 0)), (1, .int a0), (2, .int a1)] []) h (fun σ4 h => ?_)
      refine X_iload_n C 0 rfl rfl dX7_weigh_40 ?_
      obtain rfl := Option.some.inj h
      exact hret _ _ dX7_weigh_41
    · refine X_loc (vs1 := []) [] rfl ?_
      exact wj_m_weigh_24 C h hret

abbrev rm_m_turn : Room := { frames := 2, cells := 0, slots := 0, locals := 43 }
def f_m_turn (n : Nat) (σ : ST) (a0 : Int32) : Option (Int32 × ST) :=
  nam (sS σ 0 (0 : Int32)) fun σ1 =>
  bnd (f_m_isArc n σ1 a0) fun o2 =>
  if o2 = 0 then
    some ((0 : Int32), σ1)
  else
    grd (jin a0 16) <|
    grd (jin a0 16) <|
    grd (jin a0 16) <|
    nam (sA σ1 1 (upd (σ1.2 1) (jix a0) (σ1.2 2 (jix a0)))) fun σ3 =>
    grd (jin a0 16) <|
    nam (sA σ3 2 (upd (σ3.2 2) (jix a0) (σ1.2 1 (jix a0)))) fun σ4 =>
    bnd (f_m_changed σ4) fun o5 =>
    some ((1 : Int32), o5)
theorem hf17_m_turn : Cond.fieldLink RX7 17 (TX7 4).1 (TX7 4).2.1 (TX7 4).2.2.1 ∈ wsX7_turn := by decide +kernel
theorem hf13_m_turn : Cond.fieldLink RX7 13 (TX7 3).1 (TX7 3).2.1 (TX7 3).2.2.1 ∈ wsX7_turn := by decide +kernel
theorem hf85_m_turn : Cond.fieldLink RX7 85 (TX7 0).1 (TX7 0).2.1 (TX7 0).2.2.1 ∈ wsX7_turn := by decide +kernel
theorem hi7_m_turn : ∀ w ∈ u_ws RX7 TX7 34, w ∈ wsX7_turn := by decide +kernel
set_option maxHeartbeats 4000000 in
set_option maxRecDepth 100000 in
theorem c_m_turn {l : Launch} {D : va_G} {cs : Nat → ClassId} {ad : Nat → Nat} {rest : va_W} {n : Nat} {σ : ST} {a0 : Int32} {o : Int32 × ST} (h : f_m_turn n σ a0 = some o) : CTi l D cs yX7_turn wsX7_turn rm_m_turn [.ref (ad 0), .int a0] (wM cs ad σ rest) o.1 (wM cs ad o.2 rest) := by
  refine CTz_of (cc := cX7_turn) (nL := 3) (by decide) rfl (Nat.le_of_ble_eq_true rfl) ?_
  intro K C hret
  unfold f_m_turn at h
  refine X_loc (vs1 := [(0, .ref (ad 0)), (1, .int a0)]) [0, 1] rfl ?_
  refine X_aload_n C 0 rfl rfl dX7_turn_0 ?_
  refine X_iconst (v := 0) C (by decide) dX7_turn_1 ?_
  refine X_put (ty := .int) C 0 0 hi7_m_turn hf85_m_turn tyX7 tyX7_ok nmX7 (me_0 _ _ _ _) rfl (by decide) rfl (by decide +kernel) rfl rfl (Nat.le_of_ble_eq_true rfl) (ms_0_0 _ _ _ _ _) dX7_turn_2 ?_
  refine X_nam (G := fun σ1 => XW l D K 0 0 (wM cs ad σ1 rest) 5 [(0, .ref (ad 0)), (1, .int a0)] []) h (fun σ1 h => ?_)
  refine X_aload_n C 0 rfl rfl dX7_turn_5 ?_
  refine X_iload_n C 1 rfl rfl dX7_turn_6 ?_
  obtain ⟨o2, eo2, h⟩ := bnd_some h
  refine X_callVi C (n := 1) (As := [.int a0]) (c_m_isArc eo2) rfl gX7_turn_X7_isArc rfl rfl (me_0 _ _ _ _) rfl rfl (by decide +kernel) ⟨Nat.le_of_ble_eq_true rfl, Nat.le_of_ble_eq_true rfl⟩ ⟨Nat.zero_le _, Nat.zero_le _⟩ rfl rfl (Nat.le_of_ble_eq_true rfl) dX7_turn_7 ?_
  refine X_ifne C (tgt := 15) (by decide) dX7_turn_10 h (fun h => ?_) (fun h => ?_)
  · refine X_aload_n C 0 rfl rfl dX7_turn_15 ?_
    refine X_get C 0 3 hi7_m_turn hf13_m_turn (me_0 _ _ _ _) rfl (by decide) rfl dX7_turn_16 ?_
    refine X_iload_n C 1 rfl rfl dX7_turn_19 ?_
    refine X_iald C 1 (me_1 _ _ _ _) h dX7_turn_20 (fun h => ?_)
    refine X_istore_n (vs1 := [(2, .int (σ1.2 1 (jix a0))), (0, .ref (ad 0)), (1, .int a0)]) C rfl (by decide) rfl dX7_turn_21 ?_
    refine X_aload_n C 1 rfl rfl dX7_turn_22 ?_
    refine X_get C 0 3 hi7_m_turn hf13_m_turn (me_0 _ _ _ _) rfl (by decide) rfl dX7_turn_23 ?_
    refine X_iload_n C 2 rfl rfl dX7_turn_26 ?_
    refine X_aload_n C 1 rfl rfl dX7_turn_27 ?_
    refine X_get C 0 4 hi7_m_turn hf17_m_turn (me_0 _ _ _ _) rfl (by decide) rfl dX7_turn_28 ?_
    refine X_iload_n C 2 rfl rfl dX7_turn_31 ?_
    refine X_iald C 2 (me_2 _ _ _ _) h dX7_turn_32 (fun h => ?_)
    refine X_iast C 1 (me_1 _ _ _ _) (ma_1 _ _ _ _ _) h dX7_turn_33 (fun h => ?_)
    refine X_nam (G := fun σ3 => XW l D K 0 0 (wM cs ad σ3 rest) 34 [(2, .int (σ1.2 1 (jix a0))), (0, .ref (ad 0)), (1, .int a0)] []) h (fun σ3 h => ?_)
    refine X_aload_n C 1 rfl rfl dX7_turn_34 ?_
    refine X_get C 0 4 hi7_m_turn hf17_m_turn (me_0 _ _ _ _) rfl (by decide) rfl dX7_turn_35 ?_
    refine X_iload_n C 2 rfl rfl dX7_turn_38 ?_
    refine X_iload_n C 0 rfl rfl dX7_turn_39 ?_
    refine X_iast C 2 (me_2 _ _ _ _) (ma_2 _ _ _ _ _) h dX7_turn_40 (fun h => ?_)
    refine X_nam (G := fun σ4 => XW l D K 0 0 (wM cs ad σ4 rest) 41 [(2, .int (σ1.2 1 (jix a0))), (0, .ref (ad 0)), (1, .int a0)] []) h (fun σ4 h => ?_)
    refine X_aload_n C 1 rfl rfl dX7_turn_41 ?_
    obtain ⟨o5, eo5, h⟩ := bnd_some h
    refine X_callVv C (n := 0) (As := []) (c_m_changed eo5) rfl gX7_turn_X7_changed rfl rfl (me_0 _ _ _ _) rfl rfl (by decide +kernel) ⟨Nat.le_of_ble_eq_true rfl, Nat.le_of_ble_eq_true rfl⟩ ⟨Nat.zero_le _, Nat.zero_le _⟩ rfl rfl (Nat.le_of_ble_eq_true rfl) dX7_turn_42 ?_
    refine X_iconst (v := 1) C (by decide) dX7_turn_45 ?_
    obtain rfl := Option.some.inj h
    exact hret _ _ jz_1 dX7_turn_46
  · refine X_iconst (v := 0) C (by decide) dX7_turn_13 ?_
    obtain rfl := Option.some.inj h
    exact hret _ _ jz_0 dX7_turn_14

abbrev rm_m_join : Room := { frames := 2, cells := 0, slots := 0, locals := 43 }
def j_m_join_26 (n : Nat) (σ : ST) : Option (Int32 × ST) :=
  some ((-1 : Int32), σ)
def b_m_join_30 (n : Nat) (v1 : Int32) (v2 : Int32) (s : ST × Int32) : Option ((ST × Int32) ⊕ (ST)) :=
  if (s.1.1 2) ≤ s.2 then
    some (.inr s.1)
  else
    grd (jin s.2 16) <|
    bnd (f_m_joined n (s.1.2 1 (jix s.2)) v1 v2) fun o4 =>
    grd (jin s.2 16) <|
    nam (sA s.1 1 (upd (s.1.2 1) (jix s.2) o4)) fun σ5 =>
    grd (jin s.2 16) <|
    bnd (f_m_joined n (σ5.2 2 (jix s.2)) v1 v2) fun o6 =>
    grd (jin s.2 16) <|
    nam (sA σ5 2 (upd (σ5.2 2) (jix s.2) o6)) fun σ7 =>
    some (.inl (σ7, s.2 + (1 : Int32)))
def f_m_join (n : Nat) (σ : ST) (a0 : Int32) (a1 : Int32) : Option (Int32 × ST) :=
  nam (sS σ 0 (0 : Int32)) fun σ1 =>
  bnd (f_m_isNode n σ1 a0) fun o2 =>
  if o2 = 0 then
    j_m_join_26 n σ1
  else
    bnd (f_m_isNode n σ1 a1) fun o3 =>
    if o3 = 0 then
      j_m_join_26 n σ1
    else
      if a0 = a1 then
        j_m_join_26 n σ1
      else
        bnd (lp (b_m_join_30 n a0 a1) n (σ1, (0 : Int32))) fun e8 =>
        nam (sS e8 1 ((e8.1 1) - (1 : Int32))) fun σ9 =>
        bnd (f_m_changed σ9) fun o10 =>
        some (o10.1 1, o10)
theorem hf7_m_join : Cond.fieldLink RX7 7 (TX7 1).1 (TX7 1).2.1 (TX7 1).2.2.1 ∈ wsX7_join := by decide +kernel
theorem hf17_m_join : Cond.fieldLink RX7 17 (TX7 4).1 (TX7 4).2.1 (TX7 4).2.2.1 ∈ wsX7_join := by decide +kernel
theorem hf13_m_join : Cond.fieldLink RX7 13 (TX7 3).1 (TX7 3).2.1 (TX7 3).2.2.1 ∈ wsX7_join := by decide +kernel
theorem hf95_m_join : Cond.fieldLink RX7 95 (TX7 2).1 (TX7 2).2.1 (TX7 2).2.2.1 ∈ wsX7_join := by decide +kernel
theorem hf85_m_join : Cond.fieldLink RX7 85 (TX7 0).1 (TX7 0).2.1 (TX7 0).2.2.1 ∈ wsX7_join := by decide +kernel
theorem hi7_m_join : ∀ w ∈ u_ws RX7 TX7 34, w ∈ wsX7_join := by decide +kernel
set_option maxHeartbeats 4000000 in
set_option maxRecDepth 100000 in
theorem wj_m_join_26 {l : Launch} {D : va_G} {cs : Nat → ClassId} {K : XK} {ad : Nat → Nat} {rest : va_W} (C : XC D cs K 4 rm_m_join cX7_join RX7 wsX7_join (some .int)) {n : Nat} {σ : ST} {o : Int32 × ST} (h : j_m_join_26 n σ = some o) (hret : XRi l D K cX7_join o.1 (wM cs ad o.2 rest)) : XW l D K 0 0 (wM cs ad σ rest) 26 [] [] := by
  unfold j_m_join_26 at h
  refine X_iconst (v := (-1)) C (by decide) dX7_join_26 ?_
  obtain rfl := Option.some.inj h
  exact hret _ _ dX7_join_27
set_option maxHeartbeats 4000000 in
set_option maxRecDepth 100000 in
theorem wb_m_join_30 {l : Launch} {D : va_G} {cs : Nat → ClassId} {K : XK} {ad : Nat → Nat} {rest : va_W} (C : XC D cs K 4 rm_m_join cX7_join RX7 wsX7_join (some .int)) {n : Nat} {v1 : Int32} {v2 : Int32} {e : (ST)} (kx : ∀ (t : ST), e = t → XW l D K 0 0 (wM cs ad t rest) 78 [(0, .ref (ad 0))] []) : ∀ (q : Nat) (s : ST × Int32), lp (b_m_join_30 n v1 v2) q s = some e → XW l D K 0 0 (wM cs ad s.1 rest) 30 [(0, .ref (ad 0)), (1, .int v1), (2, .int v2), (3, .int s.2)] [] := by
  refine lp_walk (G := fun (s : ST × Int32) => XW l D K 0 0 (wM cs ad s.1 rest) 30 [(0, .ref (ad 0)), (1, .int v1), (2, .int v2), (3, .int s.2)] []) ?_
  intro s o h kin kex
  unfold b_m_join_30 at h
  refine X_iload_n C 3 rfl rfl dX7_join_30 ?_
  refine X_aload_n C 0 rfl rfl dX7_join_31 ?_
  refine X_get C 0 2 hi7_m_join hf95_m_join (me_0 _ _ _ _) rfl (by decide) rfl dX7_join_32 ?_
  refine X_icmpge C (tgt := 78) (by decide) dX7_join_35 h (fun h => ?_) (fun h => ?_)
  · obtain rfl := Option.some.inj h
    refine X_loc (vs1 := [(0, .ref (ad 0))]) [0] rfl ?_
    exact kx _ (kex _ rfl).symm
  · refine X_aload_n C 0 rfl rfl dX7_join_38 ?_
    refine X_get C 0 3 hi7_m_join hf13_m_join (me_0 _ _ _ _) rfl (by decide) rfl dX7_join_39 ?_
    refine X_iload_n C 3 rfl rfl dX7_join_42 ?_
    refine X_aload_n C 0 rfl rfl dX7_join_43 ?_
    refine X_get C 0 3 hi7_m_join hf13_m_join (me_0 _ _ _ _) rfl (by decide) rfl dX7_join_44 ?_
    refine X_iload_n C 3 rfl rfl dX7_join_47 ?_
    refine X_iald C 1 (me_1 _ _ _ _) h dX7_join_48 (fun h => ?_)
    refine X_iload_n C 1 rfl rfl dX7_join_49 ?_
    refine X_iload_n C 2 rfl rfl dX7_join_50 ?_
    obtain ⟨o4, eo4, h⟩ := bnd_some h
    refine X_callSi C (n := 3) (As := [.int (s.1.2 1 (jix s.2)), .int v1, .int v2]) (c_m_joined eo4) gX7_join_X7_joined rfl rfl rfl (by decide +kernel) ⟨Nat.le_of_ble_eq_true rfl, Nat.le_of_ble_eq_true rfl⟩ ⟨Nat.zero_le _, Nat.zero_le _⟩ rfl rfl (Nat.le_of_ble_eq_true rfl) dX7_join_51 ?_
    refine X_iast C 1 (me_1 _ _ _ _) (ma_1 _ _ _ _ _) h dX7_join_54 (fun h => ?_)
    refine X_nam (G := fun σ5 => XW l D K 0 0 (wM cs ad σ5 rest) 55 [(0, .ref (ad 0)), (1, .int v1), (2, .int v2), (3, .int s.2)] []) h (fun σ5 h => ?_)
    refine X_aload_n C 0 rfl rfl dX7_join_55 ?_
    refine X_get C 0 4 hi7_m_join hf17_m_join (me_0 _ _ _ _) rfl (by decide) rfl dX7_join_56 ?_
    refine X_iload_n C 3 rfl rfl dX7_join_59 ?_
    refine X_aload_n C 0 rfl rfl dX7_join_60 ?_
    refine X_get C 0 4 hi7_m_join hf17_m_join (me_0 _ _ _ _) rfl (by decide) rfl dX7_join_61 ?_
    refine X_iload_n C 3 rfl rfl dX7_join_64 ?_
    refine X_iald C 2 (me_2 _ _ _ _) h dX7_join_65 (fun h => ?_)
    refine X_iload_n C 1 rfl rfl dX7_join_66 ?_
    refine X_iload_n C 2 rfl rfl dX7_join_67 ?_
    obtain ⟨o6, eo6, h⟩ := bnd_some h
    refine X_callSi C (n := 3) (As := [.int (σ5.2 2 (jix s.2)), .int v1, .int v2]) (c_m_joined eo6) gX7_join_X7_joined rfl rfl rfl (by decide +kernel) ⟨Nat.le_of_ble_eq_true rfl, Nat.le_of_ble_eq_true rfl⟩ ⟨Nat.zero_le _, Nat.zero_le _⟩ rfl rfl (Nat.le_of_ble_eq_true rfl) dX7_join_68 ?_
    refine X_iast C 2 (me_2 _ _ _ _) (ma_2 _ _ _ _ _) h dX7_join_71 (fun h => ?_)
    refine X_nam (G := fun σ7 => XW l D K 0 0 (wM cs ad σ7 rest) 72 [(0, .ref (ad 0)), (1, .int v1), (2, .int v2), (3, .int s.2)] []) h (fun σ7 h => ?_)
    refine X_iinc (v := s.2 + (1 : Int32)) (vs1 := [(3, .int (s.2 + (1 : Int32))), (0, .ref (ad 0)), (1, .int v1), (2, .int v2)]) C 3 rfl rfl (by decide) rfl dX7_join_72 ?_
    refine X_goto C (tgt := 30) (by decide) dX7_join_75 ?_
    obtain rfl := Option.some.inj h
    refine X_loc (vs1 := [(0, .ref (ad 0)), (1, .int v1), (2, .int v2), (3, .int (s.2 + (1 : Int32)))]) [1, 2, 3, 0] rfl ?_
    exact kin _ rfl
set_option maxHeartbeats 4000000 in
set_option maxRecDepth 100000 in
theorem c_m_join {l : Launch} {D : va_G} {cs : Nat → ClassId} {ad : Nat → Nat} {rest : va_W} {n : Nat} {σ : ST} {a0 : Int32} {a1 : Int32} {o : Int32 × ST} (h : f_m_join n σ a0 a1 = some o) : CTi l D cs yX7_join wsX7_join rm_m_join [.ref (ad 0), .int a0, .int a1] (wM cs ad σ rest) o.1 (wM cs ad o.2 rest) := by
  refine CTi_of (cc := cX7_join) (nL := 4) (by decide) rfl (Nat.le_of_ble_eq_true rfl) ?_
  intro K C hret
  unfold f_m_join at h
  refine X_loc (vs1 := [(0, .ref (ad 0)), (1, .int a0), (2, .int a1)]) [0, 1, 2] rfl ?_
  refine X_aload_n C 0 rfl rfl dX7_join_0 ?_
  refine X_iconst (v := 0) C (by decide) dX7_join_1 ?_
  refine X_put (ty := .int) C 0 0 hi7_m_join hf85_m_join tyX7 tyX7_ok nmX7 (me_0 _ _ _ _) rfl (by decide) rfl (by decide +kernel) rfl rfl (Nat.le_of_ble_eq_true rfl) (ms_0_0 _ _ _ _ _) dX7_join_2 ?_
  refine X_nam (G := fun σ1 => XW l D K 0 0 (wM cs ad σ1 rest) 5 [(0, .ref (ad 0)), (1, .int a0), (2, .int a1)] []) h (fun σ1 h => ?_)
  refine X_aload_n C 0 rfl rfl dX7_join_5 ?_
  refine X_iload_n C 1 rfl rfl dX7_join_6 ?_
  obtain ⟨o2, eo2, h⟩ := bnd_some h
  refine X_callVi C (n := 1) (As := [.int a0]) (c_m_isNode eo2) rfl gX7_join_X7_isNode rfl rfl (me_0 _ _ _ _) rfl rfl (by decide +kernel) ⟨Nat.le_of_ble_eq_true rfl, Nat.le_of_ble_eq_true rfl⟩ ⟨Nat.zero_le _, Nat.zero_le _⟩ rfl rfl (Nat.le_of_ble_eq_true rfl) dX7_join_7 ?_
  refine X_ifeq C (tgt := 26) (by decide) dX7_join_10 h (fun h => ?_) (fun h => ?_)
  · refine X_loc (vs1 := []) [] rfl ?_
    exact wj_m_join_26 C h hret
  · refine X_aload_n C 0 rfl rfl dX7_join_13 ?_
    refine X_iload_n C 2 rfl rfl dX7_join_14 ?_
    obtain ⟨o3, eo3, h⟩ := bnd_some h
    refine X_callVi C (n := 1) (As := [.int a1]) (c_m_isNode eo3) rfl gX7_join_X7_isNode rfl rfl (me_0 _ _ _ _) rfl rfl (by decide +kernel) ⟨Nat.le_of_ble_eq_true rfl, Nat.le_of_ble_eq_true rfl⟩ ⟨Nat.zero_le _, Nat.zero_le _⟩ rfl rfl (Nat.le_of_ble_eq_true rfl) dX7_join_15 ?_
    refine X_ifeq C (tgt := 26) (by decide) dX7_join_18 h (fun h => ?_) (fun h => ?_)
    · refine X_loc (vs1 := []) [] rfl ?_
      exact wj_m_join_26 C h hret
    · refine X_iload_n C 1 rfl rfl dX7_join_21 ?_
      refine X_iload_n C 2 rfl rfl dX7_join_22 ?_
      refine X_icmpne C (tgt := 28) (by decide) dX7_join_23 h (fun h => ?_) (fun h => ?_)
      · refine X_iconst (v := 0) C (by decide) dX7_join_28 ?_
        refine X_istore_n (vs1 := [(3, .int (0 : Int32)), (0, .ref (ad 0)), (1, .int a0), (2, .int a1)]) C rfl (by decide) rfl dX7_join_29 ?_
        obtain ⟨e8, he8, h⟩ := bnd_some h
        refine X_loc (vs1 := [(0, .ref (ad 0)), (1, .int a0), (2, .int a1), (3, .int (0 : Int32))]) [1, 2, 3, 0] rfl ?_
        refine wb_m_join_30 C (e := e8) (fun t ht => ?_) n _ he8
        subst ht
        refine X_aload_n C 0 rfl rfl dX7_join_78 ?_
        refine X_dup C rfl dX7_join_79 ?_
        refine X_get C 0 1 hi7_m_join hf7_m_join (me_0 _ _ _ _) rfl (by decide) rfl dX7_join_80 ?_
        refine X_iconst (v := 1) C (by decide) dX7_join_83 ?_
        refine X_isub C dX7_join_84 ?_
        refine X_put (ty := .int) C 0 1 hi7_m_join hf7_m_join tyX7 tyX7_ok nmX7 (me_0 _ _ _ _) rfl (by decide) rfl (by decide +kernel) rfl rfl (Nat.le_of_ble_eq_true rfl) (ms_0_1 _ _ _ _ _) dX7_join_85 ?_
        refine X_nam (G := fun σ9 => XW l D K 0 0 (wM cs ad σ9 rest) 88 [(0, .ref (ad 0))] []) h (fun σ9 h => ?_)
        refine X_aload_n C 0 rfl rfl dX7_join_88 ?_
        obtain ⟨o10, eo10, h⟩ := bnd_some h
        refine X_callVv C (n := 0) (As := []) (c_m_changed eo10) rfl gX7_join_X7_changed rfl rfl (me_0 _ _ _ _) rfl rfl (by decide +kernel) ⟨Nat.le_of_ble_eq_true rfl, Nat.le_of_ble_eq_true rfl⟩ ⟨Nat.zero_le _, Nat.zero_le _⟩ rfl rfl (Nat.le_of_ble_eq_true rfl) dX7_join_89 ?_
        refine X_aload_n C 0 rfl rfl dX7_join_92 ?_
        refine X_get C 0 1 hi7_m_join hf7_m_join (me_0 _ _ _ _) rfl (by decide) rfl dX7_join_93 ?_
        obtain rfl := Option.some.inj h
        exact hret _ _ dX7_join_96
      · refine X_loc (vs1 := []) [] rfl ?_
        exact wj_m_join_26 C h hret
