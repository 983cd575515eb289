abbrev rm_m_oftenAtMost : Room := { frames := 1, cells := 0, slots := 0, locals := 22 }
def j_m_oftenAtMost_45_5 (n : Nat) (σ : ST) (v1 : Int32) (v2 : Int32) (v4 : Int32) (t0 : Int32) : Option ((Int32 × Int32) ⊕ (Int32)) :=
  some (.inl (t0, v4 + (1 : Int32)))
def j_m_oftenAtMost_44_5 (n : Nat) (σ : ST) (v1 : Int32) (v2 : Int32) (v3 : Int32) (v4 : Int32) : Option ((Int32 × Int32) ⊕ (Int32)) :=
  j_m_oftenAtMost_45_5 n σ v1 v2 v4 v3
def b_m_oftenAtMost_5 (n : Nat) (σ : ST) (v1 : Int32) (v2 : Int32) (s : Int32 × Int32) : Option ((Int32 × Int32) ⊕ (Int32)) :=
  if (σ.1 2) ≤ s.2 then
    some (.inr s.1)
  else
    if ((jshr v1 s.2) &&& (1 : Int32)) = 0 then
      j_m_oftenAtMost_44_5 n σ v1 v2 s.1 s.2
    else
      grd (jin s.2 16) <|
      if s.1 ≤ (σ.2 23 (jix s.2)) then
        j_m_oftenAtMost_44_5 n σ v1 v2 s.1 s.2
      else
        grd (jin s.2 16) <|
        j_m_oftenAtMost_45_5 n σ v1 v2 s.2 (σ.2 23 (jix s.2))
def j_m_oftenAtMost_114_55 (n : Nat) (σ : ST) (v1 : Int32) (v2 : Int32) (v3 : Int32) (v4 : Int32) : Option ((Int32 × Int32) ⊕ (Int32)) :=
  some (.inl (v3, v4 + (1 : Int32)))
def b_m_oftenAtMost_55 (n : Nat) (σ : ST) (v1 : Int32) (v2 : Int32) (s : Int32 × Int32) : Option ((Int32 × Int32) ⊕ (Int32)) :=
  if (σ.1 29) ≤ s.2 then
    some (.inr s.1)
  else
    grd (jin s.2 13000) <|
    bnd (f_m_ones n ((σ.2 21 (jix s.2)) &&& v1)) fun o2 =>
    if (o2 - (1 : Int32)) ≤ 0 then
      j_m_oftenAtMost_114_55 n σ v1 v2 s.1 s.2
    else
      grd (jin s.2 13000) <|
      grd (!decide ((o2 - (1 : Int32)) = 0)) <|
      if s.1 ≤ (((σ.2 22 (jix s.2)) - v2) / (o2 - (1 : Int32))) then
        j_m_oftenAtMost_114_55 n σ v1 v2 s.1 s.2
      else
        grd (jin s.2 13000) <|
        grd (!decide ((o2 - (1 : Int32)) = 0)) <|
        nam (((σ.2 22 (jix s.2)) - v2) / (o2 - (1 : Int32))) fun x3 =>
        j_m_oftenAtMost_114_55 n σ v1 v2 x3 s.2
def f_m_oftenAtMost (n : Nat) (σ : ST) (a0 : Int32) (a1 : Int32) : Option (Int32) :=
  bnd (lp (b_m_oftenAtMost_5 n σ a0 a1) n (a1, (0 : Int32))) fun e1 =>
  bnd (lp (b_m_oftenAtMost_55 n σ a0 a1) n (e1, (0 : Int32))) fun e4 =>
  some e4
theorem hf79_m_oftenAtMost : Cond.fieldLink RX7 79 (TX7 32).1 (TX7 32).2.1 (TX7 32).2.2.1 ∈ wsX7_oftenAtMost := by decide +kernel
theorem hf76_m_oftenAtMost : Cond.fieldLink RX7 76 (TX7 30).1 (TX7 30).2.1 (TX7 30).2.2.1 ∈ wsX7_oftenAtMost := by decide +kernel
theorem hf116_m_oftenAtMost : Cond.fieldLink RX7 116 (TX7 29).1 (TX7 29).2.1 (TX7 29).2.2.1 ∈ wsX7_oftenAtMost := by decide +kernel
theorem hf82_m_oftenAtMost : Cond.fieldLink RX7 82 (TX7 33).1 (TX7 33).2.1 (TX7 33).2.2.1 ∈ wsX7_oftenAtMost := by decide +kernel
theorem hf95_m_oftenAtMost : Cond.fieldLink RX7 95 (TX7 2).1 (TX7 2).2.1 (TX7 2).2.2.1 ∈ wsX7_oftenAtMost := by decide +kernel
theorem hi7_m_oftenAtMost : ∀ w ∈ u_ws RX7 TX7 34, w ∈ wsX7_oftenAtMost := by decide +kernel
set_option maxHeartbeats 4000000 in
set_option maxRecDepth 100000 in
theorem wj_m_oftenAtMost_45_5 {l : Launch} {D : va_G} {cs : Nat → ClassId} {K : XK} {ad : Nat → Nat} {rest : va_W} (C : XC D cs K 6 rm_m_oftenAtMost cX7_oftenAtMost RX7 wsX7_oftenAtMost (some .int)) {n : Nat} {σ : ST} {v1 : Int32} {v2 : Int32} {v4 : Int32} {t0 : Int32} {o : (Int32 × Int32) ⊕ (Int32)} {e : (Int32)} (h : j_m_oftenAtMost_45_5 n σ v1 v2 v4 t0 = some o) (kin : ∀ (s : Int32 × Int32), o = .inl s → XW l D K 0 0 (wM cs ad σ rest) 5 [(0, .ref (ad 0)), (1, .int v1), (2, .int v2), (3, .int s.1), (4, .int s.2)] []) (kex : ∀ e1, o = .inr e1 → e1 = e) (kx : ∀ (t : Int32), e = t → XW l D K 0 0 (wM cs ad σ rest) 52 [(0, .ref (ad 0)), (1, .int v1), (2, .int v2), (3, .int t)] []) : XW l D K 0 0 (wM cs ad σ rest) 45 [(0, .ref (ad 0)), (1, .int v1), (2, .int v2), (4, .int v4)] [.int t0] := by
  unfold j_m_oftenAtMost_45_5 at h
  refine X_istore_n (vs1 := [(3, .int t0), (0, .ref (ad 0)), (1, .int v1), (2, .int v2), (4, .int v4)]) C rfl (by decide) rfl dX7_oftenAtMost_45 ?_
  refine X_iinc (v := v4 + (1 : Int32)) (vs1 := [(4, .int (v4 + (1 : Int32))), (3, .int t0), (0, .ref (ad 0)), (1, .int v1), (2, .int v2)]) C 4 rfl rfl (by decide) rfl dX7_oftenAtMost_46 ?_
  refine X_goto C (tgt := 5) (by decide) dX7_oftenAtMost_49 ?_
  obtain rfl := Option.some.inj h
  refine X_loc (vs1 := [(0, .ref (ad 0)), (1, .int v1), (2, .int v2), (3, .int t0), (4, .int (v4 + (1 : Int32)))]) [2, 3, 4, 1, 0] rfl ?_
  exact kin _ rfl
set_option maxHeartbeats 4000000 in
set_option maxRecDepth 100000 in
theorem wj_m_oftenAtMost_44_5 {l : Launch} {D : va_G} {cs : Nat → ClassId} {K : XK} {ad : Nat → Nat} {rest : va_W} (C : XC D cs K 6 rm_m_oftenAtMost cX7_oftenAtMost RX7 wsX7_oftenAtMost (some .int)) {n : Nat} {σ : ST} {v1 : Int32} {v2 : Int32} {v3 : Int32} {v4 : Int32} {o : (Int32 × Int32) ⊕ (Int32)} {e : (Int32)} (h : j_m_oftenAtMost_44_5 n σ v1 v2 v3 v4 = some o) (kin : ∀ (s : Int32 × Int32), o = .inl s → XW l D K 0 0 (wM cs ad σ rest) 5 [(0, .ref (ad 0)), (1, .int v1), (2, .int v2), (3, .int s.1), (4, .int s.2)] []) (kex : ∀ e1, o = .inr e1 → e1 = e) (kx : ∀ (t : Int32), e = t → XW l D K 0 0 (wM cs ad σ rest) 52 [(0, .ref (ad 0)), (1, .int v1), (2, .int v2), (3, .int t)] []) : XW l D K 0 0 (wM cs ad σ rest) 44 [(0, .ref (ad 0)), (1, .int v1), (2, .int v2), (3, .int v3), (4, .int v4)] [] := by
  unfold j_m_oftenAtMost_44_5 at h
  refine X_iload_n C 3 rfl rfl dX7_oftenAtMost_44 ?_
  refine X_loc (vs1 := [(0, .ref (ad 0)), (1, .int v1), (2, .int v2), (4, .int v4)]) [0, 1, 2, 4] rfl ?_
  exact wj_m_oftenAtMost_45_5 C h kin kex kx
set_option maxHeartbeats 4000000 in
set_option maxRecDepth 100000 in
theorem wb_m_oftenAtMost_5 {l : Launch} {D : va_G} {cs : Nat → ClassId} {K : XK} {ad : Nat → Nat} {rest : va_W} (C : XC D cs K 6 rm_m_oftenAtMost cX7_oftenAtMost RX7 wsX7_oftenAtMost (some .int)) {n : Nat} {σ : ST} {v1 : Int32} {v2 : Int32} {e : (Int32)} (kx : ∀ (t : Int32), e = t → XW l D K 0 0 (wM cs ad σ rest) 52 [(0, .ref (ad 0)), (1, .int v1), (2, .int v2), (3, .int t)] []) : ∀ (q : Nat) (s : Int32 × Int32), lp (b_m_oftenAtMost_5 n σ v1 v2) q s = some e → XW l D K 0 0 (wM cs ad σ rest) 5 [(0, .ref (ad 0)), (1, .int v1), (2, .int v2), (3, .int s.1), (4, .int s.2)] [] := by
  refine lp_walk (G := fun (s : Int32 × Int32) => XW l D K 0 0 (wM cs ad σ rest) 5 [(0, .ref (ad 0)), (1, .int v1), (2, .int v2), (3, .int s.1), (4, .int s.2)] []) ?_
  intro s o h kin kex
  unfold b_m_oftenAtMost_5 at h
  refine X_iload C 4 rfl dX7_oftenAtMost_5 ?_
  refine X_aload_n C 0 rfl rfl dX7_oftenAtMost_7 ?_
  refine X_get C 0 2 hi7_m_oftenAtMost hf95_m_oftenAtMost (me_0 _ _ _ _) rfl (by decide) rfl dX7_oftenAtMost_8 ?_
  refine X_icmpge C (tgt := 52) (by decide) dX7_oftenAtMost_11 h (fun h => ?_) (fun h => ?_)
  · obtain rfl := Option.some.inj h
    refine X_loc (vs1 := [(0, .ref (ad 0)), (1, .int v1), (2, .int v2), (3, .int s.1)]) [0, 1, 2, 3] rfl ?_
    exact kx _ (kex _ rfl).symm
  · refine X_iload_n C 1 rfl rfl dX7_oftenAtMost_14 ?_
    refine X_iload C 4 rfl dX7_oftenAtMost_15 ?_
    refine X_ishr C dX7_oftenAtMost_17 ?_
    refine X_iconst (v := 1) C (by decide) dX7_oftenAtMost_18 ?_
    refine X_iand C dX7_oftenAtMost_19 ?_
    refine X_ifeq C (tgt := 44) (by decide) dX7_oftenAtMost_20 h (fun h => ?_) (fun h => ?_)
    · exact wj_m_oftenAtMost_44_5 C h kin kex kx
    · refine X_aload_n C 0 rfl rfl dX7_oftenAtMost_23 ?_
      refine X_get C 0 33 hi7_m_oftenAtMost hf82_m_oftenAtMost (me_0 _ _ _ _) rfl (by decide) rfl dX7_oftenAtMost_24 ?_
      refine X_iload C 4 rfl dX7_oftenAtMost_27 ?_
      refine X_iald C 23 (me_23 _ _ _ _) h dX7_oftenAtMost_29 (fun h => ?_)
      refine X_iload_n C 3 rfl rfl dX7_oftenAtMost_30 ?_
      refine X_icmpge C (tgt := 44) (by decide) dX7_oftenAtMost_31 h (fun h => ?_) (fun h => ?_)
      · exact wj_m_oftenAtMost_44_5 C h kin kex kx
      · refine X_aload_n C 0 rfl rfl dX7_oftenAtMost_34 ?_
        refine X_get C 0 33 hi7_m_oftenAtMost hf82_m_oftenAtMost (me_0 _ _ _ _) rfl (by decide) rfl dX7_oftenAtMost_35 ?_
        refine X_iload C 4 rfl dX7_oftenAtMost_38 ?_
        refine X_iald C 23 (me_23 _ _ _ _) h dX7_oftenAtMost_40 (fun h => ?_)
        refine X_goto C (tgt := 45) (by decide) dX7_oftenAtMost_41 ?_
        refine X_loc (vs1 := [(0, .ref (ad 0)), (1, .int v1), (2, .int v2), (4, .int s.2)]) [0, 1, 2, 4] rfl ?_
        exact wj_m_oftenAtMost_45_5 C h kin kex kx
set_option maxHeartbeats 4000000 in
set_option maxRecDepth 100000 in
theorem wj_m_oftenAtMost_114_55 {l : Launch} {D : va_G} {cs : Nat → ClassId} {K : XK} {ad : Nat → Nat} {rest : va_W} (C : XC D cs K 6 rm_m_oftenAtMost cX7_oftenAtMost RX7 wsX7_oftenAtMost (some .int)) {n : Nat} {σ : ST} {v1 : Int32} {v2 : Int32} {v3 : Int32} {v4 : Int32} {o : (Int32 × Int32) ⊕ (Int32)} {e : (Int32)} (h : j_m_oftenAtMost_114_55 n σ v1 v2 v3 v4 = some o) (kin : ∀ (s : Int32 × Int32), o = .inl s → XW l D K 0 0 (wM cs ad σ rest) 55 [(0, .ref (ad 0)), (1, .int v1), (2, .int v2), (3, .int s.1), (4, .int s.2)] []) (kex : ∀ e1, o = .inr e1 → e1 = e) (kx : ∀ (t : Int32), e = t → XW l D K 0 0 (wM cs ad σ rest) 120 [(3, .int t)] []) : XW l D K 0 0 (wM cs ad σ rest) 114 [(0, .ref (ad 0)), (1, .int v1), (2, .int v2), (3, .int v3), (4, .int v4)] [] := by
  unfold j_m_oftenAtMost_114_55 at h
  refine X_iinc (v := v4 + (1 : Int32)) (vs1 := [(4, .int (v4 + (1 : Int32))), (0, .ref (ad 0)), (1, .int v1), (2, .int v2), (3, .int v3)]) C 4 rfl rfl (by decide) rfl dX7_oftenAtMost_114 ?_
  refine X_goto C (tgt := 55) (by decide) dX7_oftenAtMost_117 ?_
  obtain rfl := Option.some.inj h
  refine X_loc (vs1 := [(0, .ref (ad 0)), (1, .int v1), (2, .int v2), (3, .int v3), (4, .int (v4 + (1 : Int32)))]) [1, 2, 3, 4, 0] rfl ?_
  exact kin _ rfl
set_option maxHeartbeats 4000000 in
set_option maxRecDepth 100000 in
theorem wb_m_oftenAtMost_55 {l : Launch} {D : va_G} {cs : Nat → ClassId} {K : XK} {ad : Nat → Nat} {rest : va_W} (C : XC D cs K 6 rm_m_oftenAtMost cX7_oftenAtMost RX7 wsX7_oftenAtMost (some .int)) {n : Nat} {σ : ST} {v1 : Int32} {v2 : Int32} {e : (Int32)} (kx : ∀ (t : Int32), e = t → XW l D K 0 0 (wM cs ad σ rest) 120 [(3, .int t)] []) : ∀ (q : Nat) (s : Int32 × Int32), lp (b_m_oftenAtMost_55 n σ v1 v2) q s = some e → XW l D K 0 0 (wM cs ad σ rest) 55 [(0, .ref (ad 0)), (1, .int v1), (2, .int v2), (3, .int s.1), (4, .int s.2)] [] := by
  refine lp_walk (G := fun (s : Int32 × Int32) => XW l D K 0 0 (wM cs ad σ rest) 55 [(0, .ref (ad 0)), (1, .int v1), (2, .int v2), (3, .int s.1), (4, .int s.2)] []) ?_
  intro s o h kin kex
  unfold b_m_oftenAtMost_55 at h
  refine X_iload C 4 rfl dX7_oftenAtMost_55 ?_
  refine X_aload_n C 0 rfl rfl dX7_oftenAtMost_57 ?_
  refine X_get C 0 29 hi7_m_oftenAtMost hf116_m_oftenAtMost (me_0 _ _ _ _) rfl (by decide) rfl dX7_oftenAtMost_58 ?_
  refine X_icmpge C (tgt := 120) (by decide) dX7_oftenAtMost_61 h (fun h => ?_) (fun h => ?_)
  · obtain rfl := Option.some.inj h
    refine X_loc (vs1 := [(3, .int s.1)]) [3] rfl ?_
    exact kx _ (kex _ rfl).symm
  · refine X_aload_n C 0 rfl rfl dX7_oftenAtMost_64 ?_
    refine X_get C 0 30 hi7_m_oftenAtMost hf76_m_oftenAtMost (me_0 _ _ _ _) rfl (by decide) rfl dX7_oftenAtMost_65 ?_
    refine X_iload C 4 rfl dX7_oftenAtMost_68 ?_
    refine X_iald C 21 (me_21 _ _ _ _) h dX7_oftenAtMost_70 (fun h => ?_)
    refine X_iload_n C 1 rfl rfl dX7_oftenAtMost_71 ?_
    refine X_iand C dX7_oftenAtMost_72 ?_
    obtain ⟨o2, eo2, h⟩ := bnd_some h
    refine X_callSi C (n := 1) (As := [.int ((σ.2 21 (jix s.2)) &&& v1)]) (c_m_ones eo2) gX7_oftenAtMost_X7_ones rfl rfl rfl (by decide +kernel) ⟨Nat.le_of_ble_eq_true rfl, Nat.le_of_ble_eq_true rfl⟩ ⟨Nat.zero_le _, Nat.zero_le _⟩ rfl rfl (Nat.le_of_ble_eq_true rfl) dX7_oftenAtMost_73 ?_
    refine X_iconst (v := 1) C (by decide) dX7_oftenAtMost_76 ?_
    refine X_isub C dX7_oftenAtMost_77 ?_
    refine X_istore (vs1 := [(5, .int (o2 - (1 : Int32))), (0, .ref (ad 0)), (1, .int v1), (2, .int v2), (3, .int s.1), (4, .int s.2)]) C (by decide) rfl dX7_oftenAtMost_78 ?_
    refine X_iload C 0 rfl dX7_oftenAtMost_80 ?_
    refine X_ifle C (tgt := 114) (by decide) dX7_oftenAtMost_82 h (fun h => ?_) (fun h => ?_)
    · refine X_loc (vs1 := [(0, .ref (ad 0)), (1, .int v1), (2, .int v2), (3, .int s.1), (4, .int s.2)]) [1, 2, 3, 4, 5] rfl ?_
      exact wj_m_oftenAtMost_114_55 C h kin kex kx
    · refine X_aload_n C 1 rfl rfl dX7_oftenAtMost_85 ?_
      refine X_get C 0 32 hi7_m_oftenAtMost hf79_m_oftenAtMost (me_0 _ _ _ _) rfl (by decide) rfl dX7_oftenAtMost_86 ?_
      refine X_iload C 5 rfl dX7_oftenAtMost_89 ?_
      refine X_iald C 22 (me_22 _ _ _ _) h dX7_oftenAtMost_91 (fun h => ?_)
      refine X_iload_n C 3 rfl rfl dX7_oftenAtMost_92 ?_
      refine X_isub C dX7_oftenAtMost_93 ?_
      refine X_iload C 0 rfl dX7_oftenAtMost_94 ?_
      refine X_idiv C h dX7_oftenAtMost_96 (fun h => ?_)
      refine X_iload_n C 4 rfl rfl dX7_oftenAtMost_97 ?_
      refine X_icmpge C (tgt := 114) (by decide) dX7_oftenAtMost_98 h (fun h => ?_) (fun h => ?_)
      · refine X_loc (vs1 := [(0, .ref (ad 0)), (1, .int v1), (2, .int v2), (3, .int s.1), (4, .int s.2)]) [1, 2, 3, 4, 5] rfl ?_
        exact wj_m_oftenAtMost_114_55 C h kin kex kx
      · refine X_aload_n C 1 rfl rfl dX7_oftenAtMost_101 ?_
        refine X_get C 0 32 hi7_m_oftenAtMost hf79_m_oftenAtMost (me_0 _ _ _ _) rfl (by decide) rfl dX7_oftenAtMost_102 ?_
        refine X_iload C 5 rfl dX7_oftenAtMost_105 ?_
        refine X_iald C 22 (me_22 _ _ _ _) h dX7_oftenAtMost_107 (fun h => ?_)
        refine X_iload_n C 3 rfl rfl dX7_oftenAtMost_108 ?_
        refine X_isub C dX7_oftenAtMost_109 ?_
        refine X_iload C 0 rfl dX7_oftenAtMost_110 ?_
        refine X_idiv C h dX7_oftenAtMost_112 (fun h => ?_)
        refine X_nam (G := fun x3 => XW l D K 0 0 (wM cs ad σ rest) 113 [(5, .int (o2 - (1 : Int32))), (0, .ref (ad 0)), (1, .int v1), (2, .int v2), (3, .int s.1), (4, .int s.2)] [.int x3]) h (fun x3 h => ?_)
        refine X_istore_n (vs1 := [(3, .int x3), (5, .int (o2 - (1 : Int32))), (0, .ref (ad 0)), (1, .int v1), (2, .int v2), (4, .int s.2)]) C rfl (by decide) rfl dX7_oftenAtMost_113 ?_
        refine X_loc (vs1 := [(0, .ref (ad 0)), (1, .int v1), (2, .int v2), (3, .int x3), (4, .int s.2)]) [2, 3, 4, 0, 5] rfl ?_
        exact wj_m_oftenAtMost_114_55 C h kin kex kx
set_option maxHeartbeats 4000000 in
set_option maxRecDepth 100000 in
theorem c_m_oftenAtMost {l : Launch} {D : va_G} {cs : Nat → ClassId} {ad : Nat → Nat} {rest : va_W} {n : Nat} {σ : ST} {a0 : Int32} {a1 : Int32} {o : Int32} (h : f_m_oftenAtMost n σ a0 a1 = some o) : CTi l D cs yX7_oftenAtMost wsX7_oftenAtMost rm_m_oftenAtMost [.ref (ad 0), .int a0, .int a1] (wM cs ad σ rest) o (wM cs ad σ rest) := by
  refine CTi_of (cc := cX7_oftenAtMost) (nL := 6) (by decide) rfl (Nat.le_of_ble_eq_true rfl) ?_
  intro K C hret
  unfold f_m_oftenAtMost at h
  refine X_loc (vs1 := [(0, .ref (ad 0)), (1, .int a0), (2, .int a1)]) [0, 1, 2] rfl ?_
  refine X_iload_n C 2 rfl rfl dX7_oftenAtMost_0 ?_
  refine X_istore_n (vs1 := [(3, .int a1), (0, .ref (ad 0)), (1, .int a0), (2, .int a1)]) C rfl (by decide) rfl dX7_oftenAtMost_1 ?_
  refine X_iconst (v := 0) C (by decide) dX7_oftenAtMost_2 ?_
  refine X_istore (vs1 := [(4, .int (0 : Int32)), (3, .int a1), (0, .ref (ad 0)), (1, .int a0), (2, .int a1)]) C (by decide) rfl dX7_oftenAtMost_3 ?_
  obtain ⟨e1, he1, h⟩ := bnd_some h
  refine X_loc (vs1 := [(0, .ref (ad 0)), (1, .int a0), (2, .int a1), (3, .int a1), (4, .int (0 : Int32))]) [2, 3, 4, 1, 0] rfl ?_
  refine wb_m_oftenAtMost_5 C (e := e1) (fun t ht => ?_) n _ he1
  subst ht
  refine X_iconst (v := 0) C (by decide) dX7_oftenAtMost_52 ?_
  refine X_istore (vs1 := [(4, .int (0 : Int32)), (0, .ref (ad 0)), (1, .int a0), (2, .int a1), (3, .int e1)]) C (by decide) rfl dX7_oftenAtMost_53 ?_
  obtain ⟨e4, he4, h⟩ := bnd_some h
  refine X_loc (vs1 := [(0, .ref (ad 0)), (1, .int a0), (2, .int a1), (3, .int e1), (4, .int (0 : Int32))]) [1, 2, 3, 4, 0] rfl ?_
  refine wb_m_oftenAtMost_55 C (e := e4) (fun t ht => ?_) n _ he4
  subst ht
  refine X_iload_n C 0 rfl rfl dX7_oftenAtMost_120 ?_
  obtain rfl := Option.some.inj h
  exact hret _ _ dX7_oftenAtMost_121

abbrev rm_m_packing : Room := { frames := 3, cells := 0, slots := 0, locals := 67 }
def j_m_packing_71_22 (n : Nat) (σ : ST) (v2 : Int32) (t0 : Int32) : Option ((ST × Int32 × Int32) ⊕ (ST × Int32)) :=
  some (.inl (σ, t0, v2 + (1 : Int32)))
def j_m_packing_61_22 (n : Nat) (σ : ST) (v2 : Int32) : Option ((ST × Int32 × Int32) ⊕ (ST × Int32)) :=
  grd (jin v2 13000) <|
  j_m_packing_71_22 n σ v2 (σ.2 22 (jix v2))
def b_m_packing_22 (n : Nat) (s : ST × Int32 × Int32) : Option ((ST × Int32 × Int32) ⊕ (ST × Int32)) :=
  if (s.1.1 29) ≤ s.2.2 then
    some (.inr (s.1, s.2.1))
  else
    grd (jin s.2.2 13000) <|
    bnd (f_m_weightOf n s.1 (s.1.2 21 (jix s.2.2))) fun o4 =>
    grd (jin s.2.2 13000) <|
    nam (sA s.1 22 (upd (s.1.2 22) (jix s.2.2) o4)) fun σ5 =>
    if s.2.1 = (-1 : Int32) then
      j_m_packing_61_22 n σ5 s.2.2
    else
      grd (jin s.2.2 13000) <|
      if s.2.1 ≤ (σ5.2 22 (jix s.2.2)) then
        j_m_packing_71_22 n σ5 s.2.2 s.2.1
      else
        j_m_packing_61_22 n σ5 s.2.2
def b_m_packing_82 (n : Nat) (v1 : Int32) (v2 : Int32) (s : ST × Int32) : Option ((ST × Int32) ⊕ (ST)) :=
  if (256 : Int32) ≤ s.2 then
    some (.inr s.1)
  else
    grd (jin s.2 256) <|
    nam (sA s.1 5 (upd (s.1.2 5) (jix s.2) (0 : Int32))) fun σ7 =>
    some (.inl (σ7, s.2 + (1 : Int32)))
def j_m_packing_133_104 (n : Nat) (σ : ST) (v1 : Int32) (v2 : Int32) (v3 : Int32) (t0 : Int32) (t1 : Int32) : Option ((ST × Int32) ⊕ (ST)) :=
  grd (jin t1 16) <|
  nam (sA σ 23 (upd (σ.2 23) (jix t1) t0)) fun σ9 =>
  grd (jin v3 16) <|
  nam (sA σ9 4 (upd (σ9.2 4) (jix v3) (0 : Int32))) fun σ10 =>
  some (.inl (σ10, v3 + (1 : Int32)))
def b_m_packing_104 (n : Nat) (v1 : Int32) (v2 : Int32) (s : ST × Int32) : Option ((ST × Int32) ⊕ (ST)) :=
  if (16 : Int32) ≤ s.2 then
    some (.inr s.1)
  else
    if (s.1.1 2) ≤ s.2 then
      j_m_packing_133_104 n s.1 v1 v2 s.2 (0 : Int32) s.2
    else
      grd (jin s.2 16) <|
      j_m_packing_133_104 n s.1 v1 v2 s.2 (s.1.2 3 (jix s.2)) s.2
def b_m_packing_204 (n : Nat) (v1 : Int32) (v2 : Int32) (v3 : Int32) (v4 : Int32) (s : ST × Int32) : Option ((ST × Int32) ⊕ (ST)) :=
  if (s.1.1 29) ≤ s.2 then
    some (.inr s.1)
  else
    grd (jin s.2 13000) <|
    grd (jin s.2 13000) <|
    grd (jin v3 256) <|
    bnd (f_m_ones n ((s.1.2 21 (jix s.2)) &&& (s.1.2 19 (jix v3)))) fun o16 =>
    grd (jin s.2 13000) <|
    nam (sA s.1 22 (upd (s.1.2 22) (jix s.2) ((s.1.2 22 (jix s.2)) - (v4 * o16)))) fun σ17 =>
    some (.inl (σ17, s.2 + (1 : Int32)))
def j_m_packing_299_252 (n : Nat) (σ : ST) (v1 : Int32) (v2 : Int32) (v3 : Int32) (v4 : Int32) (v5 : Int32) : Option ((ST × Int32) ⊕ (ST)) :=
  some (.inl (σ, v5 + (1 : Int32)))
def b_m_packing_252 (n : Nat) (v1 : Int32) (v2 : Int32) (v3 : Int32) (v4 : Int32) (s : ST × Int32) : Option ((ST × Int32) ⊕ (ST)) :=
  if (s.1.1 2) ≤ s.2 then
    some (.inr s.1)
  else
    grd (jin v3 256) <|
    if ((jshr (s.1.2 19 (jix v3)) s.2) &&& (1 : Int32)) = 0 then
      j_m_packing_299_252 n s.1 v1 v2 v3 v4 s.2
    else
      grd (jin s.2 16) <|
      grd (jin s.2 16) <|
      nam (sA s.1 23 (upd (s.1.2 23) (jix s.2) ((s.1.2 23 (jix s.2)) - v4))) fun σ19 =>
      grd (jin s.2 16) <|
      grd (jin s.2 16) <|
      nam (sA σ19 4 (upd (σ19.2 4) (jix s.2) ((σ19.2 4 (jix s.2)) + v4))) fun σ20 =>
      j_m_packing_299_252 n σ20 v1 v2 v3 v4 s.2
def b_m_packing_162 (n : Nat) (v2 : Int32) (s : ST × Int32 × Int32) : Option ((ST × Int32 × Int32) ⊕ (ST)) :=
  if (s.1.1 25) ≤ s.2.2 then
    some (.inr s.1)
  else
    grd (jin s.2.2 256) <|
    bnd (f_m_oftenAtMost n s.1 (s.1.2 19 (jix s.2.2)) s.2.1) fun o14 =>
    grd (jin s.2.2 256) <|
    grd (jin (s.1.2 18 (jix s.2.2)) 256) <|
    nam (sA s.1 5 (upd (s.1.2 5) (jix (s.1.2 18 (jix s.2.2))) o14)) fun σ15 =>
    bnd (lp (b_m_packing_204 n (s.2.1 - o14) v2 s.2.2 o14) n (σ15, (0 : Int32))) fun e18 =>
    bnd (lp (b_m_packing_252 n (s.2.1 - o14) v2 s.2.2 o14) n (e18, (0 : Int32))) fun e21 =>
    some (.inl (e21, s.2.1 - o14, s.2.2 + (1 : Int32)))
def f_m_packing (n : Nat) (σ : ST) : Option (Int32 × ST) :=
  nam (sS σ 0 (0 : Int32)) fun σ1 =>
  bnd (f_m_isWhole n σ1) fun o2 =>
  if o2 = 0 then
    some ((-1 : Int32), σ1)
  else
    bnd (f_m_makeSets n σ1) fun o3 =>
    bnd (lp (b_m_packing_22 n) n (o3, (-1 : Int32), (0 : Int32))) fun e6 =>
    bnd (lp (b_m_packing_82 n e6.2 e6.2) n (e6.1, (0 : Int32))) fun e8 =>
    bnd (lp (b_m_packing_104 n e6.2 e6.2) n (e8, (0 : Int32))) fun e11 =>
    nam (sS e11 8 (1 : Int32)) fun σ12 =>
    nam (sS σ12 9 (σ12.1 1)) fun σ13 =>
    bnd (lp (b_m_packing_162 n e6.2) n (σ13, e6.2, (0 : Int32))) fun e22 =>
    some (e6.2, e22)
theorem hf66_m_packing : Cond.fieldLink RX7 66 (TX7 26).1 (TX7 26).2.1 (TX7 26).2.2.1 ∈ wsX7_packing := by decide +kernel
theorem hf69_m_packing : Cond.fieldLink RX7 69 (TX7 27).1 (TX7 27).2.1 (TX7 27).2.2.1 ∈ wsX7_packing := by decide +kernel
theorem hf98_m_packing : Cond.fieldLink RX7 98 (TX7 25).1 (TX7 25).2.1 (TX7 25).2.2.1 ∈ wsX7_packing := by decide +kernel
theorem hf175_m_packing : Cond.fieldLink RX7 175 (TX7 9).1 (TX7 9).2.1 (TX7 9).2.2.1 ∈ wsX7_packing := by decide +kernel
theorem hf7_m_packing : Cond.fieldLink RX7 7 (TX7 1).1 (TX7 1).2.1 (TX7 1).2.2.1 ∈ wsX7_packing := by decide +kernel
theorem hf137_m_packing : Cond.fieldLink RX7 137 (TX7 8).1 (TX7 8).2.1 (TX7 8).2.2.1 ∈ wsX7_packing := by decide +kernel
theorem hf20_m_packing : Cond.fieldLink RX7 20 (TX7 5).1 (TX7 5).2.1 (TX7 5).2.2.1 ∈ wsX7_packing := by decide +kernel
theorem hf23_m_packing : Cond.fieldLink RX7 23 (TX7 10).1 (TX7 10).2.1 (TX7 10).2.2.1 ∈ wsX7_packing := by decide +kernel
theorem hf95_m_packing : Cond.fieldLink RX7 95 (TX7 2).1 (TX7 2).2.1 (TX7 2).2.2.1 ∈ wsX7_packing := by decide +kernel
theorem hf82_m_packing : Cond.fieldLink RX7 82 (TX7 33).1 (TX7 33).2.1 (TX7 33).2.2.1 ∈ wsX7_packing := by decide +kernel
theorem hf26_m_packing : Cond.fieldLink RX7 26 (TX7 11).1 (TX7 11).2.1 (TX7 11).2.2.1 ∈ wsX7_packing := by decide +kernel
theorem hf76_m_packing : Cond.fieldLink RX7 76 (TX7 30).1 (TX7 30).2.1 (TX7 30).2.2.1 ∈ wsX7_packing := by decide +kernel
theorem hf79_m_packing : Cond.fieldLink RX7 79 (TX7 32).1 (TX7 32).2.1 (TX7 32).2.2.1 ∈ wsX7_packing := by decide +kernel
theorem hf116_m_packing : Cond.fieldLink RX7 116 (TX7 29).1 (TX7 29).2.1 (TX7 29).2.2.1 ∈ wsX7_packing := by decide +kernel
theorem hf85_m_packing : Cond.fieldLink RX7 85 (TX7 0).1 (TX7 0).2.1 (TX7 0).2.2.1 ∈ wsX7_packing := by decide +kernel
theorem hi7_m_packing : ∀ w ∈ u_ws RX7 TX7 34, w ∈ wsX7_packing := by decide +kernel
set_option maxHeartbeats 4000000 in
set_option maxRecDepth 100000 in
theorem wj_m_packing_71_22 {l : Launch} {D : va_G} {cs : Nat → ClassId} {K : XK} {ad : Nat → Nat} {rest : va_W} (C : XC D cs K 6 rm_m_packing cX7_packing RX7 wsX7_packing (some .int)) {n : Nat} {σ : ST} {v2 : Int32} {t0 : Int32} {o : (ST × Int32 × Int32) ⊕ (ST × Int32)} {e : (ST × Int32)} (h : j_m_packing_71_22 n σ v2 t0 = some o) (kin : ∀ (s : ST × Int32 × Int32), o = .inl s → XW l D K 0 0 (wM cs ad s.1 rest) 22 [(0, .ref (ad 0)), (1, .int s.2.1), (2, .int s.2.2)] []) (kex : ∀ e1, o = .inr e1 → e1 = e) (kx : ∀ (t : ST × Int32), e = t → XW l D K 0 0 (wM cs ad t.1 rest) 78 [(0, .ref (ad 0)), (1, .int t.2)] []) : XW l D K 0 0 (wM cs ad σ rest) 71 [(0, .ref (ad 0)), (2, .int v2)] [.int t0] := by
  unfold j_m_packing_71_22 at h
  refine X_istore_n (vs1 := [(1, .int t0), (0, .ref (ad 0)), (2, .int v2)]) C rfl (by decide) rfl dX7_packing_71 ?_
  refine X_iinc (v := v2 + (1 : Int32)) (vs1 := [(2, .int (v2 + (1 : Int32))), (1, .int t0), (0, .ref (ad 0))]) C 2 rfl rfl (by decide) rfl dX7_packing_72 ?_
  refine X_goto C (tgt := 22) (by decide) dX7_packing_75 ?_
  obtain rfl := Option.some.inj h
  refine X_loc (vs1 := [(0, .ref (ad 0)), (1, .int t0), (2, .int (v2 + (1 : Int32)))]) [2, 1, 0] rfl ?_
  exact kin _ rfl
set_option maxHeartbeats 4000000 in
set_option maxRecDepth 100000 in
theorem wj_m_packing_61_22 {l : Launch} {D : va_G} {cs : Nat → ClassId} {K : XK} {ad : Nat → Nat} {rest : va_W} (C : XC D cs K 6 rm_m_packing cX7_packing RX7 wsX7_packing (some .int)) {n : Nat} {σ : ST} {v2 : Int32} {o : (ST × Int32 × Int32) ⊕ (ST × Int32)} {e : (ST × Int32)} (h : j_m_packing_61_22 n σ v2 = some o) (kin : ∀ (s : ST × Int32 × Int32), o = .inl s → XW l D K 0 0 (wM cs ad s.1 rest) 22 [(0, .ref (ad 0)), (1, .int s.2.1), (2, .int s.2.2)] []) (kex : ∀ e1, o = .inr e1 → e1 = e) (kx : ∀ (t : ST × Int32), e = t → XW l D K 0 0 (wM cs ad t.1 rest) 78 [(0, .ref (ad 0)), (1, .int t.2)] []) : XW l D K 0 0 (wM cs ad σ rest) 61 [(0, .ref (ad 0)), (2, .int v2)] [] := by
  unfold j_m_packing_61_22 at h
  refine X_aload_n C 0 rfl rfl dX7_packing_61 ?_
  refine X_get C 0 32 hi7_m_packing hf79_m_packing (me_0 _ _ _ _) rfl (by decide) rfl dX7_packing_62 ?_
  refine X_iload_n C 1 rfl rfl dX7_packing_65 ?_
  refine X_iald C 22 (me_22 _ _ _ _) h dX7_packing_66 (fun h => ?_)
  refine X_goto C (tgt := 71) (by decide) dX7_packing_67 ?_
  exact wj_m_packing_71_22 C h kin kex kx
set_option maxHeartbeats 4000000 in
set_option maxRecDepth 100000 in
theorem wb_m_packing_22 {l : Launch} {D : va_G} {cs : Nat → ClassId} {K : XK} {ad : Nat → Nat} {rest : va_W} (C : XC D cs K 6 rm_m_packing cX7_packing RX7 wsX7_packing (some .int)) {n : Nat} {e : (ST × Int32)} (kx : ∀ (t : ST × Int32), e = t → XW l D K 0 0 (wM cs ad t.1 rest) 78 [(0, .ref (ad 0)), (1, .int t.2)] []) : ∀ (q : Nat) (s : ST × Int32 × Int32), lp (b_m_packing_22 n) q s = some e → XW l D K 0 0 (wM cs ad s.1 rest) 22 [(0, .ref (ad 0)), (1, .int s.2.1), (2, .int s.2.2)] [] := by
  refine lp_walk (G := fun (s : ST × Int32 × Int32) => XW l D K 0 0 (wM cs ad s.1 rest) 22 [(0, .ref (ad 0)), (1, .int s.2.1), (2, .int s.2.2)] []) ?_
  intro s o h kin kex
  unfold b_m_packing_22 at h
  refine X_iload_n C 2 rfl rfl dX7_packing_22 ?_
  refine X_aload_n C 0 rfl rfl dX7_packing_23 ?_
  refine X_get C 0 29 hi7_m_packing hf116_m_packing (me_0 _ _ _ _) rfl (by decide) rfl dX7_packing_24 ?_
  refine X_icmpge C (tgt := 78) (by decide) dX7_packing_27 h (fun h => ?_) (fun h => ?_)
  · obtain rfl := Option.some.inj h
    refine X_loc (vs1 := [(0, .ref (ad 0)), (1, .int s.2.1)]) [0, 1] rfl ?_
    exact kx _ (kex _ rfl).symm
  · refine X_aload_n C 0 rfl rfl dX7_packing_30 ?_
    refine X_get C 0 32 hi7_m_packing hf79_m_packing (me_0 _ _ _ _) rfl (by decide) rfl dX7_packing_31 ?_
    refine X_iload_n C 2 rfl rfl dX7_packing_34 ?_
    refine X_aload_n C 0 rfl rfl dX7_packing_35 ?_
    refine X_aload_n C 0 rfl rfl dX7_packing_36 ?_
    refine X_get C 0 30 hi7_m_packing hf76_m_packing (me_0 _ _ _ _) rfl (by decide) rfl dX7_packing_37 ?_
    refine X_iload_n C 2 rfl rfl dX7_packing_40 ?_
    refine X_iald C 21 (me_21 _ _ _ _) h dX7_packing_41 (fun h => ?_)
    obtain ⟨o4, eo4, h⟩ := bnd_some h
    refine X_callVi C (n := 1) (As := [.int (s.1.2 21 (jix s.2.2))]) (c_m_weightOf eo4) rfl gX7_packing_X7_weightOf rfl rfl (me_0 _ _ _ _) rfl rfl (by decide +kernel) ⟨Nat.le_of_ble_eq_true rfl, Nat.le_of_ble_eq_true rfl⟩ ⟨Nat.zero_le _, Nat.zero_le _⟩ rfl rfl (Nat.le_of_ble_eq_true rfl) dX7_packing_42 ?_
    refine X_iast C 22 (me_22 _ _ _ _) (ma_22 _ _ _ _ _) h dX7_packing_45 (fun h => ?_)
    refine X_nam (G := fun σ5 => XW l D K 0 0 (wM cs ad σ5 rest) 46 [(0, .ref (ad 0)), (1, .int s.2.1), (2, .int s.2.2)] []) h (fun σ5 h => ?_)
    refine X_iload_n C 1 rfl rfl dX7_packing_46 ?_
    refine X_iconst (v := (-1)) C (by decide) dX7_packing_47 ?_
    refine X_icmpeq C (tgt := 61) (by decide) dX7_packing_48 h (fun h => ?_) (fun h => ?_)
    · refine X_loc (vs1 := [(0, .ref (ad 0)), (2, .int s.2.2)]) [0, 2] rfl ?_
      exact wj_m_packing_61_22 C h kin kex kx
    · refine X_aload_n C 0 rfl rfl dX7_packing_51 ?_
      refine X_get C 0 32 hi7_m_packing hf79_m_packing (me_0 _ _ _ _) rfl (by decide) rfl dX7_packing_52 ?_
      refine X_iload_n C 2 rfl rfl dX7_packing_55 ?_
      refine X_iald C 22 (me_22 _ _ _ _) h dX7_packing_56 (fun h => ?_)
      refine X_iload_n C 1 rfl rfl dX7_packing_57 ?_
      refine X_icmpge C (tgt := 70) (by decide) dX7_packing_58 h (fun h => ?_) (fun h => ?_)
      · refine X_iload_n C 1 rfl rfl dX7_packing_70 ?_
        refine X_loc (vs1 := [(0, .ref (ad 0)), (2, .int s.2.2)]) [0, 2] rfl ?_
        exact wj_m_packing_71_22 C h kin kex kx
      · refine X_loc (vs1 := [(0, .ref (ad 0)), (2, .int s.2.2)]) [0, 2] rfl ?_
        exact wj_m_packing_61_22 C h kin kex kx
set_option maxHeartbeats 4000000 in
set_option maxRecDepth 100000 in
theorem wb_m_packing_82 {l : Launch} {D : va_G} {cs : Nat → ClassId} {K : XK} {ad : Nat → Nat} {rest : va_W} (C : XC D cs K 6 rm_m_packing cX7_packing RX7 wsX7_packing (some .int)) {n : Nat} {v1 : Int32} {v2 : Int32} {e : (ST)} (kx : ∀ (t : ST), e = t → XW l D K 0 0 (wM cs ad t rest) 102 [(0, .ref (ad 0)), (1, .int v1), (2, .int v2)] []) : ∀ (q : Nat) (s : ST × Int32), lp (b_m_packing_82 n v1 v2) q s = some e → XW l D K 0 0 (wM cs ad s.1 rest) 82 [(0, .ref (ad 0)), (1, .int v1), (2, .int v2), (3, .int s.2)] [] := by
  refine lp_walk (G := fun (s : ST × Int32) => XW l D K 0 0 (wM cs ad s.1 rest) 82 [(0, .ref (ad 0)), (1, .int v1), (2, .int v2), (3, .int s.2)] []) ?_
  intro s o h kin kex
  unfold b_m_packing_82 at h
  refine X_iload_n C 3 rfl rfl dX7_packing_82 ?_
  refine X_sipush (v := 256) C (by decide) dX7_packing_83 ?_
  refine X_icmpge C (tgt := 102) (by decide) dX7_packing_86 h (fun h => ?_) (fun h => ?_)
  · obtain rfl := Option.some.inj h
    refine X_loc (vs1 := [(0, .ref (ad 0)), (1, .int v1), (2, .int v2)]) [0, 1, 2] rfl ?_
    exact kx _ (kex _ rfl).symm
  · refine X_aload_n C 0 rfl rfl dX7_packing_89 ?_
    refine X_get C 0 11 hi7_m_packing hf26_m_packing (me_0 _ _ _ _) rfl (by decide) rfl dX7_packing_90 ?_
    refine X_iload_n C 3 rfl rfl dX7_packing_93 ?_
    refine X_iconst (v := 0) C (by decide) dX7_packing_94 ?_
    refine X_iast C 5 (me_5 _ _ _ _) (ma_5 _ _ _ _ _) h dX7_packing_95 (fun h => ?_)
    refine X_nam (G := fun σ7 => XW l D K 0 0 (wM cs ad σ7 rest) 96 [(0, .ref (ad 0)), (1, .int v1), (2, .int v2), (3, .int s.2)] []) h (fun σ7 h => ?_)
    refine X_iinc (v := s.2 + (1 : Int32)) (vs1 := [(3, .int (s.2 + (1 : Int32))), (0, .ref (ad 0)), (1, .int v1), (2, .int v2)]) C 3 rfl rfl (by decide) rfl dX7_packing_96 ?_
    refine X_goto C (tgt := 82) (by decide) dX7_packing_99 ?_
    obtain rfl := Option.some.inj h
    refine X_loc (vs1 := [(0, .ref (ad 0)), (1, .int v1), (2, .int v2), (3, .int (s.2 + (1 : Int32)))]) [1, 2, 3, 0] rfl ?_
    exact kin _ rfl
set_option maxHeartbeats 4000000 in
set_option maxRecDepth 100000 in
theorem wj_m_packing_133_104 {l : Launch} {D : va_G} {cs : Nat → ClassId} {K : XK} {ad : Nat → Nat} {rest : va_W} (C : XC D cs K 6 rm_m_packing cX7_packing RX7 wsX7_packing (some .int)) {n : Nat} {σ : ST} {v1 : Int32} {v2 : Int32} {v3 : Int32} {t0 : Int32} {t1 : Int32} {o : (ST × Int32) ⊕ (ST)} {e : (ST)} (h : j_m_packing_133_104 n σ v1 v2 v3 t0 t1 = some o) (kin : ∀ (s : ST × Int32), o = .inl s → XW l D K 0 0 (wM cs ad s.1 rest) 104 [(0, .ref (ad 0)), (1, .int v1), (2, .int v2), (3, .int s.2)] []) (kex : ∀ e1, o = .inr e1 → e1 = e) (kx : ∀ (t : ST), e = t → XW l D K 0 0 (wM cs ad t rest) 147 [(0, .ref (ad 0)), (1, .int v1), (2, .int v2)] []) : XW l D K 0 0 (wM cs ad σ rest) 133 [(0, .ref (ad 0)), (1, .int v1), (2, .int v2), (3, .int v3)] [.int t0, .int t1, .ref (ad 23)] := by
  unfold j_m_packing_133_104 at h
  refine X_iast C 23 (me_23 _ _ _ _) (ma_23 _ _ _ _ _) h dX7_packing_133 (fun h => ?_)
  refine X_nam (G := fun σ9 => XW l D K 0 0 (wM cs ad σ9 rest) 134 [(0, .ref (ad 0)), (1, .int v1), (2, .int v2), (3, .int v3)] []) h (fun σ9 h => ?_)
  refine X_aload_n C 0 rfl rfl dX7_packing_134 ?_
  refine X_get C 0 10 hi7_m_packing hf23_m_packing (me_0 _ _ _ _) rfl (by decide) rfl dX7_packing_135 ?_
  refine X_iload_n C 3 rfl rfl dX7_packing_138 ?_
  refine X_iconst (v := 0) C (by decide) dX7_packing_139 ?_
  refine X_iast C 4 (me_4 _ _ _ _) (ma_4 _ _ _ _ _) h dX7_packing_140 (fun h => ?_)
  refine X_nam (G := fun σ10 => XW l D K 0 0 (wM cs ad σ10 rest) 141 [(0, .ref (ad 0)), (1, .int v1), (2, .int v2), (3, .int v3)] []) h (fun σ10 h => ?_)
  refine X_iinc (v := v3 + (1 : Int32)) (vs1 := [(3, .int (v3 + (1 : Int32))), (0, .ref (ad 0)), (1, .int v1), (2, .int v2)]) C 3 rfl rfl (by decide) rfl dX7_packing_141 ?_
  refine X_goto C (tgt := 104) (by decide) dX7_packing_144 ?_
  obtain rfl := Option.some.inj h
  refine X_loc (vs1 := [(0, .ref (ad 0)), (1, .int v1), (2, .int v2), (3, .int (v3 + (1 : Int32)))]) [1, 2, 3, 0] rfl ?_
  exact kin _ rfl
set_option maxHeartbeats 4000000 in
set_option maxRecDepth 100000 in
theorem wb_m_packing_104 {l : Launch} {D : va_G} {cs : Nat → ClassId} {K : XK} {ad : Nat → Nat} {rest : va_W} (C : XC D cs K 6 rm_m_packing cX7_packing RX7 wsX7_packing (some .int)) {n : Nat} {v1 : Int32} {v2 : Int32} {e : (ST)} (kx : ∀ (t : ST), e = t → XW l D K 0 0 (wM cs ad t rest) 147 [(0, .ref (ad 0)), (1, .int v1), (2, .int v2)] []) : ∀ (q : Nat) (s : ST × Int32), lp (b_m_packing_104 n v1 v2) q s = some e → XW l D K 0 0 (wM cs ad s.1 rest) 104 [(0, .ref (ad 0)), (1, .int v1), (2, .int v2), (3, .int s.2)] [] := by
  refine lp_walk (G := fun (s : ST × Int32) => XW l D K 0 0 (wM cs ad s.1 rest) 104 [(0, .ref (ad 0)), (1, .int v1), (2, .int v2), (3, .int s.2)] []) ?_
  intro s o h kin kex
  unfold b_m_packing_104 at h
  refine X_iload_n C 3 rfl rfl dX7_packing_104 ?_
  refine X_bipush (v := 16) C (by decide) dX7_packing_105 ?_
  refine X_icmpge C (tgt := 147) (by decide) dX7_packing_107 h (fun h => ?_) (fun h => ?_)
  · obtain rfl := Option.some.inj h
    refine X_loc (vs1 := [(0, .ref (ad 0)), (1, .int v1), (2, .int v2)]) [0, 1, 2] rfl ?_
    exact kx _ (kex _ rfl).symm
  · refine X_aload_n C 0 rfl rfl dX7_packing_110 ?_
    refine X_get C 0 33 hi7_m_packing hf82_m_packing (me_0 _ _ _ _) rfl (by decide) rfl dX7_packing_111 ?_
    refine X_iload_n C 3 rfl rfl dX7_packing_114 ?_
    refine X_iload_n C 3 rfl rfl dX7_packing_115 ?_
    refine X_aload_n C 0 rfl rfl dX7_packing_116 ?_
    refine X_get C 0 2 hi7_m_packing hf95_m_packing (me_0 _ _ _ _) rfl (by decide) rfl dX7_packing_117 ?_
    refine X_icmpge C (tgt := 132) (by decide) dX7_packing_120 h (fun h => ?_) (fun h => ?_)
    · refine X_iconst (v := 0) C (by decide) dX7_packing_132 ?_
      exact wj_m_packing_133_104 C h kin kex kx
    · refine X_aload_n C 0 rfl rfl dX7_packing_123 ?_
      refine X_get C 0 5 hi7_m_packing hf20_m_packing (me_0 _ _ _ _) rfl (by decide) rfl dX7_packing_124 ?_
      refine X_iload_n C 3 rfl rfl dX7_packing_127 ?_
      refine X_iald C 3 (me_3 _ _ _ _) h dX7_packing_128 (fun h => ?_)
      refine X_goto C (tgt := 133) (by decide) dX7_packing_129 ?_
      exact wj_m_packing_133_104 C h kin kex kx
set_option maxHeartbeats 4000000 in
set_option maxRecDepth 100000 in
theorem wb_m_packing_204 {l : Launch} {D : va_G} {cs : Nat → ClassId} {K : XK} {ad : Nat → Nat} {rest : va_W} (C : XC D cs K 6 rm_m_packing cX7_packing RX7 wsX7_packing (some .int)) {n : Nat} {v1 : Int32} {v2 : Int32} {v3 : Int32} {v4 : Int32} {e : (ST)} (kx : ∀ (t : ST), e = t → XW l D K 0 0 (wM cs ad t rest) 249 [(0, .ref (ad 0)), (1, .int v1), (2, .int v2), (3, .int v3), (4, .int v4)] []) : ∀ (q : Nat) (s : ST × Int32), lp (b_m_packing_204 n v1 v2 v3 v4) q s = some e → XW l D K 0 0 (wM cs ad s.1 rest) 204 [(0, .ref (ad 0)), (1, .int v1), (2, .int v2), (3, .int v3), (4, .int v4), (5, .int s.2)] [] := by
  refine lp_walk (G := fun (s : ST × Int32) => XW l D K 0 0 (wM cs ad s.1 rest) 204 [(0, .ref (ad 0)), (1, .int v1), (2, .int v2), (3, .int v3), (4, .int v4), (5, .int s.2)] []) ?_
  intro s o h kin kex
  unfold b_m_packing_204 at h
  refine X_iload C 5 rfl dX7_packing_204 ?_
  refine X_aload_n C 0 rfl rfl dX7_packing_206 ?_
  refine X_get C 0 29 hi7_m_packing hf116_m_packing (me_0 _ _ _ _) rfl (by decide) rfl dX7_packing_207 ?_
  refine X_icmpge C (tgt := 249) (by decide) dX7_packing_210 h (fun h => ?_) (fun h => ?_)
  · obtain rfl := Option.some.inj h
    refine X_loc (vs1 := [(0, .ref (ad 0)), (1, .int v1), (2, .int v2), (3, .int v3), (4, .int v4)]) [0, 1, 2, 3, 4] rfl ?_
    exact kx _ (kex _ rfl).symm
  · refine X_aload_n C 0 rfl rfl dX7_packing_213 ?_
    refine X_get C 0 32 hi7_m_packing hf79_m_packing (me_0 _ _ _ _) rfl (by decide) rfl dX7_packing_214 ?_
    refine X_iload C 5 rfl dX7_packing_217 ?_
    refine X_dup2 C rfl rfl dX7_packing_219 ?_
    refine X_iald C 22 (me_22 _ _ _ _) h dX7_packing_220 (fun h => ?_)
    refine X_iload C 4 rfl dX7_packing_221 ?_
    refine X_aload_n C 0 rfl rfl dX7_packing_223 ?_
    refine X_get C 0 30 hi7_m_packing hf76_m_packing (me_0 _ _ _ _) rfl (by decide) rfl dX7_packing_224 ?_
    refine X_iload C 5 rfl dX7_packing_227 ?_
    refine X_iald C 21 (me_21 _ _ _ _) h dX7_packing_229 (fun h => ?_)
    refine X_aload_n C 0 rfl rfl dX7_packing_230 ?_
    refine X_get C 0 27 hi7_m_packing hf69_m_packing (me_0 _ _ _ _) rfl (by decide) rfl dX7_packing_231 ?_
    refine X_iload_n C 3 rfl rfl dX7_packing_234 ?_
    refine X_iald C 19 (me_19 _ _ _ _) h dX7_packing_235 (fun h => ?_)
    refine X_iand C dX7_packing_236 ?_
    obtain ⟨o16, eo16, h⟩ := bnd_some h
    refine X_callSi C (n := 1) (As := [.int ((s.1.2 21 (jix s.2)) &&& (s.1.2 19 (jix v3)))]) (c_m_ones eo16) gX7_packing_X7_ones rfl rfl rfl (by decide +kernel) ⟨Nat.le_of_ble_eq_true rfl, Nat.le_of_ble_eq_true rfl⟩ ⟨Nat.zero_le _, Nat.zero_le _⟩ rfl rfl (Nat.le_of_ble_eq_true rfl) dX7_packing_237 ?_
    refine X_imul C dX7_packing_240 ?_
    refine X_isub C dX7_packing_241 ?_
    refine X_iast C 22 (me_22 _ _ _ _) (ma_22 _ _ _ _ _) h dX7_packing_242 (fun h => ?_)
    refine X_nam (G := fun σ17 => XW l D K 0 0 (wM cs ad σ17 rest) 243 [(0, .ref (ad 0)), (1, .int v1), (2, .int v2), (3, .int v3), (4, .int v4), (5, .int s.2)] []) h (fun σ17 h => ?_)
    refine X_iinc (v := s.2 + (1 : Int32)) (vs1 := [(5, .int (s.2 + (1 : Int32))), (0, .ref (ad 0)), (1, .int v1), (2, .int v2), (3, .int v3), (4, .int v4)]) C 5 rfl rfl (by decide) rfl dX7_packing_243 ?_
    refine X_goto C (tgt := 204) (by decide) dX7_packing_246 ?_
    obtain rfl := Option.some.inj h
    refine X_loc (vs1 := [(0, .ref (ad 0)), (1, .int v1), (2, .int v2), (3, .int v3), (4, .int v4), (5, .int (s.2 + (1 : Int32)))]) [1, 2, 3, 4, 5, 0] rfl ?_
    exact kin _ rfl
set_option maxHeartbeats 4000000 in
set_option maxRecDepth 100000 in
theorem wj_m_packing_299_252 {l : Launch} {D : va_G} {cs : Nat → ClassId} {K : XK} {ad : Nat → Nat} {rest : va_W} (C : XC D cs K 6 rm_m_packing cX7_packing RX7 wsX7_packing (some .int)) {n : Nat} {σ : ST} {v1 : Int32} {v2 : Int32} {v3 : Int32} {v4 : Int32} {v5 : Int32} {o : (ST × Int32) ⊕ (ST)} {e : (ST)} (h : j_m_packing_299_252 n σ v1 v2 v3 v4 v5 = some o) (kin : ∀ (s : ST × Int32), o = .inl s → XW l D K 0 0 (wM cs ad s.1 rest) 252 [(0, .ref (ad 0)), (1, .int v1), (2, .int v2), (3, .int v3), (4, .int v4), (5, .int s.2)] []) (kex : ∀ e1, o = .inr e1 → e1 = e) (kx : ∀ (t : ST), e = t → XW l D K 0 0 (wM cs ad t rest) 305 [(0, .ref (ad 0)), (1, .int v1), (2, .int v2), (3, .int v3)] []) : XW l D K 0 0 (wM cs ad σ rest) 299 [(0, .ref (ad 0)), (1, .int v1), (2, .int v2), (3, .int v3), (4, .int v4), (5, .int v5)] [] := by
  unfold j_m_packing_299_252 at h
  refine X_iinc (v := v5 + (1 : Int32)) (vs1 := [(5, .int (v5 + (1 : Int32))), (0, .ref (ad 0)), (1, .int v1), (2, .int v2), (3, .int v3), (4, .int v4)]) C 5 rfl rfl (by decide) rfl dX7_packing_299 ?_
  refine X_goto C (tgt := 252) (by decide) dX7_packing_302 ?_
  obtain rfl := Option.some.inj h
  refine X_loc (vs1 := [(0, .ref (ad 0)), (1, .int v1), (2, .int v2), (3, .int v3), (4, .int v4), (5, .int (v5 + (1 : Int32)))]) [1, 2, 3, 4, 5, 0] rfl ?_
  exact kin _ rfl
set_option maxHeartbeats 4000000 in
set_option maxRecDepth 100000 in
theorem wb_m_packing_252 {l : Launch} {D : va_G} {cs : Nat → ClassId} {K : XK} {ad : Nat → Nat} {rest : va_W} (C : XC D cs K 6 rm_m_packing cX7_packing RX7 wsX7_packing (some .int)) {n : Nat} {v1 : Int32} {v2 : Int32} {v3 : Int32} {v4 : Int32} {e : (ST)} (kx : ∀ (t : ST), e = t → XW l D K 0 0 (wM cs ad t rest) 305 [(0, .ref (ad 0)), (1, .int v1), (2, .int v2), (3, .int v3)] []) : ∀ (q : Nat) (s : ST × Int32), lp (b_m_packing_252 n v1 v2 v3 v4) q s = some e → XW l D K 0 0 (wM cs ad s.1 rest) 252 [(0, .ref (ad 0)), (1, .int v1), (2, .int v2), (3, .int v3), (4, .int v4), (5, .int s.2)] [] := by
  refine lp_walk (G := fun (s : ST × Int32) => XW l D K 0 0 (wM cs ad s.1 rest) 252 [(0, .ref (ad 0)), (1, .int v1), (2, .int v2), (3, .int v3), (4, .int v4), (5, .int s.2)] []) ?_
  intro s o h kin kex
  unfold b_m_packing_252 at h
  refine X_iload C 5 rfl dX7_packing_252 ?_
  refine X_aload_n C 0 rfl rfl dX7_packing_254 ?_
  refine X_get C 0 2 hi7_m_packing hf95_m_packing (me_0 _ _ _ _) rfl (by decide) rfl dX7_packing_255 ?_
  refine X_icmpge C (tgt := 305) (by decide) dX7_packing_258 h (fun h => ?_) (fun h => ?_)
  · obtain rfl := Option.some.inj h
    refine X_loc (vs1 := [(0, .ref (ad 0)), (1, .int v1), (2, .int v2), (3, .int v3)]) [0, 1, 2, 3] rfl ?_
    exact kx _ (kex _ rfl).symm
  · refine X_aload_n C 0 rfl rfl dX7_packing_261 ?_
    refine X_get C 0 27 hi7_m_packing hf69_m_packing (me_0 _ _ _ _) rfl (by decide) rfl dX7_packing_262 ?_
    refine X_iload_n C 3 rfl rfl dX7_packing_265 ?_
    refine X_iald C 19 (me_19 _ _ _ _) h dX7_packing_266 (fun h => ?_)
    refine X_iload C 5 rfl dX7_packing_267 ?_
    refine X_ishr C dX7_packing_269 ?_
    refine X_iconst (v := 1) C (by decide) dX7_packing_270 ?_
    refine X_iand C dX7_packing_271 ?_
    refine X_ifeq C (tgt := 299) (by decide) dX7_packing_272 h (fun h => ?_) (fun h => ?_)
    · exact wj_m_packing_299_252 C h kin kex kx
    · refine X_aload_n C 0 rfl rfl dX7_packing_275 ?_
      refine X_get C 0 33 hi7_m_packing hf82_m_packing (me_0 _ _ _ _) rfl (by decide) rfl dX7_packing_276 ?_
      refine X_iload C 5 rfl dX7_packing_279 ?_
      refine X_dup2 C rfl rfl dX7_packing_281 ?_
      refine X_iald C 23 (me_23 _ _ _ _) h dX7_packing_282 (fun h => ?_)
      refine X_iload C 4 rfl dX7_packing_283 ?_
      refine X_isub C dX7_packing_285 ?_
      refine X_iast C 23 (me_23 _ _ _ _) (ma_23 _ _ _ _ _) h dX7_packing_286 (fun h => ?_)
      refine X_nam (G := fun σ19 => XW l D K 0 0 (wM cs ad σ19 rest) 287 [(0, .ref (ad 0)), (1, .int v1), (2, .int v2), (3, .int v3), (4, .int v4), (5, .int s.2)] []) h (fun σ19 h => ?_)
      refine X_aload_n C 0 rfl rfl dX7_packing_287 ?_
      refine X_get C 0 10 hi7_m_packing hf23_m_packing (me_0 _ _ _ _) rfl (by decide) rfl dX7_packing_288 ?_
      refine X_iload C 5 rfl dX7_packing_291 ?_
      refine X_dup2 C rfl rfl dX7_packing_293 ?_
      refine X_iald C 4 (me_4 _ _ _ _) h dX7_packing_294 (fun h => ?_)
      refine X_iload C 4 rfl dX7_packing_295 ?_
      refine X_iadd C dX7_packing_297 ?_
      refine X_iast C 4 (me_4 _ _ _ _) (ma_4 _ _ _ _ _) h dX7_packing_298 (fun h => ?_)
      refine X_nam (G := fun σ20 => XW l D K 0 0 (wM cs ad σ20 rest) 299 [(0, .ref (ad 0)), (1, .int v1), (2, .int v2), (3, .int v3), (4, .int v4), (5, .int s.2)] []) h (fun σ20 h => ?_)
      exact wj_m_packing_299_252 C h kin kex kx
set_option maxHeartbeats 4000000 in
set_option maxRecDepth 100000 in
theorem wb_m_packing_162 {l : Launch} {D : va_G} {cs : Nat → ClassId} {K : XK} {ad : Nat → Nat} {rest : va_W} (C : XC D cs K 6 rm_m_packing cX7_packing RX7 wsX7_packing (some .int)) {n : Nat} {v2 : Int32} {e : (ST)} (kx : ∀ (t : ST), e = t → XW l D K 0 0 (wM cs ad t rest) 311 [(2, .int v2)] []) : ∀ (q : Nat) (s : ST × Int32 × Int32), lp (b_m_packing_162 n v2) q s = some e → XW l D K 0 0 (wM cs ad s.1 rest) 162 [(0, .ref (ad 0)), (1, .int s.2.1), (2, .int v2), (3, .int s.2.2)] [] := by
  refine lp_walk (G := fun (s : ST × Int32 × Int32) => XW l D K 0 0 (wM cs ad s.1 rest) 162 [(0, .ref (ad 0)), (1, .int s.2.1), (2, .int v2), (3, .int s.2.2)] []) ?_
  intro s o h kin kex
  unfold b_m_packing_162 at h
  refine X_iload_n C 3 rfl rfl dX7_packing_162 ?_
  refine X_aload_n C 0 rfl rfl dX7_packing_163 ?_
  refine X_get C 0 25 hi7_m_packing hf98_m_packing (me_0 _ _ _ _) rfl (by decide) rfl dX7_packing_164 ?_
  refine X_icmpge C (tgt := 311) (by decide) dX7_packing_167 h (fun h => ?_) (fun h => ?_)
  · obtain rfl := Option.some.inj h
    refine X_loc (vs1 := [(2, .int v2)]) [2] rfl ?_
    exact kx _ (kex _ rfl).symm
  · refine X_aload_n C 0 rfl rfl dX7_packing_170 ?_
    refine X_aload_n C 0 rfl rfl dX7_packing_171 ?_
    refine X_get C 0 27 hi7_m_packing hf69_m_packing (me_0 _ _ _ _) rfl (by decide) rfl dX7_packing_172 ?_
    refine X_iload_n C 3 rfl rfl dX7_packing_175 ?_
    refine X_iald C 19 (me_19 _ _ _ _) h dX7_packing_176 (fun h => ?_)
    refine X_iload_n C 1 rfl rfl dX7_packing_177 ?_
    obtain ⟨o14, eo14, h⟩ := bnd_some h
    refine X_callVi C (n := 2) (As := [.int (s.1.2 19 (jix s.2.2)), .int s.2.1]) (c_m_oftenAtMost eo14) rfl gX7_packing_X7_oftenAtMost rfl rfl (me_0 _ _ _ _) rfl rfl (by decide +kernel) ⟨Nat.le_of_ble_eq_true rfl, Nat.le_of_ble_eq_true rfl⟩ ⟨Nat.zero_le _, Nat.zero_le _⟩ rfl rfl (Nat.le_of_ble_eq_true rfl) dX7_packing_178 ?_
    refine X_istore (vs1 := [(4, .int o14), (0, .ref (ad 0)), (1, .int s.2.1), (2, .int v2), (3, .int s.2.2)]) C (by decide) rfl dX7_packing_181 ?_
    refine X_aload_n C 1 rfl rfl dX7_packing_183 ?_
    refine X_get C 0 11 hi7_m_packing hf26_m_packing (me_0 _ _ _ _) rfl (by decide) rfl dX7_packing_184 ?_
    refine X_aload_n C 1 rfl rfl dX7_packing_187 ?_
    refine X_get C 0 26 hi7_m_packing hf66_m_packing (me_0 _ _ _ _) rfl (by decide) rfl dX7_packing_188 ?_
    refine X_iload_n C 4 rfl rfl dX7_packing_191 ?_
    refine X_iald C 18 (me_18 _ _ _ _) h dX7_packing_192 (fun h => ?_)
    refine X_iload C 0 rfl dX7_packing_193 ?_
    refine X_iast C 5 (me_5 _ _ _ _) (ma_5 _ _ _ _ _) h dX7_packing_195 (fun h => ?_)
    refine X_nam (G := fun σ15 => XW l D K 0 0 (wM cs ad σ15 rest) 196 [(4, .int o14), (0, .ref (ad 0)), (1, .int s.2.1), (2, .int v2), (3, .int s.2.2)] []) h (fun σ15 h => ?_)
    refine X_iload_n C 2 rfl rfl dX7_packing_196 ?_
    refine X_iload C 0 rfl dX7_packing_197 ?_
    refine X_isub C dX7_packing_199 ?_
    refine X_istore_n (vs1 := [(1, .int (s.2.1 - o14)), (4, .int o14), (0, .ref (ad 0)), (2, .int v2), (3, .int s.2.2)]) C rfl (by decide) rfl dX7_packing_200 ?_
    refine X_iconst (v := 0) C (by decide) dX7_packing_201 ?_
    refine X_istore (vs1 := [(5, .int (0 : Int32)), (1, .int (s.2.1 - o14)), (4, .int o14), (0, .ref (ad 0)), (2, .int v2), (3, .int s.2.2)]) C (by decide) rfl dX7_packing_202 ?_
    obtain ⟨e18, he18, h⟩ := bnd_some h
    refine X_loc (vs1 := [(0, .ref (ad 0)), (1, .int (s.2.1 - o14)), (2, .int v2), (3, .int s.2.2), (4, .int o14), (5, .int (0 : Int32))]) [3, 1, 4, 5, 2, 0] rfl ?_
    refine wb_m_packing_204 C (e := e18) (fun t ht => ?_) n _ he18
    subst ht
    refine X_iconst (v := 0) C (by decide) dX7_packing_249 ?_
    refine X_istore (vs1 := [(5, .int (0 : Int32)), (0, .ref (ad 0)), (1, .int (s.2.1 - o14)), (2, .int v2), (3, .int s.2.2), (4, .int o14)]) C (by decide) rfl dX7_packing_250 ?_
    obtain ⟨e21, he21, h⟩ := bnd_some h
    refine X_loc (vs1 := [(0, .ref (ad 0)), (1, .int (s.2.1 - o14)), (2, .int v2), (3, .int s.2.2), (4, .int o14), (5, .int (0 : Int32))]) [1, 2, 3, 4, 5, 0] rfl ?_
    refine wb_m_packing_252 C (e := e21) (fun t ht => ?_) n _ he21
    subst ht
    refine X_iinc (v := s.2.2 + (1 : Int32)) (vs1 := [(3, .int (s.2.2 + (1 : Int32))), (0, .ref (ad 0)), (1, .int (s.2.1 - o14)), (2, .int v2)]) C 3 rfl rfl (by decide) rfl dX7_packing_305 ?_
    refine X_goto C (tgt := 162) (by decide) dX7_packing_308 ?_
    obtain rfl := Option.some.inj h
    refine X_loc (vs1 := [(0, .ref (ad 0)), (1, .int (s.2.1 - o14)), (2, .int v2), (3, .int (s.2.2 + (1 : Int32)))]) [1, 2, 3, 0] rfl ?_
    exact kin _ rfl
set_option maxHeartbeats 4000000 in
set_option maxRecDepth 100000 in
theorem c_m_packing {l : Launch} {D : va_G} {cs : Nat → ClassId} {ad : Nat → Nat} {rest : va_W} {n : Nat} {σ : ST} {o : Int32 × ST} (h : f_m_packing n σ = some o) : CTi l D cs yX7_packing wsX7_packing rm_m_packing [.ref (ad 0)] (wM cs ad σ rest) o.1 (wM cs ad o.2 rest) := by
  refine CTi_of (cc := cX7_packing) (nL := 6) (by decide) rfl (Nat.le_of_ble_eq_true rfl) ?_
  intro K C hret
  unfold f_m_packing at h
  refine X_loc (vs1 := [(0, .ref (ad 0))]) [0] rfl ?_
  refine X_aload_n C 0 rfl rfl dX7_packing_0 ?_
  refine X_iconst (v := 0) C (by decide) dX7_packing_1 ?_
  refine X_put (ty := .int) C 0 0 hi7_m_packing hf85_m_packing tyX7 tyX7_ok nmX7 (me_0 _ _ _ _) rfl (by decide) rfl (by decide +kernel) rfl rfl (Nat.le_of_ble_eq_true rfl) (ms_0_0 _ _ _ _ _) dX7_packing_2 ?_
  refine X_nam (G := fun σ1 => XW l D K 0 0 (wM cs ad σ1 rest) 5 [(0, .ref (ad 0))] []) h (fun σ1 h => ?_)
  refine X_aload_n C 0 rfl rfl dX7_packing_5 ?_
  obtain ⟨o2, eo2, h⟩ := bnd_some h
  refine X_callVi C (n := 0) (As := []) (c_m_isWhole eo2) rfl gX7_packing_X7_isWhole rfl rfl (me_0 _ _ _ _) rfl rfl (by decide +kernel) ⟨Nat.le_of_ble_eq_true rfl, Nat.le_of_ble_eq_true rfl⟩ ⟨Nat.zero_le _, Nat.zero_le _⟩ rfl rfl (Nat.le_of_ble_eq_true rfl) dX7_packing_6 ?_
  refine X_ifne C (tgt := 14) (by decide) dX7_packing_9 h (fun h => ?_) (fun h => ?_)
  · refine X_aload_n C 0 rfl rfl dX7_packing_14 ?_
    obtain ⟨o3, eo3, h⟩ := bnd_some h
    refine X_callVv C (n := 0) (As := []) (c_m_makeSets eo3) rfl gX7_packing_X7_makeSets rfl rfl (me_0 _ _ _ _) rfl rfl (by decide +kernel) ⟨Nat.le_of_ble_eq_true rfl, Nat.le_of_ble_eq_true rfl⟩ ⟨Nat.zero_le _, Nat.zero_le _⟩ rfl rfl (Nat.le_of_ble_eq_true rfl) dX7_packing_15 ?_
    refine X_iconst (v := (-1)) C (by decide) dX7_packing_18 ?_
    refine X_istore_n (vs1 := [(1, .int (-1 : Int32)), (0, .ref (ad 0))]) C rfl (by decide) rfl dX7_packing_19 ?_
    refine X_iconst (v := 0) C (by decide) dX7_packing_20 ?_
    refine X_istore_n (vs1 := [(2, .int (0 : Int32)), (1, .int (-1 : Int32)), (0, .ref (ad 0))]) C rfl (by decide) rfl dX7_packing_21 ?_
    obtain ⟨e6, he6, h⟩ := bnd_some h
    refine X_loc (vs1 := [(0, .ref (ad 0)), (1, .int (-1 : Int32)), (2, .int (0 : Int32))]) [2, 1, 0] rfl ?_
    refine wb_m_packing_22 C (e := e6) (fun t ht => ?_) n _ he6
    subst ht
    refine X_iload_n C 1 rfl rfl dX7_packing_78 ?_
    refine X_istore_n (vs1 := [(2, .int e6.2), (0, .ref (ad 0)), (1, .int e6.2)]) C rfl (by decide) rfl dX7_packing_79 ?_
    refine X_iconst (v := 0) C (by decide) dX7_packing_80 ?_
    refine X_istore_n (vs1 := [(3, .int (0 : Int32)), (2, .int e6.2), (0, .ref (ad 0)), (1, .int e6.2)]) C rfl (by decide) rfl dX7_packing_81 ?_
    obtain ⟨e8, he8, h⟩ := bnd_some h
    refine X_loc (vs1 := [(0, .ref (ad 0)), (1, .int e6.2), (2, .int e6.2), (3, .int (0 : Int32))]) [2, 3, 1, 0] rfl ?_
    refine wb_m_packing_82 C (e := e8) (fun t ht => ?_) n _ he8
    subst ht
    refine X_iconst (v := 0) C (by decide) dX7_packing_102 ?_
    refine X_istore_n (vs1 := [(3, .int (0 : Int32)), (0, .ref (ad 0)), (1, .int e6.2), (2, .int e6.2)]) C rfl (by decide) rfl dX7_packing_103 ?_
    obtain ⟨e11, he11, h⟩ := bnd_some h
    refine X_loc (vs1 := [(0, .ref (ad 0)), (1, .int e6.2), (2, .int e6.2), (3, .int (0 : Int32))]) [1, 2, 3, 0] rfl ?_
    refine wb_m_packing_104 C (e := e11) (fun t ht => ?_) n _ he11
    subst ht
    refine X_aload_n C 0 rfl rfl dX7_packing_147 ?_
    refine X_iconst (v := 1) C (by decide) dX7_packing_148 ?_
    refine X_put (ty := .boolean) C 0 8 hi7_m_packing hf137_m_packing tyX7 tyX7_ok nmX7 (me_0 _ _ _ _) rfl (by decide) rfl (by decide +kernel) (jz_nar (by decide)) (jz_fit (by decide)) (Nat.le_of_ble_eq_true rfl) (ms_0_8 _ _ _ _ _) dX7_packing_149 ?_
    refine X_nam (G := fun σ12 => XW l D K 0 0 (wM cs ad σ12 rest) 152 [(0, .ref (ad 0)), (1, .int e6.2), (2, .int e6.2)] []) h (fun σ12 h => ?_)
    refine X_aload_n C 0 rfl rfl dX7_packing_152 ?_
    refine X_aload_n C 0 rfl rfl dX7_packing_153 ?_
    refine X_get C 0 1 hi7_m_packing hf7_m_packing (me_0 _ _ _ _) rfl (by decide) rfl dX7_packing_154 ?_
    refine X_put (ty := .int) C 0 9 hi7_m_packing hf175_m_packing tyX7 tyX7_ok nmX7 (me_0 _ _ _ _) rfl (by decide) rfl (by decide +kernel) rfl rfl (Nat.le_of_ble_eq_true rfl) (ms_0_9 _ _ _ _ _) dX7_packing_157 ?_
    refine X_nam (G := fun σ13 => XW l D K 0 0 (wM cs ad σ13 rest) 160 [(0, .ref (ad 0)), (1, .int e6.2), (2, .int e6.2)] []) h (fun σ13 h => ?_)
    refine X_iconst (v := 0) C (by decide) dX7_packing_160 ?_
    refine X_istore_n (vs1 := [(3, .int (0 : Int32)), (0, .ref (ad 0)), (1, .int e6.2), (2, .int e6.2)]) C rfl (by decide) rfl dX7_packing_161 ?_
    obtain ⟨e22, he22, h⟩ := bnd_some h
    refine X_loc (vs1 := [(0, .ref (ad 0)), (1, .int e6.2), (2, .int e6.2), (3, .int (0 : Int32))]) [1, 2, 3, 0] rfl ?_
    refine wb_m_packing_162 C (e := e22) (fun t ht => ?_) n _ he22
    subst ht
    refine X_iload_n C 0 rfl rfl dX7_packing_311 ?_
    obtain rfl := Option.some.inj h
    exact hret _ _ dX7_packing_312
  · refine X_iconst (v := (-1)) C (by decide) dX7_packing_12 ?_
    obtain rfl := Option.some.inj h
    exact hret _ _ dX7_packing_13

abbrev rm_m_draw : Room := { frames := 2, cells := 0, slots := 0, locals := 44 }
def b_m_draw_11 (n : Nat) (σ : ST) (v1 : Int32) (v2 : Int32) (s : Int32) : Option ((Int32) ⊕ (Int32)) :=
  if (σ.1 25) ≤ s then
    some (.inr s)
  else
    grd (jin s 256) <|
    if (σ.2 18 (jix s)) = v1 then
      some (.inr s)
    else
      some (.inl (s + (1 : Int32)))
def j_m_draw_61 (n : Nat) (σ : ST) : Option (Int32 × ST) :=
  some ((-1 : Int32), σ)
def j_m_draw_102 (n : Nat) (σ : ST) : Option (Int32 × ST) :=
  some ((-1 : Int32), σ)
def j_m_draw_221_185 (n : Nat) (σ : ST) (v2 : Int32) (v3 : Int32) (v4 : Int64) (v6 : Int32) (t0 : Int32) (t1 : Int32) (t2 : Int32) : Option ((ST × Int32) ⊕ (ST)) :=
  grd (jin t2 16) <|
  nam (sA σ 4 (upd (σ.2 4) (jix t2) (t1 + t0))) fun σ5 =>
  some (.inl (σ5, v6 + (1 : Int32)))
def b_m_draw_185 (n : Nat) (v2 : Int32) (v3 : Int32) (v4 : Int64) (s : ST × Int32) : Option ((ST × Int32) ⊕ (ST)) :=
  if (s.1.1 2) ≤ s.2 then
    some (.inr s.1)
  else
    grd (jin s.2 16) <|
    grd (jin v3 256) <|
    if ((jshr (s.1.2 19 (jix v3)) s.2) &&& (1 : Int32)) = 0 then
      j_m_draw_221_185 n s.1 v2 v3 v4 s.2 (0 : Int32) (s.1.2 4 (jix s.2)) s.2
    else
      j_m_draw_221_185 n s.1 v2 v3 v4 s.2 v2 (s.1.2 4 (jix s.2)) s.2
def j_m_draw_173 (n : Nat) (σ : ST) (v1 : Int32) (v2 : Int32) (v3 : Int32) (v4 : Int64) : Option (Int32 × ST) :=
  grd (jin v1 256) <|
  nam (sA σ 5 (upd (σ.2 5) (jix v1) v4.toInt32)) fun σ4 =>
  bnd (lp (b_m_draw_185 n v2 v3 v4) n (σ4, (0 : Int32))) fun e6 =>
  some (v4.toInt32, e6)
def b_m_draw_127 (n : Nat) (v1 : Int32) (v2 : Int32) (v3 : Int32) (v4 : Int64) (s : ST × Int32) : Option ((ST × Int32) ⊕ (ST)) :=
  if (256 : Int32) ≤ s.2 then
    some (.inr s.1)
  else
    grd (jin s.2 256) <|
    nam (sA s.1 5 (upd (s.1.2 5) (jix s.2) (0 : Int32))) fun σ9 =>
    some (.inl (σ9, s.2 + (1 : Int32)))
def b_m_draw_152 (n : Nat) (v1 : Int32) (v2 : Int32) (v3 : Int32) (v4 : Int64) (s : ST × Int32) : Option ((ST × Int32) ⊕ (ST)) :=
  if (16 : Int32) ≤ s.2 then
    some (.inr s.1)
  else
    grd (jin s.2 16) <|
    nam (sA s.1 4 (upd (s.1.2 4) (jix s.2) (0 : Int32))) fun σ11 =>
    some (.inl (σ11, s.2 + (1 : Int32)))
def j_m_draw_80 (n : Nat) (σ : ST) (v1 : Int32) (v2 : Int32) (v3 : Int32) (t0 : Int32) : Option (Int32 × ST) :=
  if (lg_cmp (t0.toInt64 + v2.toInt64) (0 : Int64)) < 0 then
    j_m_draw_102 n σ
  else
    if (lg_cmp (t0.toInt64 + v2.toInt64) (1000 : Int64)) ≤ 0 then
      if (σ.1 8) = 0 then
        nam (sS σ 8 (1 : Int32)) fun σ7 =>
        nam (sS σ7 9 (σ7.1 1)) fun σ8 =>
        bnd (lp (b_m_draw_127 n v1 v2 v3 (t0.toInt64 + v2.toInt64)) n (σ8, (0 : Int32))) fun e10 =>
        bnd (lp (b_m_draw_152 n v1 v2 v3 (t0.toInt64 + v2.toInt64)) n (e10, (0 : Int32))) fun e12 =>
        j_m_draw_173 n e12 v1 v2 v3 (t0.toInt64 + v2.toInt64)
      else
        j_m_draw_173 n σ v1 v2 v3 (t0.toInt64 + v2.toInt64)
    else
      j_m_draw_102 n σ
def j_m_draw_63 (n : Nat) (σ : ST) (v1 : Int32) (v2 : Int32) (v3 : Int32) : Option (Int32 × ST) :=
  if (σ.1 8) = 0 then
    j_m_draw_80 n σ v1 v2 v3 (0 : Int32)
  else
    grd (jin v1 256) <|
    j_m_draw_80 n σ v1 v2 v3 (σ.2 5 (jix v1))
def f_m_draw (n : Nat) (σ : ST) (a0 : Int32) (a1 : Int32) : Option (Int32 × ST) :=
  nam (sS σ 0 (0 : Int32)) fun σ1 =>
  bnd (f_m_makeSides n σ1) fun o2 =>
  bnd (lp (b_m_draw_11 n o2 a0 a1) n (0 : Int32)) fun e3 =>
  if e3 = (o2.1 25) then
    j_m_draw_61 n o2
  else
    if (o2.1 8) = 0 then
      j_m_draw_63 n o2 a0 a1 e3
    else
      if (o2.1 9) = (o2.1 1) then
        j_m_draw_63 n o2 a0 a1 e3
      else
        j_m_draw_61 n o2
theorem hf175_m_draw : Cond.fieldLink RX7 175 (TX7 9).1 (TX7 9).2.1 (TX7 9).2.2.1 ∈ wsX7_draw := by decide +kernel
theorem hf7_m_draw : Cond.fieldLink RX7 7 (TX7 1).1 (TX7 1).2.1 (TX7 1).2.2.1 ∈ wsX7_draw := by decide +kernel
theorem hf69_m_draw : Cond.fieldLink RX7 69 (TX7 27).1 (TX7 27).2.1 (TX7 27).2.2.1 ∈ wsX7_draw := by decide +kernel
theorem hf23_m_draw : Cond.fieldLink RX7 23 (TX7 10).1 (TX7 10).2.1 (TX7 10).2.2.1 ∈ wsX7_draw := by decide +kernel
theorem hf95_m_draw : Cond.fieldLink RX7 95 (TX7 2).1 (TX7 2).2.1 (TX7 2).2.2.1 ∈ wsX7_draw := by decide +kernel
theorem hf26_m_draw : Cond.fieldLink RX7 26 (TX7 11).1 (TX7 11).2.1 (TX7 11).2.2.1 ∈ wsX7_draw := by decide +kernel
theorem hc185_m_draw : Cond.constantLong RX7 185 (1000) ∈ wsX7_draw := by decide +kernel
theorem hf137_m_draw : Cond.fieldLink RX7 137 (TX7 8).1 (TX7 8).2.1 (TX7 8).2.2.1 ∈ wsX7_draw := by decide +kernel
theorem hf66_m_draw : Cond.fieldLink RX7 66 (TX7 26).1 (TX7 26).2.1 (TX7 26).2.2.1 ∈ wsX7_draw := by decide +kernel
theorem hf98_m_draw : Cond.fieldLink RX7 98 (TX7 25).1 (TX7 25).2.1 (TX7 25).2.2.1 ∈ wsX7_draw := by decide +kernel
theorem hf85_m_draw : Cond.fieldLink RX7 85 (TX7 0).1 (TX7 0).2.1 (TX7 0).2.2.1 ∈ wsX7_draw := by decide +kernel
theorem hi7_m_draw : ∀ w ∈ u_ws RX7 TX7 34, w ∈ wsX7_draw := by decide +kernel
set_option maxHeartbeats 4000000 in
set_option maxRecDepth 100000 in
theorem wb_m_draw_11 {l : Launch} {D : va_G} {cs : Nat → ClassId} {K : XK} {ad : Nat → Nat} {rest : va_W} (C : XC D cs K 7 rm_m_draw cX7_draw RX7 wsX7_draw (some .int)) {n : Nat} {σ : ST} {v1 : Int32} {v2 : Int32} {e : (Int32)} (kx : ∀ (t : Int32), e = t → XW l D K 0 0 (wM cs ad σ rest) 35 [(0, .ref (ad 0)), (1, .int v1), (2, .int v2), (3, .int t)] []) : ∀ (q : Nat) (s : Int32), lp (b_m_draw_11 n σ v1 v2) q s = some e → XW l D K 0 0 (wM cs ad σ rest) 11 [(0, .ref (ad 0)), (1, .int v1), (2, .int v2), (3, .int s)] [] := by
  refine lp_walk (G := fun (s : Int32) => XW l D K 0 0 (wM cs ad σ rest) 11 [(0, .ref (ad 0)), (1, .int v1), (2, .int v2), (3, .int s)] []) ?_
  intro s o h kin kex
  unfold b_m_draw_11 at h
  refine X_iload_n C 3 rfl rfl dX7_draw_11 ?_
  refine X_aload_n C 0 rfl rfl dX7_draw_12 ?_
  refine X_get C 0 25 hi7_m_draw hf98_m_draw (me_0 _ _ _ _) rfl (by decide) rfl dX7_draw_13 ?_
  refine X_icmpge C (tgt := 35) (by decide) dX7_draw_16 h (fun h => ?_) (fun h => ?_)
  · obtain rfl := Option.some.inj h
    exact kx _ (kex _ rfl).symm
  · refine X_aload_n C 0 rfl rfl dX7_draw_19 ?_
    refine X_get C 0 26 hi7_m_draw hf66_m_draw (me_0 _ _ _ _) rfl (by decide) rfl dX7_draw_20 ?_
    refine X_iload_n C 3 rfl rfl dX7_draw_23 ?_
    refine X_iald C 18 (me_18 _ _ _ _) h dX7_draw_24 (fun h => ?_)
    refine X_iload_n C 1 rfl rfl dX7_draw_25 ?_
    refine X_icmpeq C (tgt := 35) (by decide) dX7_draw_26 h (fun h => ?_) (fun h => ?_)
    · obtain rfl := Option.some.inj h
      exact kx _ (kex _ rfl).symm
    · refine X_iinc (v := s + (1 : Int32)) (vs1 := [(3, .int (s + (1 : Int32))), (0, .ref (ad 0)), (1, .int v1), (2, .int v2)]) C 3 rfl rfl (by decide) rfl dX7_draw_29 ?_
      refine X_goto C (tgt := 11) (by decide) dX7_draw_32 ?_
      obtain rfl := Option.some.inj h
      refine X_loc (vs1 := [(0, .ref (ad 0)), (1, .int v1), (2, .int v2), (3, .int (s + (1 : Int32)))]) [1, 2, 3, 0] rfl ?_
      exact kin _ rfl
set_option maxHeartbeats 4000000 in
set_option maxRecDepth 100000 in
theorem wj_m_draw_61 {l : Launch} {D : va_G} {cs : Nat → ClassId} {K : XK} {ad : Nat → Nat} {rest : va_W} (C : XC D cs K 7 rm_m_draw cX7_draw RX7 wsX7_draw (some .int)) {n : Nat} {σ : ST} {o : Int32 × ST} (h : j_m_draw_61 n σ = some o) (hret : XRi l D K cX7_draw o.1 (wM cs ad o.2 rest)) : XW l D K 0 0 (wM cs ad σ rest) 61 [] [] := by
  unfold j_m_draw_61 at h
  refine X_iconst (v := (-1)) C (by decide) dX7_draw_61 ?_
  obtain rfl := Option.some.inj h
  exact hret _ _ dX7_draw_62
set_option maxHeartbeats 4000000 in
set_option maxRecDepth 100000 in
theorem wj_m_draw_102 {l : Launch} {D : va_G} {cs : Nat → ClassId} {K : XK} {ad : Nat → Nat} {rest : va_W} (C : XC D cs K 7 rm_m_draw cX7_draw RX7 wsX7_draw (some .int)) {n : Nat} {σ : ST} {o : Int32 × ST} (h : j_m_draw_102 n σ = some o) (hret : XRi l D K cX7_draw o.1 (wM cs ad o.2 rest)) : XW l D K 0 0 (wM cs ad σ rest) 102 [] [] := by
  unfold j_m_draw_102 at h
  refine X_iconst (v := (-1)) C (by decide) dX7_draw_102 ?_
  obtain rfl := Option.some.inj h
  exact hret _ _ dX7_draw_103
set_option maxHeartbeats 4000000 in
set_option maxRecDepth 100000 in
theorem wj_m_draw_221_185 {l : Launch} {D : va_G} {cs : Nat → ClassId} {K : XK} {ad : Nat → Nat} {rest : va_W} (C : XC D cs K 7 rm_m_draw cX7_draw RX7 wsX7_draw (some .int)) {n : Nat} {σ : ST} {v2 : Int32} {v3 : Int32} {v4 : Int64} {v6 : Int32} {t0 : Int32} {t1 : Int32} {t2 : Int32} {o : (ST × Int32) ⊕ (ST)} {e : (ST)} (h : j_m_draw_221_185 n σ v2 v3 v4 v6 t0 t1 t2 = some o) (kin : ∀ (s : ST × Int32), o = .inl s → XW l D K 0 0 (wM cs ad s.1 rest) 185 [(0, .ref (ad 0)), (2, .int v2), (3, .int v3), (4, .long v4), (6, .int s.2)] []) (kex : ∀ e1, o = .inr e1 → e1 = e) (kx : ∀ (t : ST), e = t → XW l D K 0 0 (wM cs ad t rest) 229 [(4, .long v4)] []) : XW l D K 0 0 (wM cs ad σ rest) 221 [(0, .ref (ad 0)), (2, .int v2), (3, .int v3), (4, .long v4), (6, .int v6)] [.int t0, .int t1, .int t2, .ref (ad 4)] := by
  unfold j_m_draw_221_185 at h
  refine X_iadd C dX7_draw_221 ?_
  refine X_iast C 4 (me_4 _ _ _ _) (ma_4 _ _ _ _ _) h dX7_draw_222 (fun h => ?_)
  refine X_nam (G := fun σ5 => XW l D K 0 0 (wM cs ad σ5 rest) 223 [(0, .ref (ad 0)), (2, .int v2), (3, .int v3), (4, .long v4), (6, .int v6)] []) h (fun σ5 h => ?_)
  refine X_iinc (v := v6 + (1 : Int32)) (vs1 := [(6, .int (v6 + (1 : Int32))), (0, .ref (ad 0)), (2, .int v2), (3, .int v3), (4, .long v4)]) C 4 rfl rfl (by decide) rfl dX7_draw_223 ?_
  refine X_goto C (tgt := 185) (by decide) dX7_draw_226 ?_
  obtain rfl := Option.some.inj h
  refine X_loc (vs1 := [(0, .ref (ad 0)), (2, .int v2), (3, .int v3), (4, .long v4), (6, .int (v6 + (1 : Int32)))]) [1, 2, 3, 4, 0] rfl ?_
  exact kin _ rfl
set_option maxHeartbeats 4000000 in
set_option maxRecDepth 100000 in
theorem wb_m_draw_185 {l : Launch} {D : va_G} {cs : Nat → ClassId} {K : XK} {ad : Nat → Nat} {rest : va_W} (C : XC D cs K 7 rm_m_draw cX7_draw RX7 wsX7_draw (some .int)) {n : Nat} {v2 : Int32} {v3 : Int32} {v4 : Int64} {e : (ST)} (kx : ∀ (t : ST), e = t → XW l D K 0 0 (wM cs ad t rest) 229 [(4, .long v4)] []) : ∀ (q : Nat) (s : ST × Int32), lp (b_m_draw_185 n v2 v3 v4) q s = some e → XW l D K 0 0 (wM cs ad s.1 rest) 185 [(0, .ref (ad 0)), (2, .int v2), (3, .int v3), (4, .long v4), (6, .int s.2)] [] := by
  refine lp_walk (G := fun (s : ST × Int32) => XW l D K 0 0 (wM cs ad s.1 rest) 185 [(0, .ref (ad 0)), (2, .int v2), (3, .int v3), (4, .long v4), (6, .int s.2)] []) ?_
  intro s o h kin kex
  unfold b_m_draw_185 at h
  refine X_iload C 4 rfl dX7_draw_185 ?_
  refine X_aload_n C 0 rfl rfl dX7_draw_187 ?_
  refine X_get C 0 2 hi7_m_draw hf95_m_draw (me_0 _ _ _ _) rfl (by decide) rfl dX7_draw_188 ?_
  refine X_icmpge C (tgt := 229) (by decide) dX7_draw_191 h (fun h => ?_) (fun h => ?_)
  · obtain rfl := Option.some.inj h
    refine X_loc (vs1 := [(4, .long v4)]) [3] rfl ?_
    exact kx _ (kex _ rfl).symm
  · refine X_aload_n C 0 rfl rfl dX7_draw_194 ?_
    refine X_get C 0 10 hi7_m_draw hf23_m_draw (me_0 _ _ _ _) rfl (by decide) rfl dX7_draw_195 ?_
    refine X_iload C 4 rfl dX7_draw_198 ?_
    refine X_dup2 C rfl rfl dX7_draw_200 ?_
    refine X_iald C 4 (me_4 _ _ _ _) h dX7_draw_201 (fun h => ?_)
    refine X_aload_n C 0 rfl rfl dX7_draw_202 ?_
    refine X_get C 0 27 hi7_m_draw hf69_m_draw (me_0 _ _ _ _) rfl (by decide) rfl dX7_draw_203 ?_
    refine X_iload_n C 2 rfl rfl dX7_draw_206 ?_
    refine X_iald C 19 (me_19 _ _ _ _) h dX7_draw_207 (fun h => ?_)
    refine X_iload C 4 rfl dX7_draw_208 ?_
    refine X_ishr C dX7_draw_210 ?_
    refine X_iconst (v := 1) C (by decide) dX7_draw_211 ?_
    refine X_iand C dX7_draw_212 ?_
    refine X_ifeq C (tgt := 220) (by decide) dX7_draw_213 h (fun h => ?_) (fun h => ?_)
    · refine X_iconst (v := 0) C (by decide) dX7_draw_220 ?_
      exact wj_m_draw_221_185 C h kin kex kx
    · refine X_iload_n C 1 rfl rfl dX7_draw_216 ?_
      refine X_goto C (tgt := 221) (by decide) dX7_draw_217 ?_
      exact wj_m_draw_221_185 C h kin kex kx
set_option maxHeartbeats 4000000 in
set_option maxRecDepth 100000 in
theorem wj_m_draw_173 {l : Launch} {D : va_G} {cs : Nat → ClassId} {K : XK} {ad : Nat → Nat} {rest : va_W} (C : XC D cs K 7 rm_m_draw cX7_draw RX7 wsX7_draw (some .int)) {n : Nat} {σ : ST} {v1 : Int32} {v2 : Int32} {v3 : Int32} {v4 : Int64} {o : Int32 × ST} (h : j_m_draw_173 n σ v1 v2 v3 v4 = some o) (hret : XRi l D K cX7_draw o.1 (wM cs ad o.2 rest)) : XW l D K 0 0 (wM cs ad σ rest) 173 [(0, .ref (ad 0)), (1, .int v1), (2, .int v2), (3, .int v3), (4, .long v4)] [] := by
  unfold j_m_draw_173 at h
  refine X_aload_n C 0 rfl rfl dX7_draw_173 ?_
  refine X_get C 0 11 hi7_m_draw hf26_m_draw (me_0 _ _ _ _) rfl (by decide) rfl dX7_draw_174 ?_
  refine X_iload_n C 1 rfl rfl dX7_draw_177 ?_
  refine X_lload C 4 rfl dX7_draw_178 ?_
  refine X_l2i C dX7_draw_180 ?_
  refine X_iast C 5 (me_5 _ _ _ _) (ma_5 _ _ _ _ _) h dX7_draw_181 (fun h => ?_)
  refine X_nam (G := fun σ4 => XW l D K 0 0 (wM cs ad σ4 rest) 182 [(0, .ref (ad 0)), (1, .int v1), (2, .int v2), (3, .int v3), (4, .long v4)] []) h (fun σ4 h => ?_)
  refine X_iconst (v := 0) C (by decide) dX7_draw_182 ?_
  refine X_istore (vs1 := [(6, .int (0 : Int32)), (0, .ref (ad 0)), (1, .int v1), (2, .int v2), (3, .int v3), (4, .long v4)]) C (by decide) rfl dX7_draw_183 ?_
  obtain ⟨e6, he6, h⟩ := bnd_some h
  refine X_loc (vs1 := [(0, .ref (ad 0)), (2, .int v2), (3, .int v3), (4, .long v4), (6, .int (0 : Int32))]) [1, 3, 4, 5, 0] rfl ?_
  refine wb_m_draw_185 C (e := e6) (fun t ht => ?_) n _ he6
  subst ht
  refine X_lload C 0 rfl dX7_draw_229 ?_
  refine X_l2i C dX7_draw_231 ?_
  obtain rfl := Option.some.inj h
  exact hret _ _ dX7_draw_232
set_option maxHeartbeats 4000000 in
set_option maxRecDepth 100000 in
theorem wb_m_draw_127 {l : Launch} {D : va_G} {cs : Nat → ClassId} {K : XK} {ad : Nat → Nat} {rest : va_W} (C : XC D cs K 7 rm_m_draw cX7_draw RX7 wsX7_draw (some .int)) {n : Nat} {v1 : Int32} {v2 : Int32} {v3 : Int32} {v4 : Int64} {e : (ST)} (kx : ∀ (t : ST), e = t → XW l D K 0 0 (wM cs ad t rest) 149 [(0, .ref (ad 0)), (1, .int v1), (2, .int v2), (3, .int v3), (4, .long v4)] []) : ∀ (q : Nat) (s : ST × Int32), lp (b_m_draw_127 n v1 v2 v3 v4) q s = some e → XW l D K 0 0 (wM cs ad s.1 rest) 127 [(0, .ref (ad 0)), (1, .int v1), (2, .int v2), (3, .int v3), (4, .long v4), (6, .int s.2)] [] := by
  refine lp_walk (G := fun (s : ST × Int32) => XW l D K 0 0 (wM cs ad s.1 rest) 127 [(0, .ref (ad 0)), (1, .int v1), (2, .int v2), (3, .int v3), (4, .long v4), (6, .int s.2)] []) ?_
  intro s o h kin kex
  unfold b_m_draw_127 at h
  refine X_iload C 5 rfl dX7_draw_127 ?_
  refine X_sipush (v := 256) C (by decide) dX7_draw_129 ?_
  refine X_icmpge C (tgt := 149) (by decide) dX7_draw_132 h (fun h => ?_) (fun h => ?_)
  · obtain rfl := Option.some.inj h
    refine X_loc (vs1 := [(0, .ref (ad 0)), (1, .int v1), (2, .int v2), (3, .int v3), (4, .long v4)]) [0, 1, 2, 3, 4] rfl ?_
    exact kx _ (kex _ rfl).symm
  · refine X_aload_n C 0 rfl rfl dX7_draw_135 ?_
    refine X_get C 0 11 hi7_m_draw hf26_m_draw (me_0 _ _ _ _) rfl (by decide) rfl dX7_draw_136 ?_
    refine X_iload C 5 rfl dX7_draw_139 ?_
    refine X_iconst (v := 0) C (by decide) dX7_draw_141 ?_
    refine X_iast C 5 (me_5 _ _ _ _) (ma_5 _ _ _ _ _) h dX7_draw_142 (fun h => ?_)
    refine X_nam (G := fun σ9 => XW l D K 0 0 (wM cs ad σ9 rest) 143 [(0, .ref (ad 0)), (1, .int v1), (2, .int v2), (3, .int v3), (4, .long v4), (6, .int s.2)] []) h (fun σ9 h => ?_)
    refine X_iinc (v := s.2 + (1 : Int32)) (vs1 := [(6, .int (s.2 + (1 : Int32))), (0, .ref (ad 0)), (1, .int v1), (2, .int v2), (3, .int v3), (4, .long v4)]) C 5 rfl rfl (by decide) rfl dX7_draw_143 ?_
    refine X_goto C (tgt := 127) (by decide) dX7_draw_146 ?_
    obtain rfl := Option.some.inj h
    refine X_loc (vs1 := [(0, .ref (ad 0)), (1, .int v1), (2, .int v2), (3, .int v3), (4, .long v4), (6, .int (s.2 + (1 : Int32)))]) [1, 2, 3, 4, 5, 0] rfl ?_
    exact kin _ rfl
set_option maxHeartbeats 4000000 in
set_option maxRecDepth 100000 in
theorem wb_m_draw_152 {l : Launch} {D : va_G} {cs : Nat → ClassId} {K : XK} {ad : Nat → Nat} {rest : va_W} (C : XC D cs K 7 rm_m_draw cX7_draw RX7 wsX7_draw (some .int)) {n : Nat} {v1 : Int32} {v2 : Int32} {v3 : Int32} {v4 : Int64} {e : (ST)} (kx : ∀ (t : ST), e = t → XW l D K 0 0 (wM cs ad t rest) 173 [(0, .ref (ad 0)), (1, .int v1), (2, .int v2), (3, .int v3), (4, .long v4)] []) : ∀ (q : Nat) (s : ST × Int32), lp (b_m_draw_152 n v1 v2 v3 v4) q s = some e → XW l D K 0 0 (wM cs ad s.1 rest) 152 [(0, .ref (ad 0)), (1, .int v1), (2, .int v2), (3, .int v3), (4, .long v4), (6, .int s.2)] [] := by
  refine lp_walk (G := fun (s : ST × Int32) => XW l D K 0 0 (wM cs ad s.1 rest) 152 [(0, .ref (ad 0)), (1, .int v1), (2, .int v2), (3, .int v3), (4, .long v4), (6, .int s.2)] []) ?_
  intro s o h kin kex
  unfold b_m_draw_152 at h
  refine X_iload C 5 rfl dX7_draw_152 ?_
  refine X_bipush (v := 16) C (by decide) dX7_draw_154 ?_
  refine X_icmpge C (tgt := 173) (by decide) dX7_draw_156 h (fun h => ?_) (fun h => ?_)
  · obtain rfl := Option.some.inj h
    refine X_loc (vs1 := [(0, .ref (ad 0)), (1, .int v1), (2, .int v2), (3, .int v3), (4, .long v4)]) [0, 1, 2, 3, 4] rfl ?_
    exact kx _ (kex _ rfl).symm
  · refine X_aload_n C 0 rfl rfl dX7_draw_159 ?_
    refine X_get C 0 10 hi7_m_draw hf23_m_draw (me_0 _ _ _ _) rfl (by decide) rfl dX7_draw_160 ?_
    refine X_iload C 5 rfl dX7_draw_163 ?_
    refine X_iconst (v := 0) C (by decide) dX7_draw_165 ?_
    refine X_iast C 4 (me_4 _ _ _ _) (ma_4 _ _ _ _ _) h dX7_draw_166 (fun h => ?_)
    refine X_nam (G := fun σ11 => XW l D K 0 0 (wM cs ad σ11 rest) 167 [(0, .ref (ad 0)), (1, .int v1), (2, .int v2), (3, .int v3), (4, .long v4), (6, .int s.2)] []) h (fun σ11 h => ?_)
    refine X_iinc (v := s.2 + (1 : Int32)) (vs1 := [(6, .int (s.2 + (1 : Int32))), (0, .ref (ad 0)), (1, .int v1), (2, .int v2), (3, .int v3), (4, .long v4)]) C 5 rfl rfl (by decide) rfl dX7_draw_167 ?_
    refine X_goto C (tgt := 152) (by decide) dX7_draw_170 ?_
    obtain rfl := Option.some.inj h
    refine X_loc (vs1 := [(0, .ref (ad 0)), (1, .int v1), (2, .int v2), (3, .int v3), (4, .long v4), (6, .int (s.2 + (1 : Int32)))]) [1, 2, 3, 4, 5, 0] rfl ?_
    exact kin _ rfl
set_option maxHeartbeats 4000000 in
set_option maxRecDepth 100000 in
theorem wj_m_draw_80 {l : Launch} {D : va_G} {cs : Nat → ClassId} {K : XK} {ad : Nat → Nat} {rest : va_W} (C : XC D cs K 7 rm_m_draw cX7_draw RX7 wsX7_draw (some .int)) {n : Nat} {σ : ST} {v1 : Int32} {v2 : Int32} {v3 : Int32} {t0 : Int32} {o : Int32 × ST} (h : j_m_draw_80 n σ v1 v2 v3 t0 = some o) (hret : XRi l D K cX7_draw o.1 (wM cs ad o.2 rest)) : XW l D K 0 0 (wM cs ad σ rest) 80 [(0, .ref (ad 0)), (1, .int v1), (2, .int v2), (3, .int v3)] [.int t0] := by
  unfold j_m_draw_80 at h
  refine X_i2l C dX7_draw_80 ?_
  refine X_iload_n C 2 rfl rfl dX7_draw_81 ?_
  refine X_i2l C dX7_draw_82 ?_
  refine X_ladd C dX7_draw_83 ?_
  refine X_lstore (vs1 := [(4, .long (t0.toInt64 + v2.toInt64)), (0, .ref (ad 0)), (1, .int v1), (2, .int v2), (3, .int v3)]) C (by decide) rfl dX7_draw_84 ?_
  refine X_lload C 0 rfl dX7_draw_86 ?_
  refine X_lconst (v := 0) C (by decide) dX7_draw_88 ?_
  refine X_lcmp C dX7_draw_89 ?_
  refine X_iflt C (tgt := 102) (by decide) dX7_draw_90 h (fun h => ?_) (fun h => ?_)
  · refine X_loc (vs1 := []) [] rfl ?_
    exact wj_m_draw_102 C h hret
  · refine X_lload C 0 rfl dX7_draw_93 ?_
    refine X_ldc2 (v := 1000) C hc185_m_draw dX7_draw_95 ?_
    refine X_lcmp C dX7_draw_98 ?_
    refine X_ifle C (tgt := 104) (by decide) dX7_draw_99 h (fun h => ?_) (fun h => ?_)
    · refine X_aload_n C 1 rfl rfl dX7_draw_104 ?_
      refine X_get C 0 8 hi7_m_draw hf137_m_draw (me_0 _ _ _ _) rfl (by decide) rfl dX7_draw_105 ?_
      refine X_ifne C (tgt := 173) (by decide) dX7_draw_108 h (fun h => ?_) (fun h => ?_)
      · refine X_loc (vs1 := [(0, .ref (ad 0)), (1, .int v1), (2, .int v2), (3, .int v3), (4, .long (t0.toInt64 + v2.toInt64))]) [1, 2, 3, 4, 0] rfl ?_
        exact wj_m_draw_173 C h hret
      · refine X_aload_n C 1 rfl rfl dX7_draw_111 ?_
        refine X_iconst (v := 1) C (by decide) dX7_draw_112 ?_
        refine X_put (ty := .boolean) C 0 8 hi7_m_draw hf137_m_draw tyX7 tyX7_ok nmX7 (me_0 _ _ _ _) rfl (by decide) rfl (by decide +kernel) (jz_nar (by decide)) (jz_fit (by decide)) (Nat.le_of_ble_eq_true rfl) (ms_0_8 _ _ _ _ _) dX7_draw_113 ?_
        refine X_nam (G := fun σ7 => XW l D K 0 0 (wM cs ad σ7 rest) 116 [(4, .long (t0.toInt64 + v2.toInt64)), (0, .ref (ad 0)), (1, .int v1), (2, .int v2), (3, .int v3)] []) h (fun σ7 h => ?_)
        refine X_aload_n C 1 rfl rfl dX7_draw_116 ?_
        refine X_aload_n C 1 rfl rfl dX7_draw_117 ?_
        refine X_get C 0 1 hi7_m_draw hf7_m_draw (me_0 _ _ _ _) rfl (by decide) rfl dX7_draw_118 ?_
        refine X_put (ty := .int) C 0 9 hi7_m_draw hf175_m_draw tyX7 tyX7_ok nmX7 (me_0 _ _ _ _) rfl (by decide) rfl (by decide +kernel) rfl rfl (Nat.le_of_ble_eq_true rfl) (ms_0_9 _ _ _ _ _) dX7_draw_121 ?_
        refine X_nam (G := fun σ8 => XW l D K 0 0 (wM cs ad σ8 rest) 124 [(4, .long (t0.toInt64 + v2.toInt64)), (0, .ref (ad 0)), (1, .int v1), (2, .int v2), (3, .int v3)] []) h (fun σ8 h => ?_)
        refine X_iconst (v := 0) C (by decide) dX7_draw_124 ?_
        refine X_istore (vs1 := [(6, .int (0 : Int32)), (4, .long (t0.toInt64 + v2.toInt64)), (0, .ref (ad 0)), (1, .int v1), (2, .int v2), (3, .int v3)]) C (by decide) rfl dX7_draw_125 ?_
        obtain ⟨e10, he10, h⟩ := bnd_some h
        refine X_loc (vs1 := [(0, .ref (ad 0)), (1, .int v1), (2, .int v2), (3, .int v3), (4, .long (t0.toInt64 + v2.toInt64)), (6, .int (0 : Int32))]) [2, 3, 4, 5, 1, 0] rfl ?_
        refine wb_m_draw_127 C (e := e10) (fun t ht => ?_) n _ he10
        subst ht
        refine X_iconst (v := 0) C (by decide) dX7_draw_149 ?_
        refine X_istore (vs1 := [(6, .int (0 : Int32)), (0, .ref (ad 0)), (1, .int v1), (2, .int v2), (3, .int v3), (4, .long (t0.toInt64 + v2.toInt64))]) C (by decide) rfl dX7_draw_150 ?_
        obtain ⟨e12, he12, h⟩ := bnd_some h
        refine X_loc (vs1 := [(0, .ref (ad 0)), (1, .int v1), (2, .int v2), (3, .int v3), (4, .long (t0.toInt64 + v2.toInt64)), (6, .int (0 : Int32))]) [1, 2, 3, 4, 5, 0] rfl ?_
        refine wb_m_draw_152 C (e := e12) (fun t ht => ?_) n _ he12
        subst ht
        exact wj_m_draw_173 C h hret
    · refine X_loc (vs1 := []) [] rfl ?_
      exact wj_m_draw_102 C h hret
set_option maxHeartbeats 4000000 in
set_option maxRecDepth 100000 in
theorem wj_m_draw_63 {l : Launch} {D : va_G} {cs : Nat → ClassId} {K : XK} {ad : Nat → Nat} {rest : va_W} (C : XC D cs K 7 rm_m_draw cX7_draw RX7 wsX7_draw (some .int)) {n : Nat} {σ : ST} {v1 : Int32} {v2 : Int32} {v3 : Int32} {o : Int32 × ST} (h : j_m_draw_63 n σ v1 v2 v3 = some o) (hret : XRi l D K cX7_draw o.1 (wM cs ad o.2 rest)) : XW l D K 0 0 (wM cs ad σ rest) 63 [(0, .ref (ad 0)), (1, .int v1), (2, .int v2), (3, .int v3)] [] := by
  unfold j_m_draw_63 at h
  refine X_aload_n C 0 rfl rfl dX7_draw_63 ?_
  refine X_get C 0 8 hi7_m_draw hf137_m_draw (me_0 _ _ _ _) rfl (by decide) rfl dX7_draw_64 ?_
  refine X_ifeq C (tgt := 79) (by decide) dX7_draw_67 h (fun h => ?_) (fun h => ?_)
  · refine X_iconst (v := 0) C (by decide) dX7_draw_79 ?_
    exact wj_m_draw_80 C h hret
  · refine X_aload_n C 0 rfl rfl dX7_draw_70 ?_
    refine X_get C 0 11 hi7_m_draw hf26_m_draw (me_0 _ _ _ _) rfl (by decide) rfl dX7_draw_71 ?_
    refine X_iload_n C 1 rfl rfl dX7_draw_74 ?_
    refine X_iald C 5 (me_5 _ _ _ _) h dX7_draw_75 (fun h => ?_)
    refine X_goto C (tgt := 80) (by decide) dX7_draw_76 ?_
    exact wj_m_draw_80 C h hret
set_option maxHeartbeats 4000000 in
set_option maxRecDepth 100000 in
theorem c_m_draw {l : Launch} {D : va_G} {cs : Nat → ClassId} {ad : Nat → Nat} {rest : va_W} {n : Nat} {σ : ST} {a0 : Int32} {a1 : Int32} {o : Int32 × ST} (h : f_m_draw n σ a0 a1 = some o) : CTi l D cs yX7_draw wsX7_draw rm_m_draw [.ref (ad 0), .int a0, .int a1] (wM cs ad σ rest) o.1 (wM cs ad o.2 rest) := by
  refine CTi_of (cc := cX7_draw) (nL := 7) (by decide) rfl (Nat.le_of_ble_eq_true rfl) ?_
  intro K C hret
  unfold f_m_draw at h
  refine X_loc (vs1 := [(0, .ref (ad 0)), (1, .int a0), (2, .int a1)]) [0, 1, 2] rfl ?_
  refine X_aload_n C 0 rfl rfl dX7_draw_0 ?_
  refine X_iconst (v := 0) C (by decide) dX7_draw_1 ?_
  refine X_put (ty := .int) C 0 0 hi7_m_draw hf85_m_draw tyX7 tyX7_ok nmX7 (me_0 _ _ _ _) rfl (by decide) rfl (by decide +kernel) rfl rfl (Nat.le_of_ble_eq_true rfl) (ms_0_0 _ _ _ _ _) dX7_draw_2 ?_
  refine X_nam (G := fun σ1 => XW l D K 0 0 (wM cs ad σ1 rest) 5 [(0, .ref (ad 0)), (1, .int a0), (2, .int a1)] []) h (fun σ1 h => ?_)
  refine X_aload_n C 0 rfl rfl dX7_draw_5 ?_
  obtain ⟨o2, eo2, h⟩ := bnd_some h
  refine X_callVv C (n := 0) (As := []) (c_m_makeSides eo2) rfl gX7_draw_X7_makeSides rfl rfl (me_0 _ _ _ _) rfl rfl (by decide +kernel) ⟨Nat.le_of_ble_eq_true rfl, Nat.le_of_ble_eq_true rfl⟩ ⟨Nat.zero_le _, Nat.zero_le _⟩ rfl rfl (Nat.le_of_ble_eq_true rfl) dX7_draw_6 ?_
  refine X_iconst (v := 0) C (by decide) dX7_draw_9 ?_
  refine X_istore_n (vs1 := [(3, .int (0 : Int32)), (0, .ref (ad 0)), (1, .int a0), (2, .int a1)]) C rfl (by decide) rfl dX7_draw_10 ?_
  obtain ⟨e3, he3, h⟩ := bnd_some h
  refine X_loc (vs1 := [(0, .ref (ad 0)), (1, .int a0), (2, .int a1), (3, .int (0 : Int32))]) [1, 2, 3, 0] rfl ?_
  refine wb_m_draw_11 C (e := e3) (fun t ht => ?_) n _ he3
  subst ht
  refine X_iload_n C 3 rfl rfl dX7_draw_35 ?_
  refine X_aload_n C 0 rfl rfl dX7_draw_36 ?_
  refine X_get C 0 25 hi7_m_draw hf98_m_draw (me_0 _ _ _ _) rfl (by decide) rfl dX7_draw_37 ?_
  refine X_icmpeq C (tgt := 61) (by decide) dX7_draw_40 h (fun h => ?_) (fun h => ?_)
  · refine X_loc (vs1 := []) [] rfl ?_
    exact wj_m_draw_61 C h hret
  · refine X_aload_n C 0 rfl rfl dX7_draw_43 ?_
    refine X_get C 0 8 hi7_m_draw hf137_m_draw (me_0 _ _ _ _) rfl (by decide) rfl dX7_draw_44 ?_
    refine X_ifeq C (tgt := 63) (by decide) dX7_draw_47 h (fun h => ?_) (fun h => ?_)
    · exact wj_m_draw_63 C h hret
    · refine X_aload_n C 0 rfl rfl dX7_draw_50 ?_
      refine X_get C 0 9 hi7_m_draw hf175_m_draw (me_0 _ _ _ _) rfl (by decide) rfl dX7_draw_51 ?_
      refine X_aload_n C 0 rfl rfl dX7_draw_54 ?_
      refine X_get C 0 1 hi7_m_draw hf7_m_draw (me_0 _ _ _ _) rfl (by decide) rfl dX7_draw_55 ?_
      refine X_icmpeq C (tgt := 63) (by decide) dX7_draw_58 h (fun h => ?_) (fun h => ?_)
      · exact wj_m_draw_63 C h hret
      · refine X_loc (vs1 := []) [] rfl ?_
        exact wj_m_draw_61 C h hret
