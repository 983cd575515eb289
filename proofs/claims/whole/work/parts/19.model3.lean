abbrev rm_m_tell : Room := { frames := 2, cells := 0, slots := 0, locals := 43 }
def j_m_tell_90 (n : Nat) (σ : ST) (t0 : Int32) : Option (Int32 × ST) :=
  some (t0, σ)
def j_m_tell_110 (n : Nat) (σ : ST) (t0 : Int32) : Option (Int32 × ST) :=
  some (t0, σ)
def f_m_tell (n : Nat) (σ : ST) (a0 : Int32) (a1 : Int32) : Option (Int32 × ST) :=
  nam (sS σ 0 (0 : Int32)) fun σ1 =>
  bnd (f_m_isArc n σ1 a0) fun o2 =>
  if o2 = 0 then
    some ((-1 : Int32), σ1)
  else
    if a1 = (0 : Int32) then
      grd (jin a0 16) <|
      some (σ1.2 1 (jix a0), σ1)
    else
    if a1 = (1 : Int32) then
      grd (jin a0 16) <|
      some (σ1.2 2 (jix a0), σ1)
    else
    if a1 = (2 : Int32) then
      grd (jin a0 16) <|
      some (σ1.2 3 (jix a0), σ1)
    else
    if a1 = (3 : Int32) then
      if (σ1.1 8) = 0 then
        j_m_tell_90 n σ1 (0 : Int32)
      else
        grd (jin a0 16) <|
        j_m_tell_90 n σ1 (σ1.2 4 (jix a0))
    else
    if a1 = (4 : Int32) then
      if (σ1.1 6) = 0 then
        j_m_tell_110 n σ1 (0 : Int32)
      else
        j_m_tell_110 n σ1 ((jshr (σ1.1 7) a0) &&& (1 : Int32))
    else
      some ((-1 : Int32), σ1)
theorem hf153_m_tell : Cond.fieldLink RX7 153 (TX7 7).1 (TX7 7).2.1 (TX7 7).2.2.1 ∈ wsX7_tell := by decide +kernel
theorem hf134_m_tell : Cond.fieldLink RX7 134 (TX7 6).1 (TX7 6).2.1 (TX7 6).2.2.1 ∈ wsX7_tell := by decide +kernel
theorem hf23_m_tell : Cond.fieldLink RX7 23 (TX7 10).1 (TX7 10).2.1 (TX7 10).2.2.1 ∈ wsX7_tell := by decide +kernel
theorem hf137_m_tell : Cond.fieldLink RX7 137 (TX7 8).1 (TX7 8).2.1 (TX7 8).2.2.1 ∈ wsX7_tell := by decide +kernel
theorem hf20_m_tell : Cond.fieldLink RX7 20 (TX7 5).1 (TX7 5).2.1 (TX7 5).2.2.1 ∈ wsX7_tell := by decide +kernel
theorem hf17_m_tell : Cond.fieldLink RX7 17 (TX7 4).1 (TX7 4).2.1 (TX7 4).2.2.1 ∈ wsX7_tell := by decide +kernel
theorem hf13_m_tell : Cond.fieldLink RX7 13 (TX7 3).1 (TX7 3).2.1 (TX7 3).2.2.1 ∈ wsX7_tell := by decide +kernel
theorem hf85_m_tell : Cond.fieldLink RX7 85 (TX7 0).1 (TX7 0).2.1 (TX7 0).2.2.1 ∈ wsX7_tell := by decide +kernel
theorem hi7_m_tell : ∀ w ∈ u_ws RX7 TX7 34, w ∈ wsX7_tell := by decide +kernel
set_option maxHeartbeats 4000000 in
set_option maxRecDepth 100000 in
theorem wj_m_tell_90 {l : Launch} {D : va_G} {cs : Nat → ClassId} {K : XK} {ad : Nat → Nat} {rest : va_W} (C : XC D cs K 3 rm_m_tell cX7_tell RX7 wsX7_tell (some .int)) {n : Nat} {σ : ST} {t0 : Int32} {o : Int32 × ST} (h : j_m_tell_90 n σ t0 = some o) (hret : XRi l D K cX7_tell o.1 (wM cs ad o.2 rest)) : XW l D K 0 0 (wM cs ad σ rest) 90 [] [.int t0] := by
  unfold j_m_tell_90 at h
  obtain rfl := Option.some.inj h
  exact hret _ _ dX7_tell_90
set_option maxHeartbeats 4000000 in
set_option maxRecDepth 100000 in
theorem wj_m_tell_110 {l : Launch} {D : va_G} {cs : Nat → ClassId} {K : XK} {ad : Nat → Nat} {rest : va_W} (C : XC D cs K 3 rm_m_tell cX7_tell RX7 wsX7_tell (some .int)) {n : Nat} {σ : ST} {t0 : Int32} {o : Int32 × ST} (h : j_m_tell_110 n σ t0 = some o) (hret : XRi l D K cX7_tell o.1 (wM cs ad o.2 rest)) : XW l D K 0 0 (wM cs ad σ rest) 110 [] [.int t0] := by
  unfold j_m_tell_110 at h
  obtain rfl := Option.some.inj h
  exact hret _ _ dX7_tell_110
set_option maxHeartbeats 4000000 in
set_option maxRecDepth 100000 in
theorem c_m_tell {l : Launch} {D : va_G} {cs : Nat → ClassId} {ad : Nat → Nat} {rest : va_W} {n : Nat} {σ : ST} {a0 : Int32} {a1 : Int32} {o : Int32 × ST} (h : f_m_tell n σ a0 a1 = some o) : CTi l D cs yX7_tell wsX7_tell rm_m_tell [.ref (ad 0), .int a0, .int a1] (wM cs ad σ rest) o.1 (wM cs ad o.2 rest) := by
  refine CTi_of (cc := cX7_tell) (nL := 3) (by decide) rfl (Nat.le_of_ble_eq_true rfl) ?_
  intro K C hret
  unfold f_m_tell at h
  refine X_loc (vs1 := [(0, .ref (ad 0)), (1, .int a0), (2, .int a1)]) [0, 1, 2] rfl ?_
  refine X_aload_n C 0 rfl rfl dX7_tell_0 ?_
  refine X_iconst (v := 0) C (by decide) dX7_tell_1 ?_
  refine X_put (ty := .int) C 0 0 hi7_m_tell hf85_m_tell tyX7 tyX7_ok nmX7 (me_0 _ _ _ _) rfl (by decide) rfl (by decide +kernel) rfl rfl (Nat.le_of_ble_eq_true rfl) (ms_0_0 _ _ _ _ _) dX7_tell_2 ?_
  refine X_nam (G := fun σ1 => XW l D K 0 0 (wM cs ad σ1 rest) 5 [(0, .ref (ad 0)), (1, .int a0), (2, .int a1)] []) h (fun σ1 h => ?_)
  refine X_aload_n C 0 rfl rfl dX7_tell_5 ?_
  refine X_iload_n C 1 rfl rfl dX7_tell_6 ?_
  obtain ⟨o2, eo2, h⟩ := bnd_some h
  refine X_callVi C (n := 1) (As := [.int a0]) (c_m_isArc eo2) rfl gX7_tell_X7_isArc rfl rfl (me_0 _ _ _ _) rfl rfl (by decide +kernel) ⟨Nat.le_of_ble_eq_true rfl, Nat.le_of_ble_eq_true rfl⟩ ⟨Nat.zero_le _, Nat.zero_le _⟩ rfl rfl (Nat.le_of_ble_eq_true rfl) dX7_tell_7 ?_
  refine X_ifne C (tgt := 15) (by decide) dX7_tell_10 h (fun h => ?_) (fun h => ?_)
  · refine X_iload_n C 2 rfl rfl dX7_tell_15 ?_
    refine X_case h (fun hx0 h => ?_) (fun hx0 h => ?_)
    · refine X_tblIn C (tgt := 52) (by rw [hx0]; decide) (by rw [hx0]; decide) (by rw [hx0]; rfl) (by decide) dX7_tell_16 ?_
      refine X_aload_n C 0 rfl rfl dX7_tell_52 ?_
      refine X_get C 0 3 hi7_m_tell hf13_m_tell (me_0 _ _ _ _) rfl (by decide) rfl dX7_tell_53 ?_
      refine X_iload_n C 1 rfl rfl dX7_tell_56 ?_
      refine X_iald C 1 (me_1 _ _ _ _) h dX7_tell_57 (fun h => ?_)
      obtain rfl := Option.some.inj h
      exact hret _ _ dX7_tell_58
    refine X_case h (fun hx1 h => ?_) (fun hx1 h => ?_)
    · refine X_tblIn C (tgt := 59) (by rw [hx1]; decide) (by rw [hx1]; decide) (by rw [hx1]; rfl) (by decide) dX7_tell_16 ?_
      refine X_aload_n C 0 rfl rfl dX7_tell_59 ?_
      refine X_get C 0 4 hi7_m_tell hf17_m_tell (me_0 _ _ _ _) rfl (by decide) rfl dX7_tell_60 ?_
      refine X_iload_n C 1 rfl rfl dX7_tell_63 ?_
      refine X_iald C 2 (me_2 _ _ _ _) h dX7_tell_64 (fun h => ?_)
      obtain rfl := Option.some.inj h
      exact hret _ _ dX7_tell_65
    refine X_case h (fun hx2 h => ?_) (fun hx2 h => ?_)
    · refine X_tblIn C (tgt := 66) (by rw [hx2]; decide) (by rw [hx2]; decide) (by rw [hx2]; rfl) (by decide) dX7_tell_16 ?_
      refine X_aload_n C 0 rfl rfl dX7_tell_66 ?_
      refine X_get C 0 5 hi7_m_tell hf20_m_tell (me_0 _ _ _ _) rfl (by decide) rfl dX7_tell_67 ?_
      refine X_iload_n C 1 rfl rfl dX7_tell_70 ?_
      refine X_iald C 3 (me_3 _ _ _ _) h dX7_tell_71 (fun h => ?_)
      obtain rfl := Option.some.inj h
      exact hret _ _ dX7_tell_72
    refine X_case h (fun hx3 h => ?_) (fun hx3 h => ?_)
    · refine X_tblIn C (tgt := 73) (by rw [hx3]; decide) (by rw [hx3]; decide) (by rw [hx3]; rfl) (by decide) dX7_tell_16 ?_
      refine X_aload_n C 0 rfl rfl dX7_tell_73 ?_
      refine X_get C 0 8 hi7_m_tell hf137_m_tell (me_0 _ _ _ _) rfl (by decide) rfl dX7_tell_74 ?_
      refine X_ifeq C (tgt := 89) (by decide) dX7_tell_77 h (fun h => ?_) (fun h => ?_)
      · refine X_iconst (v := 0) C (by decide) dX7_tell_89 ?_
        refine X_loc (vs1 := []) [] rfl ?_
        exact wj_m_tell_90 C h hret
      · refine X_aload_n C 0 rfl rfl dX7_tell_80 ?_
        refine X_get C 0 10 hi7_m_tell hf23_m_tell (me_0 _ _ _ _) rfl (by decide) rfl dX7_tell_81 ?_
        refine X_iload_n C 1 rfl rfl dX7_tell_84 ?_
        refine X_iald C 4 (me_4 _ _ _ _) h dX7_tell_85 (fun h => ?_)
        refine X_goto C (tgt := 90) (by decide) dX7_tell_86 ?_
        refine X_loc (vs1 := []) [] rfl ?_
        exact wj_m_tell_90 C h hret
    refine X_case h (fun hx4 h => ?_) (fun hx4 h => ?_)
    · refine X_tblIn C (tgt := 91) (by rw [hx4]; decide) (by rw [hx4]; decide) (by rw [hx4]; rfl) (by decide) dX7_tell_16 ?_
      refine X_aload_n C 0 rfl rfl dX7_tell_91 ?_
      refine X_get C 0 6 hi7_m_tell hf134_m_tell (me_0 _ _ _ _) rfl (by decide) rfl dX7_tell_92 ?_
      refine X_ifeq C (tgt := 109) (by decide) dX7_tell_95 h (fun h => ?_) (fun h => ?_)
      · refine X_iconst (v := 0) C (by decide) dX7_tell_109 ?_
        refine X_loc (vs1 := []) [] rfl ?_
        exact wj_m_tell_110 C h hret
      · refine X_aload_n C 0 rfl rfl dX7_tell_98 ?_
        refine X_get C 0 7 hi7_m_tell hf153_m_tell (me_0 _ _ _ _) rfl (by decide) rfl dX7_tell_99 ?_
        refine X_iload_n C 1 rfl rfl dX7_tell_102 ?_
        refine X_ishr C dX7_tell_103 ?_
        refine X_iconst (v := 1) C (by decide) dX7_tell_104 ?_
        refine X_iand C dX7_tell_105 ?_
        refine X_goto C (tgt := 110) (by decide) dX7_tell_106 ?_
        refine X_loc (vs1 := []) [] rfl ?_
        exact wj_m_tell_110 C h hret
    have hx0t := lv_neT (a := 0) hx0 (by decide)
    have hx1t := lv_neT (a := 1) hx1 (by decide)
    have hx2t := lv_neT (a := 2) hx2 (by decide)
    have hx3t := lv_neT (a := 3) hx3 (by decide)
    have hx4t := lv_neT (a := 4) hx4 (by decide)
    refine X_tblOut C (tgt := 111) (by omega) (by decide) dX7_tell_16 ?_
    refine X_iconst (v := (-1)) C (by decide) dX7_tell_111 ?_
    obtain rfl := Option.some.inj h
    exact hret _ _ dX7_tell_112
  · refine X_iconst (v := (-1)) C (by decide) dX7_tell_13 ?_
    obtain rfl := Option.some.inj h
    exact hret _ _ dX7_tell_14

abbrev rm_m_node : Room := { frames := 2, cells := 0, slots := 0, locals := 49 }
def f_m_node (n : Nat) (σ : ST) (a0 : Int32) (a1 : Int32) : Option (Int32 × ST) :=
  nam (sS σ 0 (0 : Int32)) fun σ1 =>
  bnd (f_m_isNode n σ1 a0) fun o2 =>
  if o2 = 0 then
    some ((-1 : Int32), σ1)
  else
    if a1 = (0 : Int32) then
      bnd (f_m_partOf n σ1 a0) fun o3 =>
      some (o3, σ1)
    else
    if a1 = (1 : Int32) then
      bnd (f_m_reach n σ1 (jshl (1 : Int32) a0) (65535 : Int32) (1 : Int32)) fun o4 =>
      bnd (f_m_lowest n o4) fun o5 =>
      some (o5, σ1)
    else
    if a1 = (2 : Int32) then
      bnd (f_m_reach n σ1 (jshl (1 : Int32) a0) (0 : Int32) (1 : Int32)) fun o6 =>
      some (o6, σ1)
    else
    if a1 = (3 : Int32) then
      bnd (f_m_reach n σ1 (jshl (1 : Int32) a0) (0 : Int32) (0 : Int32)) fun o7 =>
      some (o7, σ1)
    else
      some ((-1 : Int32), σ1)
theorem hc122_m_node : Cond.constant RX7 122 (65535) ∈ wsX7_node := by decide +kernel
theorem hf85_m_node : Cond.fieldLink RX7 85 (TX7 0).1 (TX7 0).2.1 (TX7 0).2.2.1 ∈ wsX7_node := by decide +kernel
theorem hi7_m_node : ∀ w ∈ u_ws RX7 TX7 34, w ∈ wsX7_node := by decide +kernel
set_option maxHeartbeats 4000000 in
set_option maxRecDepth 100000 in
theorem c_m_node {l : Launch} {D : va_G} {cs : Nat → ClassId} {ad : Nat → Nat} {rest : va_W} {n : Nat} {σ : ST} {a0 : Int32} {a1 : Int32} {o : Int32 × ST} (h : f_m_node n σ a0 a1 = some o) : CTi l D cs yX7_node wsX7_node rm_m_node [.ref (ad 0), .int a0, .int a1] (wM cs ad σ rest) o.1 (wM cs ad o.2 rest) := by
  refine CTi_of (cc := cX7_node) (nL := 3) (by decide) rfl (Nat.le_of_ble_eq_true rfl) ?_
  intro K C hret
  unfold f_m_node at h
  refine X_loc (vs1 := [(0, .ref (ad 0)), (1, .int a0), (2, .int a1)]) [0, 1, 2] rfl ?_
  refine X_aload_n C 0 rfl rfl dX7_node_0 ?_
  refine X_iconst (v := 0) C (by decide) dX7_node_1 ?_
  refine X_put (ty := .int) C 0 0 hi7_m_node hf85_m_node tyX7 tyX7_ok nmX7 (me_0 _ _ _ _) rfl (by decide) rfl (by decide +kernel) rfl rfl (Nat.le_of_ble_eq_true rfl) (ms_0_0 _ _ _ _ _) dX7_node_2 ?_
  refine X_nam (G := fun σ1 => XW l D K 0 0 (wM cs ad σ1 rest) 5 [(0, .ref (ad 0)), (1, .int a0), (2, .int a1)] []) h (fun σ1 h => ?_)
  refine X_aload_n C 0 rfl rfl dX7_node_5 ?_
  refine X_iload_n C 1 rfl rfl dX7_node_6 ?_
  obtain ⟨o2, eo2, h⟩ := bnd_some h
  refine X_callVi C (n := 1) (As := [.int a0]) (c_m_isNode eo2) rfl gX7_node_X7_isNode rfl rfl (me_0 _ _ _ _) rfl rfl (by decide +kernel) ⟨Nat.le_of_ble_eq_true rfl, Nat.le_of_ble_eq_true rfl⟩ ⟨Nat.zero_le _, Nat.zero_le _⟩ rfl rfl (Nat.le_of_ble_eq_true rfl) dX7_node_7 ?_
  refine X_ifne C (tgt := 15) (by decide) dX7_node_10 h (fun h => ?_) (fun h => ?_)
  · refine X_iload_n C 2 rfl rfl dX7_node_15 ?_
    refine X_case h (fun hx0 h => ?_) (fun hx0 h => ?_)
    · refine X_tblIn C (tgt := 48) (by rw [hx0]; decide) (by rw [hx0]; decide) (by rw [hx0]; rfl) (by decide) dX7_node_16 ?_
      refine X_aload_n C 0 rfl rfl dX7_node_48 ?_
      refine X_iload_n C 1 rfl rfl dX7_node_49 ?_
      obtain ⟨o3, eo3, h⟩ := bnd_some h
      refine X_callVi C (n := 1) (As := [.int a0]) (c_m_partOf eo3) rfl gX7_node_X7_partOf rfl rfl (me_0 _ _ _ _) rfl rfl (by decide +kernel) ⟨Nat.le_of_ble_eq_true rfl, Nat.le_of_ble_eq_true rfl⟩ ⟨Nat.zero_le _, Nat.zero_le _⟩ rfl rfl (Nat.le_of_ble_eq_true rfl) dX7_node_50 ?_
      obtain rfl := Option.some.inj h
      exact hret _ _ dX7_node_53
    refine X_case h (fun hx1 h => ?_) (fun hx1 h => ?_)
    · refine X_tblIn C (tgt := 54) (by rw [hx1]; decide) (by rw [hx1]; decide) (by rw [hx1]; rfl) (by decide) dX7_node_16 ?_
      refine X_aload_n C 0 rfl rfl dX7_node_54 ?_
      refine X_iconst (v := 1) C (by decide) dX7_node_55 ?_
      refine X_iload_n C 1 rfl rfl dX7_node_56 ?_
      refine X_ishl C dX7_node_57 ?_
      refine X_ldc (v := 65535) C hc122_m_node dX7_node_58 ?_
      refine X_iconst (v := 1) C (by decide) dX7_node_60 ?_
      obtain ⟨o4, eo4, h⟩ := bnd_some h
      refine X_callVi C (n := 3) (As := [.int (jshl (1 : Int32) a0), .int (65535 : Int32), .int (1 : Int32)]) (c_m_reach eo4) rfl gX7_node_X7_reach rfl rfl (me_0 _ _ _ _) rfl rfl (by decide +kernel) ⟨Nat.le_of_ble_eq_true rfl, Nat.le_of_ble_eq_true rfl⟩ ⟨Nat.zero_le _, Nat.zero_le _⟩ rfl rfl (Nat.le_of_ble_eq_true rfl) dX7_node_61 ?_
      obtain ⟨o5, eo5, h⟩ := bnd_some h
      refine X_callSi C (n := 1) (As := [.int o4]) (c_m_lowest eo5) gX7_node_X7_lowest rfl rfl rfl (by decide +kernel) ⟨Nat.le_of_ble_eq_true rfl, Nat.le_of_ble_eq_true rfl⟩ ⟨Nat.zero_le _, Nat.zero_le _⟩ rfl rfl (Nat.le_of_ble_eq_true rfl) dX7_node_64 ?_
      obtain rfl := Option.some.inj h
      exact hret _ _ dX7_node_67
    refine X_case h (fun hx2 h => ?_) (fun hx2 h => ?_)
    · refine X_tblIn C (tgt := 68) (by rw [hx2]; decide) (by rw [hx2]; decide) (by rw [hx2]; rfl) (by decide) dX7_node_16 ?_
      refine X_aload_n C 0 rfl rfl dX7_node_68 ?_
      refine X_iconst (v := 1) C (by decide) dX7_node_69 ?_
      refine X_iload_n C 1 rfl rfl dX7_node_70 ?_
      refine X_ishl C dX7_node_71 ?_
      refine X_iconst (v := 0) C (by decide) dX7_node_72 ?_
      refine X_iconst (v := 1) C (by decide) dX7_node_73 ?_
      obtain ⟨o6, eo6, h⟩ := bnd_some h
      refine X_callVi C (n := 3) (As := [.int (jshl (1 : Int32) a0), .int (0 : Int32), .int (1 : Int32)]) (c_m_reach eo6) rfl gX7_node_X7_reach rfl rfl (me_0 _ _ _ _) rfl rfl (by decide +kernel) ⟨Nat.le_of_ble_eq_true rfl, Nat.le_of_ble_eq_true rfl⟩ ⟨Nat.zero_le _, Nat.zero_le _⟩ rfl rfl (Nat.le_of_ble_eq_true rfl) dX7_node_74 ?_
      obtain rfl := Option.some.inj h
      exact hret _ _ dX7_node_77
    refine X_case h (fun hx3 h => ?_) (fun hx3 h => ?_)
    · refine X_tblIn C (tgt := 78) (by rw [hx3]; decide) (by rw [hx3]; decide) (by rw [hx3]; rfl) (by decide) dX7_node_16 ?_
      refine X_aload_n C 0 rfl rfl dX7_node_78 ?_
      refine X_iconst (v := 1) C (by decide) dX7_node_79 ?_
      refine X_iload_n C 1 rfl rfl dX7_node_80 ?_
      refine X_ishl C dX7_node_81 ?_
      refine X_iconst (v := 0) C (by decide) dX7_node_82 ?_
      refine X_iconst (v := 0) C (by decide) dX7_node_83 ?_
      obtain ⟨o7, eo7, h⟩ := bnd_some h
      refine X_callVi C (n := 3) (As := [.int (jshl (1 : Int32) a0), .int (0 : Int32), .int (0 : Int32)]) (c_m_reach eo7) rfl gX7_node_X7_reach rfl rfl (me_0 _ _ _ _) rfl rfl (by decide +kernel) ⟨Nat.le_of_ble_eq_true rfl, Nat.le_of_ble_eq_true rfl⟩ ⟨Nat.zero_le _, Nat.zero_le _⟩ rfl rfl (Nat.le_of_ble_eq_true rfl) dX7_node_84 ?_
      obtain rfl := Option.some.inj h
      exact hret _ _ dX7_node_87
    have hx0t := lv_neT (a := 0) hx0 (by decide)
    have hx1t := lv_neT (a := 1) hx1 (by decide)
    have hx2t := lv_neT (a := 2) hx2 (by decide)
    have hx3t := lv_neT (a := 3) hx3 (by decide)
    refine X_tblOut C (tgt := 88) (by omega) (by decide) dX7_node_16 ?_
    refine X_iconst (v := (-1)) C (by decide) dX7_node_88 ?_
    obtain rfl := Option.some.inj h
    exact hret _ _ dX7_node_89
  · refine X_iconst (v := (-1)) C (by decide) dX7_node_13 ?_
    obtain rfl := Option.some.inj h
    exact hret _ _ dX7_node_14

abbrev rm_m_members : Room := { frames := 0, cells := 0, slots := 0, locals := 0 }
def j_m_members_33_4 (n : Nat) (σ : ST) (v2 : Int32) (t0 : Int32) (t1 : Int32) : Option ((Int32 × Int32) ⊕ (Int32)) :=
  some (.inl (t1 + t0, v2 + (1 : Int32)))
def b_m_members_4 (n : Nat) (σ : ST) (s : Int32 × Int32) : Option ((Int32 × Int32) ⊕ (Int32)) :=
  if (256 : Int32) ≤ s.2 then
    some (.inr s.1)
  else
    if (σ.1 8) = 0 then
      some (.inr s.1)
    else
      grd (jin s.2 256) <|
      if (σ.2 5 (jix s.2)) ≤ 0 then
        j_m_members_33_4 n σ s.2 (0 : Int32) s.1
      else
        j_m_members_33_4 n σ s.2 (1 : Int32) s.1
def f_m_members (n : Nat) (σ : ST) : Option (Int32) :=
  bnd (lp (b_m_members_4 n σ) n ((0 : Int32), (0 : Int32))) fun e1 =>
  some e1
theorem hf26_m_members : Cond.fieldLink RX7 26 (TX7 11).1 (TX7 11).2.1 (TX7 11).2.2.1 ∈ wsX7_members := by decide +kernel
theorem hf137_m_members : Cond.fieldLink RX7 137 (TX7 8).1 (TX7 8).2.1 (TX7 8).2.2.1 ∈ wsX7_members := by decide +kernel
theorem hi7_m_members : ∀ w ∈ u_ws RX7 TX7 34, w ∈ wsX7_members := by decide +kernel
set_option maxHeartbeats 4000000 in
set_option maxRecDepth 100000 in
theorem wj_m_members_33_4 {l : Launch} {D : va_G} {cs : Nat → ClassId} {K : XK} {ad : Nat → Nat} {rest : va_W} (C : XC D cs K 3 rm_m_members cX7_members RX7 wsX7_members (some .int)) {n : Nat} {σ : ST} {v2 : Int32} {t0 : Int32} {t1 : Int32} {o : (Int32 × Int32) ⊕ (Int32)} {e : (Int32)} (h : j_m_members_33_4 n σ v2 t0 t1 = some o) (kin : ∀ (s : Int32 × Int32), o = .inl s → XW l D K 0 0 (wM cs ad σ rest) 4 [(0, .ref (ad 0)), (1, .int s.1), (2, .int s.2)] []) (kex : ∀ e1, o = .inr e1 → e1 = e) (kx : ∀ (t : Int32), e = t → XW l D K 0 0 (wM cs ad σ rest) 41 [(1, .int t)] []) : XW l D K 0 0 (wM cs ad σ rest) 33 [(0, .ref (ad 0)), (2, .int v2)] [.int t0, .int t1] := by
  unfold j_m_members_33_4 at h
  refine X_iadd C dX7_members_33 ?_
  refine X_istore_n (vs1 := [(1, .int (t1 + t0)), (0, .ref (ad 0)), (2, .int v2)]) C rfl (by decide) rfl dX7_members_34 ?_
  refine X_iinc (v := v2 + (1 : Int32)) (vs1 := [(2, .int (v2 + (1 : Int32))), (1, .int (t1 + t0)), (0, .ref (ad 0))]) C 2 rfl rfl (by decide) rfl dX7_members_35 ?_
  refine X_goto C (tgt := 4) (by decide) dX7_members_38 ?_
  obtain rfl := Option.some.inj h
  refine X_loc (vs1 := [(0, .ref (ad 0)), (1, .int (t1 + t0)), (2, .int (v2 + (1 : Int32)))]) [2, 1, 0] rfl ?_
  exact kin _ rfl
set_option maxHeartbeats 4000000 in
set_option maxRecDepth 100000 in
theorem wb_m_members_4 {l : Launch} {D : va_G} {cs : Nat → ClassId} {K : XK} {ad : Nat → Nat} {rest : va_W} (C : XC D cs K 3 rm_m_members cX7_members RX7 wsX7_members (some .int)) {n : Nat} {σ : ST} {e : (Int32)} (kx : ∀ (t : Int32), e = t → XW l D K 0 0 (wM cs ad σ rest) 41 [(1, .int t)] []) : ∀ (q : Nat) (s : Int32 × Int32), lp (b_m_members_4 n σ) q s = some e → XW l D K 0 0 (wM cs ad σ rest) 4 [(0, .ref (ad 0)), (1, .int s.1), (2, .int s.2)] [] := by
  refine lp_walk (G := fun (s : Int32 × Int32) => XW l D K 0 0 (wM cs ad σ rest) 4 [(0, .ref (ad 0)), (1, .int s.1), (2, .int s.2)] []) ?_
  intro s o h kin kex
  unfold b_m_members_4 at h
  refine X_iload_n C 2 rfl rfl dX7_members_4 ?_
  refine X_sipush (v := 256) C (by decide) dX7_members_5 ?_
  refine X_icmpge C (tgt := 41) (by decide) dX7_members_8 h (fun h => ?_) (fun h => ?_)
  · obtain rfl := Option.some.inj h
    refine X_loc (vs1 := [(1, .int s.1)]) [1] rfl ?_
    exact kx _ (kex _ rfl).symm
  · refine X_aload_n C 0 rfl rfl dX7_members_11 ?_
    refine X_get C 0 8 hi7_m_members hf137_m_members (me_0 _ _ _ _) rfl (by decide) rfl dX7_members_12 ?_
    refine X_ifeq C (tgt := 41) (by decide) dX7_members_15 h (fun h => ?_) (fun h => ?_)
    · obtain rfl := Option.some.inj h
      refine X_loc (vs1 := [(1, .int s.1)]) [1] rfl ?_
      exact kx _ (kex _ rfl).symm
    · refine X_iload_n C 1 rfl rfl dX7_members_18 ?_
      refine X_aload_n C 0 rfl rfl dX7_members_19 ?_
      refine X_get C 0 11 hi7_m_members hf26_m_members (me_0 _ _ _ _) rfl (by decide) rfl dX7_members_20 ?_
      refine X_iload_n C 2 rfl rfl dX7_members_23 ?_
      refine X_iald C 5 (me_5 _ _ _ _) h dX7_members_24 (fun h => ?_)
      refine X_ifle C (tgt := 32) (by decide) dX7_members_25 h (fun h => ?_) (fun h => ?_)
      · refine X_iconst (v := 0) C (by decide) dX7_members_32 ?_
        refine X_loc (vs1 := [(0, .ref (ad 0)), (2, .int s.2)]) [0, 2] rfl ?_
        exact wj_m_members_33_4 C h kin kex kx
      · refine X_iconst (v := 1) C (by decide) dX7_members_28 ?_
        refine X_goto C (tgt := 33) (by decide) dX7_members_29 ?_
        refine X_loc (vs1 := [(0, .ref (ad 0)), (2, .int s.2)]) [0, 2] rfl ?_
        exact wj_m_members_33_4 C h kin kex kx
set_option maxHeartbeats 4000000 in
set_option maxRecDepth 100000 in
theorem c_m_members {l : Launch} {D : va_G} {cs : Nat → ClassId} {ad : Nat → Nat} {rest : va_W} {n : Nat} {σ : ST} {o : Int32} (h : f_m_members n σ = some o) : CTi l D cs yX7_members wsX7_members rm_m_members [.ref (ad 0)] (wM cs ad σ rest) o (wM cs ad σ rest) := by
  refine CTi_of (cc := cX7_members) (nL := 3) (by decide) rfl (Nat.le_of_ble_eq_true rfl) ?_
  intro K C hret
  unfold f_m_members at h
  refine X_loc (vs1 := [(0, .ref (ad 0))]) [0] rfl ?_
  refine X_iconst (v := 0) C (by decide) dX7_members_0 ?_
  refine X_istore_n (vs1 := [(1, .int (0 : Int32)), (0, .ref (ad 0))]) C rfl (by decide) rfl dX7_members_1 ?_
  refine X_iconst (v := 0) C (by decide) dX7_members_2 ?_
  refine X_istore_n (vs1 := [(2, .int (0 : Int32)), (1, .int (0 : Int32)), (0, .ref (ad 0))]) C rfl (by decide) rfl dX7_members_3 ?_
  obtain ⟨e1, he1, h⟩ := bnd_some h
  refine X_loc (vs1 := [(0, .ref (ad 0)), (1, .int (0 : Int32)), (2, .int (0 : Int32))]) [2, 1, 0] rfl ?_
  refine wb_m_members_4 C (e := e1) (fun t ht => ?_) n _ he1
  subst ht
  refine X_iload_n C 0 rfl rfl dX7_members_41 ?_
  obtain rfl := Option.some.inj h
  exact hret _ _ dX7_members_42

abbrev rm_m_count : Room := { frames := 2, cells := 0, slots := 0, locals := 49 }
def j_m_count_89_66 (n : Nat) (σ : ST) (v3 : Int32) (t0 : Int32) (t1 : Int32) : Option ((Int32 × Int32) ⊕ (Int32)) :=
  some (.inl (t1 + t0, v3 + (1 : Int32)))
def b_m_count_66 (n : Nat) (σ : ST) (s : Int32 × Int32) : Option ((Int32 × Int32) ⊕ (Int32)) :=
  if (σ.1 1) ≤ s.2 then
    some (.inr s.1)
  else
    bnd (f_m_partOf n σ s.2) fun o2 =>
    if o2 = s.2 then
      j_m_count_89_66 n σ s.2 (1 : Int32) s.1
    else
      j_m_count_89_66 n σ s.2 (0 : Int32) s.1
def j_m_count_111 (n : Nat) (σ : ST) (t0 : Int32) : Option (Int32 × ST) :=
  some (t0, σ)
def j_m_count_125 (n : Nat) (σ : ST) (t0 : Int32) : Option (Int32 × ST) :=
  some (t0, σ)
def j_m_count_164_144 (n : Nat) (σ : ST) (v3 : Int32) (t0 : Int32) (t1 : Int32) : Option ((Int32 × Int32) ⊕ (Int32)) :=
  some (.inl (t1 + t0, v3 + (1 : Int32)))
def b_m_count_144 (n : Nat) (σ : ST) (s : Int32 × Int32) : Option ((Int32 × Int32) ⊕ (Int32)) :=
  if (4 : Int32) ≤ s.2 then
    some (.inr s.1)
  else
    grd (jin s.2 4) <|
    if (σ.2 6 (jix s.2)) = 0 then
      j_m_count_164_144 n σ s.2 (0 : Int32) s.1
    else
      j_m_count_164_144 n σ s.2 (1 : Int32) s.1
def f_m_count (n : Nat) (σ : ST) (a0 : Int32) : Option (Int32 × ST) :=
  nam (sS σ 0 (0 : Int32)) fun σ1 =>
  if a0 = (0 : Int32) then
    some (σ1.1 1, σ1)
  else
  if a0 = (1 : Int32) then
    some (σ1.1 2, σ1)
  else
  if a0 = (2 : Int32) then
    bnd (lp (b_m_count_66 n σ1) n ((0 : Int32), (0 : Int32))) fun e3 =>
    some (e3, σ1)
  else
  if a0 = (3 : Int32) then
    bnd (f_m_isWhole n σ1) fun o4 =>
    if o4 = 0 then
      j_m_count_111 n σ1 (0 : Int32)
    else
      j_m_count_111 n σ1 (1 : Int32)
  else
  if a0 = (4 : Int32) then
    bnd (f_m_isStrongWith n σ1 (0 : Int32)) fun o5 =>
    if o5 = 0 then
      j_m_count_125 n σ1 (0 : Int32)
    else
      j_m_count_125 n σ1 (1 : Int32)
  else
  if a0 = (5 : Int32) then
    bnd (f_m_makeSides n σ1) fun o6 =>
    some (o6.1 25, o6)
  else
  if a0 = (6 : Int32) then
    bnd (f_m_members n σ1) fun o7 =>
    some (o7, σ1)
  else
  if a0 = (7 : Int32) then
    bnd (lp (b_m_count_144 n σ1) n ((0 : Int32), (0 : Int32))) fun e8 =>
    some (e8, σ1)
  else
    some ((-1 : Int32), σ1)
theorem hf29_m_count : Cond.fieldLink RX7 29 (TX7 12).1 (TX7 12).2.1 (TX7 12).2.2.1 ∈ wsX7_count := by decide +kernel
theorem hf98_m_count : Cond.fieldLink RX7 98 (TX7 25).1 (TX7 25).2.1 (TX7 25).2.2.1 ∈ wsX7_count := by decide +kernel
theorem hf95_m_count : Cond.fieldLink RX7 95 (TX7 2).1 (TX7 2).2.1 (TX7 2).2.2.1 ∈ wsX7_count := by decide +kernel
theorem hf7_m_count : Cond.fieldLink RX7 7 (TX7 1).1 (TX7 1).2.1 (TX7 1).2.2.1 ∈ wsX7_count := by decide +kernel
theorem hf85_m_count : Cond.fieldLink RX7 85 (TX7 0).1 (TX7 0).2.1 (TX7 0).2.2.1 ∈ wsX7_count := by decide +kernel
theorem hi7_m_count : ∀ w ∈ u_ws RX7 TX7 34, w ∈ wsX7_count := by decide +kernel
set_option maxHeartbeats 4000000 in
set_option maxRecDepth 100000 in
theorem wj_m_count_89_66 {l : Launch} {D : va_G} {cs : Nat → ClassId} {K : XK} {ad : Nat → Nat} {rest : va_W} (C : XC D cs K 4 rm_m_count cX7_count RX7 wsX7_count (some .int)) {n : Nat} {σ : ST} {v3 : Int32} {t0 : Int32} {t1 : Int32} {o : (Int32 × Int32) ⊕ (Int32)} {e : (Int32)} (h : j_m_count_89_66 n σ v3 t0 t1 = some o) (kin : ∀ (s : Int32 × Int32), o = .inl s → XW l D K 0 0 (wM cs ad σ rest) 66 [(0, .ref (ad 0)), (2, .int s.1), (3, .int s.2)] []) (kex : ∀ e1, o = .inr e1 → e1 = e) (kx : ∀ (t : Int32), e = t → XW l D K 0 0 (wM cs ad σ rest) 97 [(2, .int t)] []) : XW l D K 0 0 (wM cs ad σ rest) 89 [(0, .ref (ad 0)), (3, .int v3)] [.int t0, .int t1] := by
  unfold j_m_count_89_66 at h
  refine X_iadd C dX7_count_89 ?_
  refine X_istore_n (vs1 := [(2, .int (t1 + t0)), (0, .ref (ad 0)), (3, .int v3)]) C rfl (by decide) rfl dX7_count_90 ?_
  refine X_iinc (v := v3 + (1 : Int32)) (vs1 := [(3, .int (v3 + (1 : Int32))), (2, .int (t1 + t0)), (0, .ref (ad 0))]) C 2 rfl rfl (by decide) rfl dX7_count_91 ?_
  refine X_goto C (tgt := 66) (by decide) dX7_count_94 ?_
  obtain rfl := Option.some.inj h
  refine X_loc (vs1 := [(0, .ref (ad 0)), (2, .int (t1 + t0)), (3, .int (v3 + (1 : Int32)))]) [2, 1, 0] rfl ?_
  exact kin _ rfl
set_option maxHeartbeats 4000000 in
set_option maxRecDepth 100000 in
theorem wb_m_count_66 {l : Launch} {D : va_G} {cs : Nat → ClassId} {K : XK} {ad : Nat → Nat} {rest : va_W} (C : XC D cs K 4 rm_m_count cX7_count RX7 wsX7_count (some .int)) {n : Nat} {σ : ST} {e : (Int32)} (kx : ∀ (t : Int32), e = t → XW l D K 0 0 (wM cs ad σ rest) 97 [(2, .int t)] []) : ∀ (q : Nat) (s : Int32 × Int32), lp (b_m_count_66 n σ) q s = some e → XW l D K 0 0 (wM cs ad σ rest) 66 [(0, .ref (ad 0)), (2, .int s.1), (3, .int s.2)] [] := by
  refine lp_walk (G := fun (s : Int32 × Int32) => XW l D K 0 0 (wM cs ad σ rest) 66 [(0, .ref (ad 0)), (2, .int s.1), (3, .int s.2)] []) ?_
  intro s o h kin kex
  unfold b_m_count_66 at h
  refine X_iload_n C 2 rfl rfl dX7_count_66 ?_
  refine X_aload_n C 0 rfl rfl dX7_count_67 ?_
  refine X_get C 0 1 hi7_m_count hf7_m_count (me_0 _ _ _ _) rfl (by decide) rfl dX7_count_68 ?_
  refine X_icmpge C (tgt := 97) (by decide) dX7_count_71 h (fun h => ?_) (fun h => ?_)
  · obtain rfl := Option.some.inj h
    refine X_loc (vs1 := [(2, .int s.1)]) [1] rfl ?_
    exact kx _ (kex _ rfl).symm
  · refine X_iload_n C 1 rfl rfl dX7_count_74 ?_
    refine X_aload_n C 0 rfl rfl dX7_count_75 ?_
    refine X_iload_n C 2 rfl rfl dX7_count_76 ?_
    obtain ⟨o2, eo2, h⟩ := bnd_some h
    refine X_callVi C (n := 1) (As := [.int s.2]) (c_m_partOf eo2) rfl gX7_count_X7_partOf rfl rfl (me_0 _ _ _ _) rfl rfl (by decide +kernel) ⟨Nat.le_of_ble_eq_true rfl, Nat.le_of_ble_eq_true rfl⟩ ⟨Nat.zero_le _, Nat.zero_le _⟩ rfl rfl (Nat.le_of_ble_eq_true rfl) dX7_count_77 ?_
    refine X_iload_n C 2 rfl rfl dX7_count_80 ?_
    refine X_icmpne C (tgt := 88) (by decide) dX7_count_81 h (fun h => ?_) (fun h => ?_)
    · refine X_iconst (v := 0) C (by decide) dX7_count_88 ?_
      refine X_loc (vs1 := [(0, .ref (ad 0)), (3, .int s.2)]) [0, 2] rfl ?_
      exact wj_m_count_89_66 C h kin kex kx
    · refine X_iconst (v := 1) C (by decide) dX7_count_84 ?_
      refine X_goto C (tgt := 89) (by decide) dX7_count_85 ?_
      refine X_loc (vs1 := [(0, .ref (ad 0)), (3, .int s.2)]) [0, 2] rfl ?_
      exact wj_m_count_89_66 C h kin kex kx
set_option maxHeartbeats 4000000 in
set_option maxRecDepth 100000 in
theorem wj_m_count_111 {l : Launch} {D : va_G} {cs : Nat → ClassId} {K : XK} {ad : Nat → Nat} {rest : va_W} (C : XC D cs K 4 rm_m_count cX7_count RX7 wsX7_count (some .int)) {n : Nat} {σ : ST} {t0 : Int32} {o : Int32 × ST} (h : j_m_count_111 n σ t0 = some o) (hret : XRi l D K cX7_count o.1 (wM cs ad o.2 rest)) : XW l D K 0 0 (wM cs ad σ rest) 111 [] [.int t0] := by
  unfold j_m_count_111 at h
  obtain rfl := Option.some.inj h
  exact hret _ _ dX7_count_111
set_option maxHeartbeats 4000000 in
set_option maxRecDepth 100000 in
theorem wj_m_count_125 {l : Launch} {D : va_G} {cs : Nat → ClassId} {K : XK} {ad : Nat → Nat} {rest : va_W} (C : XC D cs K 4 rm_m_count cX7_count RX7 wsX7_count (some .int)) {n : Nat} {σ : ST} {t0 : Int32} {o : Int32 × ST} (h : j_m_count_125 n σ t0 = some o) (hret : XRi l D K cX7_count o.1 (wM cs ad o.2 rest)) : XW l D K 0 0 (wM cs ad σ rest) 125 [] [.int t0] := by
  unfold j_m_count_125 at h
  obtain rfl := Option.some.inj h
  exact hret _ _ dX7_count_125
set_option maxHeartbeats 4000000 in
set_option maxRecDepth 100000 in
theorem wj_m_count_164_144 {l : Launch} {D : va_G} {cs : Nat → ClassId} {K : XK} {ad : Nat → Nat} {rest : va_W} (C : XC D cs K 4 rm_m_count cX7_count RX7 wsX7_count (some .int)) {n : Nat} {σ : ST} {v3 : Int32} {t0 : Int32} {t1 : Int32} {o : (Int32 × Int32) ⊕ (Int32)} {e : (Int32)} (h : j_m_count_164_144 n σ v3 t0 t1 = some o) (kin : ∀ (s : Int32 × Int32), o = .inl s → XW l D K 0 0 (wM cs ad σ rest) 144 [(0, .ref (ad 0)), (2, .int s.1), (3, .int s.2)] []) (kex : ∀ e1, o = .inr e1 → e1 = e) (kx : ∀ (t : Int32), e = t → XW l D K 0 0 (wM cs ad σ rest) 172 [(2, .int t)] []) : XW l D K 0 0 (wM cs ad σ rest) 164 [(0, .ref (ad 0)), (3, .int v3)] [.int t0, .int t1] := by
  unfold j_m_count_164_144 at h
  refine X_iadd C dX7_count_164 ?_
  refine X_istore_n (vs1 := [(2, .int (t1 + t0)), (0, .ref (ad 0)), (3, .int v3)]) C rfl (by decide) rfl dX7_count_165 ?_
  refine X_iinc (v := v3 + (1 : Int32)) (vs1 := [(3, .int (v3 + (1 : Int32))), (2, .int (t1 + t0)), (0, .ref (ad 0))]) C 2 rfl rfl (by decide) rfl dX7_count_166 ?_
  refine X_goto C (tgt := 144) (by decide) dX7_count_169 ?_
  obtain rfl := Option.some.inj h
  refine X_loc (vs1 := [(0, .ref (ad 0)), (2, .int (t1 + t0)), (3, .int (v3 + (1 : Int32)))]) [2, 1, 0] rfl ?_
  exact kin _ rfl
set_option maxHeartbeats 4000000 in
set_option maxRecDepth 100000 in
theorem wb_m_count_144 {l : Launch} {D : va_G} {cs : Nat → ClassId} {K : XK} {ad : Nat → Nat} {rest : va_W} (C : XC D cs K 4 rm_m_count cX7_count RX7 wsX7_count (some .int)) {n : Nat} {σ : ST} {e : (Int32)} (kx : ∀ (t : Int32), e = t → XW l D K 0 0 (wM cs ad σ rest) 172 [(2, .int t)] []) : ∀ (q : Nat) (s : Int32 × Int32), lp (b_m_count_144 n σ) q s = some e → XW l D K 0 0 (wM cs ad σ rest) 144 [(0, .ref (ad 0)), (2, .int s.1), (3, .int s.2)] [] := by
  refine lp_walk (G := fun (s : Int32 × Int32) => XW l D K 0 0 (wM cs ad σ rest) 144 [(0, .ref (ad 0)), (2, .int s.1), (3, .int s.2)] []) ?_
  intro s o h kin kex
  unfold b_m_count_144 at h
  refine X_iload_n C 2 rfl rfl dX7_count_144 ?_
  refine X_iconst (v := 4) C (by decide) dX7_count_145 ?_
  refine X_icmpge C (tgt := 172) (by decide) dX7_count_146 h (fun h => ?_) (fun h => ?_)
  · obtain rfl := Option.some.inj h
    refine X_loc (vs1 := [(2, .int s.1)]) [1] rfl ?_
    exact kx _ (kex _ rfl).symm
  · refine X_iload_n C 1 rfl rfl dX7_count_149 ?_
    refine X_aload_n C 0 rfl rfl dX7_count_150 ?_
    refine X_get C 0 12 hi7_m_count hf29_m_count (me_0 _ _ _ _) rfl (by decide) rfl dX7_count_151 ?_
    refine X_iload_n C 2 rfl rfl dX7_count_154 ?_
    refine X_zald C 6 (me_6 _ _ _ _) h dX7_count_155 (fun h => ?_)
    refine X_ifeq C (tgt := 163) (by decide) dX7_count_156 h (fun h => ?_) (fun h => ?_)
    · refine X_iconst (v := 0) C (by decide) dX7_count_163 ?_
      refine X_loc (vs1 := [(0, .ref (ad 0)), (3, .int s.2)]) [0, 2] rfl ?_
      exact wj_m_count_164_144 C h kin kex kx
    · refine X_iconst (v := 1) C (by decide) dX7_count_159 ?_
      refine X_goto C (tgt := 164) (by decide) dX7_count_160 ?_
      refine X_loc (vs1 := [(0, .ref (ad 0)), (3, .int s.2)]) [0, 2] rfl ?_
      exact wj_m_count_164_144 C h kin kex kx
set_option maxHeartbeats 4000000 in
set_option maxRecDepth 100000 in
theorem c_m_count {l : Launch} {D : va_G} {cs : Nat → ClassId} {ad : Nat → Nat} {rest : va_W} {n : Nat} {σ : ST} {a0 : Int32} {o : Int32 × ST} (h : f_m_count n σ a0 = some o) : CTi l D cs yX7_count wsX7_count rm_m_count [.ref (ad 0), .int a0] (wM cs ad σ rest) o.1 (wM cs ad o.2 rest) := by
  refine CTi_of (cc := cX7_count) (nL := 4) (by decide) rfl (Nat.le_of_ble_eq_true rfl) ?_
  intro K C hret
  unfold f_m_count at h
  refine X_loc (vs1 := [(0, .ref (ad 0)), (1, .int a0)]) [0, 1] rfl ?_
  refine X_aload_n C 0 rfl rfl dX7_count_0 ?_
  refine X_iconst (v := 0) C (by decide) dX7_count_1 ?_
  refine X_put (ty := .int) C 0 0 hi7_m_count hf85_m_count tyX7 tyX7_ok nmX7 (me_0 _ _ _ _) rfl (by decide) rfl (by decide +kernel) rfl rfl (Nat.le_of_ble_eq_true rfl) (ms_0_0 _ _ _ _ _) dX7_count_2 ?_
  refine X_nam (G := fun σ1 => XW l D K 0 0 (wM cs ad σ1 rest) 5 [(0, .ref (ad 0)), (1, .int a0)] []) h (fun σ1 h => ?_)
  refine X_iload_n C 1 rfl rfl dX7_count_5 ?_
  refine X_case h (fun hx0 h => ?_) (fun hx0 h => ?_)
  · refine X_tblIn C (tgt := 52) (by rw [hx0]; decide) (by rw [hx0]; decide) (by rw [hx0]; rfl) (by decide) dX7_count_6 ?_
    refine X_aload_n C 0 rfl rfl dX7_count_52 ?_
    refine X_get C 0 1 hi7_m_count hf7_m_count (me_0 _ _ _ _) rfl (by decide) rfl dX7_count_53 ?_
    obtain rfl := Option.some.inj h
    exact hret _ _ dX7_count_56
  refine X_case h (fun hx1 h => ?_) (fun hx1 h => ?_)
  · refine X_tblIn C (tgt := 57) (by rw [hx1]; decide) (by rw [hx1]; decide) (by rw [hx1]; rfl) (by decide) dX7_count_6 ?_
    refine X_aload_n C 0 rfl rfl dX7_count_57 ?_
    refine X_get C 0 2 hi7_m_count hf95_m_count (me_0 _ _ _ _) rfl (by decide) rfl dX7_count_58 ?_
    obtain rfl := Option.some.inj h
    exact hret _ _ dX7_count_61
  refine X_case h (fun hx2 h => ?_) (fun hx2 h => ?_)
  · refine X_tblIn C (tgt := 62) (by rw [hx2]; decide) (by rw [hx2]; decide) (by rw [hx2]; rfl) (by decide) dX7_count_6 ?_
    refine X_iconst (v := 0) C (by decide) dX7_count_62 ?_
    refine X_istore_n (vs1 := [(2, .int (0 : Int32)), (0, .ref (ad 0)), (1, .int a0)]) C rfl (by decide) rfl dX7_count_63 ?_
    refine X_iconst (v := 0) C (by decide) dX7_count_64 ?_
    refine X_istore_n (vs1 := [(3, .int (0 : Int32)), (2, .int (0 : Int32)), (0, .ref (ad 0)), (1, .int a0)]) C rfl (by decide) rfl dX7_count_65 ?_
    obtain ⟨e3, he3, h⟩ := bnd_some h
    refine X_loc (vs1 := [(0, .ref (ad 0)), (2, .int (0 : Int32)), (3, .int (0 : Int32))]) [2, 1, 0] rfl ?_
    refine wb_m_count_66 C (e := e3) (fun t ht => ?_) n _ he3
    subst ht
    refine X_iload_n C 0 rfl rfl dX7_count_97 ?_
    obtain rfl := Option.some.inj h
    exact hret _ _ dX7_count_98
  refine X_case h (fun hx3 h => ?_) (fun hx3 h => ?_)
  · refine X_tblIn C (tgt := 99) (by rw [hx3]; decide) (by rw [hx3]; decide) (by rw [hx3]; rfl) (by decide) dX7_count_6 ?_
    refine X_aload_n C 0 rfl rfl dX7_count_99 ?_
    obtain ⟨o4, eo4, h⟩ := bnd_some h
    refine X_callVi C (n := 0) (As := []) (c_m_isWhole eo4) rfl gX7_count_X7_isWhole rfl rfl (me_0 _ _ _ _) rfl rfl (by decide +kernel) ⟨Nat.le_of_ble_eq_true rfl, Nat.le_of_ble_eq_true rfl⟩ ⟨Nat.zero_le _, Nat.zero_le _⟩ rfl rfl (Nat.le_of_ble_eq_true rfl) dX7_count_100 ?_
    refine X_ifeq C (tgt := 110) (by decide) dX7_count_103 h (fun h => ?_) (fun h => ?_)
    · refine X_iconst (v := 0) C (by decide) dX7_count_110 ?_
      refine X_loc (vs1 := []) [] rfl ?_
      exact wj_m_count_111 C h hret
    · refine X_iconst (v := 1) C (by decide) dX7_count_106 ?_
      refine X_goto C (tgt := 111) (by decide) dX7_count_107 ?_
      refine X_loc (vs1 := []) [] rfl ?_
      exact wj_m_count_111 C h hret
  refine X_case h (fun hx4 h => ?_) (fun hx4 h => ?_)
  · refine X_tblIn C (tgt := 112) (by rw [hx4]; decide) (by rw [hx4]; decide) (by rw [hx4]; rfl) (by decide) dX7_count_6 ?_
    refine X_aload_n C 0 rfl rfl dX7_count_112 ?_
    refine X_iconst (v := 0) C (by decide) dX7_count_113 ?_
    obtain ⟨o5, eo5, h⟩ := bnd_some h
    refine X_callVi C (n := 1) (As := [.int (0 : Int32)]) (c_m_isStrongWith eo5) rfl gX7_count_X7_isStrongWith rfl rfl (me_0 _ _ _ _) rfl rfl (by decide +kernel) ⟨Nat.le_of_ble_eq_true rfl, Nat.le_of_ble_eq_true rfl⟩ ⟨Nat.zero_le _, Nat.zero_le _⟩ rfl rfl (Nat.le_of_ble_eq_true rfl) dX7_count_114 ?_
    refine X_ifeq C (tgt := 124) (by decide) dX7_count_117 h (fun h => ?_) (fun h => ?_)
    · refine X_iconst (v := 0) C (by decide) dX7_count_124 ?_
      refine X_loc (vs1 := []) [] rfl ?_
      exact wj_m_count_125 C h hret
    · refine X_iconst (v := 1) C (by decide) dX7_count_120 ?_
      refine X_goto C (tgt := 125) (by decide) dX7_count_121 ?_
      refine X_loc (vs1 := []) [] rfl ?_
      exact wj_m_count_125 C h hret
  refine X_case h (fun hx5 h => ?_) (fun hx5 h => ?_)
  · refine X_tblIn C (tgt := 126) (by rw [hx5]; decide) (by rw [hx5]; decide) (by rw [hx5]; rfl) (by decide) dX7_count_6 ?_
    refine X_aload_n C 0 rfl rfl dX7_count_126 ?_
    obtain ⟨o6, eo6, h⟩ := bnd_some h
    refine X_callVv C (n := 0) (As := []) (c_m_makeSides eo6) rfl gX7_count_X7_makeSides rfl rfl (me_0 _ _ _ _) rfl rfl (by decide +kernel) ⟨Nat.le_of_ble_eq_true rfl, Nat.le_of_ble_eq_true rfl⟩ ⟨Nat.zero_le _, Nat.zero_le _⟩ rfl rfl (Nat.le_of_ble_eq_true rfl) dX7_count_127 ?_
    refine X_aload_n C 0 rfl rfl dX7_count_130 ?_
    refine X_get C 0 25 hi7_m_count hf98_m_count (me_0 _ _ _ _) rfl (by decide) rfl dX7_count_131 ?_
    obtain rfl := Option.some.inj h
    exact hret _ _ dX7_count_134
  refine X_case h (fun hx6 h => ?_) (fun hx6 h => ?_)
  · refine X_tblIn C (tgt := 135) (by rw [hx6]; decide) (by rw [hx6]; decide) (by rw [hx6]; rfl) (by decide) dX7_count_6 ?_
    refine X_aload_n C 0 rfl rfl dX7_count_135 ?_
    obtain ⟨o7, eo7, h⟩ := bnd_some h
    refine X_callVi C (n := 0) (As := []) (c_m_members eo7) rfl gX7_count_X7_members rfl rfl (me_0 _ _ _ _) rfl rfl (by decide +kernel) ⟨Nat.le_of_ble_eq_true rfl, Nat.le_of_ble_eq_true rfl⟩ ⟨Nat.zero_le _, Nat.zero_le _⟩ rfl rfl (Nat.le_of_ble_eq_true rfl) dX7_count_136 ?_
    obtain rfl := Option.some.inj h
    exact hret _ _ dX7_count_139
  refine X_case h (fun hx7 h => ?_) (fun hx7 h => ?_)
  · refine X_tblIn C (tgt := 140) (by rw [hx7]; decide) (by rw [hx7]; decide) (by rw [hx7]; rfl) (by decide) dX7_count_6 ?_
    refine X_iconst (v := 0) C (by decide) dX7_count_140 ?_
    refine X_istore_n (vs1 := [(2, .int (0 : Int32)), (0, .ref (ad 0)), (1, .int a0)]) C rfl (by decide) rfl dX7_count_141 ?_
    refine X_iconst (v := 0) C (by decide) dX7_count_142 ?_
    refine X_istore_n (vs1 := [(3, .int (0 : Int32)), (2, .int (0 : Int32)), (0, .ref (ad 0)), (1, .int a0)]) C rfl (by decide) rfl dX7_count_143 ?_
    obtain ⟨e8, he8, h⟩ := bnd_some h
    refine X_loc (vs1 := [(0, .ref (ad 0)), (2, .int (0 : Int32)), (3, .int (0 : Int32))]) [2, 1, 0] rfl ?_
    refine wb_m_count_144 C (e := e8) (fun t ht => ?_) n _ he8
    subst ht
    refine X_iload_n C 0 rfl rfl dX7_count_172 ?_
    obtain rfl := Option.some.inj h
    exact hret _ _ dX7_count_173
  have hx0t := lv_neT (a := 0) hx0 (by decide)
  have hx1t := lv_neT (a := 1) hx1 (by decide)
  have hx2t := lv_neT (a := 2) hx2 (by decide)
  have hx3t := lv_neT (a := 3) hx3 (by decide)
  have hx4t := lv_neT (a := 4) hx4 (by decide)
  have hx5t := lv_neT (a := 5) hx5 (by decide)
  have hx6t := lv_neT (a := 6) hx6 (by decide)
  have hx7t := lv_neT (a := 7) hx7 (by decide)
  refine X_tblOut C (tgt := 174) (by omega) (by decide) dX7_count_6 ?_
  refine X_iconst (v := (-1)) C (by decide) dX7_count_174 ?_
  obtain rfl := Option.some.inj h
  exact hret _ _ dX7_count_175

abbrev rm_m_side : Room := { frames := 2, cells := 0, slots := 0, locals := 44 }
def j_m_side_55 (n : Nat) (σ : ST) (t0 : Int32) : Option (Int32 × ST) :=
  some (t0, σ)
def f_m_side (n : Nat) (σ : ST) (a0 : Int32) (a1 : Int32) : Option (Int32 × ST) :=
  nam (sS σ 0 (0 : Int32)) fun σ1 =>
  bnd (f_m_makeSides n σ1) fun o2 =>
  bnd (f_m_in n a0 (0 : Int32) ((o2.1 25) - (1 : Int32))) fun o3 =>
  if o3 = 0 then
    j_m_side_55 n o2 (-1 : Int32)
  else
    if a1 = 0 then
      grd (jin a0 256) <|
      j_m_side_55 n o2 (o2.2 18 (jix a0))
    else
      if a1 = (1 : Int32) then
        grd (jin a0 256) <|
        j_m_side_55 n o2 (o2.2 19 (jix a0))
      else
        j_m_side_55 n o2 (-1 : Int32)
theorem hf66_m_side : Cond.fieldLink RX7 66 (TX7 26).1 (TX7 26).2.1 (TX7 26).2.2.1 ∈ wsX7_side := by decide +kernel
theorem hf69_m_side : Cond.fieldLink RX7 69 (TX7 27).1 (TX7 27).2.1 (TX7 27).2.2.1 ∈ wsX7_side := by decide +kernel
theorem hf98_m_side : Cond.fieldLink RX7 98 (TX7 25).1 (TX7 25).2.1 (TX7 25).2.2.1 ∈ wsX7_side := by decide +kernel
theorem hf85_m_side : Cond.fieldLink RX7 85 (TX7 0).1 (TX7 0).2.1 (TX7 0).2.2.1 ∈ wsX7_side := by decide +kernel
theorem hi7_m_side : ∀ w ∈ u_ws RX7 TX7 34, w ∈ wsX7_side := by decide +kernel
set_option maxHeartbeats 4000000 in
set_option maxRecDepth 100000 in
theorem wj_m_side_55 {l : Launch} {D : va_G} {cs : Nat → ClassId} {K : XK} {ad : Nat → Nat} {rest : va_W} (C : XC D cs K 3 rm_m_side cX7_side RX7 wsX7_side (some .int)) {n : Nat} {σ : ST} {t0 : Int32} {o : Int32 × ST} (h : j_m_side_55 n σ t0 = some o) (hret : XRi l D K cX7_side o.1 (wM cs ad o.2 rest)) : XW l D K 0 0 (wM cs ad σ rest) 55 [] [.int t0] := by
  unfold j_m_side_55 at h
  obtain rfl := Option.some.inj h
  exact hret _ _ dX7_side_55
set_option maxHeartbeats 4000000 in
set_option maxRecDepth 100000 in
theorem c_m_side {l : Launch} {D : va_G} {cs : Nat → ClassId} {ad : Nat → Nat} {rest : va_W} {n : Nat} {σ : ST} {a0 : Int32} {a1 : Int32} {o : Int32 × ST} (h : f_m_side n σ a0 a1 = some o) : CTi l D cs yX7_side wsX7_side rm_m_side [.ref (ad 0), .int a0, .int a1] (wM cs ad σ rest) o.1 (wM cs ad o.2 rest) := by
  refine CTi_of (cc := cX7_side) (nL := 3) (by decide) rfl (Nat.le_of_ble_eq_true rfl) ?_
  intro K C hret
  unfold f_m_side at h
  refine X_loc (vs1 := [(0, .ref (ad 0)), (1, .int a0), (2, .int a1)]) [0, 1, 2] rfl ?_
  refine X_aload_n C 0 rfl rfl dX7_side_0 ?_
  refine X_iconst (v := 0) C (by decide) dX7_side_1 ?_
  refine X_put (ty := .int) C 0 0 hi7_m_side hf85_m_side tyX7 tyX7_ok nmX7 (me_0 _ _ _ _) rfl (by decide) rfl (by decide +kernel) rfl rfl (Nat.le_of_ble_eq_true rfl) (ms_0_0 _ _ _ _ _) dX7_side_2 ?_
  refine X_nam (G := fun σ1 => XW l D K 0 0 (wM cs ad σ1 rest) 5 [(0, .ref (ad 0)), (1, .int a0), (2, .int a1)] []) h (fun σ1 h => ?_)
  refine X_aload_n C 0 rfl rfl dX7_side_5 ?_
  obtain ⟨o2, eo2, h⟩ := bnd_some h
  refine X_callVv C (n := 0) (As := []) (c_m_makeSides eo2) rfl gX7_side_X7_makeSides rfl rfl (me_0 _ _ _ _) rfl rfl (by decide +kernel) ⟨Nat.le_of_ble_eq_true rfl, Nat.le_of_ble_eq_true rfl⟩ ⟨Nat.zero_le _, Nat.zero_le _⟩ rfl rfl (Nat.le_of_ble_eq_true rfl) dX7_side_6 ?_
  refine X_iload_n C 1 rfl rfl dX7_side_9 ?_
  refine X_iconst (v := 0) C (by decide) dX7_side_10 ?_
  refine X_aload_n C 0 rfl rfl dX7_side_11 ?_
  refine X_get C 0 25 hi7_m_side hf98_m_side (me_0 _ _ _ _) rfl (by decide) rfl dX7_side_12 ?_
  refine X_iconst (v := 1) C (by decide) dX7_side_15 ?_
  refine X_isub C dX7_side_16 ?_
  obtain ⟨o3, eo3, h⟩ := bnd_some h
  refine X_callSi C (n := 3) (As := [.int a0, .int (0 : Int32), .int ((o2.1 25) - (1 : Int32))]) (c_m_in eo3) gX7_side_X7_in rfl rfl rfl (by decide +kernel) ⟨Nat.le_of_ble_eq_true rfl, Nat.le_of_ble_eq_true rfl⟩ ⟨Nat.zero_le _, Nat.zero_le _⟩ rfl rfl (Nat.le_of_ble_eq_true rfl) dX7_side_17 ?_
  refine X_ifne C (tgt := 27) (by decide) dX7_side_20 h (fun h => ?_) (fun h => ?_)
  · refine X_iload_n C 2 rfl rfl dX7_side_27 ?_
    refine X_ifne C (tgt := 40) (by decide) dX7_side_28 h (fun h => ?_) (fun h => ?_)
    · refine X_iload_n C 2 rfl rfl dX7_side_40 ?_
      refine X_iconst (v := 1) C (by decide) dX7_side_41 ?_
      refine X_icmpne C (tgt := 54) (by decide) dX7_side_42 h (fun h => ?_) (fun h => ?_)
      · refine X_iconst (v := (-1)) C (by decide) dX7_side_54 ?_
        refine X_loc (vs1 := []) [] rfl ?_
        exact wj_m_side_55 C h hret
      · refine X_aload_n C 0 rfl rfl dX7_side_45 ?_
        refine X_get C 0 27 hi7_m_side hf69_m_side (me_0 _ _ _ _) rfl (by decide) rfl dX7_side_46 ?_
        refine X_iload_n C 1 rfl rfl dX7_side_49 ?_
        refine X_iald C 19 (me_19 _ _ _ _) h dX7_side_50 (fun h => ?_)
        refine X_goto C (tgt := 55) (by decide) dX7_side_51 ?_
        refine X_loc (vs1 := []) [] rfl ?_
        exact wj_m_side_55 C h hret
    · refine X_aload_n C 0 rfl rfl dX7_side_31 ?_
      refine X_get C 0 26 hi7_m_side hf66_m_side (me_0 _ _ _ _) rfl (by decide) rfl dX7_side_32 ?_
      refine X_iload_n C 1 rfl rfl dX7_side_35 ?_
      refine X_iald C 18 (me_18 _ _ _ _) h dX7_side_36 (fun h => ?_)
      refine X_goto C (tgt := 55) (by decide) dX7_side_37 ?_
      refine X_loc (vs1 := []) [] rfl ?_
      exact wj_m_side_55 C h hret
  · refine X_iconst (v := (-1)) C (by decide) dX7_side_23 ?_
    refine X_goto C (tgt := 55) (by decide) dX7_side_24 ?_
    refine X_loc (vs1 := []) [] rfl ?_
    exact wj_m_side_55 C h hret

abbrev rm_m_bounds : Room := { frames := 2, cells := 0, slots := 0, locals := 44 }
def j_m_bounds_88_28 (n : Nat) (σ : ST) (v1 : Int32) (v2 : Int32) (v3 : Int32) (v4 : Int32) (v5 : Int32) : Option ((Int32 × Int32 × Int32) ⊕ (Int32 × Int32)) :=
  some (.inl (v3, v4, v5 + (1 : Int32)))
def j_m_bounds_84_28 (n : Nat) (σ : ST) (v1 : Int32) (v2 : Int32) (v5 : Int32) (t0 : Int32) : Option ((Int32 × Int32 × Int32) ⊕ (Int32 × Int32)) :=
  j_m_bounds_88_28 n σ v1 v2 t0 (1 : Int32) v5
def b_m_bounds_28 (n : Nat) (σ : ST) (v1 : Int32) (v2 : Int32) (s : Int32 × Int32 × Int32) : Option ((Int32 × Int32 × Int32) ⊕ (Int32 × Int32)) :=
  if (σ.1 25) ≤ s.2.2 then
    some (.inr (s.1, s.2.1))
  else
    bnd (f_m_isArc n σ v1) fun o4 =>
    if o4 = 0 then
      some (.inr (s.1, s.2.1))
    else
      grd (jin s.2.2 256) <|
      if ((jshr (σ.2 19 (jix s.2.2)) v1) &&& (1 : Int32)) = 0 then
        j_m_bounds_88_28 n σ v1 v2 s.1 s.2.1 s.2.2
      else
        if v2 = 0 then
          grd (jin s.2.2 256) <|
          j_m_bounds_84_28 n σ v1 v2 s.2.2 (s.1 &&& (σ.2 18 (jix s.2.2)))
        else
          grd (jin s.2.2 256) <|
          j_m_bounds_84_28 n σ v1 v2 s.2.2 (s.1 ||| (σ.2 18 (jix s.2.2)))
def j_m_bounds_104 (n : Nat) (σ : ST) (t0 : Int32) : Option (Int32 × ST) :=
  some (t0, σ)
def j_m_bounds_21 (n : Nat) (σ : ST) (v1 : Int32) (v2 : Int32) (t0 : Int32) : Option (Int32 × ST) :=
  bnd (lp (b_m_bounds_28 n σ v1 v2) n (t0, (0 : Int32), (0 : Int32))) fun e5 =>
  if e5.2 = 0 then
    j_m_bounds_104 n σ (0 : Int32)
  else
    j_m_bounds_104 n σ e5.1
def f_m_bounds (n : Nat) (σ : ST) (a0 : Int32) (a1 : Int32) : Option (Int32 × ST) :=
  nam (sS σ 0 (0 : Int32)) fun σ1 =>
  bnd (f_m_makeSides n σ1) fun o2 =>
  if a1 = 0 then
    bnd (f_m_all o2) fun o3 =>
    j_m_bounds_21 n o2 a0 a1 o3
  else
    j_m_bounds_21 n o2 a0 a1 (0 : Int32)
theorem hf66_m_bounds : Cond.fieldLink RX7 66 (TX7 26).1 (TX7 26).2.1 (TX7 26).2.2.1 ∈ wsX7_bounds := by decide +kernel
theorem hf69_m_bounds : Cond.fieldLink RX7 69 (TX7 27).1 (TX7 27).2.1 (TX7 27).2.2.1 ∈ wsX7_bounds := by decide +kernel
theorem hf98_m_bounds : Cond.fieldLink RX7 98 (TX7 25).1 (TX7 25).2.1 (TX7 25).2.2.1 ∈ wsX7_bounds := by decide +kernel
theorem hf85_m_bounds : Cond.fieldLink RX7 85 (TX7 0).1 (TX7 0).2.1 (TX7 0).2.2.1 ∈ wsX7_bounds := by decide +kernel
theorem hi7_m_bounds : ∀ w ∈ u_ws RX7 TX7 34, w ∈ wsX7_bounds := by decide +kernel
set_option maxHeartbeats 4000000 in
set_option maxRecDepth 100000 in
theorem wj_m_bounds_88_28 {l : Launch} {D : va_G} {cs : Nat → ClassId} {K : XK} {ad : Nat → Nat} {rest : va_W} (C : XC D cs K 6 rm_m_bounds cX7_bounds RX7 wsX7_bounds (some .int)) {n : Nat} {σ : ST} {v1 : Int32} {v2 : Int32} {v3 : Int32} {v4 : Int32} {v5 : Int32} {o : (Int32 × Int32 × Int32) ⊕ (Int32 × Int32)} {e : (Int32 × Int32)} (h : j_m_bounds_88_28 n σ v1 v2 v3 v4 v5 = some o) (kin : ∀ (s : Int32 × Int32 × Int32), o = .inl s → XW l D K 0 0 (wM cs ad σ rest) 28 [(0, .ref (ad 0)), (1, .int v1), (2, .int v2), (3, .int s.1), (4, .int s.2.1), (5, .int s.2.2)] []) (kex : ∀ e1, o = .inr e1 → e1 = e) (kx : ∀ (t : Int32 × Int32), e = t → XW l D K 0 0 (wM cs ad σ rest) 94 [(3, .int t.1), (4, .int t.2)] []) : XW l D K 0 0 (wM cs ad σ rest) 88 [(0, .ref (ad 0)), (1, .int v1), (2, .int v2), (3, .int v3), (4, .int v4), (5, .int v5)] [] := by
  unfold j_m_bounds_88_28 at h
  refine X_iinc (v := v5 + (1 : Int32)) (vs1 := [(5, .int (v5 + (1 : Int32))), (0, .ref (ad 0)), (1, .int v1), (2, .int v2), (3, .int v3), (4, .int v4)]) C 5 rfl rfl (by decide) rfl dX7_bounds_88 ?_
  refine X_goto C (tgt := 28) (by decide) dX7_bounds_91 ?_
  obtain rfl := Option.some.inj h
  refine X_loc (vs1 := [(0, .ref (ad 0)), (1, .int v1), (2, .int v2), (3, .int v3), (4, .int v4), (5, .int (v5 + (1 : Int32)))]) [1, 2, 3, 4, 5, 0] rfl ?_
  exact kin _ rfl
set_option maxHeartbeats 4000000 in
set_option maxRecDepth 100000 in
theorem wj_m_bounds_84_28 {l : Launch} {D : va_G} {cs : Nat → ClassId} {K : XK} {ad : Nat → Nat} {rest : va_W} (C : XC D cs K 6 rm_m_bounds cX7_bounds RX7 wsX7_bounds (some .int)) {n : Nat} {σ : ST} {v1 : Int32} {v2 : Int32} {v5 : Int32} {t0 : Int32} {o : (Int32 × Int32 × Int32) ⊕ (Int32 × Int32)} {e : (Int32 × Int32)} (h : j_m_bounds_84_28 n σ v1 v2 v5 t0 = some o) (kin : ∀ (s : Int32 × Int32 × Int32), o = .inl s → XW l D K 0 0 (wM cs ad σ rest) 28 [(0, .ref (ad 0)), (1, .int v1), (2, .int v2), (3, .int s.1), (4, .int s.2.1), (5, .int s.2.2)] []) (kex : ∀ e1, o = .inr e1 → e1 = e) (kx : ∀ (t : Int32 × Int32), e = t → XW l D K 0 0 (wM cs ad σ rest) 94 [(3, .int t.1), (4, .int t.2)] []) : XW l D K 0 0 (wM cs ad σ rest) 84 [(0, .ref (ad 0)), (1, .int v1), (2, .int v2), (5, .int v5)] [.int t0] := by
  unfold j_m_bounds_84_28 at h
  refine X_istore_n (vs1 := [(3, .int t0), (0, .ref (ad 0)), (1, .int v1), (2, .int v2), (5, .int v5)]) C rfl (by decide) rfl dX7_bounds_84 ?_
  refine X_iconst (v := 1) C (by decide) dX7_bounds_85 ?_
  refine X_istore (vs1 := [(4, .int (1 : Int32)), (3, .int t0), (0, .ref (ad 0)), (1, .int v1), (2, .int v2), (5, .int v5)]) C (by decide) rfl dX7_bounds_86 ?_
  refine X_loc (vs1 := [(0, .ref (ad 0)), (1, .int v1), (2, .int v2), (3, .int t0), (4, .int (1 : Int32)), (5, .int v5)]) [2, 3, 4, 1, 0, 5] rfl ?_
  exact wj_m_bounds_88_28 C h kin kex kx
set_option maxHeartbeats 4000000 in
set_option maxRecDepth 100000 in
theorem wb_m_bounds_28 {l : Launch} {D : va_G} {cs : Nat → ClassId} {K : XK} {ad : Nat → Nat} {rest : va_W} (C : XC D cs K 6 rm_m_bounds cX7_bounds RX7 wsX7_bounds (some .int)) {n : Nat} {σ : ST} {v1 : Int32} {v2 : Int32} {e : (Int32 × Int32)} (kx : ∀ (t : Int32 × Int32), e = t → XW l D K 0 0 (wM cs ad σ rest) 94 [(3, .int t.1), (4, .int t.2)] []) : ∀ (q : Nat) (s : Int32 × Int32 × Int32), lp (b_m_bounds_28 n σ v1 v2) q s = some e → XW l D K 0 0 (wM cs ad σ rest) 28 [(0, .ref (ad 0)), (1, .int v1), (2, .int v2), (3, .int s.1), (4, .int s.2.1), (5, .int s.2.2)] [] := by
  refine lp_walk (G := fun (s : Int32 × Int32 × Int32) => XW l D K 0 0 (wM cs ad σ rest) 28 [(0, .ref (ad 0)), (1, .int v1), (2, .int v2), (3, .int s.1), (4, .int s.2.1), (5, .int s.2.2)] []) ?_
  intro s o h kin kex
  unfold b_m_bounds_28 at h
  refine X_iload C 5 rfl dX7_bounds_28 ?_
  refine X_aload_n C 0 rfl rfl dX7_bounds_30 ?_
  refine X_get C 0 25 hi7_m_bounds hf98_m_bounds (me_0 _ _ _ _) rfl (by decide) rfl dX7_bounds_31 ?_
  refine X_icmpge C (tgt := 94) (by decide) dX7_bounds_34 h (fun h => ?_) (fun h => ?_)
  · obtain rfl := Option.some.inj h
    refine X_loc (vs1 := [(3, .int s.1), (4, .int s.2.1)]) [3, 4] rfl ?_
    exact kx _ (kex _ rfl).symm
  · refine X_aload_n C 0 rfl rfl dX7_bounds_37 ?_
    refine X_iload_n C 1 rfl rfl dX7_bounds_38 ?_
    obtain ⟨o4, eo4, h⟩ := bnd_some h
    refine X_callVi C (n := 1) (As := [.int v1]) (c_m_isArc eo4) rfl gX7_bounds_X7_isArc rfl rfl (me_0 _ _ _ _) rfl rfl (by decide +kernel) ⟨Nat.le_of_ble_eq_true rfl, Nat.le_of_ble_eq_true rfl⟩ ⟨Nat.zero_le _, Nat.zero_le _⟩ rfl rfl (Nat.le_of_ble_eq_true rfl) dX7_bounds_39 ?_
    refine X_ifeq C (tgt := 94) (by decide) dX7_bounds_42 h (fun h => ?_) (fun h => ?_)
    · obtain rfl := Option.some.inj h
      refine X_loc (vs1 := [(3, .int s.1), (4, .int s.2.1)]) [3, 4] rfl ?_
      exact kx _ (kex _ rfl).symm
    · refine X_aload_n C 0 rfl rfl dX7_bounds_45 ?_
      refine X_get C 0 27 hi7_m_bounds hf69_m_bounds (me_0 _ _ _ _) rfl (by decide) rfl dX7_bounds_46 ?_
      refine X_iload C 5 rfl dX7_bounds_49 ?_
      refine X_iald C 19 (me_19 _ _ _ _) h dX7_bounds_51 (fun h => ?_)
      refine X_iload_n C 1 rfl rfl dX7_bounds_52 ?_
      refine X_ishr C dX7_bounds_53 ?_
      refine X_iconst (v := 1) C (by decide) dX7_bounds_54 ?_
      refine X_iand C dX7_bounds_55 ?_
      refine X_ifeq C (tgt := 88) (by decide) dX7_bounds_56 h (fun h => ?_) (fun h => ?_)
      · exact wj_m_bounds_88_28 C h kin kex kx
      · refine X_iload_n C 2 rfl rfl dX7_bounds_59 ?_
        refine X_ifeq C (tgt := 75) (by decide) dX7_bounds_60 h (fun h => ?_) (fun h => ?_)
        · refine X_iload_n C 3 rfl rfl dX7_bounds_75 ?_
          refine X_aload_n C 0 rfl rfl dX7_bounds_76 ?_
          refine X_get C 0 26 hi7_m_bounds hf66_m_bounds (me_0 _ _ _ _) rfl (by decide) rfl dX7_bounds_77 ?_
          refine X_iload C 5 rfl dX7_bounds_80 ?_
          refine X_iald C 18 (me_18 _ _ _ _) h dX7_bounds_82 (fun h => ?_)
          refine X_iand C dX7_bounds_83 ?_
          refine X_loc (vs1 := [(0, .ref (ad 0)), (1, .int v1), (2, .int v2), (5, .int s.2.2)]) [0, 1, 2, 5] rfl ?_
          exact wj_m_bounds_84_28 C h kin kex kx
        · refine X_iload_n C 3 rfl rfl dX7_bounds_63 ?_
          refine X_aload_n C 0 rfl rfl dX7_bounds_64 ?_
          refine X_get C 0 26 hi7_m_bounds hf66_m_bounds (me_0 _ _ _ _) rfl (by decide) rfl dX7_bounds_65 ?_
          refine X_iload C 5 rfl dX7_bounds_68 ?_
          refine X_iald C 18 (me_18 _ _ _ _) h dX7_bounds_70 (fun h => ?_)
          refine X_ior C dX7_bounds_71 ?_
          refine X_goto C (tgt := 84) (by decide) dX7_bounds_72 ?_
          refine X_loc (vs1 := [(0, .ref (ad 0)), (1, .int v1), (2, .int v2), (5, .int s.2.2)]) [0, 1, 2, 5] rfl ?_
          exact wj_m_bounds_84_28 C h kin kex kx
set_option maxHeartbeats 4000000 in
set_option maxRecDepth 100000 in
theorem wj_m_bounds_104 {l : Launch} {D : va_G} {cs : Nat → ClassId} {K : XK} {ad : Nat → Nat} {rest : va_W} (C : XC D cs K 6 rm_m_bounds cX7_bounds RX7 wsX7_bounds (some .int)) {n : Nat} {σ : ST} {t0 : Int32} {o : Int32 × ST} (h : j_m_bounds_104 n σ t0 = some o) (hret : XRi l D K cX7_bounds o.1 (wM cs ad o.2 rest)) : XW l D K 0 0 (wM cs ad σ rest) 104 [] [.int t0] := by
  unfold j_m_bounds_104 at h
  obtain rfl := Option.some.inj h
  exact hret _ _ dX7_bounds_104
set_option maxHeartbeats 4000000 in
set_option maxRecDepth 100000 in
theorem wj_m_bounds_21 {l : Launch} {D : va_G} {cs : Nat → ClassId} {K : XK} {ad : Nat → Nat} {rest : va_W} (C : XC D cs K 6 rm_m_bounds cX7_bounds RX7 wsX7_bounds (some .int)) {n : Nat} {σ : ST} {v1 : Int32} {v2 : Int32} {t0 : Int32} {o : Int32 × ST} (h : j_m_bounds_21 n σ v1 v2 t0 = some o) (hret : XRi l D K cX7_bounds o.1 (wM cs ad o.2 rest)) : XW l D K 0 0 (wM cs ad σ rest) 21 [(0, .ref (ad 0)), (1, .int v1), (2, .int v2)] [.int t0] := by
  unfold j_m_bounds_21 at h
  refine X_istore_n (vs1 := [(3, .int t0), (0, .ref (ad 0)), (1, .int v1), (2, .int v2)]) C rfl (by decide) rfl dX7_bounds_21 ?_
  refine X_iconst (v := 0) C (by decide) dX7_bounds_22 ?_
  refine X_istore (vs1 := [(4, .int (0 : Int32)), (3, .int t0), (0, .ref (ad 0)), (1, .int v1), (2, .int v2)]) C (by decide) rfl dX7_bounds_23 ?_
  refine X_iconst (v := 0) C (by decide) dX7_bounds_25 ?_
  refine X_istore (vs1 := [(5, .int (0 : Int32)), (4, .int (0 : Int32)), (3, .int t0), (0, .ref (ad 0)), (1, .int v1), (2, .int v2)]) C (by decide) rfl dX7_bounds_26 ?_
  obtain ⟨e5, he5, h⟩ := bnd_some h
  refine X_loc (vs1 := [(0, .ref (ad 0)), (1, .int v1), (2, .int v2), (3, .int t0), (4, .int (0 : Int32)), (5, .int (0 : Int32))]) [3, 4, 5, 2, 1, 0] rfl ?_
  refine wb_m_bounds_28 C (e := e5) (fun t ht => ?_) n _ he5
  subst ht
  refine X_iload C 1 rfl dX7_bounds_94 ?_
  refine X_ifeq C (tgt := 103) (by decide) dX7_bounds_96 h (fun h => ?_) (fun h => ?_)
  · refine X_iconst (v := 0) C (by decide) dX7_bounds_103 ?_
    refine X_loc (vs1 := []) [] rfl ?_
    exact wj_m_bounds_104 C h hret
  · refine X_iload_n C 0 rfl rfl dX7_bounds_99 ?_
    refine X_goto C (tgt := 104) (by decide) dX7_bounds_100 ?_
    refine X_loc (vs1 := []) [] rfl ?_
    exact wj_m_bounds_104 C h hret
set_option maxHeartbeats 4000000 in
set_option maxRecDepth 100000 in
theorem c_m_bounds {l : Launch} {D : va_G} {cs : Nat → ClassId} {ad : Nat → Nat} {rest : va_W} {n : Nat} {σ : ST} {a0 : Int32} {a1 : Int32} {o : Int32 × ST} (h : f_m_bounds n σ a0 a1 = some o) : CTi l D cs yX7_bounds wsX7_bounds rm_m_bounds [.ref (ad 0), .int a0, .int a1] (wM cs ad σ rest) o.1 (wM cs ad o.2 rest) := by
  refine CTi_of (cc := cX7_bounds) (nL := 6) (by decide) rfl (Nat.le_of_ble_eq_true rfl) ?_
  intro K C hret
  unfold f_m_bounds at h
  refine X_loc (vs1 := [(0, .ref (ad 0)), (1, .int a0), (2, .int a1)]) [0, 1, 2] rfl ?_
  refine X_aload_n C 0 rfl rfl dX7_bounds_0 ?_
  refine X_iconst (v := 0) C (by decide) dX7_bounds_1 ?_
  refine X_put (ty := .int) C 0 0 hi7_m_bounds hf85_m_bounds tyX7 tyX7_ok nmX7 (me_0 _ _ _ _) rfl (by decide) rfl (by decide +kernel) rfl rfl (Nat.le_of_ble_eq_true rfl) (ms_0_0 _ _ _ _ _) dX7_bounds_2 ?_
  refine X_nam (G := fun σ1 => XW l D K 0 0 (wM cs ad σ1 rest) 5 [(0, .ref (ad 0)), (1, .int a0), (2, .int a1)] []) h (fun σ1 h => ?_)
  refine X_aload_n C 0 rfl rfl dX7_bounds_5 ?_
  obtain ⟨o2, eo2, h⟩ := bnd_some h
  refine X_callVv C (n := 0) (As := []) (c_m_makeSides eo2) rfl gX7_bounds_X7_makeSides rfl rfl (me_0 _ _ _ _) rfl rfl (by decide +kernel) ⟨Nat.le_of_ble_eq_true rfl, Nat.le_of_ble_eq_true rfl⟩ ⟨Nat.zero_le _, Nat.zero_le _⟩ rfl rfl (Nat.le_of_ble_eq_true rfl) dX7_bounds_6 ?_
  refine X_iload_n C 2 rfl rfl dX7_bounds_9 ?_
  refine X_ifeq C (tgt := 17) (by decide) dX7_bounds_10 h (fun h => ?_) (fun h => ?_)
  · refine X_aload_n C 0 rfl rfl dX7_bounds_17 ?_
    obtain ⟨o3, eo3, h⟩ := bnd_some h
    refine X_callVi C (n := 0) (As := []) (c_m_all eo3) rfl gX7_bounds_X7_all rfl rfl (me_0 _ _ _ _) rfl rfl (by decide +kernel) ⟨Nat.le_of_ble_eq_true rfl, Nat.le_of_ble_eq_true rfl⟩ ⟨Nat.zero_le _, Nat.zero_le _⟩ rfl rfl (Nat.le_of_ble_eq_true rfl) dX7_bounds_18 ?_
    exact wj_m_bounds_21 C h hret
  · refine X_iconst (v := 0) C (by decide) dX7_bounds_13 ?_
    refine X_goto C (tgt := 21) (by decide) dX7_bounds_14 ?_
    exact wj_m_bounds_21 C h hret

abbrev rm_m_isDijoin : Room := { frames := 2, cells := 0, slots := 0, locals := 44 }
def b_m_isDijoin_11 (n : Nat) (σ : ST) (v1 : Int32) (s : Int32) : Option ((Int32) ⊕ ((Unit) ⊕ (Int32 × ST))) :=
  if (σ.1 25) ≤ s then
    some (.inr (.inl ()))
  else
    grd (jin s 256) <|
    if ((σ.2 19 (jix s)) &&& v1) = 0 then
      some (.inr (.inr ((0 : Int32), σ)))
    else
      some (.inl (s + (1 : Int32)))
def f_m_isDijoin (n : Nat) (σ : ST) (a0 : Int32) : Option (Int32 × ST) :=
  nam (sS σ 0 (0 : Int32)) fun σ1 =>
  bnd (f_m_makeSides n σ1) fun o2 =>
  bnd (lp (b_m_isDijoin_11 n o2 a0) n (0 : Int32)) fun e3 =>
  Sum.elim (fun t4 =>
    some ((1 : Int32), o2))
    (fun r => some r) e3
theorem hf69_m_isDijoin : Cond.fieldLink RX7 69 (TX7 27).1 (TX7 27).2.1 (TX7 27).2.2.1 ∈ wsX7_isDijoin := by decide +kernel
theorem hf98_m_isDijoin : Cond.fieldLink RX7 98 (TX7 25).1 (TX7 25).2.1 (TX7 25).2.2.1 ∈ wsX7_isDijoin := by decide +kernel
theorem hf85_m_isDijoin : Cond.fieldLink RX7 85 (TX7 0).1 (TX7 0).2.1 (TX7 0).2.2.1 ∈ wsX7_isDijoin := by decide +kernel
theorem hi7_m_isDijoin : ∀ w ∈ u_ws RX7 TX7 34, w ∈ wsX7_isDijoin := by decide +kernel
set_option maxHeartbeats 4000000 in
set_option maxRecDepth 100000 in
theorem wb_m_isDijoin_11 {l : Launch} {D : va_G} {cs : Nat → ClassId} {K : XK} {ad : Nat → Nat} {rest : va_W} (C : XC D cs K 3 rm_m_isDijoin cX7_isDijoin RX7 wsX7_isDijoin (some .boolean)) {n : Nat} {σ : ST} {v1 : Int32} {e : ((Unit) ⊕ (Int32 × ST))} (kx : ∀ (t : Unit), e = .inl t → XW l D K 0 0 (wM cs ad σ rest) 38 [] []) (kr : ∀ (t : Int32 × ST), e = .inr t → XRz l D K cX7_isDijoin t.1 (wM cs ad t.2 rest)) : ∀ (q : Nat) (s : Int32), lp (b_m_isDijoin_11 n σ v1) q s = some e → XW l D K 0 0 (wM cs ad σ rest) 11 [(0, .ref (ad 0)), (1, .int v1), (2, .int s)] [] := by
  refine lp_walk (G := fun (s : Int32) => XW l D K 0 0 (wM cs ad σ rest) 11 [(0, .ref (ad 0)), (1, .int v1), (2, .int s)] []) ?_
  intro s o h kin kex
  unfold b_m_isDijoin_11 at h
  refine X_iload_n C 2 rfl rfl dX7_isDijoin_11 ?_
  refine X_aload_n C 0 rfl rfl dX7_isDijoin_12 ?_
  refine X_get C 0 25 hi7_m_isDijoin hf98_m_isDijoin (me_0 _ _ _ _) rfl (by decide) rfl dX7_isDijoin_13 ?_
  refine X_icmpge C (tgt := 38) (by decide) dX7_isDijoin_16 h (fun h => ?_) (fun h => ?_)
  · obtain rfl := Option.some.inj h
    refine X_loc (vs1 := []) [] rfl ?_
    exact kx _ (kex _ rfl).symm
  · refine X_aload_n C 0 rfl rfl dX7_isDijoin_19 ?_
    refine X_get C 0 27 hi7_m_isDijoin hf69_m_isDijoin (me_0 _ _ _ _) rfl (by decide) rfl dX7_isDijoin_20 ?_
    refine X_iload_n C 2 rfl rfl dX7_isDijoin_23 ?_
    refine X_iald C 19 (me_19 _ _ _ _) h dX7_isDijoin_24 (fun h => ?_)
    refine X_iload_n C 1 rfl rfl dX7_isDijoin_25 ?_
    refine X_iand C dX7_isDijoin_26 ?_
    refine X_ifne C (tgt := 32) (by decide) dX7_isDijoin_27 h (fun h => ?_) (fun h => ?_)
    · refine X_iinc (v := s + (1 : Int32)) (vs1 := [(2, .int (s + (1 : Int32))), (0, .ref (ad 0)), (1, .int v1)]) C 2 rfl rfl (by decide) rfl dX7_isDijoin_32 ?_
      refine X_goto C (tgt := 11) (by decide) dX7_isDijoin_35 ?_
      obtain rfl := Option.some.inj h
      refine X_loc (vs1 := [(0, .ref (ad 0)), (1, .int v1), (2, .int (s + (1 : Int32)))]) [1, 2, 0] rfl ?_
      exact kin _ rfl
    · refine X_iconst (v := 0) C (by decide) dX7_isDijoin_30 ?_
      obtain rfl := Option.some.inj h
      exact kr _ (kex _ rfl).symm _ _ jz_0 dX7_isDijoin_31
set_option maxHeartbeats 4000000 in
set_option maxRecDepth 100000 in
theorem c_m_isDijoin {l : Launch} {D : va_G} {cs : Nat → ClassId} {ad : Nat → Nat} {rest : va_W} {n : Nat} {σ : ST} {a0 : Int32} {o : Int32 × ST} (h : f_m_isDijoin n σ a0 = some o) : CTi l D cs yX7_isDijoin wsX7_isDijoin rm_m_isDijoin [.ref (ad 0), .int a0] (wM cs ad σ rest) o.1 (wM cs ad o.2 rest) := by
  refine CTz_of (cc := cX7_isDijoin) (nL := 3) (by decide) rfl (Nat.le_of_ble_eq_true rfl) ?_
  intro K C hret
  unfold f_m_isDijoin at h
  refine X_loc (vs1 := [(0, .ref (ad 0)), (1, .int a0)]) [0, 1] rfl ?_
  refine X_aload_n C 0 rfl rfl dX7_isDijoin_0 ?_
  refine X_iconst (v := 0) C (by decide) dX7_isDijoin_1 ?_
  refine X_put (ty := .int) C 0 0 hi7_m_isDijoin hf85_m_isDijoin tyX7 tyX7_ok nmX7 (me_0 _ _ _ _) rfl (by decide) rfl (by decide +kernel) rfl rfl (Nat.le_of_ble_eq_true rfl) (ms_0_0 _ _ _ _ _) dX7_isDijoin_2 ?_
  refine X_nam (G := fun σ1 => XW l D K 0 0 (wM cs ad σ1 rest) 5 [(0, .ref (ad 0)), (1, .int a0)] []) h (fun σ1 h => ?_)
  refine X_aload_n C 0 rfl rfl dX7_isDijoin_5 ?_
  obtain ⟨o2, eo2, h⟩ := bnd_some h
  refine X_callVv C (n := 0) (As := []) (c_m_makeSides eo2) rfl gX7_isDijoin_X7_makeSides rfl rfl (me_0 _ _ _ _) rfl rfl (by decide +kernel) ⟨Nat.le_of_ble_eq_true rfl, Nat.le_of_ble_eq_true rfl⟩ ⟨Nat.zero_le _, Nat.zero_le _⟩ rfl rfl (Nat.le_of_ble_eq_true rfl) dX7_isDijoin_6 ?_
  refine X_iconst (v := 0) C (by decide) dX7_isDijoin_9 ?_
  refine X_istore_n (vs1 := [(2, .int (0 : Int32)), (0, .ref (ad 0)), (1, .int a0)]) C rfl (by decide) rfl dX7_isDijoin_10 ?_
  obtain ⟨e3, he3, h⟩ := bnd_some h
  refine X_loc (vs1 := [(0, .ref (ad 0)), (1, .int a0), (2, .int (0 : Int32))]) [1, 2, 0] rfl ?_
  refine wb_m_isDijoin_11 C (e := e3) (fun t4 ht => ?_) (fun r ht => ?_) n _ he3
  · subst ht
    dsimp only [Sum.elim] at h
    refine X_iconst (v := 1) C (by decide) dX7_isDijoin_38 ?_
    obtain rfl := Option.some.inj h
    exact hret _ _ jz_1 dX7_isDijoin_39
  · subst ht
    dsimp only [Sum.elim] at h
    obtain rfl := Option.some.inj h
    exact hret

abbrev rm_m_isStrong : Room := { frames := 2, cells := 0, slots := 0, locals := 49 }
def f_m_isStrong (n : Nat) (σ : ST) (a0 : Int32) : Option (Int32 × ST) :=
  nam (sS σ 0 (0 : Int32)) fun σ1 =>
  bnd (f_m_isStrongWith n σ1 a0) fun o2 =>
  grd (jz o2) <|
  some (o2, σ1)
theorem hf85_m_isStrong : Cond.fieldLink RX7 85 (TX7 0).1 (TX7 0).2.1 (TX7 0).2.2.1 ∈ wsX7_isStrong := by decide +kernel
theorem hi7_m_isStrong : ∀ w ∈ u_ws RX7 TX7 34, w ∈ wsX7_isStrong := by decide +kernel
set_option maxHeartbeats 4000000 in
set_option maxRecDepth 100000 in
theorem c_m_isStrong {l : Launch} {D : va_G} {cs : Nat → ClassId} {ad : Nat → Nat} {rest : va_W} {n : Nat} {σ : ST} {a0 : Int32} {o : Int32 × ST} (h : f_m_isStrong n σ a0 = some o) : CTi l D cs yX7_isStrong wsX7_isStrong rm_m_isStrong [.ref (ad 0), .int a0] (wM cs ad σ rest) o.1 (wM cs ad o.2 rest) := by
  refine CTz_of (cc := cX7_isStrong) (nL := 2) (by decide) rfl (Nat.le_of_ble_eq_true rfl) ?_
  intro K C hret
  unfold f_m_isStrong at h
  refine X_loc (vs1 := [(0, .ref (ad 0)), (1, .int a0)]) [0, 1] rfl ?_
  refine X_aload_n C 0 rfl rfl dX7_isStrong_0 ?_
  refine X_iconst (v := 0) C (by decide) dX7_isStrong_1 ?_
  refine X_put (ty := .int) C 0 0 hi7_m_isStrong hf85_m_isStrong tyX7 tyX7_ok nmX7 (me_0 _ _ _ _) rfl (by decide) rfl (by decide +kernel) rfl rfl (Nat.le_of_ble_eq_true rfl) (ms_0_0 _ _ _ _ _) dX7_isStrong_2 ?_
  refine X_nam (G := fun σ1 => XW l D K 0 0 (wM cs ad σ1 rest) 5 [(0, .ref (ad 0)), (1, .int a0)] []) h (fun σ1 h => ?_)
  refine X_aload_n C 0 rfl rfl dX7_isStrong_5 ?_
  refine X_iload_n C 1 rfl rfl dX7_isStrong_6 ?_
  obtain ⟨o2, eo2, h⟩ := bnd_some h
  refine X_callVi C (n := 1) (As := [.int a0]) (c_m_isStrongWith eo2) rfl gX7_isStrong_X7_isStrongWith rfl rfl (me_0 _ _ _ _) rfl rfl (by decide +kernel) ⟨Nat.le_of_ble_eq_true rfl, Nat.le_of_ble_eq_true rfl⟩ ⟨Nat.zero_le _, Nat.zero_le _⟩ rfl rfl (Nat.le_of_ble_eq_true rfl) dX7_isStrong_7 ?_
  obtain ⟨hz, h⟩ := grd_some h
  obtain rfl := Option.some.inj h
  exact hret _ _ hz dX7_isStrong_10

abbrev rm_m_weightOf : Room := { frames := 0, cells := 0, slots := 0, locals := 0 }
def j_m_weightOf_31_4 (n : Nat) (σ : ST) (v1 : Int32) (v3 : Int32) (t0 : Int32) (t1 : Int32) : Option ((Int32 × Int32) ⊕ (Int32)) :=
  some (.inl (t1 + t0, v3 + (1 : Int32)))
def b_m_weightOf_4 (n : Nat) (σ : ST) (v1 : Int32) (s : Int32 × Int32) : Option ((Int32 × Int32) ⊕ (Int32)) :=
  if (σ.1 2) ≤ s.2 then
    some (.inr s.1)
  else
    if ((jshr v1 s.2) &&& (1 : Int32)) = 0 then
      j_m_weightOf_31_4 n σ v1 s.2 (0 : Int32) s.1
    else
      grd (jin s.2 16) <|
      j_m_weightOf_31_4 n σ v1 s.2 (σ.2 3 (jix s.2)) s.1
def f_m_weightOf (n : Nat) (σ : ST) (a0 : Int32) : Option (Int32) :=
  bnd (lp (b_m_weightOf_4 n σ a0) n ((0 : Int32), (0 : Int32))) fun e1 =>
  some e1
theorem hf20_m_weightOf : Cond.fieldLink RX7 20 (TX7 5).1 (TX7 5).2.1 (TX7 5).2.2.1 ∈ wsX7_weightOf := by decide +kernel
theorem hf95_m_weightOf : Cond.fieldLink RX7 95 (TX7 2).1 (TX7 2).2.1 (TX7 2).2.2.1 ∈ wsX7_weightOf := by decide +kernel
theorem hi7_m_weightOf : ∀ w ∈ u_ws RX7 TX7 34, w ∈ wsX7_weightOf := by decide +kernel
set_option maxHeartbeats 4000000 in
set_option maxRecDepth 100000 in
theorem wj_m_weightOf_31_4 {l : Launch} {D : va_G} {cs : Nat → ClassId} {K : XK} {ad : Nat → Nat} {rest : va_W} (C : XC D cs K 4 rm_m_weightOf cX7_weightOf RX7 wsX7_weightOf (some .int)) {n : Nat} {σ : ST} {v1 : Int32} {v3 : Int32} {t0 : Int32} {t1 : Int32} {o : (Int32 × Int32) ⊕ (Int32)} {e : (Int32)} (h : j_m_weightOf_31_4 n σ v1 v3 t0 t1 = some o) (kin : ∀ (s : Int32 × Int32), o = .inl s → XW l D K 0 0 (wM cs ad σ rest) 4 [(0, .ref (ad 0)), (1, .int v1), (2, .int s.1), (3, .int s.2)] []) (kex : ∀ e1, o = .inr e1 → e1 = e) (kx : ∀ (t : Int32), e = t → XW l D K 0 0 (wM cs ad σ rest) 39 [(2, .int t)] []) : XW l D K 0 0 (wM cs ad σ rest) 31 [(0, .ref (ad 0)), (1, .int v1), (3, .int v3)] [.int t0, .int t1] := by
  unfold j_m_weightOf_31_4 at h
  refine X_iadd C dX7_weightOf_31 ?_
  refine X_istore_n (vs1 := [(2, .int (t1 + t0)), (0, .ref (ad 0)), (1, .int v1), (3, .int v3)]) C rfl (by decide) rfl dX7_weightOf_32 ?_
  refine X_iinc (v := v3 + (1 : Int32)) (vs1 := [(3, .int (v3 + (1 : Int32))), (2, .int (t1 + t0)), (0, .ref (ad 0)), (1, .int v1)]) C 3 rfl rfl (by decide) rfl dX7_weightOf_33 ?_
  refine X_goto C (tgt := 4) (by decide) dX7_weightOf_36 ?_
  obtain rfl := Option.some.inj h
  refine X_loc (vs1 := [(0, .ref (ad 0)), (1, .int v1), (2, .int (t1 + t0)), (3, .int (v3 + (1 : Int32)))]) [2, 3, 1, 0] rfl ?_
  exact kin _ rfl
set_option maxHeartbeats 4000000 in
set_option maxRecDepth 100000 in
theorem wb_m_weightOf_4 {l : Launch} {D : va_G} {cs : Nat → ClassId} {K : XK} {ad : Nat → Nat} {rest : va_W} (C : XC D cs K 4 rm_m_weightOf cX7_weightOf RX7 wsX7_weightOf (some .int)) {n : Nat} {σ : ST} {v1 : Int32} {e : (Int32)} (kx : ∀ (t : Int32), e = t → XW l D K 0 0 (wM cs ad σ rest) 39 [(2, .int t)] []) : ∀ (q : Nat) (s : Int32 × Int32), lp (b_m_weightOf_4 n σ v1) q s = some e → XW l D K 0 0 (wM cs ad σ rest) 4 [(0, .ref (ad 0)), (1, .int v1), (2, .int s.1), (3, .int s.2)] [] := by
  refine lp_walk (G := fun (s : Int32 × Int32) => XW l D K 0 0 (wM cs ad σ rest) 4 [(0, .ref (ad 0)), (1, .int v1), (2, .int s.1), (3, .int s.2)] []) ?_
  intro s o h kin kex
  unfold b_m_weightOf_4 at h
  refine X_iload_n C 3 rfl rfl dX7_weightOf_4 ?_
  refine X_aload_n C 0 rfl rfl dX7_weightOf_5 ?_
  refine X_get C 0 2 hi7_m_weightOf hf95_m_weightOf (me_0 _ _ _ _) rfl (by decide) rfl dX7_weightOf_6 ?_
  refine X_icmpge C (tgt := 39) (by decide) dX7_weightOf_9 h (fun h => ?_) (fun h => ?_)
  · obtain rfl := Option.some.inj h
    refine X_loc (vs1 := [(2, .int s.1)]) [2] rfl ?_
    exact kx _ (kex _ rfl).symm
  · refine X_iload_n C 2 rfl rfl dX7_weightOf_12 ?_
    refine X_iload_n C 1 rfl rfl dX7_weightOf_13 ?_
    refine X_iload_n C 3 rfl rfl dX7_weightOf_14 ?_
    refine X_ishr C dX7_weightOf_15 ?_
    refine X_iconst (v := 1) C (by decide) dX7_weightOf_16 ?_
    refine X_iand C dX7_weightOf_17 ?_
    refine X_ifeq C (tgt := 30) (by decide) dX7_weightOf_18 h (fun h => ?_) (fun h => ?_)
    · refine X_iconst (v := 0) C (by decide) dX7_weightOf_30 ?_
      refine X_loc (vs1 := [(0, .ref (ad 0)), (1, .int v1), (3, .int s.2)]) [0, 1, 3] rfl ?_
      exact wj_m_weightOf_31_4 C h kin kex kx
    · refine X_aload_n C 0 rfl rfl dX7_weightOf_21 ?_
      refine X_get C 0 5 hi7_m_weightOf hf20_m_weightOf (me_0 _ _ _ _) rfl (by decide) rfl dX7_weightOf_22 ?_
      refine X_iload_n C 3 rfl rfl dX7_weightOf_25 ?_
      refine X_iald C 3 (me_3 _ _ _ _) h dX7_weightOf_26 (fun h => ?_)
      refine X_goto C (tgt := 31) (by decide) dX7_weightOf_27 ?_
      refine X_loc (vs1 := [(0, .ref (ad 0)), (1, .int v1), (3, .int s.2)]) [0, 1, 3] rfl ?_
      exact wj_m_weightOf_31_4 C h kin kex kx
set_option maxHeartbeats 4000000 in
set_option maxRecDepth 100000 in
theorem c_m_weightOf {l : Launch} {D : va_G} {cs : Nat → ClassId} {ad : Nat → Nat} {rest : va_W} {n : Nat} {σ : ST} {a0 : Int32} {o : Int32} (h : f_m_weightOf n σ a0 = some o) : CTi l D cs yX7_weightOf wsX7_weightOf rm_m_weightOf [.ref (ad 0), .int a0] (wM cs ad σ rest) o (wM cs ad σ rest) := by
  refine CTi_of (cc := cX7_weightOf) (nL := 4) (by decide) rfl (Nat.le_of_ble_eq_true rfl) ?_
  intro K C hret
  unfold f_m_weightOf at h
  refine X_loc (vs1 := [(0, .ref (ad 0)), (1, .int a0)]) [0, 1] rfl ?_
  refine X_iconst (v := 0) C (by decide) dX7_weightOf_0 ?_
  refine X_istore_n (vs1 := [(2, .int (0 : Int32)), (0, .ref (ad 0)), (1, .int a0)]) C rfl (by decide) rfl dX7_weightOf_1 ?_
  refine X_iconst (v := 0) C (by decide) dX7_weightOf_2 ?_
  refine X_istore_n (vs1 := [(3, .int (0 : Int32)), (2, .int (0 : Int32)), (0, .ref (ad 0)), (1, .int a0)]) C rfl (by decide) rfl dX7_weightOf_3 ?_
  obtain ⟨e1, he1, h⟩ := bnd_some h
  refine X_loc (vs1 := [(0, .ref (ad 0)), (1, .int a0), (2, .int (0 : Int32)), (3, .int (0 : Int32))]) [2, 3, 1, 0] rfl ?_
  refine wb_m_weightOf_4 C (e := e1) (fun t ht => ?_) n _ he1
  subst ht
  refine X_iload_n C 0 rfl rfl dX7_weightOf_39 ?_
  obtain rfl := Option.some.inj h
  exact hret _ _ dX7_weightOf_40

abbrev rm_m_dijoin : Room := { frames := 3, cells := 0, slots := 0, locals := 67 }
def j_m_dijoin_58_22 (n : Nat) (σ : ST) (v2 : Int32) (t0 : Int32) : Option ((Int32 × Int32) ⊕ (Int32)) :=
  some (.inl (t0, v2 + (1 : Int32)))
def b_m_dijoin_22 (n : Nat) (σ : ST) (s : Int32 × Int32) : Option ((Int32 × Int32) ⊕ (Int32)) :=
  if (σ.1 29) ≤ s.2 then
    some (.inr s.1)
  else
    grd (jin s.2 13000) <|
    bnd (f_m_weightOf n σ (σ.2 21 (jix s.2))) fun o4 =>
    grd (jin s.1 13000) <|
    bnd (f_m_weightOf n σ (σ.2 21 (jix s.1))) fun o5 =>
    if o5 ≤ o4 then
      j_m_dijoin_58_22 n σ s.2 s.1
    else
      j_m_dijoin_58_22 n σ s.2 s.2
def f_m_dijoin (n : Nat) (σ : ST) : Option (Int32 × ST) :=
  nam (sS σ 0 (0 : Int32)) fun σ1 =>
  bnd (f_m_isWhole n σ1) fun o2 =>
  if o2 = 0 then
    some ((-1 : Int32), σ1)
  else
    bnd (f_m_makeSets n σ1) fun o3 =>
    bnd (lp (b_m_dijoin_22 n o3) n ((0 : Int32), (1 : Int32))) fun e6 =>
    nam (sS o3 6 (1 : Int32)) fun σ7 =>
    grd (jin e6 13000) <|
    nam (sS σ7 7 (σ7.2 21 (jix e6))) fun σ8 =>
    bnd (f_m_weightOf n σ8 (σ8.1 7)) fun o9 =>
    some (o9, σ8)
theorem hf153_m_dijoin : Cond.fieldLink RX7 153 (TX7 7).1 (TX7 7).2.1 (TX7 7).2.2.1 ∈ wsX7_dijoin := by decide +kernel
theorem hf134_m_dijoin : Cond.fieldLink RX7 134 (TX7 6).1 (TX7 6).2.1 (TX7 6).2.2.1 ∈ wsX7_dijoin := by decide +kernel
theorem hf76_m_dijoin : Cond.fieldLink RX7 76 (TX7 30).1 (TX7 30).2.1 (TX7 30).2.2.1 ∈ wsX7_dijoin := by decide +kernel
theorem hf116_m_dijoin : Cond.fieldLink RX7 116 (TX7 29).1 (TX7 29).2.1 (TX7 29).2.2.1 ∈ wsX7_dijoin := by decide +kernel
theorem hf85_m_dijoin : Cond.fieldLink RX7 85 (TX7 0).1 (TX7 0).2.1 (TX7 0).2.2.1 ∈ wsX7_dijoin := by decide +kernel
theorem hi7_m_dijoin : ∀ w ∈ u_ws RX7 TX7 34, w ∈ wsX7_dijoin := by decide +kernel
set_option maxHeartbeats 4000000 in
set_option maxRecDepth 100000 in
theorem wj_m_dijoin_58_22 {l : Launch} {D : va_G} {cs : Nat → ClassId} {K : XK} {ad : Nat → Nat} {rest : va_W} (C : XC D cs K 3 rm_m_dijoin cX7_dijoin RX7 wsX7_dijoin (some .int)) {n : Nat} {σ : ST} {v2 : Int32} {t0 : Int32} {o : (Int32 × Int32) ⊕ (Int32)} {e : (Int32)} (h : j_m_dijoin_58_22 n σ v2 t0 = some o) (kin : ∀ (s : Int32 × Int32), o = .inl s → XW l D K 0 0 (wM cs ad σ rest) 22 [(0, .ref (ad 0)), (1, .int s.1), (2, .int s.2)] []) (kex : ∀ e1, o = .inr e1 → e1 = e) (kx : ∀ (t : Int32), e = t → XW l D K 0 0 (wM cs ad σ rest) 65 [(0, .ref (ad 0)), (1, .int t)] []) : XW l D K 0 0 (wM cs ad σ rest) 58 [(0, .ref (ad 0)), (2, .int v2)] [.int t0] := by
  unfold j_m_dijoin_58_22 at h
  refine X_istore_n (vs1 := [(1, .int t0), (0, .ref (ad 0)), (2, .int v2)]) C rfl (by decide) rfl dX7_dijoin_58 ?_
  refine X_iinc (v := v2 + (1 : Int32)) (vs1 := [(2, .int (v2 + (1 : Int32))), (1, .int t0), (0, .ref (ad 0))]) C 2 rfl rfl (by decide) rfl dX7_dijoin_59 ?_
  refine X_goto C (tgt := 22) (by decide) dX7_dijoin_62 ?_
  obtain rfl := Option.some.inj h
  refine X_loc (vs1 := [(0, .ref (ad 0)), (1, .int t0), (2, .int (v2 + (1 : Int32)))]) [2, 1, 0] rfl ?_
  exact kin _ rfl
set_option maxHeartbeats 4000000 in
set_option maxRecDepth 100000 in
theorem wb_m_dijoin_22 {l : Launch} {D : va_G} {cs : Nat → ClassId} {K : XK} {ad : Nat → Nat} {rest : va_W} (C : XC D cs K 3 rm_m_dijoin cX7_dijoin RX7 wsX7_dijoin (some .int)) {n : Nat} {σ : ST} {e : (Int32)} (kx : ∀ (t : Int32), e = t → XW l D K 0 0 (wM cs ad σ rest) 65 [(0, .ref (ad 0)), (1, .int t)] []) : ∀ (q : Nat) (s : Int32 × Int32), lp (b_m_dijoin_22 n σ) q s = some e → XW l D K 0 0 (wM cs ad σ rest) 22 [(0, .ref (ad 0)), (1, .int s.1), (2, .int s.2)] [] := by
  refine lp_walk (G := fun (s : Int32 × Int32) => XW l D K 0 0 (wM cs ad σ rest) 22 [(0, .ref (ad 0)), (1, .int s.1), (2, .int s.2)] []) ?_
  intro s o h kin kex
  unfold b_m_dijoin_22 at h
  refine X_iload_n C 2 rfl rfl dX7_dijoin_22 ?_
  refine X_aload_n C 0 rfl rfl dX7_dijoin_23 ?_
  refine X_get C 0 29 hi7_m_dijoin hf116_m_dijoin (me_0 _ _ _ _) rfl (by decide) rfl dX7_dijoin_24 ?_
  refine X_icmpge C (tgt := 65) (by decide) dX7_dijoin_27 h (fun h => ?_) (fun h => ?_)
  · obtain rfl := Option.some.inj h
    refine X_loc (vs1 := [(0, .ref (ad 0)), (1, .int s.1)]) [0, 1] rfl ?_
    exact kx _ (kex _ rfl).symm
  · refine X_aload_n C 0 rfl rfl dX7_dijoin_30 ?_
    refine X_aload_n C 0 rfl rfl dX7_dijoin_31 ?_
    refine X_get C 0 30 hi7_m_dijoin hf76_m_dijoin (me_0 _ _ _ _) rfl (by decide) rfl dX7_dijoin_32 ?_
    refine X_iload_n C 2 rfl rfl dX7_dijoin_35 ?_
    refine X_iald C 21 (me_21 _ _ _ _) h dX7_dijoin_36 (fun h => ?_)
    obtain ⟨o4, eo4, h⟩ := bnd_some h
    refine X_callVi C (n := 1) (As := [.int (σ.2 21 (jix s.2))]) (c_m_weightOf eo4) rfl gX7_dijoin_X7_weightOf rfl rfl (me_0 _ _ _ _) rfl rfl (by decide +kernel) ⟨Nat.le_of_ble_eq_true rfl, Nat.le_of_ble_eq_true rfl⟩ ⟨Nat.zero_le _, Nat.zero_le _⟩ rfl rfl (Nat.le_of_ble_eq_true rfl) dX7_dijoin_37 ?_
    refine X_aload_n C 0 rfl rfl dX7_dijoin_40 ?_
    refine X_aload_n C 0 rfl rfl dX7_dijoin_41 ?_
    refine X_get C 0 30 hi7_m_dijoin hf76_m_dijoin (me_0 _ _ _ _) rfl (by decide) rfl dX7_dijoin_42 ?_
    refine X_iload_n C 1 rfl rfl dX7_dijoin_45 ?_
    refine X_iald C 21 (me_21 _ _ _ _) h dX7_dijoin_46 (fun h => ?_)
    obtain ⟨o5, eo5, h⟩ := bnd_some h
    refine X_callVi C (n := 1) (As := [.int (σ.2 21 (jix s.1))]) (c_m_weightOf eo5) rfl gX7_dijoin_X7_weightOf rfl rfl (me_0 _ _ _ _) rfl rfl (by decide +kernel) ⟨Nat.le_of_ble_eq_true rfl, Nat.le_of_ble_eq_true rfl⟩ ⟨Nat.zero_le _, Nat.zero_le _⟩ rfl rfl (Nat.le_of_ble_eq_true rfl) dX7_dijoin_47 ?_
    refine X_icmpge C (tgt := 57) (by decide) dX7_dijoin_50 h (fun h => ?_) (fun h => ?_)
    · refine X_iload_n C 1 rfl rfl dX7_dijoin_57 ?_
      refine X_loc (vs1 := [(0, .ref (ad 0)), (2, .int s.2)]) [0, 2] rfl ?_
      exact wj_m_dijoin_58_22 C h kin kex kx
    · refine X_iload_n C 2 rfl rfl dX7_dijoin_53 ?_
      refine X_goto C (tgt := 58) (by decide) dX7_dijoin_54 ?_
      refine X_loc (vs1 := [(0, .ref (ad 0)), (2, .int s.2)]) [0, 2] rfl ?_
      exact wj_m_dijoin_58_22 C h kin kex kx
set_option maxHeartbeats 4000000 in
set_option maxRecDepth 100000 in
theorem c_m_dijoin {l : Launch} {D : va_G} {cs : Nat → ClassId} {ad : Nat → Nat} {rest : va_W} {n : Nat} {σ : ST} {o : Int32 × ST} (h : f_m_dijoin n σ = some o) : CTi l D cs yX7_dijoin wsX7_dijoin rm_m_dijoin [.ref (ad 0)] (wM cs ad σ rest) o.1 (wM cs ad o.2 rest) := by
  refine CTi_of (cc := cX7_dijoin) (nL := 3) (by decide) rfl (Nat.le_of_ble_eq_true rfl) ?_
  intro K C hret
  unfold f_m_dijoin at h
  refine X_loc (vs1 := [(0, .ref (ad 0))]) [0] rfl ?_
  refine X_aload_n C 0 rfl rfl dX7_dijoin_0 ?_
  refine X_iconst (v := 0) C (by decide) dX7_dijoin_1 ?_
  refine X_put (ty := .int) C 0 0 hi7_m_dijoin hf85_m_dijoin tyX7 tyX7_ok nmX7 (me_0 _ _ _ _) rfl (by decide) rfl (by decide +kernel) rfl rfl (Nat.le_of_ble_eq_true rfl) (ms_0_0 _ _ _ _ _) dX7_dijoin_2 ?_
  refine X_nam (G := fun σ1 => XW l D K 0 0 (wM cs ad σ1 rest) 5 [(0, .ref (ad 0))] []) h (fun σ1 h => ?_)
  refine X_aload_n C 0 rfl rfl dX7_dijoin_5 ?_
  obtain ⟨o2, eo2, h⟩ := bnd_some h
  refine X_callVi C (n := 0) (As := []) (c_m_isWhole eo2) rfl gX7_dijoin_X7_isWhole rfl rfl (me_0 _ _ _ _) rfl rfl (by decide +kernel) ⟨Nat.le_of_ble_eq_true rfl, Nat.le_of_ble_eq_true rfl⟩ ⟨Nat.zero_le _, Nat.zero_le _⟩ rfl rfl (Nat.le_of_ble_eq_true rfl) dX7_dijoin_6 ?_
  refine X_ifne C (tgt := 14) (by decide) dX7_dijoin_9 h (fun h => ?_) (fun h => ?_)
  · refine X_aload_n C 0 rfl rfl dX7_dijoin_14 ?_
    obtain ⟨o3, eo3, h⟩ := bnd_some h
    refine X_callVv C (n := 0) (As := []) (c_m_makeSets eo3) rfl gX7_dijoin_X7_makeSets rfl rfl (me_0 _ _ _ _) rfl rfl (by decide +kernel) ⟨Nat.le_of_ble_eq_true rfl, Nat.le_of_ble_eq_true rfl⟩ ⟨Nat.zero_le _, Nat.zero_le _⟩ rfl rfl (Nat.le_of_ble_eq_true rfl) dX7_dijoin_15 ?_
    refine X_iconst (v := 0) C (by decide) dX7_dijoin_18 ?_
    refine X_istore_n (vs1 := [(1, .int (0 : Int32)), (0, .ref (ad 0))]) C rfl (by decide) rfl dX7_dijoin_19 ?_
    refine X_iconst (v := 1) C (by decide) dX7_dijoin_20 ?_
    refine X_istore_n (vs1 := [(2, .int (1 : Int32)), (1, .int (0 : Int32)), (0, .ref (ad 0))]) C rfl (by decide) rfl dX7_dijoin_21 ?_
    obtain ⟨e6, he6, h⟩ := bnd_some h
    refine X_loc (vs1 := [(0, .ref (ad 0)), (1, .int (0 : Int32)), (2, .int (1 : Int32))]) [2, 1, 0] rfl ?_
    refine wb_m_dijoin_22 C (e := e6) (fun t ht => ?_) n _ he6
    subst ht
    refine X_aload_n C 0 rfl rfl dX7_dijoin_65 ?_
    refine X_iconst (v := 1) C (by decide) dX7_dijoin_66 ?_
    refine X_put (ty := .boolean) C 0 6 hi7_m_dijoin hf134_m_dijoin tyX7 tyX7_ok nmX7 (me_0 _ _ _ _) rfl (by decide) rfl (by decide +kernel) (jz_nar (by decide)) (jz_fit (by decide)) (Nat.le_of_ble_eq_true rfl) (ms_0_6 _ _ _ _ _) dX7_dijoin_67 ?_
    refine X_nam (G := fun σ7 => XW l D K 0 0 (wM cs ad σ7 rest) 70 [(0, .ref (ad 0)), (1, .int e6)] []) h (fun σ7 h => ?_)
    refine X_aload_n C 0 rfl rfl dX7_dijoin_70 ?_
    refine X_aload_n C 0 rfl rfl dX7_dijoin_71 ?_
    refine X_get C 0 30 hi7_m_dijoin hf76_m_dijoin (me_0 _ _ _ _) rfl (by decide) rfl dX7_dijoin_72 ?_
    refine X_iload_n C 1 rfl rfl dX7_dijoin_75 ?_
    refine X_iald C 21 (me_21 _ _ _ _) h dX7_dijoin_76 (fun h => ?_)
    refine X_put (ty := .int) C 0 7 hi7_m_dijoin hf153_m_dijoin tyX7 tyX7_ok nmX7 (me_0 _ _ _ _) rfl (by decide) rfl (by decide +kernel) rfl rfl (Nat.le_of_ble_eq_true rfl) (ms_0_7 _ _ _ _ _) dX7_dijoin_77 ?_
    refine X_nam (G := fun σ8 => XW l D K 0 0 (wM cs ad σ8 rest) 80 [(0, .ref (ad 0)), (1, .int e6)] []) h (fun σ8 h => ?_)
    refine X_aload_n C 0 rfl rfl dX7_dijoin_80 ?_
    refine X_aload_n C 0 rfl rfl dX7_dijoin_81 ?_
    refine X_get C 0 7 hi7_m_dijoin hf153_m_dijoin (me_0 _ _ _ _) rfl (by decide) rfl dX7_dijoin_82 ?_
    obtain ⟨o9, eo9, h⟩ := bnd_some h
    refine X_callVi C (n := 1) (As := [.int (σ8.1 7)]) (c_m_weightOf eo9) rfl gX7_dijoin_X7_weightOf rfl rfl (me_0 _ _ _ _) rfl rfl (by decide +kernel) ⟨Nat.le_of_ble_eq_true rfl, Nat.le_of_ble_eq_true rfl⟩ ⟨Nat.zero_le _, Nat.zero_le _⟩ rfl rfl (Nat.le_of_ble_eq_true rfl) dX7_dijoin_85 ?_
    obtain rfl := Option.some.inj h
    exact hret _ _ dX7_dijoin_88
  · refine X_iconst (v := (-1)) C (by decide) dX7_dijoin_12 ?_
    obtain rfl := Option.some.inj h
    exact hret _ _ dX7_dijoin_13

abbrev rm_m_chosen : Room := { frames := 0, cells := 0, slots := 0, locals := 0 }
def j_m_chosen_20 (n : Nat) (σ : ST) (t0 : Int32) : Option (Int32 × ST) :=
  some (t0, σ)
def f_m_chosen (n : Nat) (σ : ST) : Option (Int32 × ST) :=
  nam (sS σ 0 (0 : Int32)) fun σ1 =>
  if (σ1.1 6) = 0 then
    j_m_chosen_20 n σ1 (0 : Int32)
  else
    j_m_chosen_20 n σ1 (σ1.1 7)
theorem hf153_m_chosen : Cond.fieldLink RX7 153 (TX7 7).1 (TX7 7).2.1 (TX7 7).2.2.1 ∈ wsX7_chosen := by decide +kernel
theorem hf134_m_chosen : Cond.fieldLink RX7 134 (TX7 6).1 (TX7 6).2.1 (TX7 6).2.2.1 ∈ wsX7_chosen := by decide +kernel
theorem hf85_m_chosen : Cond.fieldLink RX7 85 (TX7 0).1 (TX7 0).2.1 (TX7 0).2.2.1 ∈ wsX7_chosen := by decide +kernel
theorem hi7_m_chosen : ∀ w ∈ u_ws RX7 TX7 34, w ∈ wsX7_chosen := by decide +kernel
set_option maxHeartbeats 4000000 in
set_option maxRecDepth 100000 in
theorem wj_m_chosen_20 {l : Launch} {D : va_G} {cs : Nat → ClassId} {K : XK} {ad : Nat → Nat} {rest : va_W} (C : XC D cs K 1 rm_m_chosen cX7_chosen RX7 wsX7_chosen (some .int)) {n : Nat} {σ : ST} {t0 : Int32} {o : Int32 × ST} (h : j_m_chosen_20 n σ t0 = some o) (hret : XRi l D K cX7_chosen o.1 (wM cs ad o.2 rest)) : XW l D K 0 0 (wM cs ad σ rest) 20 [] [.int t0] := by
  unfold j_m_chosen_20 at h
  obtain rfl := Option.some.inj h
  exact hret _ _ dX7_chosen_20
set_option maxHeartbeats 4000000 in
set_option maxRecDepth 100000 in
theorem c_m_chosen {l : Launch} {D : va_G} {cs : Nat → ClassId} {ad : Nat → Nat} {rest : va_W} {n : Nat} {σ : ST} {o : Int32 × ST} (h : f_m_chosen n σ = some o) : CTi l D cs yX7_chosen wsX7_chosen rm_m_chosen [.ref (ad 0)] (wM cs ad σ rest) o.1 (wM cs ad o.2 rest) := by
  refine CTi_of (cc := cX7_chosen) (nL := 1) (by decide) rfl (Nat.le_of_ble_eq_true rfl) ?_
  intro K C hret
  unfold f_m_chosen at h
  refine X_loc (vs1 := [(0, .ref (ad 0))]) [0] rfl ?_
  refine X_aload_n C 0 rfl rfl dX7_chosen_0 ?_
  refine X_iconst (v := 0) C (by decide) dX7_chosen_1 ?_
  refine X_put (ty := .int) C 0 0 hi7_m_chosen hf85_m_chosen tyX7 tyX7_ok nmX7 (me_0 _ _ _ _) rfl (by decide) rfl (by decide +kernel) rfl rfl (Nat.le_of_ble_eq_true rfl) (ms_0_0 _ _ _ _ _) dX7_chosen_2 ?_
  refine X_nam (G := fun σ1 => XW l D K 0 0 (wM cs ad σ1 rest) 5 [(0, .ref (ad 0))] []) h (fun σ1 h => ?_)
  refine X_aload_n C 0 rfl rfl dX7_chosen_5 ?_
  refine X_get C 0 6 hi7_m_chosen hf134_m_chosen (me_0 _ _ _ _) rfl (by decide) rfl dX7_chosen_6 ?_
  refine X_ifeq C (tgt := 19) (by decide) dX7_chosen_9 h (fun h => ?_) (fun h => ?_)
  · refine X_iconst (v := 0) C (by decide) dX7_chosen_19 ?_
    refine X_loc (vs1 := []) [] rfl ?_
    exact wj_m_chosen_20 C h hret
  · refine X_aload_n C 0 rfl rfl dX7_chosen_12 ?_
    refine X_get C 0 7 hi7_m_chosen hf153_m_chosen (me_0 _ _ _ _) rfl (by decide) rfl dX7_chosen_13 ?_
    refine X_goto C (tgt := 20) (by decide) dX7_chosen_16 ?_
    refine X_loc (vs1 := []) [] rfl ?_
    exact wj_m_chosen_20 C h hret

abbrev rm_m_cost : Room := { frames := 3, cells := 0, slots := 0, locals := 67 }
def j_m_cost_31 (n : Nat) (σ : ST) : Option (Int32 × ST) :=
  some ((-1 : Int32), σ)
def j_m_cost_133_42 (n : Nat) (σ : ST) (v1 : Int32) (v2 : Int32) (v3 : Int32) (v4 : Int32) : Option ((Int32 × Int32) ⊕ (Int32)) :=
  some (.inl (v3, v4 + (1 : Int32)))
def j_m_cost_132_42 (n : Nat) (σ : ST) (v1 : Int32) (v2 : Int32) (v4 : Int32) (t0 : Int32) : Option ((Int32 × Int32) ⊕ (Int32)) :=
  j_m_cost_133_42 n σ v1 v2 t0 v4
def j_m_cost_126_42 (n : Nat) (σ : ST) (v1 : Int32) (v2 : Int32) (v4 : Int32) (v6 : Int32) : Option ((Int32 × Int32) ⊕ (Int32)) :=
  j_m_cost_132_42 n σ v1 v2 v4 v6
def j_m_cost_112_42 (n : Nat) (σ : ST) (v1 : Int32) (v2 : Int32) (v3 : Int32) (v4 : Int32) (t0 : Int32) (t1 : Int32) : Option ((Int32 × Int32) ⊕ (Int32)) :=
  if v3 = (-1 : Int32) then
    j_m_cost_126_42 n σ v1 v2 v4 (t1 + t0)
  else
    if v3 ≤ (t1 + t0) then
      j_m_cost_132_42 n σ v1 v2 v4 v3
    else
      j_m_cost_126_42 n σ v1 v2 v4 (t1 + t0)
def j_m_cost_84_42 (n : Nat) (σ : ST) (v1 : Int32) (v2 : Int32) (v3 : Int32) (v4 : Int32) (v5 : Int32) : Option ((Int32 × Int32) ⊕ (Int32)) :=
  grd (jin v4 13000) <|
  bnd (f_m_weightOf n σ (σ.2 21 (jix v4))) fun o6 =>
  if v5 = 0 then
    j_m_cost_112_42 n σ v1 v2 v3 v4 (0 : Int32) o6
  else
    grd (jin v1 16) <|
    j_m_cost_112_42 n σ v1 v2 v3 v4 (v2 - (σ.2 3 (jix v1))) o6
def j_m_cost_70_42 (n : Nat) (σ : ST) (v1 : Int32) (v2 : Int32) (v3 : Int32) (v4 : Int32) (t0 : Int32) : Option ((Int32 × Int32) ⊕ (Int32)) :=
  if t0 = 0 then
    j_m_cost_84_42 n σ v1 v2 v3 v4 t0
  else
    if 0 ≤ v2 then
      j_m_cost_84_42 n σ v1 v2 v3 v4 t0
    else
      j_m_cost_133_42 n σ v1 v2 v3 v4
def b_m_cost_42 (n : Nat) (σ : ST) (v1 : Int32) (v2 : Int32) (s : Int32 × Int32) : Option ((Int32 × Int32) ⊕ (Int32)) :=
  if (σ.1 29) ≤ s.2 then
    some (.inr s.1)
  else
    grd (jin s.2 13000) <|
    if ((jshr (σ.2 21 (jix s.2)) v1) &&& (1 : Int32)) = 0 then
      j_m_cost_70_42 n σ v1 v2 s.1 s.2 (0 : Int32)
    else
      j_m_cost_70_42 n σ v1 v2 s.1 s.2 (1 : Int32)
def f_m_cost (n : Nat) (σ : ST) (a0 : Int32) (a1 : Int32) : Option (Int32 × ST) :=
  nam (sS σ 0 (0 : Int32)) fun σ1 =>
  bnd (f_m_isArc n σ1 a0) fun o2 =>
  if o2 = 0 then
    j_m_cost_31 n σ1
  else
    bnd (f_m_isWhole n σ1) fun o3 =>
    if o3 = 0 then
      j_m_cost_31 n σ1
    else
      bnd (f_m_in n a1 (-1 : Int32) (1000 : Int32)) fun o4 =>
      if o4 = 0 then
        j_m_cost_31 n σ1
      else
        bnd (f_m_makeSets n σ1) fun o5 =>
        bnd (lp (b_m_cost_42 n o5 a0 a1) n ((-1 : Int32), (0 : Int32))) fun e7 =>
        some (e7, o5)
theorem hf20_m_cost : Cond.fieldLink RX7 20 (TX7 5).1 (TX7 5).2.1 (TX7 5).2.2.1 ∈ wsX7_cost := by decide +kernel
theorem hf76_m_cost : Cond.fieldLink RX7 76 (TX7 30).1 (TX7 30).2.1 (TX7 30).2.2.1 ∈ wsX7_cost := by decide +kernel
theorem hf116_m_cost : Cond.fieldLink RX7 116 (TX7 29).1 (TX7 29).2.1 (TX7 29).2.2.1 ∈ wsX7_cost := by decide +kernel
theorem hf85_m_cost : Cond.fieldLink RX7 85 (TX7 0).1 (TX7 0).2.1 (TX7 0).2.2.1 ∈ wsX7_cost := by decide +kernel
theorem hi7_m_cost : ∀ w ∈ u_ws RX7 TX7 34, w ∈ wsX7_cost := by decide +kernel
set_option maxHeartbeats 4000000 in
set_option maxRecDepth 100000 in
theorem wj_m_cost_31 {l : Launch} {D : va_G} {cs : Nat → ClassId} {K : XK} {ad : Nat → Nat} {rest : va_W} (C : XC D cs K 7 rm_m_cost cX7_cost RX7 wsX7_cost (some .int)) {n : Nat} {σ : ST} {o : Int32 × ST} (h : j_m_cost_31 n σ = some o) (hret : XRi l D K cX7_cost o.1 (wM cs ad o.2 rest)) : XW l D K 0 0 (wM cs ad σ rest) 31 [] [] := by
  unfold j_m_cost_31 at h
  refine X_iconst (v := (-1)) C (by decide) dX7_cost_31 ?_
  obtain rfl := Option.some.inj h
  exact hret _ _ dX7_cost_32
set_option maxHeartbeats 4000000 in
set_option maxRecDepth 100000 in
theorem wj_m_cost_133_42 {l : Launch} {D : va_G} {cs : Nat → ClassId} {K : XK} {ad : Nat → Nat} {rest : va_W} (C : XC D cs K 7 rm_m_cost cX7_cost RX7 wsX7_cost (some .int)) {n : Nat} {σ : ST} {v1 : Int32} {v2 : Int32} {v3 : Int32} {v4 : Int32} {o : (Int32 × Int32) ⊕ (Int32)} {e : (Int32)} (h : j_m_cost_133_42 n σ v1 v2 v3 v4 = some o) (kin : ∀ (s : Int32 × Int32), o = .inl s → XW l D K 0 0 (wM cs ad σ rest) 42 [(0, .ref (ad 0)), (1, .int v1), (2, .int v2), (3, .int s.1), (4, .int s.2)] []) (kex : ∀ e1, o = .inr e1 → e1 = e) (kx : ∀ (t : Int32), e = t → XW l D K 0 0 (wM cs ad σ rest) 139 [(3, .int t)] []) : XW l D K 0 0 (wM cs ad σ rest) 133 [(0, .ref (ad 0)), (1, .int v1), (2, .int v2), (3, .int v3), (4, .int v4)] [] := by
  unfold j_m_cost_133_42 at h
  refine X_iinc (v := v4 + (1 : Int32)) (vs1 := [(4, .int (v4 + (1 : Int32))), (0, .ref (ad 0)), (1, .int v1), (2, .int v2), (3, .int v3)]) C 4 rfl rfl (by decide) rfl dX7_cost_133 ?_
  refine X_goto C (tgt := 42) (by decide) dX7_cost_136 ?_
  obtain rfl := Option.some.inj h
  refine X_loc (vs1 := [(0, .ref (ad 0)), (1, .int v1), (2, .int v2), (3, .int v3), (4, .int (v4 + (1 : Int32)))]) [1, 2, 3, 4, 0] rfl ?_
  exact kin _ rfl
set_option maxHeartbeats 4000000 in
set_option maxRecDepth 100000 in
theorem wj_m_cost_132_42 {l : Launch} {D : va_G} {cs : Nat → ClassId} {K : XK} {ad : Nat → Nat} {rest : va_W} (C : XC D cs K 7 rm_m_cost cX7_cost RX7 wsX7_cost (some .int)) {n : Nat} {σ : ST} {v1 : Int32} {v2 : Int32} {v4 : Int32} {t0 : Int32} {o : (Int32 × Int32) ⊕ (Int32)} {e : (Int32)} (h : j_m_cost_132_42 n σ v1 v2 v4 t0 = some o) (kin : ∀ (s : Int32 × Int32), o = .inl s → XW l D K 0 0 (wM cs ad σ rest) 42 [(0, .ref (ad 0)), (1, .int v1), (2, .int v2), (3, .int s.1), (4, .int s.2)] []) (kex : ∀ e1, o = .inr e1 → e1 = e) (kx : ∀ (t : Int32), e = t → XW l D K 0 0 (wM cs ad σ rest) 139 [(3, .int t)] []) : XW l D K 0 0 (wM cs ad σ rest) 132 [(0, .ref (ad 0)), (1, .int v1), (2, .int v2), (4, .int v4)] [.int t0] := by
  unfold j_m_cost_132_42 at h
  refine X_istore_n (vs1 := [(3, .int t0), (0, .ref (ad 0)), (1, .int v1), (2, .int v2), (4, .int v4)]) C rfl (by decide) rfl dX7_cost_132 ?_
  refine X_loc (vs1 := [(0, .ref (ad 0)), (1, .int v1), (2, .int v2), (3, .int t0), (4, .int v4)]) [1, 2, 3, 0, 4] rfl ?_
  exact wj_m_cost_133_42 C h kin kex kx
set_option maxHeartbeats 4000000 in
set_option maxRecDepth 100000 in
theorem wj_m_cost_126_42 {l : Launch} {D : va_G} {cs : Nat → ClassId} {K : XK} {ad : Nat → Nat} {rest : va_W} (C : XC D cs K 7 rm_m_cost cX7_cost RX7 wsX7_cost (some .int)) {n : Nat} {σ : ST} {v1 : Int32} {v2 : Int32} {v4 : Int32} {v6 : Int32} {o : (Int32 × Int32) ⊕ (Int32)} {e : (Int32)} (h : j_m_cost_126_42 n σ v1 v2 v4 v6 = some o) (kin : ∀ (s : Int32 × Int32), o = .inl s → XW l D K 0 0 (wM cs ad σ rest) 42 [(0, .ref (ad 0)), (1, .int v1), (2, .int v2), (3, .int s.1), (4, .int s.2)] []) (kex : ∀ e1, o = .inr e1 → e1 = e) (kx : ∀ (t : Int32), e = t → XW l D K 0 0 (wM cs ad σ rest) 139 [(3, .int t)] []) : XW l D K 0 0 (wM cs ad σ rest) 126 [(0, .ref (ad 0)), (1, .int v1), (2, .int v2), (4, .int v4), (6, .int v6)] [] := by
  unfold j_m_cost_126_42 at h
  refine X_iload C 4 rfl dX7_cost_126 ?_
  refine X_goto C (tgt := 132) (by decide) dX7_cost_128 ?_
  refine X_loc (vs1 := [(0, .ref (ad 0)), (1, .int v1), (2, .int v2), (4, .int v4)]) [0, 1, 2, 3] rfl ?_
  exact wj_m_cost_132_42 C h kin kex kx
set_option maxHeartbeats 4000000 in
set_option maxRecDepth 100000 in
theorem wj_m_cost_112_42 {l : Launch} {D : va_G} {cs : Nat → ClassId} {K : XK} {ad : Nat → Nat} {rest : va_W} (C : XC D cs K 7 rm_m_cost cX7_cost RX7 wsX7_cost (some .int)) {n : Nat} {σ : ST} {v1 : Int32} {v2 : Int32} {v3 : Int32} {v4 : Int32} {t0 : Int32} {t1 : Int32} {o : (Int32 × Int32) ⊕ (Int32)} {e : (Int32)} (h : j_m_cost_112_42 n σ v1 v2 v3 v4 t0 t1 = some o) (kin : ∀ (s : Int32 × Int32), o = .inl s → XW l D K 0 0 (wM cs ad σ rest) 42 [(0, .ref (ad 0)), (1, .int v1), (2, .int v2), (3, .int s.1), (4, .int s.2)] []) (kex : ∀ e1, o = .inr e1 → e1 = e) (kx : ∀ (t : Int32), e = t → XW l D K 0 0 (wM cs ad σ rest) 139 [(3, .int t)] []) : XW l D K 0 0 (wM cs ad σ rest) 112 [(0, .ref (ad 0)), (1, .int v1), (2, .int v2), (3, .int v3), (4, .int v4)] [.int t0, .int t1] := by
  unfold j_m_cost_112_42 at h
  refine X_iadd C dX7_cost_112 ?_
  refine X_istore (vs1 := [(6, .int (t1 + t0)), (0, .ref (ad 0)), (1, .int v1), (2, .int v2), (3, .int v3), (4, .int v4)]) C (by decide) rfl dX7_cost_113 ?_
  refine X_iload_n C 4 rfl rfl dX7_cost_115 ?_
  refine X_iconst (v := (-1)) C (by decide) dX7_cost_116 ?_
  refine X_icmpeq C (tgt := 126) (by decide) dX7_cost_117 h (fun h => ?_) (fun h => ?_)
  · refine X_loc (vs1 := [(0, .ref (ad 0)), (1, .int v1), (2, .int v2), (4, .int v4), (6, .int (t1 + t0))]) [1, 2, 3, 5, 0] rfl ?_
    exact wj_m_cost_126_42 C h kin kex kx
  · refine X_iload C 0 rfl dX7_cost_120 ?_
    refine X_iload_n C 4 rfl rfl dX7_cost_122 ?_
    refine X_icmpge C (tgt := 131) (by decide) dX7_cost_123 h (fun h => ?_) (fun h => ?_)
    · refine X_iload_n C 4 rfl rfl dX7_cost_131 ?_
      refine X_loc (vs1 := [(0, .ref (ad 0)), (1, .int v1), (2, .int v2), (4, .int v4)]) [1, 2, 3, 5] rfl ?_
      exact wj_m_cost_132_42 C h kin kex kx
    · refine X_loc (vs1 := [(0, .ref (ad 0)), (1, .int v1), (2, .int v2), (4, .int v4), (6, .int (t1 + t0))]) [1, 2, 3, 5, 0] rfl ?_
      exact wj_m_cost_126_42 C h kin kex kx
set_option maxHeartbeats 4000000 in
set_option maxRecDepth 100000 in
theorem wj_m_cost_84_42 {l : Launch} {D : va_G} {cs : Nat → ClassId} {K : XK} {ad : Nat → Nat} {rest : va_W} (C : XC D cs K 7 rm_m_cost cX7_cost RX7 wsX7_cost (some .int)) {n : Nat} {σ : ST} {v1 : Int32} {v2 : Int32} {v3 : Int32} {v4 : Int32} {v5 : Int32} {o : (Int32 × Int32) ⊕ (Int32)} {e : (Int32)} (h : j_m_cost_84_42 n σ v1 v2 v3 v4 v5 = some o) (kin : ∀ (s : Int32 × Int32), o = .inl s → XW l D K 0 0 (wM cs ad σ rest) 42 [(0, .ref (ad 0)), (1, .int v1), (2, .int v2), (3, .int s.1), (4, .int s.2)] []) (kex : ∀ e1, o = .inr e1 → e1 = e) (kx : ∀ (t : Int32), e = t → XW l D K 0 0 (wM cs ad σ rest) 139 [(3, .int t)] []) : XW l D K 0 0 (wM cs ad σ rest) 84 [(0, .ref (ad 0)), (1, .int v1), (2, .int v2), (3, .int v3), (4, .int v4), (5, .int v5)] [] := by
  unfold j_m_cost_84_42 at h
  refine X_aload_n C 0 rfl rfl dX7_cost_84 ?_
  refine X_aload_n C 0 rfl rfl dX7_cost_85 ?_
  refine X_get C 0 30 hi7_m_cost hf76_m_cost (me_0 _ _ _ _) rfl (by decide) rfl dX7_cost_86 ?_
  refine X_iload C 4 rfl dX7_cost_89 ?_
  refine X_iald C 21 (me_21 _ _ _ _) h dX7_cost_91 (fun h => ?_)
  obtain ⟨o6, eo6, h⟩ := bnd_some h
  refine X_callVi C (n := 1) (As := [.int (σ.2 21 (jix v4))]) (c_m_weightOf eo6) rfl gX7_cost_X7_weightOf rfl rfl (me_0 _ _ _ _) rfl rfl (by decide +kernel) ⟨Nat.le_of_ble_eq_true rfl, Nat.le_of_ble_eq_true rfl⟩ ⟨Nat.zero_le _, Nat.zero_le _⟩ rfl rfl (Nat.le_of_ble_eq_true rfl) dX7_cost_92 ?_
  refine X_iload C 5 rfl dX7_cost_95 ?_
  refine X_ifeq C (tgt := 111) (by decide) dX7_cost_97 h (fun h => ?_) (fun h => ?_)
  · refine X_iconst (v := 0) C (by decide) dX7_cost_111 ?_
    refine X_loc (vs1 := [(0, .ref (ad 0)), (1, .int v1), (2, .int v2), (3, .int v3), (4, .int v4)]) [0, 1, 2, 3, 4] rfl ?_
    exact wj_m_cost_112_42 C h kin kex kx
  · refine X_iload_n C 2 rfl rfl dX7_cost_100 ?_
    refine X_aload_n C 0 rfl rfl dX7_cost_101 ?_
    refine X_get C 0 5 hi7_m_cost hf20_m_cost (me_0 _ _ _ _) rfl (by decide) rfl dX7_cost_102 ?_
    refine X_iload_n C 1 rfl rfl dX7_cost_105 ?_
    refine X_iald C 3 (me_3 _ _ _ _) h dX7_cost_106 (fun h => ?_)
    refine X_isub C dX7_cost_107 ?_
    refine X_goto C (tgt := 112) (by decide) dX7_cost_108 ?_
    refine X_loc (vs1 := [(0, .ref (ad 0)), (1, .int v1), (2, .int v2), (3, .int v3), (4, .int v4)]) [0, 1, 2, 3, 4] rfl ?_
    exact wj_m_cost_112_42 C h kin kex kx
set_option maxHeartbeats 4000000 in
set_option maxRecDepth 100000 in
theorem wj_m_cost_70_42 {l : Launch} {D : va_G} {cs : Nat → ClassId} {K : XK} {ad : Nat → Nat} {rest : va_W} (C : XC D cs K 7 rm_m_cost cX7_cost RX7 wsX7_cost (some .int)) {n : Nat} {σ : ST} {v1 : Int32} {v2 : Int32} {v3 : Int32} {v4 : Int32} {t0 : Int32} {o : (Int32 × Int32) ⊕ (Int32)} {e : (Int32)} (h : j_m_cost_70_42 n σ v1 v2 v3 v4 t0 = some o) (kin : ∀ (s : Int32 × Int32), o = .inl s → XW l D K 0 0 (wM cs ad σ rest) 42 [(0, .ref (ad 0)), (1, .int v1), (2, .int v2), (3, .int s.1), (4, .int s.2)] []) (kex : ∀ e1, o = .inr e1 → e1 = e) (kx : ∀ (t : Int32), e = t → XW l D K 0 0 (wM cs ad σ rest) 139 [(3, .int t)] []) : XW l D K 0 0 (wM cs ad σ rest) 70 [(0, .ref (ad 0)), (1, .int v1), (2, .int v2), (3, .int v3), (4, .int v4)] [.int t0] := by
  unfold j_m_cost_70_42 at h
  refine X_istore (vs1 := [(5, .int t0), (0, .ref (ad 0)), (1, .int v1), (2, .int v2), (3, .int v3), (4, .int v4)]) C (by decide) rfl dX7_cost_70 ?_
  refine X_iload C 0 rfl dX7_cost_72 ?_
  refine X_ifeq C (tgt := 84) (by decide) dX7_cost_74 h (fun h => ?_) (fun h => ?_)
  · refine X_loc (vs1 := [(0, .ref (ad 0)), (1, .int v1), (2, .int v2), (3, .int v3), (4, .int v4), (5, .int t0)]) [1, 2, 3, 4, 5, 0] rfl ?_
    exact wj_m_cost_84_42 C h kin kex kx
  · refine X_iload_n C 3 rfl rfl dX7_cost_77 ?_
    refine X_ifge C (tgt := 84) (by decide) dX7_cost_78 h (fun h => ?_) (fun h => ?_)
    · refine X_loc (vs1 := [(0, .ref (ad 0)), (1, .int v1), (2, .int v2), (3, .int v3), (4, .int v4), (5, .int t0)]) [1, 2, 3, 4, 5, 0] rfl ?_
      exact wj_m_cost_84_42 C h kin kex kx
    · refine X_goto C (tgt := 133) (by decide) dX7_cost_81 ?_
      refine X_loc (vs1 := [(0, .ref (ad 0)), (1, .int v1), (2, .int v2), (3, .int v3), (4, .int v4)]) [1, 2, 3, 4, 5] rfl ?_
      exact wj_m_cost_133_42 C h kin kex kx
set_option maxHeartbeats 4000000 in
set_option maxRecDepth 100000 in
theorem wb_m_cost_42 {l : Launch} {D : va_G} {cs : Nat → ClassId} {K : XK} {ad : Nat → Nat} {rest : va_W} (C : XC D cs K 7 rm_m_cost cX7_cost RX7 wsX7_cost (some .int)) {n : Nat} {σ : ST} {v1 : Int32} {v2 : Int32} {e : (Int32)} (kx : ∀ (t : Int32), e = t → XW l D K 0 0 (wM cs ad σ rest) 139 [(3, .int t)] []) : ∀ (q : Nat) (s : Int32 × Int32), lp (b_m_cost_42 n σ v1 v2) q s = some e → XW l D K 0 0 (wM cs ad σ rest) 42 [(0, .ref (ad 0)), (1, .int v1), (2, .int v2), (3, .int s.1), (4, .int s.2)] [] := by
  refine lp_walk (G := fun (s : Int32 × Int32) => XW l D K 0 0 (wM cs ad σ rest) 42 [(0, .ref (ad 0)), (1, .int v1), (2, .int v2), (3, .int s.1), (4, .int s.2)] []) ?_
  intro s o h kin kex
  unfold b_m_cost_42 at h
  refine X_iload C 4 rfl dX7_cost_42 ?_
  refine X_aload_n C 0 rfl rfl dX7_cost_44 ?_
  refine X_get C 0 29 hi7_m_cost hf116_m_cost (me_0 _ _ _ _) rfl (by decide) rfl dX7_cost_45 ?_
  refine X_icmpge C (tgt := 139) (by decide) dX7_cost_48 h (fun h => ?_) (fun h => ?_)
  · obtain rfl := Option.some.inj h
    refine X_loc (vs1 := [(3, .int s.1)]) [3] rfl ?_
    exact kx _ (kex _ rfl).symm
  · refine X_aload_n C 0 rfl rfl dX7_cost_51 ?_
    refine X_get C 0 30 hi7_m_cost hf76_m_cost (me_0 _ _ _ _) rfl (by decide) rfl dX7_cost_52 ?_
    refine X_iload C 4 rfl dX7_cost_55 ?_
    refine X_iald C 21 (me_21 _ _ _ _) h dX7_cost_57 (fun h => ?_)
    refine X_iload_n C 1 rfl rfl dX7_cost_58 ?_
    refine X_ishr C dX7_cost_59 ?_
    refine X_iconst (v := 1) C (by decide) dX7_cost_60 ?_
    refine X_iand C dX7_cost_61 ?_
    refine X_ifeq C (tgt := 69) (by decide) dX7_cost_62 h (fun h => ?_) (fun h => ?_)
    · refine X_iconst (v := 0) C (by decide) dX7_cost_69 ?_
      exact wj_m_cost_70_42 C h kin kex kx
    · refine X_iconst (v := 1) C (by decide) dX7_cost_65 ?_
      refine X_goto C (tgt := 70) (by decide) dX7_cost_66 ?_
      exact wj_m_cost_70_42 C h kin kex kx
set_option maxHeartbeats 4000000 in
set_option maxRecDepth 100000 in
theorem c_m_cost {l : Launch} {D : va_G} {cs : Nat → ClassId} {ad : Nat → Nat} {rest : va_W} {n : Nat} {σ : ST} {a0 : Int32} {a1 : Int32} {o : Int32 × ST} (h : f_m_cost n σ a0 a1 = some o) : CTi l D cs yX7_cost wsX7_cost rm_m_cost [.ref (ad 0), .int a0, .int a1] (wM cs ad σ rest) o.1 (wM cs ad o.2 rest) := by
  refine CTi_of (cc := cX7_cost) (nL := 7) (by decide) rfl (Nat.le_of_ble_eq_true rfl) ?_
  intro K C hret
  unfold f_m_cost at h
  refine X_loc (vs1 := [(0, .ref (ad 0)), (1, .int a0), (2, .int a1)]) [0, 1, 2] rfl ?_
  refine X_aload_n C 0 rfl rfl dX7_cost_0 ?_
  refine X_iconst (v := 0) C (by decide) dX7_cost_1 ?_
  refine X_put (ty := .int) C 0 0 hi7_m_cost hf85_m_cost tyX7 tyX7_ok nmX7 (me_0 _ _ _ _) rfl (by decide) rfl (by decide +kernel) rfl rfl (Nat.le_of_ble_eq_true rfl) (ms_0_0 _ _ _ _ _) dX7_cost_2 ?_
  refine X_nam (G := fun σ1 => XW l D K 0 0 (wM cs ad σ1 rest) 5 [(0, .ref (ad 0)), (1, .int a0), (2, .int a1)] []) h (fun σ1 h => ?_)
  refine X_aload_n C 0 rfl rfl dX7_cost_5 ?_
  refine X_iload_n C 1 rfl rfl dX7_cost_6 ?_
  obtain ⟨o2, eo2, h⟩ := bnd_some h
  refine X_callVi C (n := 1) (As := [.int a0]) (c_m_isArc eo2) rfl gX7_cost_X7_isArc rfl rfl (me_0 _ _ _ _) rfl rfl (by decide +kernel) ⟨Nat.le_of_ble_eq_true rfl, Nat.le_of_ble_eq_true rfl⟩ ⟨Nat.zero_le _, Nat.zero_le _⟩ rfl rfl (Nat.le_of_ble_eq_true rfl) dX7_cost_7 ?_
  refine X_ifeq C (tgt := 31) (by decide) dX7_cost_10 h (fun h => ?_) (fun h => ?_)
  · refine X_loc (vs1 := []) [] rfl ?_
    exact wj_m_cost_31 C h hret
  · refine X_aload_n C 0 rfl rfl dX7_cost_13 ?_
    obtain ⟨o3, eo3, h⟩ := bnd_some h
    refine X_callVi C (n := 0) (As := []) (c_m_isWhole eo3) rfl gX7_cost_X7_isWhole rfl rfl (me_0 _ _ _ _) rfl rfl (by decide +kernel) ⟨Nat.le_of_ble_eq_true rfl, Nat.le_of_ble_eq_true rfl⟩ ⟨Nat.zero_le _, Nat.zero_le _⟩ rfl rfl (Nat.le_of_ble_eq_true rfl) dX7_cost_14 ?_
    refine X_ifeq C (tgt := 31) (by decide) dX7_cost_17 h (fun h => ?_) (fun h => ?_)
    · refine X_loc (vs1 := []) [] rfl ?_
      exact wj_m_cost_31 C h hret
    · refine X_iload_n C 2 rfl rfl dX7_cost_20 ?_
      refine X_iconst (v := (-1)) C (by decide) dX7_cost_21 ?_
      refine X_sipush (v := 1000) C (by decide) dX7_cost_22 ?_
      obtain ⟨o4, eo4, h⟩ := bnd_some h
      refine X_callSi C (n := 3) (As := [.int a1, .int (-1 : Int32), .int (1000 : Int32)]) (c_m_in eo4) gX7_cost_X7_in rfl rfl rfl (by decide +kernel) ⟨Nat.le_of_ble_eq_true rfl, Nat.le_of_ble_eq_true rfl⟩ ⟨Nat.zero_le _, Nat.zero_le _⟩ rfl rfl (Nat.le_of_ble_eq_true rfl) dX7_cost_25 ?_
      refine X_ifne C (tgt := 33) (by decide) dX7_cost_28 h (fun h => ?_) (fun h => ?_)
      · refine X_aload_n C 0 rfl rfl dX7_cost_33 ?_
        obtain ⟨o5, eo5, h⟩ := bnd_some h
        refine X_callVv C (n := 0) (As := []) (c_m_makeSets eo5) rfl gX7_cost_X7_makeSets rfl rfl (me_0 _ _ _ _) rfl rfl (by decide +kernel) ⟨Nat.le_of_ble_eq_true rfl, Nat.le_of_ble_eq_true rfl⟩ ⟨Nat.zero_le _, Nat.zero_le _⟩ rfl rfl (Nat.le_of_ble_eq_true rfl) dX7_cost_34 ?_
        refine X_iconst (v := (-1)) C (by decide) dX7_cost_37 ?_
        refine X_istore_n (vs1 := [(3, .int (-1 : Int32)), (0, .ref (ad 0)), (1, .int a0), (2, .int a1)]) C rfl (by decide) rfl dX7_cost_38 ?_
        refine X_iconst (v := 0) C (by decide) dX7_cost_39 ?_
        refine X_istore (vs1 := [(4, .int (0 : Int32)), (3, .int (-1 : Int32)), (0, .ref (ad 0)), (1, .int a0), (2, .int a1)]) C (by decide) rfl dX7_cost_40 ?_
        obtain ⟨e7, he7, h⟩ := bnd_some h
        refine X_loc (vs1 := [(0, .ref (ad 0)), (1, .int a0), (2, .int a1), (3, .int (-1 : Int32)), (4, .int (0 : Int32))]) [2, 3, 4, 1, 0] rfl ?_
        refine wb_m_cost_42 C (e := e7) (fun t ht => ?_) n _ he7
        subst ht
        refine X_iload_n C 0 rfl rfl dX7_cost_139 ?_
        obtain rfl := Option.some.inj h
        exact hret _ _ dX7_cost_140
      · refine X_loc (vs1 := []) [] rfl ?_
        exact wj_m_cost_31 C h hret
