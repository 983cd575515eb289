abbrev rm_contains : Room := { frames := 0, cells := 0, slots := 0, locals := 0 }
def j_contains_13 (n : Nat) (t0 : Int32) : Option (Int32) :=
  grd (jz t0) <|
  some t0
def f_contains (n : Nat) (a0 : Int32) (a1 : Int32) : Option (Int32) :=
  if ((jshr a0 a1) &&& (1 : Int32)) = 0 then
    j_contains_13 n (0 : Int32)
  else
    j_contains_13 n (1 : Int32)
set_option maxHeartbeats 4000000 in
set_option maxRecDepth 100000 in
theorem wj_contains_13 {l : Launch} {D : va_G} {cs : Nat → ClassId} {K : XK} {ws : va_W} (C : XC D cs K 2 rm_contains cX6_contains RX6 wsX6_contains (some .boolean)) {n : Nat} {t0 : Int32} {o : Int32} (h : j_contains_13 n t0 = some o) (hret : XRz l D K cX6_contains o ws) : XW l D K 0 0 ws 13 [] [.int t0] := by
  unfold j_contains_13 at h
  obtain ⟨hz, h⟩ := grd_some h
  obtain rfl := Option.some.inj h
  exact hret _ _ hz dX6_contains_13
set_option maxHeartbeats 4000000 in
set_option maxRecDepth 100000 in
theorem c_contains {l : Launch} {D : va_G} {cs : Nat → ClassId} {ws : va_W} {n : Nat} {a0 : Int32} {a1 : Int32} {o : Int32} (h : f_contains n a0 a1 = some o) : CTi l D cs yX6_contains wsX6_contains rm_contains [.int a0, .int a1] ws o ws := by
  refine CTz_of (cc := cX6_contains) (nL := 2) (by decide) rfl (Nat.le_of_ble_eq_true rfl) ?_
  intro K C hret
  unfold f_contains at h
  refine X_loc (vs1 := [(0, .int a0), (1, .int a1)]) [0, 1] rfl ?_
  refine X_iload_n C 0 rfl rfl dX6_contains_0 ?_
  refine X_iload_n C 1 rfl rfl dX6_contains_1 ?_
  refine X_ishr C dX6_contains_2 ?_
  refine X_iconst (v := 1) C (by decide) dX6_contains_3 ?_
  refine X_iand C dX6_contains_4 ?_
  refine X_ifeq C (tgt := 12) (by decide) dX6_contains_5 h (fun h => ?_) (fun h => ?_)
  · refine X_iconst (v := 0) C (by decide) dX6_contains_12 ?_
    refine X_loc (vs1 := []) [] rfl ?_
    exact wj_contains_13 C h hret
  · refine X_iconst (v := 1) C (by decide) dX6_contains_8 ?_
    refine X_goto C (tgt := 13) (by decide) dX6_contains_9 ?_
    refine X_loc (vs1 := []) [] rfl ?_
    exact wj_contains_13 C h hret

abbrev rm_isWeight : Room := { frames := 0, cells := 0, slots := 0, locals := 0 }
def j_isWeight_16 (n : Nat) (t0 : Int32) : Option (Int32) :=
  grd (jz t0) <|
  some t0
def j_isWeight_15 (n : Nat) : Option (Int32) :=
  j_isWeight_16 n (0 : Int32)
def f_isWeight (n : Nat) (a0 : Int32) : Option (Int32) :=
  if a0 < 0 then
    j_isWeight_15 n
  else
    if (1000 : Int32) < a0 then
      j_isWeight_15 n
    else
      j_isWeight_16 n (1 : Int32)
set_option maxHeartbeats 4000000 in
set_option maxRecDepth 100000 in
theorem wj_isWeight_16 {l : Launch} {D : va_G} {cs : Nat → ClassId} {K : XK} {ws : va_W} (C : XC D cs K 1 rm_isWeight cX6_isWeight RX6 wsX6_isWeight (some .boolean)) {n : Nat} {t0 : Int32} {o : Int32} (h : j_isWeight_16 n t0 = some o) (hret : XRz l D K cX6_isWeight o ws) : XW l D K 0 0 ws 16 [] [.int t0] := by
  unfold j_isWeight_16 at h
  obtain ⟨hz, h⟩ := grd_some h
  obtain rfl := Option.some.inj h
  exact hret _ _ hz dX6_isWeight_16
set_option maxHeartbeats 4000000 in
set_option maxRecDepth 100000 in
theorem wj_isWeight_15 {l : Launch} {D : va_G} {cs : Nat → ClassId} {K : XK} {ws : va_W} (C : XC D cs K 1 rm_isWeight cX6_isWeight RX6 wsX6_isWeight (some .boolean)) {n : Nat} {o : Int32} (h : j_isWeight_15 n = some o) (hret : XRz l D K cX6_isWeight o ws) : XW l D K 0 0 ws 15 [] [] := by
  unfold j_isWeight_15 at h
  refine X_iconst (v := 0) C (by decide) dX6_isWeight_15 ?_
  exact wj_isWeight_16 C h hret
set_option maxHeartbeats 4000000 in
set_option maxRecDepth 100000 in
theorem c_isWeight {l : Launch} {D : va_G} {cs : Nat → ClassId} {ws : va_W} {n : Nat} {a0 : Int32} {o : Int32} (h : f_isWeight n a0 = some o) : CTi l D cs yX6_isWeight wsX6_isWeight rm_isWeight [.int a0] ws o ws := by
  refine CTz_of (cc := cX6_isWeight) (nL := 1) (by decide) rfl (Nat.le_of_ble_eq_true rfl) ?_
  intro K C hret
  unfold f_isWeight at h
  refine X_loc (vs1 := [(0, .int a0)]) [0] rfl ?_
  refine X_iload_n C 0 rfl rfl dX6_isWeight_0 ?_
  refine X_iflt C (tgt := 15) (by decide) dX6_isWeight_1 h (fun h => ?_) (fun h => ?_)
  · refine X_loc (vs1 := []) [] rfl ?_
    exact wj_isWeight_15 C h hret
  · refine X_iload_n C 0 rfl rfl dX6_isWeight_4 ?_
    refine X_sipush (v := 1000) C (by decide) dX6_isWeight_5 ?_
    refine X_icmpgt C (tgt := 15) (by decide) dX6_isWeight_8 h (fun h => ?_) (fun h => ?_)
    · refine X_loc (vs1 := []) [] rfl ?_
      exact wj_isWeight_15 C h hret
    · refine X_iconst (v := 1) C (by decide) dX6_isWeight_11 ?_
      refine X_goto C (tgt := 16) (by decide) dX6_isWeight_12 ?_
      refine X_loc (vs1 := []) [] rfl ?_
      exact wj_isWeight_16 C h hret

abbrev rm_renumbered : Room := { frames := 0, cells := 0, slots := 0, locals := 0 }
def j_renumbered_23 (n : Nat) (t0 : Int32) : Option (Int32) :=
  some t0
def j_renumbered_10 (n : Nat) (v2 : Int32) (t0 : Int32) : Option (Int32) :=
  if t0 ≤ v2 then
    j_renumbered_23 n t0
  else
    j_renumbered_23 n (t0 - (1 : Int32))
def f_renumbered (n : Nat) (a0 : Int32) (a1 : Int32) (a2 : Int32) : Option (Int32) :=
  if a0 = a2 then
    j_renumbered_10 n a2 a1
  else
    j_renumbered_10 n a2 a0
set_option maxHeartbeats 4000000 in
set_option maxRecDepth 100000 in
theorem wj_renumbered_23 {l : Launch} {D : va_G} {cs : Nat → ClassId} {K : XK} {ws : va_W} (C : XC D cs K 4 rm_renumbered cX2_renumbered RX2 wsX2_renumbered (some .int)) {n : Nat} {t0 : Int32} {o : Int32} (h : j_renumbered_23 n t0 = some o) (hret : XRi l D K cX2_renumbered o ws) : XW l D K 0 0 ws 23 [] [.int t0] := by
  unfold j_renumbered_23 at h
  obtain rfl := Option.some.inj h
  exact hret _ _ dX2_renumbered_23
set_option maxHeartbeats 4000000 in
set_option maxRecDepth 100000 in
theorem wj_renumbered_10 {l : Launch} {D : va_G} {cs : Nat → ClassId} {K : XK} {ws : va_W} (C : XC D cs K 4 rm_renumbered cX2_renumbered RX2 wsX2_renumbered (some .int)) {n : Nat} {v2 : Int32} {t0 : Int32} {o : Int32} (h : j_renumbered_10 n v2 t0 = some o) (hret : XRi l D K cX2_renumbered o ws) : XW l D K 0 0 ws 10 [(2, .int v2)] [.int t0] := by
  unfold j_renumbered_10 at h
  refine X_istore_n (vs1 := [(3, .int t0), (2, .int v2)]) C rfl (by decide) rfl dX2_renumbered_10 ?_
  refine X_iload_n C 0 rfl rfl dX2_renumbered_11 ?_
  refine X_iload_n C 1 rfl rfl dX2_renumbered_12 ?_
  refine X_icmple C (tgt := 22) (by decide) dX2_renumbered_13 h (fun h => ?_) (fun h => ?_)
  · refine X_iload_n C 0 rfl rfl dX2_renumbered_22 ?_
    refine X_loc (vs1 := []) [] rfl ?_
    exact wj_renumbered_23 C h hret
  · refine X_iload_n C 0 rfl rfl dX2_renumbered_16 ?_
    refine X_iconst (v := 1) C (by decide) dX2_renumbered_17 ?_
    refine X_isub C dX2_renumbered_18 ?_
    refine X_goto C (tgt := 23) (by decide) dX2_renumbered_19 ?_
    refine X_loc (vs1 := []) [] rfl ?_
    exact wj_renumbered_23 C h hret
set_option maxHeartbeats 4000000 in
set_option maxRecDepth 100000 in
theorem c_renumbered {l : Launch} {D : va_G} {cs : Nat → ClassId} {ws : va_W} {n : Nat} {a0 : Int32} {a1 : Int32} {a2 : Int32} {o : Int32} (h : f_renumbered n a0 a1 a2 = some o) : CTi l D cs yX2_renumbered wsX2_renumbered rm_renumbered [.int a0, .int a1, .int a2] ws o ws := by
  refine CTi_of (cc := cX2_renumbered) (nL := 4) (by decide) rfl (Nat.le_of_ble_eq_true rfl) ?_
  intro K C hret
  unfold f_renumbered at h
  refine X_loc (vs1 := [(0, .int a0), (1, .int a1), (2, .int a2)]) [0, 1, 2] rfl ?_
  refine X_iload_n C 0 rfl rfl dX2_renumbered_0 ?_
  refine X_iload_n C 2 rfl rfl dX2_renumbered_1 ?_
  refine X_icmpne C (tgt := 9) (by decide) dX2_renumbered_2 h (fun h => ?_) (fun h => ?_)
  · refine X_iload_n C 0 rfl rfl dX2_renumbered_9 ?_
    refine X_loc (vs1 := [(2, .int a2)]) [2] rfl ?_
    exact wj_renumbered_10 C h hret
  · refine X_iload_n C 1 rfl rfl dX2_renumbered_5 ?_
    refine X_goto C (tgt := 10) (by decide) dX2_renumbered_6 ?_
    refine X_loc (vs1 := [(2, .int a2)]) [2] rfl ?_
    exact wj_renumbered_10 C h hret

abbrev rm_bitCount : Room := { frames := 0, cells := 0, slots := 0, locals := 0 }
def f_bitCount (a0 : Int32) : Option (Int32) :=
  nam (a0 - ((jushr a0 (1 : Int32)) &&& (1431655765 : Int32))) fun x1 =>
  nam ((x1 &&& (858993459 : Int32)) + ((jushr x1 (2 : Int32)) &&& (858993459 : Int32))) fun x2 =>
  nam ((x2 + (jushr x2 (4 : Int32))) &&& (252645135 : Int32)) fun x3 =>
  nam (x3 + (jushr x3 (8 : Int32))) fun x4 =>
  nam (x4 + (jushr x4 (16 : Int32))) fun x5 =>
  some (x5 &&& (63 : Int32))
theorem hc267_bitCount : Cond.constant RJ6 267 (252645135) ∈ wsJ6_bitCount_0f7a4 := by decide +kernel
theorem hc266_bitCount : Cond.constant RJ6 266 (858993459) ∈ wsJ6_bitCount_0f7a4 := by decide +kernel
theorem hc265_bitCount : Cond.constant RJ6 265 (1431655765) ∈ wsJ6_bitCount_0f7a4 := by decide +kernel
set_option maxHeartbeats 4000000 in
set_option maxRecDepth 100000 in
theorem c_bitCount {l : Launch} {D : va_G} {cs : Nat → ClassId} {ws : va_W} {a0 : Int32} {o : Int32} (h : f_bitCount a0 = some o) : CTi l D cs yJ6_bitCount_0f7a4 wsJ6_bitCount_0f7a4 rm_bitCount [.int a0] ws o ws := by
  refine CTi_of (cc := cJ6_bitCount_0f7a4) (nL := 1) (by decide) rfl (Nat.le_of_ble_eq_true rfl) ?_
  intro K C hret
  unfold f_bitCount at h
  refine X_loc (vs1 := [(0, .int a0)]) [0] rfl ?_
  refine X_iload_n C 0 rfl rfl dJ6_bitCount_0f7a4_0 ?_
  refine X_iload_n C 0 rfl rfl dJ6_bitCount_0f7a4_1 ?_
  refine X_iconst (v := 1) C (by decide) dJ6_bitCount_0f7a4_2 ?_
  refine X_iushr C dJ6_bitCount_0f7a4_3 ?_
  refine X_ldcw (v := 1431655765) C hc265_bitCount dJ6_bitCount_0f7a4_4 ?_
  refine X_iand C dJ6_bitCount_0f7a4_7 ?_
  refine X_isub C dJ6_bitCount_0f7a4_8 ?_
  refine X_nam (G := fun x1 => XW l D K 0 0 ws 9 [(0, .int a0)] [.int x1]) h (fun x1 h => ?_)
  refine X_istore_n (vs1 := [(0, .int x1)]) C rfl (by decide) rfl dJ6_bitCount_0f7a4_9 ?_
  refine X_iload_n C 0 rfl rfl dJ6_bitCount_0f7a4_10 ?_
  refine X_ldcw (v := 858993459) C hc266_bitCount dJ6_bitCount_0f7a4_11 ?_
  refine X_iand C dJ6_bitCount_0f7a4_14 ?_
  refine X_iload_n C 0 rfl rfl dJ6_bitCount_0f7a4_15 ?_
  refine X_iconst (v := 2) C (by decide) dJ6_bitCount_0f7a4_16 ?_
  refine X_iushr C dJ6_bitCount_0f7a4_17 ?_
  refine X_ldcw (v := 858993459) C hc266_bitCount dJ6_bitCount_0f7a4_18 ?_
  refine X_iand C dJ6_bitCount_0f7a4_21 ?_
  refine X_iadd C dJ6_bitCount_0f7a4_22 ?_
  refine X_nam (G := fun x2 => XW l D K 0 0 ws 23 [(0, .int x1)] [.int x2]) h (fun x2 h => ?_)
  refine X_istore_n (vs1 := [(0, .int x2)]) C rfl (by decide) rfl dJ6_bitCount_0f7a4_23 ?_
  refine X_iload_n C 0 rfl rfl dJ6_bitCount_0f7a4_24 ?_
  refine X_iload_n C 0 rfl rfl dJ6_bitCount_0f7a4_25 ?_
  refine X_iconst (v := 4) C (by decide) dJ6_bitCount_0f7a4_26 ?_
  refine X_iushr C dJ6_bitCount_0f7a4_27 ?_
  refine X_iadd C dJ6_bitCount_0f7a4_28 ?_
  refine X_ldcw (v := 252645135) C hc267_bitCount dJ6_bitCount_0f7a4_29 ?_
  refine X_iand C dJ6_bitCount_0f7a4_32 ?_
  refine X_nam (G := fun x3 => XW l D K 0 0 ws 33 [(0, .int x2)] [.int x3]) h (fun x3 h => ?_)
  refine X_istore_n (vs1 := [(0, .int x3)]) C rfl (by decide) rfl dJ6_bitCount_0f7a4_33 ?_
  refine X_iload_n C 0 rfl rfl dJ6_bitCount_0f7a4_34 ?_
  refine X_iload_n C 0 rfl rfl dJ6_bitCount_0f7a4_35 ?_
  refine X_bipush (v := 8) C (by decide) dJ6_bitCount_0f7a4_36 ?_
  refine X_iushr C dJ6_bitCount_0f7a4_38 ?_
  refine X_iadd C dJ6_bitCount_0f7a4_39 ?_
  refine X_nam (G := fun x4 => XW l D K 0 0 ws 40 [(0, .int x3)] [.int x4]) h (fun x4 h => ?_)
  refine X_istore_n (vs1 := [(0, .int x4)]) C rfl (by decide) rfl dJ6_bitCount_0f7a4_40 ?_
  refine X_iload_n C 0 rfl rfl dJ6_bitCount_0f7a4_41 ?_
  refine X_iload_n C 0 rfl rfl dJ6_bitCount_0f7a4_42 ?_
  refine X_bipush (v := 16) C (by decide) dJ6_bitCount_0f7a4_43 ?_
  refine X_iushr C dJ6_bitCount_0f7a4_45 ?_
  refine X_iadd C dJ6_bitCount_0f7a4_46 ?_
  refine X_nam (G := fun x5 => XW l D K 0 0 ws 47 [(0, .int x4)] [.int x5]) h (fun x5 h => ?_)
  refine X_istore_n (vs1 := [(0, .int x5)]) C rfl (by decide) rfl dJ6_bitCount_0f7a4_47 ?_
  refine X_iload_n C 0 rfl rfl dJ6_bitCount_0f7a4_48 ?_
  refine X_bipush (v := 63) C (by decide) dJ6_bitCount_0f7a4_49 ?_
  refine X_iand C dJ6_bitCount_0f7a4_51 ?_
  obtain rfl := Option.some.inj h
  exact hret _ _ dJ6_bitCount_0f7a4_52

abbrev rm_m_in : Room := { frames := 0, cells := 0, slots := 0, locals := 0 }
def j_m_in_15 (n : Nat) (t0 : Int32) : Option (Int32) :=
  grd (jz t0) <|
  some t0
def j_m_in_14 (n : Nat) : Option (Int32) :=
  j_m_in_15 n (0 : Int32)
def f_m_in (n : Nat) (a0 : Int32) (a1 : Int32) (a2 : Int32) : Option (Int32) :=
  if a0 < a1 then
    j_m_in_14 n
  else
    if a2 < a0 then
      j_m_in_14 n
    else
      j_m_in_15 n (1 : Int32)
set_option maxHeartbeats 4000000 in
set_option maxRecDepth 100000 in
theorem wj_m_in_15 {l : Launch} {D : va_G} {cs : Nat → ClassId} {K : XK} {ws : va_W} (C : XC D cs K 3 rm_m_in cX7_in RX7 wsX7_in (some .boolean)) {n : Nat} {t0 : Int32} {o : Int32} (h : j_m_in_15 n t0 = some o) (hret : XRz l D K cX7_in o ws) : XW l D K 0 0 ws 15 [] [.int t0] := by
  unfold j_m_in_15 at h
  obtain ⟨hz, h⟩ := grd_some h
  obtain rfl := Option.some.inj h
  exact hret _ _ hz dX7_in_15
set_option maxHeartbeats 4000000 in
set_option maxRecDepth 100000 in
theorem wj_m_in_14 {l : Launch} {D : va_G} {cs : Nat → ClassId} {K : XK} {ws : va_W} (C : XC D cs K 3 rm_m_in cX7_in RX7 wsX7_in (some .boolean)) {n : Nat} {o : Int32} (h : j_m_in_14 n = some o) (hret : XRz l D K cX7_in o ws) : XW l D K 0 0 ws 14 [] [] := by
  unfold j_m_in_14 at h
  refine X_iconst (v := 0) C (by decide) dX7_in_14 ?_
  exact wj_m_in_15 C h hret
set_option maxHeartbeats 4000000 in
set_option maxRecDepth 100000 in
theorem c_m_in {l : Launch} {D : va_G} {cs : Nat → ClassId} {ws : va_W} {n : Nat} {a0 : Int32} {a1 : Int32} {a2 : Int32} {o : Int32} (h : f_m_in n a0 a1 a2 = some o) : CTi l D cs yX7_in wsX7_in rm_m_in [.int a0, .int a1, .int a2] ws o ws := by
  refine CTz_of (cc := cX7_in) (nL := 3) (by decide) rfl (Nat.le_of_ble_eq_true rfl) ?_
  intro K C hret
  unfold f_m_in at h
  refine X_loc (vs1 := [(0, .int a0), (1, .int a1), (2, .int a2)]) [0, 1, 2] rfl ?_
  refine X_iload_n C 0 rfl rfl dX7_in_0 ?_
  refine X_iload_n C 1 rfl rfl dX7_in_1 ?_
  refine X_icmplt C (tgt := 14) (by decide) dX7_in_2 h (fun h => ?_) (fun h => ?_)
  · refine X_loc (vs1 := []) [] rfl ?_
    exact wj_m_in_14 C h hret
  · refine X_iload_n C 0 rfl rfl dX7_in_5 ?_
    refine X_iload_n C 2 rfl rfl dX7_in_6 ?_
    refine X_icmpgt C (tgt := 14) (by decide) dX7_in_7 h (fun h => ?_) (fun h => ?_)
    · refine X_loc (vs1 := []) [] rfl ?_
      exact wj_m_in_14 C h hret
    · refine X_iconst (v := 1) C (by decide) dX7_in_10 ?_
      refine X_goto C (tgt := 15) (by decide) dX7_in_11 ?_
      refine X_loc (vs1 := []) [] rfl ?_
      exact wj_m_in_15 C h hret

abbrev rm_m_ones : Room := { frames := 0, cells := 0, slots := 0, locals := 0 }
def b_m_ones_4 (n : Nat) (s : Int32 × Int32) : Option ((Int32 × Int32) ⊕ (Int32)) :=
  if s.2 = 0 then
    some (.inr s.1)
  else
    nam (s.2 &&& (s.2 - (1 : Int32))) fun x1 =>
    some (.inl (s.1 + (1 : Int32), x1))
def f_m_ones (n : Nat) (a0 : Int32) : Option (Int32) :=
  bnd (lp (b_m_ones_4 n) n ((0 : Int32), a0)) fun e2 =>
  some e2
set_option maxHeartbeats 4000000 in
set_option maxRecDepth 100000 in
theorem wb_m_ones_4 {l : Launch} {D : va_G} {cs : Nat → ClassId} {K : XK} {ws : va_W} (C : XC D cs K 3 rm_m_ones cX7_ones RX7 wsX7_ones (some .int)) {n : Nat} {e : (Int32)} (kx : ∀ (t : Int32), e = t → XW l D K 0 0 ws 20 [(1, .int t)] []) : ∀ (q : Nat) (s : Int32 × Int32), lp (b_m_ones_4 n) q s = some e → XW l D K 0 0 ws 4 [(1, .int s.1), (2, .int s.2)] [] := by
  refine lp_walk (G := fun (s : Int32 × Int32) => XW l D K 0 0 ws 4 [(1, .int s.1), (2, .int s.2)] []) ?_
  intro s o h kin kex
  unfold b_m_ones_4 at h
  refine X_iload_n C 1 rfl rfl dX7_ones_4 ?_
  refine X_ifeq C (tgt := 20) (by decide) dX7_ones_5 h (fun h => ?_) (fun h => ?_)
  · obtain rfl := Option.some.inj h
    refine X_loc (vs1 := [(1, .int s.1)]) [0] rfl ?_
    exact kx _ (kex _ rfl).symm
  · refine X_iinc (v := s.1 + (1 : Int32)) (vs1 := [(1, .int (s.1 + (1 : Int32))), (2, .int s.2)]) C 0 rfl rfl (by decide) rfl dX7_ones_8 ?_
    refine X_iload_n C 1 rfl rfl dX7_ones_11 ?_
    refine X_iload_n C 1 rfl rfl dX7_ones_12 ?_
    refine X_iconst (v := 1) C (by decide) dX7_ones_13 ?_
    refine X_isub C dX7_ones_14 ?_
    refine X_iand C dX7_ones_15 ?_
    refine X_nam (G := fun x1 => XW l D K 0 0 ws 16 [(1, .int (s.1 + (1 : Int32))), (2, .int s.2)] [.int x1]) h (fun x1 h => ?_)
    refine X_istore_n (vs1 := [(2, .int x1), (1, .int (s.1 + (1 : Int32)))]) C rfl (by decide) rfl dX7_ones_16 ?_
    refine X_goto C (tgt := 4) (by decide) dX7_ones_17 ?_
    obtain rfl := Option.some.inj h
    refine X_loc (vs1 := [(1, .int (s.1 + (1 : Int32))), (2, .int x1)]) [1, 0] rfl ?_
    exact kin _ rfl
set_option maxHeartbeats 4000000 in
set_option maxRecDepth 100000 in
theorem c_m_ones {l : Launch} {D : va_G} {cs : Nat → ClassId} {ws : va_W} {n : Nat} {a0 : Int32} {o : Int32} (h : f_m_ones n a0 = some o) : CTi l D cs yX7_ones wsX7_ones rm_m_ones [.int a0] ws o ws := by
  refine CTi_of (cc := cX7_ones) (nL := 3) (by decide) rfl (Nat.le_of_ble_eq_true rfl) ?_
  intro K C hret
  unfold f_m_ones at h
  refine X_loc (vs1 := [(0, .int a0)]) [0] rfl ?_
  refine X_iconst (v := 0) C (by decide) dX7_ones_0 ?_
  refine X_istore_n (vs1 := [(1, .int (0 : Int32)), (0, .int a0)]) C rfl (by decide) rfl dX7_ones_1 ?_
  refine X_iload_n C 1 rfl rfl dX7_ones_2 ?_
  refine X_istore_n (vs1 := [(2, .int a0), (1, .int (0 : Int32)), (0, .int a0)]) C rfl (by decide) rfl dX7_ones_3 ?_
  obtain ⟨e2, he2, h⟩ := bnd_some h
  refine X_loc (vs1 := [(1, .int (0 : Int32)), (2, .int a0)]) [1, 0] rfl ?_
  refine wb_m_ones_4 C (e := e2) (fun t ht => ?_) n _ he2
  subst ht
  refine X_iload_n C 0 rfl rfl dX7_ones_20 ?_
  obtain rfl := Option.some.inj h
  exact hret _ _ dX7_ones_21

abbrev rm_m_lowest : Room := { frames := 0, cells := 0, slots := 0, locals := 0 }
def b_m_lowest_2 (n : Nat) (v0 : Int32) (s : Int32) : Option ((Int32) ⊕ (Int32)) :=
  if ((jshr v0 s) &&& (1 : Int32)) = 0 then
    some (.inl (s + (1 : Int32)))
  else
    some (.inr s)
def f_m_lowest (n : Nat) (a0 : Int32) : Option (Int32) :=
  bnd (lp (b_m_lowest_2 n a0) n (0 : Int32)) fun e1 =>
  some e1
set_option maxHeartbeats 4000000 in
set_option maxRecDepth 100000 in
theorem wb_m_lowest_2 {l : Launch} {D : va_G} {cs : Nat → ClassId} {K : XK} {ws : va_W} (C : XC D cs K 2 rm_m_lowest cX7_lowest RX7 wsX7_lowest (some .int)) {n : Nat} {v0 : Int32} {e : (Int32)} (kx : ∀ (t : Int32), e = t → XW l D K 0 0 ws 16 [(1, .int t)] []) : ∀ (q : Nat) (s : Int32), lp (b_m_lowest_2 n v0) q s = some e → XW l D K 0 0 ws 2 [(0, .int v0), (1, .int s)] [] := by
  refine lp_walk (G := fun (s : Int32) => XW l D K 0 0 ws 2 [(0, .int v0), (1, .int s)] []) ?_
  intro s o h kin kex
  unfold b_m_lowest_2 at h
  refine X_iload_n C 0 rfl rfl dX7_lowest_2 ?_
  refine X_iload_n C 1 rfl rfl dX7_lowest_3 ?_
  refine X_ishr C dX7_lowest_4 ?_
  refine X_iconst (v := 1) C (by decide) dX7_lowest_5 ?_
  refine X_iand C dX7_lowest_6 ?_
  refine X_ifne C (tgt := 16) (by decide) dX7_lowest_7 h (fun h => ?_) (fun h => ?_)
  · obtain rfl := Option.some.inj h
    refine X_loc (vs1 := [(1, .int s)]) [1] rfl ?_
    exact kx _ (kex _ rfl).symm
  · refine X_iinc (v := s + (1 : Int32)) (vs1 := [(1, .int (s + (1 : Int32))), (0, .int v0)]) C 1 rfl rfl (by decide) rfl dX7_lowest_10 ?_
    refine X_goto C (tgt := 2) (by decide) dX7_lowest_13 ?_
    obtain rfl := Option.some.inj h
    refine X_loc (vs1 := [(0, .int v0), (1, .int (s + (1 : Int32)))]) [1, 0] rfl ?_
    exact kin _ rfl
set_option maxHeartbeats 4000000 in
set_option maxRecDepth 100000 in
theorem c_m_lowest {l : Launch} {D : va_G} {cs : Nat → ClassId} {ws : va_W} {n : Nat} {a0 : Int32} {o : Int32} (h : f_m_lowest n a0 = some o) : CTi l D cs yX7_lowest wsX7_lowest rm_m_lowest [.int a0] ws o ws := by
  refine CTi_of (cc := cX7_lowest) (nL := 2) (by decide) rfl (Nat.le_of_ble_eq_true rfl) ?_
  intro K C hret
  unfold f_m_lowest at h
  refine X_loc (vs1 := [(0, .int a0)]) [0] rfl ?_
  refine X_iconst (v := 0) C (by decide) dX7_lowest_0 ?_
  refine X_istore_n (vs1 := [(1, .int (0 : Int32)), (0, .int a0)]) C rfl (by decide) rfl dX7_lowest_1 ?_
  obtain ⟨e1, he1, h⟩ := bnd_some h
  refine X_loc (vs1 := [(0, .int a0), (1, .int (0 : Int32))]) [1, 0] rfl ?_
  refine wb_m_lowest_2 C (e := e1) (fun t ht => ?_) n _ he1
  subst ht
  refine X_iload_n C 0 rfl rfl dX7_lowest_16 ?_
  obtain rfl := Option.some.inj h
  exact hret _ _ dX7_lowest_17

abbrev rm_m_joined : Room := { frames := 0, cells := 0, slots := 0, locals := 0 }
def j_m_joined_23 (n : Nat) (t0 : Int32) : Option (Int32) :=
  some t0
def j_m_joined_10 (n : Nat) (v2 : Int32) (t0 : Int32) : Option (Int32) :=
  if t0 ≤ v2 then
    j_m_joined_23 n t0
  else
    j_m_joined_23 n (t0 - (1 : Int32))
def f_m_joined (n : Nat) (a0 : Int32) (a1 : Int32) (a2 : Int32) : Option (Int32) :=
  if a0 = a2 then
    j_m_joined_10 n a2 a1
  else
    j_m_joined_10 n a2 a0
set_option maxHeartbeats 4000000 in
set_option maxRecDepth 100000 in
theorem wj_m_joined_23 {l : Launch} {D : va_G} {cs : Nat → ClassId} {K : XK} {ws : va_W} (C : XC D cs K 4 rm_m_joined cX7_joined RX7 wsX7_joined (some .int)) {n : Nat} {t0 : Int32} {o : Int32} (h : j_m_joined_23 n t0 = some o) (hret : XRi l D K cX7_joined o ws) : XW l D K 0 0 ws 23 [] [.int t0] := by
  unfold j_m_joined_23 at h
  obtain rfl := Option.some.inj h
  exact hret _ _ dX7_joined_23
set_option maxHeartbeats 4000000 in
set_option maxRecDepth 100000 in
theorem wj_m_joined_10 {l : Launch} {D : va_G} {cs : Nat → ClassId} {K : XK} {ws : va_W} (C : XC D cs K 4 rm_m_joined cX7_joined RX7 wsX7_joined (some .int)) {n : Nat} {v2 : Int32} {t0 : Int32} {o : Int32} (h : j_m_joined_10 n v2 t0 = some o) (hret : XRi l D K cX7_joined o ws) : XW l D K 0 0 ws 10 [(2, .int v2)] [.int t0] := by
  unfold j_m_joined_10 at h
  refine X_istore_n (vs1 := [(3, .int t0), (2, .int v2)]) C rfl (by decide) rfl dX7_joined_10 ?_
  refine X_iload_n C 0 rfl rfl dX7_joined_11 ?_
  refine X_iload_n C 1 rfl rfl dX7_joined_12 ?_
  refine X_icmple C (tgt := 22) (by decide) dX7_joined_13 h (fun h => ?_) (fun h => ?_)
  · refine X_iload_n C 0 rfl rfl dX7_joined_22 ?_
    refine X_loc (vs1 := []) [] rfl ?_
    exact wj_m_joined_23 C h hret
  · refine X_iload_n C 0 rfl rfl dX7_joined_16 ?_
    refine X_iconst (v := 1) C (by decide) dX7_joined_17 ?_
    refine X_isub C dX7_joined_18 ?_
    refine X_goto C (tgt := 23) (by decide) dX7_joined_19 ?_
    refine X_loc (vs1 := []) [] rfl ?_
    exact wj_m_joined_23 C h hret
set_option maxHeartbeats 4000000 in
set_option maxRecDepth 100000 in
theorem c_m_joined {l : Launch} {D : va_G} {cs : Nat → ClassId} {ws : va_W} {n : Nat} {a0 : Int32} {a1 : Int32} {a2 : Int32} {o : Int32} (h : f_m_joined n a0 a1 a2 = some o) : CTi l D cs yX7_joined wsX7_joined rm_m_joined [.int a0, .int a1, .int a2] ws o ws := by
  refine CTi_of (cc := cX7_joined) (nL := 4) (by decide) rfl (Nat.le_of_ble_eq_true rfl) ?_
  intro K C hret
  unfold f_m_joined at h
  refine X_loc (vs1 := [(0, .int a0), (1, .int a1), (2, .int a2)]) [0, 1, 2] rfl ?_
  refine X_iload_n C 0 rfl rfl dX7_joined_0 ?_
  refine X_iload_n C 2 rfl rfl dX7_joined_1 ?_
  refine X_icmpne C (tgt := 9) (by decide) dX7_joined_2 h (fun h => ?_) (fun h => ?_)
  · refine X_iload_n C 0 rfl rfl dX7_joined_9 ?_
    refine X_loc (vs1 := [(2, .int a2)]) [2] rfl ?_
    exact wj_m_joined_10 C h hret
  · refine X_iload_n C 1 rfl rfl dX7_joined_5 ?_
    refine X_goto C (tgt := 10) (by decide) dX7_joined_6 ?_
    refine X_loc (vs1 := [(2, .int a2)]) [2] rfl ?_
    exact wj_m_joined_10 C h hret
