abbrev rm_Net_clear : Room := { frames := 0, cells := 0, slots := 0, locals := 0 }
def f_Net_clear (σ : ST) (a0 : Int32) : Option (ST) :=
  nam (sS σ 128 a0) fun σ1 =>
  nam (sS σ1 129 (0 : Int32)) fun σ2 =>
  some σ2
theorem hf25_Net_clear : Cond.fieldLink RX2 25 (TX2 1).1 (TX2 1).2.1 (TX2 1).2.2.1 ∈ wsX2_clear := by decide +kernel
theorem hf21_Net_clear : Cond.fieldLink RX2 21 (TX2 0).1 (TX2 0).2.1 (TX2 0).2.2.1 ∈ wsX2_clear := by decide +kernel
theorem hi2_Net_clear : ∀ w ∈ u_ws RX2 TX2 5, w ∈ wsX2_clear := by decide +kernel
set_option maxHeartbeats 4000000 in
set_option maxRecDepth 100000 in
theorem c_Net_clear {l : Launch} {D : va_G} {cs : Nat → ClassId} {ad : Nat → Nat} {im : Nat → Option Nat} {rest : va_W} {σ : ST} {a0 : Int32} {o : ST} (h : f_Net_clear σ a0 = some o) : CTv l D cs yX2_clear wsX2_clear rm_Net_clear [.ref (ad 2), .int a0] (wX cs ad σ im rest) (wX cs ad o im rest) := by
  refine CTv_of (cc := cX2_clear) (nL := 2) (by decide) rfl (Nat.le_of_ble_eq_true rfl) ?_
  intro K C hret
  unfold f_Net_clear at h
  refine X_loc (vs1 := [(0, .ref (ad 2)), (1, .int a0)]) [0, 1] rfl ?_
  refine X_aload_n C 0 rfl rfl dX2_clear_0 ?_
  refine X_iload_n C 1 rfl rfl dX2_clear_1 ?_
  refine X_put (ty := .int) C 2 0 hi2_Net_clear hf21_Net_clear tyX2 tyX2_ok nmX2 (xe_2 _ _ _ _ _) rfl (by decide) rfl (by decide +kernel) rfl rfl (Nat.le_of_ble_eq_true rfl) (xs_2_0 _ _ _ _ _ _) dX2_clear_2 ?_
  refine X_nam (G := fun σ1 => XW l D K 0 0 (wX cs ad σ1 im rest) 5 [(0, .ref (ad 2)), (1, .int a0)] []) h (fun σ1 h => ?_)
  refine X_aload_n C 0 rfl rfl dX2_clear_5 ?_
  refine X_iconst (v := 0) C (by decide) dX2_clear_6 ?_
  refine X_put (ty := .int) C 2 1 hi2_Net_clear hf25_Net_clear tyX2 tyX2_ok nmX2 (xe_2 _ _ _ _ _) rfl (by decide) rfl (by decide +kernel) rfl rfl (Nat.le_of_ble_eq_true rfl) (xs_2_1 _ _ _ _ _ _) dX2_clear_7 ?_
  refine X_nam (G := fun σ2 => XW l D K 0 0 (wX cs ad σ2 im rest) 10 [(0, .ref (ad 2)), (1, .int a0)] []) h (fun σ2 h => ?_)
  obtain rfl := Option.some.inj h
  exact hret _ _ dX2_clear_10

abbrev rm_Net_hasNode : Room := { frames := 0, cells := 0, slots := 0, locals := 0 }
def j_Net_hasNode_17 (n : Nat) (σ : ST) (t0 : Int32) : Option (Int32) :=
  grd (jz t0) <|
  some t0
def j_Net_hasNode_16 (n : Nat) (σ : ST) : Option (Int32) :=
  j_Net_hasNode_17 n σ (0 : Int32)
def f_Net_hasNode (n : Nat) (σ : ST) (a0 : Int32) : Option (Int32) :=
  if a0 < 0 then
    j_Net_hasNode_16 n σ
  else
    if (σ.1 128) ≤ a0 then
      j_Net_hasNode_16 n σ
    else
      j_Net_hasNode_17 n σ (1 : Int32)
theorem hf21_Net_hasNode : Cond.fieldLink RX2 21 (TX2 0).1 (TX2 0).2.1 (TX2 0).2.2.1 ∈ wsX2_hasNode := by decide +kernel
theorem hi2_Net_hasNode : ∀ w ∈ u_ws RX2 TX2 5, w ∈ wsX2_hasNode := by decide +kernel
set_option maxHeartbeats 4000000 in
set_option maxRecDepth 100000 in
theorem wj_Net_hasNode_17 {l : Launch} {D : va_G} {cs : Nat → ClassId} {K : XK} {ad : Nat → Nat} {im : Nat → Option Nat} {rest : va_W} (C : XC D cs K 2 rm_Net_hasNode cX2_hasNode RX2 wsX2_hasNode (some .boolean)) {n : Nat} {σ : ST} {t0 : Int32} {o : Int32} (h : j_Net_hasNode_17 n σ t0 = some o) (hret : XRz l D K cX2_hasNode o (wX cs ad σ im rest)) : XW l D K 0 0 (wX cs ad σ im rest) 17 [] [.int t0] := by
  unfold j_Net_hasNode_17 at h
  obtain ⟨hz, h⟩ := grd_some h
  obtain rfl := Option.some.inj h
  exact hret _ _ hz dX2_hasNode_17
set_option maxHeartbeats 4000000 in
set_option maxRecDepth 100000 in
theorem wj_Net_hasNode_16 {l : Launch} {D : va_G} {cs : Nat → ClassId} {K : XK} {ad : Nat → Nat} {im : Nat → Option Nat} {rest : va_W} (C : XC D cs K 2 rm_Net_hasNode cX2_hasNode RX2 wsX2_hasNode (some .boolean)) {n : Nat} {σ : ST} {o : Int32} (h : j_Net_hasNode_16 n σ = some o) (hret : XRz l D K cX2_hasNode o (wX cs ad σ im rest)) : XW l D K 0 0 (wX cs ad σ im rest) 16 [] [] := by
  unfold j_Net_hasNode_16 at h
  refine X_iconst (v := 0) C (by decide) dX2_hasNode_16 ?_
  exact wj_Net_hasNode_17 C h hret
set_option maxHeartbeats 4000000 in
set_option maxRecDepth 100000 in
theorem c_Net_hasNode {l : Launch} {D : va_G} {cs : Nat → ClassId} {ad : Nat → Nat} {im : Nat → Option Nat} {rest : va_W} {n : Nat} {σ : ST} {a0 : Int32} {o : Int32} (h : f_Net_hasNode n σ a0 = some o) : CTi l D cs yX2_hasNode wsX2_hasNode rm_Net_hasNode [.ref (ad 2), .int a0] (wX cs ad σ im rest) o (wX cs ad σ im rest) := by
  refine CTz_of (cc := cX2_hasNode) (nL := 2) (by decide) rfl (Nat.le_of_ble_eq_true rfl) ?_
  intro K C hret
  unfold f_Net_hasNode at h
  refine X_loc (vs1 := [(0, .ref (ad 2)), (1, .int a0)]) [0, 1] rfl ?_
  refine X_iload_n C 1 rfl rfl dX2_hasNode_0 ?_
  refine X_iflt C (tgt := 16) (by decide) dX2_hasNode_1 h (fun h => ?_) (fun h => ?_)
  · refine X_loc (vs1 := []) [] rfl ?_
    exact wj_Net_hasNode_16 C h hret
  · refine X_iload_n C 1 rfl rfl dX2_hasNode_4 ?_
    refine X_aload_n C 0 rfl rfl dX2_hasNode_5 ?_
    refine X_get C 2 0 hi2_Net_hasNode hf21_Net_hasNode (xe_2 _ _ _ _ _) rfl (by decide) rfl dX2_hasNode_6 ?_
    refine X_icmpge C (tgt := 16) (by decide) dX2_hasNode_9 h (fun h => ?_) (fun h => ?_)
    · refine X_loc (vs1 := []) [] rfl ?_
      exact wj_Net_hasNode_16 C h hret
    · refine X_iconst (v := 1) C (by decide) dX2_hasNode_12 ?_
      refine X_goto C (tgt := 17) (by decide) dX2_hasNode_13 ?_
      refine X_loc (vs1 := []) [] rfl ?_
      exact wj_Net_hasNode_17 C h hret

abbrev rm_Net_hasArc : Room := { frames := 0, cells := 0, slots := 0, locals := 0 }
def j_Net_hasArc_17 (n : Nat) (σ : ST) (t0 : Int32) : Option (Int32) :=
  grd (jz t0) <|
  some t0
def j_Net_hasArc_16 (n : Nat) (σ : ST) : Option (Int32) :=
  j_Net_hasArc_17 n σ (0 : Int32)
def f_Net_hasArc (n : Nat) (σ : ST) (a0 : Int32) : Option (Int32) :=
  if a0 < 0 then
    j_Net_hasArc_16 n σ
  else
    if (σ.1 129) ≤ a0 then
      j_Net_hasArc_16 n σ
    else
      j_Net_hasArc_17 n σ (1 : Int32)
theorem hf25_Net_hasArc : Cond.fieldLink RX2 25 (TX2 1).1 (TX2 1).2.1 (TX2 1).2.2.1 ∈ wsX2_hasArc := by decide +kernel
theorem hi2_Net_hasArc : ∀ w ∈ u_ws RX2 TX2 5, w ∈ wsX2_hasArc := by decide +kernel
set_option maxHeartbeats 4000000 in
set_option maxRecDepth 100000 in
theorem wj_Net_hasArc_17 {l : Launch} {D : va_G} {cs : Nat → ClassId} {K : XK} {ad : Nat → Nat} {im : Nat → Option Nat} {rest : va_W} (C : XC D cs K 2 rm_Net_hasArc cX2_hasArc RX2 wsX2_hasArc (some .boolean)) {n : Nat} {σ : ST} {t0 : Int32} {o : Int32} (h : j_Net_hasArc_17 n σ t0 = some o) (hret : XRz l D K cX2_hasArc o (wX cs ad σ im rest)) : XW l D K 0 0 (wX cs ad σ im rest) 17 [] [.int t0] := by
  unfold j_Net_hasArc_17 at h
  obtain ⟨hz, h⟩ := grd_some h
  obtain rfl := Option.some.inj h
  exact hret _ _ hz dX2_hasArc_17
set_option maxHeartbeats 4000000 in
set_option maxRecDepth 100000 in
theorem wj_Net_hasArc_16 {l : Launch} {D : va_G} {cs : Nat → ClassId} {K : XK} {ad : Nat → Nat} {im : Nat → Option Nat} {rest : va_W} (C : XC D cs K 2 rm_Net_hasArc cX2_hasArc RX2 wsX2_hasArc (some .boolean)) {n : Nat} {σ : ST} {o : Int32} (h : j_Net_hasArc_16 n σ = some o) (hret : XRz l D K cX2_hasArc o (wX cs ad σ im rest)) : XW l D K 0 0 (wX cs ad σ im rest) 16 [] [] := by
  unfold j_Net_hasArc_16 at h
  refine X_iconst (v := 0) C (by decide) dX2_hasArc_16 ?_
  exact wj_Net_hasArc_17 C h hret
set_option maxHeartbeats 4000000 in
set_option maxRecDepth 100000 in
theorem c_Net_hasArc {l : Launch} {D : va_G} {cs : Nat → ClassId} {ad : Nat → Nat} {im : Nat → Option Nat} {rest : va_W} {n : Nat} {σ : ST} {a0 : Int32} {o : Int32} (h : f_Net_hasArc n σ a0 = some o) : CTi l D cs yX2_hasArc wsX2_hasArc rm_Net_hasArc [.ref (ad 2), .int a0] (wX cs ad σ im rest) o (wX cs ad σ im rest) := by
  refine CTz_of (cc := cX2_hasArc) (nL := 2) (by decide) rfl (Nat.le_of_ble_eq_true rfl) ?_
  intro K C hret
  unfold f_Net_hasArc at h
  refine X_loc (vs1 := [(0, .ref (ad 2)), (1, .int a0)]) [0, 1] rfl ?_
  refine X_iload_n C 1 rfl rfl dX2_hasArc_0 ?_
  refine X_iflt C (tgt := 16) (by decide) dX2_hasArc_1 h (fun h => ?_) (fun h => ?_)
  · refine X_loc (vs1 := []) [] rfl ?_
    exact wj_Net_hasArc_16 C h hret
  · refine X_iload_n C 1 rfl rfl dX2_hasArc_4 ?_
    refine X_aload_n C 0 rfl rfl dX2_hasArc_5 ?_
    refine X_get C 2 1 hi2_Net_hasArc hf25_Net_hasArc (xe_2 _ _ _ _ _) rfl (by decide) rfl dX2_hasArc_6 ?_
    refine X_icmpge C (tgt := 16) (by decide) dX2_hasArc_9 h (fun h => ?_) (fun h => ?_)
    · refine X_loc (vs1 := []) [] rfl ?_
      exact wj_Net_hasArc_16 C h hret
    · refine X_iconst (v := 1) C (by decide) dX2_hasArc_12 ?_
      refine X_goto C (tgt := 17) (by decide) dX2_hasArc_13 ?_
      refine X_loc (vs1 := []) [] rfl ?_
      exact wj_Net_hasArc_17 C h hret

abbrev rm_Net_allNodes : Room := { frames := 0, cells := 0, slots := 0, locals := 0 }
def f_Net_allNodes (σ : ST) : Option (Int32) :=
  some ((jshl (1 : Int32) (σ.1 128)) - (1 : Int32))
theorem hf21_Net_allNodes : Cond.fieldLink RX2 21 (TX2 0).1 (TX2 0).2.1 (TX2 0).2.2.1 ∈ wsX2_allNodes := by decide +kernel
theorem hi2_Net_allNodes : ∀ w ∈ u_ws RX2 TX2 5, w ∈ wsX2_allNodes := by decide +kernel
set_option maxHeartbeats 4000000 in
set_option maxRecDepth 100000 in
theorem c_Net_allNodes {l : Launch} {D : va_G} {cs : Nat → ClassId} {ad : Nat → Nat} {im : Nat → Option Nat} {rest : va_W} {σ : ST} {o : Int32} (h : f_Net_allNodes σ = some o) : CTi l D cs yX2_allNodes wsX2_allNodes rm_Net_allNodes [.ref (ad 2)] (wX cs ad σ im rest) o (wX cs ad σ im rest) := by
  refine CTi_of (cc := cX2_allNodes) (nL := 1) (by decide) rfl (Nat.le_of_ble_eq_true rfl) ?_
  intro K C hret
  unfold f_Net_allNodes at h
  refine X_loc (vs1 := [(0, .ref (ad 2))]) [0] rfl ?_
  refine X_iconst (v := 1) C (by decide) dX2_allNodes_0 ?_
  refine X_aload_n C 0 rfl rfl dX2_allNodes_1 ?_
  refine X_get C 2 0 hi2_Net_allNodes hf21_Net_allNodes (xe_2 _ _ _ _ _) rfl (by decide) rfl dX2_allNodes_2 ?_
  refine X_ishl C dX2_allNodes_5 ?_
  refine X_iconst (v := 1) C (by decide) dX2_allNodes_6 ?_
  refine X_isub C dX2_allNodes_7 ?_
  obtain rfl := Option.some.inj h
  exact hret _ _ dX2_allNodes_8

abbrev rm_Net_append : Room := { frames := 0, cells := 0, slots := 0, locals := 0 }
def f_Net_append (σ : ST) (a0 : Int32) (a1 : Int32) (a2 : Int32) : Option (Int32 × ST) :=
  grd (jin (σ.1 129) 16) <|
  nam (sA σ 3 (upd (σ.2 3) (jix (σ.1 129)) a0)) fun σ1 =>
  grd (jin (σ1.1 129) 16) <|
  nam (sA σ1 4 (upd (σ1.2 4) (jix (σ1.1 129)) a1)) fun σ2 =>
  grd (jin (σ2.1 129) 16) <|
  nam (sA σ2 5 (upd (σ2.2 5) (jix (σ2.1 129)) a2)) fun σ3 =>
  nam (sS σ3 129 ((σ3.1 129) + (1 : Int32))) fun σ4 =>
  some ((σ4.1 129) - (1 : Int32), σ4)
theorem hf18_Net_append : Cond.fieldLink RX2 18 (TX2 4).1 (TX2 4).2.1 (TX2 4).2.2.1 ∈ wsX2_append := by decide +kernel
theorem hf15_Net_append : Cond.fieldLink RX2 15 (TX2 3).1 (TX2 3).2.1 (TX2 3).2.2.1 ∈ wsX2_append := by decide +kernel
theorem hf25_Net_append : Cond.fieldLink RX2 25 (TX2 1).1 (TX2 1).2.1 (TX2 1).2.2.1 ∈ wsX2_append := by decide +kernel
theorem hf9_Net_append : Cond.fieldLink RX2 9 (TX2 2).1 (TX2 2).2.1 (TX2 2).2.2.1 ∈ wsX2_append := by decide +kernel
theorem hi2_Net_append : ∀ w ∈ u_ws RX2 TX2 5, w ∈ wsX2_append := by decide +kernel
set_option maxHeartbeats 4000000 in
set_option maxRecDepth 100000 in
theorem c_Net_append {l : Launch} {D : va_G} {cs : Nat → ClassId} {ad : Nat → Nat} {im : Nat → Option Nat} {rest : va_W} {σ : ST} {a0 : Int32} {a1 : Int32} {a2 : Int32} {o : Int32 × ST} (h : f_Net_append σ a0 a1 a2 = some o) : CTi l D cs yX2_append wsX2_append rm_Net_append [.ref (ad 2), .int a0, .int a1, .int a2] (wX cs ad σ im rest) o.1 (wX cs ad o.2 im rest) := by
  refine CTi_of (cc := cX2_append) (nL := 4) (by decide) rfl (Nat.le_of_ble_eq_true rfl) ?_
  intro K C hret
  unfold f_Net_append at h
  refine X_loc (vs1 := [(0, .ref (ad 2)), (1, .int a0), (2, .int a1), (3, .int a2)]) [0, 1, 2, 3] rfl ?_
  refine X_aload_n C 0 rfl rfl dX2_append_0 ?_
  refine X_get C 2 2 hi2_Net_append hf9_Net_append (xe_2 _ _ _ _ _) rfl (by decide) rfl dX2_append_1 ?_
  refine X_aload_n C 0 rfl rfl dX2_append_4 ?_
  refine X_get C 2 1 hi2_Net_append hf25_Net_append (xe_2 _ _ _ _ _) rfl (by decide) rfl dX2_append_5 ?_
  refine X_iload_n C 1 rfl rfl dX2_append_8 ?_
  refine X_iast C 3 (xe_3 _ _ _ _ _) (xa_3 _ _ _ _ _ _) h dX2_append_9 (fun h => ?_)
  refine X_nam (G := fun σ1 => XW l D K 0 0 (wX cs ad σ1 im rest) 10 [(0, .ref (ad 2)), (1, .int a0), (2, .int a1), (3, .int a2)] []) h (fun σ1 h => ?_)
  refine X_aload_n C 0 rfl rfl dX2_append_10 ?_
  refine X_get C 2 3 hi2_Net_append hf15_Net_append (xe_2 _ _ _ _ _) rfl (by decide) rfl dX2_append_11 ?_
  refine X_aload_n C 0 rfl rfl dX2_append_14 ?_
  refine X_get C 2 1 hi2_Net_append hf25_Net_append (xe_2 _ _ _ _ _) rfl (by decide) rfl dX2_append_15 ?_
  refine X_iload_n C 2 rfl rfl dX2_append_18 ?_
  refine X_iast C 4 (xe_4 _ _ _ _ _) (xa_4 _ _ _ _ _ _) h dX2_append_19 (fun h => ?_)
  refine X_nam (G := fun σ2 => XW l D K 0 0 (wX cs ad σ2 im rest) 20 [(0, .ref (ad 2)), (1, .int a0), (2, .int a1), (3, .int a2)] []) h (fun σ2 h => ?_)
  refine X_aload_n C 0 rfl rfl dX2_append_20 ?_
  refine X_get C 2 4 hi2_Net_append hf18_Net_append (xe_2 _ _ _ _ _) rfl (by decide) rfl dX2_append_21 ?_
  refine X_aload_n C 0 rfl rfl dX2_append_24 ?_
  refine X_get C 2 1 hi2_Net_append hf25_Net_append (xe_2 _ _ _ _ _) rfl (by decide) rfl dX2_append_25 ?_
  refine X_iload_n C 3 rfl rfl dX2_append_28 ?_
  refine X_iast C 5 (xe_5 _ _ _ _ _) (xa_5 _ _ _ _ _ _) h dX2_append_29 (fun h => ?_)
  refine X_nam (G := fun σ3 => XW l D K 0 0 (wX cs ad σ3 im rest) 30 [(0, .ref (ad 2)), (1, .int a0), (2, .int a1), (3, .int a2)] []) h (fun σ3 h => ?_)
  refine X_aload_n C 0 rfl rfl dX2_append_30 ?_
  refine X_dup C rfl dX2_append_31 ?_
  refine X_get C 2 1 hi2_Net_append hf25_Net_append (xe_2 _ _ _ _ _) rfl (by decide) rfl dX2_append_32 ?_
  refine X_iconst (v := 1) C (by decide) dX2_append_35 ?_
  refine X_iadd C dX2_append_36 ?_
  refine X_put (ty := .int) C 2 1 hi2_Net_append hf25_Net_append tyX2 tyX2_ok nmX2 (xe_2 _ _ _ _ _) rfl (by decide) rfl (by decide +kernel) rfl rfl (Nat.le_of_ble_eq_true rfl) (xs_2_1 _ _ _ _ _ _) dX2_append_37 ?_
  refine X_nam (G := fun σ4 => XW l D K 0 0 (wX cs ad σ4 im rest) 40 [(0, .ref (ad 2)), (1, .int a0), (2, .int a1), (3, .int a2)] []) h (fun σ4 h => ?_)
  refine X_aload_n C 0 rfl rfl dX2_append_40 ?_
  refine X_get C 2 1 hi2_Net_append hf25_Net_append (xe_2 _ _ _ _ _) rfl (by decide) rfl dX2_append_41 ?_
  refine X_iconst (v := 1) C (by decide) dX2_append_44 ?_
  refine X_isub C dX2_append_45 ?_
  obtain rfl := Option.some.inj h
  exact hret _ _ dX2_append_46

abbrev rm_Net_remove : Room := { frames := 0, cells := 0, slots := 0, locals := 0 }
def b_Net_remove_12 (n : Nat) (s : ST × Int32) : Option ((ST × Int32) ⊕ (ST)) :=
  if (s.1.1 129) ≤ s.2 then
    some (.inr s.1)
  else
    grd (jin (s.2 + (1 : Int32)) 16) <|
    grd (jin s.2 16) <|
    nam (sA s.1 3 (upd (s.1.2 3) (jix s.2) (s.1.2 3 (jix (s.2 + (1 : Int32)))))) fun σ2 =>
    grd (jin (s.2 + (1 : Int32)) 16) <|
    grd (jin s.2 16) <|
    nam (sA σ2 4 (upd (σ2.2 4) (jix s.2) (σ2.2 4 (jix (s.2 + (1 : Int32)))))) fun σ3 =>
    grd (jin (s.2 + (1 : Int32)) 16) <|
    grd (jin s.2 16) <|
    nam (sA σ3 5 (upd (σ3.2 5) (jix s.2) (σ3.2 5 (jix (s.2 + (1 : Int32)))))) fun σ4 =>
    some (.inl (σ4, s.2 + (1 : Int32)))
def f_Net_remove (n : Nat) (σ : ST) (a0 : Int32) : Option (ST) :=
  nam (sS σ 129 ((σ.1 129) - (1 : Int32))) fun σ1 =>
  bnd (lp (b_Net_remove_12 n) n (σ1, a0)) fun e5 =>
  some e5
theorem hf18_Net_remove : Cond.fieldLink RX2 18 (TX2 4).1 (TX2 4).2.1 (TX2 4).2.2.1 ∈ wsX2_remove := by decide +kernel
theorem hf15_Net_remove : Cond.fieldLink RX2 15 (TX2 3).1 (TX2 3).2.1 (TX2 3).2.2.1 ∈ wsX2_remove := by decide +kernel
theorem hf9_Net_remove : Cond.fieldLink RX2 9 (TX2 2).1 (TX2 2).2.1 (TX2 2).2.2.1 ∈ wsX2_remove := by decide +kernel
theorem hf25_Net_remove : Cond.fieldLink RX2 25 (TX2 1).1 (TX2 1).2.1 (TX2 1).2.2.1 ∈ wsX2_remove := by decide +kernel
theorem hi2_Net_remove : ∀ w ∈ u_ws RX2 TX2 5, w ∈ wsX2_remove := by decide +kernel
set_option maxHeartbeats 4000000 in
set_option maxRecDepth 100000 in
theorem wb_Net_remove_12 {l : Launch} {D : va_G} {cs : Nat → ClassId} {K : XK} {ad : Nat → Nat} {im : Nat → Option Nat} {rest : va_W} (C : XC D cs K 3 rm_Net_remove cX2_remove RX2 wsX2_remove none) {n : Nat} {e : (ST)} (kx : ∀ (t : ST), e = t → XW l D K 0 0 (wX cs ad t im rest) 68 [] []) : ∀ (q : Nat) (s : ST × Int32), lp (b_Net_remove_12 n) q s = some e → XW l D K 0 0 (wX cs ad s.1 im rest) 12 [(0, .ref (ad 2)), (2, .int s.2)] [] := by
  refine lp_walk (G := fun (s : ST × Int32) => XW l D K 0 0 (wX cs ad s.1 im rest) 12 [(0, .ref (ad 2)), (2, .int s.2)] []) ?_
  intro s o h kin kex
  unfold b_Net_remove_12 at h
  refine X_iload_n C 1 rfl rfl dX2_remove_12 ?_
  refine X_aload_n C 0 rfl rfl dX2_remove_13 ?_
  refine X_get C 2 1 hi2_Net_remove hf25_Net_remove (xe_2 _ _ _ _ _) rfl (by decide) rfl dX2_remove_14 ?_
  refine X_icmpge C (tgt := 68) (by decide) dX2_remove_17 h (fun h => ?_) (fun h => ?_)
  · obtain rfl := Option.some.inj h
    refine X_loc (vs1 := []) [] rfl ?_
    exact kx _ (kex _ rfl).symm
  · refine X_aload_n C 0 rfl rfl dX2_remove_20 ?_
    refine X_get C 2 2 hi2_Net_remove hf9_Net_remove (xe_2 _ _ _ _ _) rfl (by decide) rfl dX2_remove_21 ?_
    refine X_iload_n C 1 rfl rfl dX2_remove_24 ?_
    refine X_aload_n C 0 rfl rfl dX2_remove_25 ?_
    refine X_get C 2 2 hi2_Net_remove hf9_Net_remove (xe_2 _ _ _ _ _) rfl (by decide) rfl dX2_remove_26 ?_
    refine X_iload_n C 1 rfl rfl dX2_remove_29 ?_
    refine X_iconst (v := 1) C (by decide) dX2_remove_30 ?_
    refine X_iadd C dX2_remove_31 ?_
    refine X_iald C 3 (xe_3 _ _ _ _ _) h dX2_remove_32 (fun h => ?_)
    refine X_iast C 3 (xe_3 _ _ _ _ _) (xa_3 _ _ _ _ _ _) h dX2_remove_33 (fun h => ?_)
    refine X_nam (G := fun σ2 => XW l D K 0 0 (wX cs ad σ2 im rest) 34 [(0, .ref (ad 2)), (2, .int s.2)] []) h (fun σ2 h => ?_)
    refine X_aload_n C 0 rfl rfl dX2_remove_34 ?_
    refine X_get C 2 3 hi2_Net_remove hf15_Net_remove (xe_2 _ _ _ _ _) rfl (by decide) rfl dX2_remove_35 ?_
    refine X_iload_n C 1 rfl rfl dX2_remove_38 ?_
    refine X_aload_n C 0 rfl rfl dX2_remove_39 ?_
    refine X_get C 2 3 hi2_Net_remove hf15_Net_remove (xe_2 _ _ _ _ _) rfl (by decide) rfl dX2_remove_40 ?_
    refine X_iload_n C 1 rfl rfl dX2_remove_43 ?_
    refine X_iconst (v := 1) C (by decide) dX2_remove_44 ?_
    refine X_iadd C dX2_remove_45 ?_
    refine X_iald C 4 (xe_4 _ _ _ _ _) h dX2_remove_46 (fun h => ?_)
    refine X_iast C 4 (xe_4 _ _ _ _ _) (xa_4 _ _ _ _ _ _) h dX2_remove_47 (fun h => ?_)
    refine X_nam (G := fun σ3 => XW l D K 0 0 (wX cs ad σ3 im rest) 48 [(0, .ref (ad 2)), (2, .int s.2)] []) h (fun σ3 h => ?_)
    refine X_aload_n C 0 rfl rfl dX2_remove_48 ?_
    refine X_get C 2 4 hi2_Net_remove hf18_Net_remove (xe_2 _ _ _ _ _) rfl (by decide) rfl dX2_remove_49 ?_
    refine X_iload_n C 1 rfl rfl dX2_remove_52 ?_
    refine X_aload_n C 0 rfl rfl dX2_remove_53 ?_
    refine X_get C 2 4 hi2_Net_remove hf18_Net_remove (xe_2 _ _ _ _ _) rfl (by decide) rfl dX2_remove_54 ?_
    refine X_iload_n C 1 rfl rfl dX2_remove_57 ?_
    refine X_iconst (v := 1) C (by decide) dX2_remove_58 ?_
    refine X_iadd C dX2_remove_59 ?_
    refine X_iald C 5 (xe_5 _ _ _ _ _) h dX2_remove_60 (fun h => ?_)
    refine X_iast C 5 (xe_5 _ _ _ _ _) (xa_5 _ _ _ _ _ _) h dX2_remove_61 (fun h => ?_)
    refine X_nam (G := fun σ4 => XW l D K 0 0 (wX cs ad σ4 im rest) 62 [(0, .ref (ad 2)), (2, .int s.2)] []) h (fun σ4 h => ?_)
    refine X_iinc (v := s.2 + (1 : Int32)) (vs1 := [(2, .int (s.2 + (1 : Int32))), (0, .ref (ad 2))]) C 1 rfl rfl (by decide) rfl dX2_remove_62 ?_
    refine X_goto C (tgt := 12) (by decide) dX2_remove_65 ?_
    obtain rfl := Option.some.inj h
    refine X_loc (vs1 := [(0, .ref (ad 2)), (2, .int (s.2 + (1 : Int32)))]) [1, 0] rfl ?_
    exact kin _ rfl
set_option maxHeartbeats 4000000 in
set_option maxRecDepth 100000 in
theorem c_Net_remove {l : Launch} {D : va_G} {cs : Nat → ClassId} {ad : Nat → Nat} {im : Nat → Option Nat} {rest : va_W} {n : Nat} {σ : ST} {a0 : Int32} {o : ST} (h : f_Net_remove n σ a0 = some o) : CTv l D cs yX2_remove wsX2_remove rm_Net_remove [.ref (ad 2), .int a0] (wX cs ad σ im rest) (wX cs ad o im rest) := by
  refine CTv_of (cc := cX2_remove) (nL := 3) (by decide) rfl (Nat.le_of_ble_eq_true rfl) ?_
  intro K C hret
  unfold f_Net_remove at h
  refine X_loc (vs1 := [(0, .ref (ad 2)), (1, .int a0)]) [0, 1] rfl ?_
  refine X_aload_n C 0 rfl rfl dX2_remove_0 ?_
  refine X_dup C rfl dX2_remove_1 ?_
  refine X_get C 2 1 hi2_Net_remove hf25_Net_remove (xe_2 _ _ _ _ _) rfl (by decide) rfl dX2_remove_2 ?_
  refine X_iconst (v := 1) C (by decide) dX2_remove_5 ?_
  refine X_isub C dX2_remove_6 ?_
  refine X_put (ty := .int) C 2 1 hi2_Net_remove hf25_Net_remove tyX2 tyX2_ok nmX2 (xe_2 _ _ _ _ _) rfl (by decide) rfl (by decide +kernel) rfl rfl (Nat.le_of_ble_eq_true rfl) (xs_2_1 _ _ _ _ _ _) dX2_remove_7 ?_
  refine X_nam (G := fun σ1 => XW l D K 0 0 (wX cs ad σ1 im rest) 10 [(0, .ref (ad 2)), (1, .int a0)] []) h (fun σ1 h => ?_)
  refine X_iload_n C 1 rfl rfl dX2_remove_10 ?_
  refine X_istore_n (vs1 := [(2, .int a0), (0, .ref (ad 2)), (1, .int a0)]) C rfl (by decide) rfl dX2_remove_11 ?_
  obtain ⟨e5, he5, h⟩ := bnd_some h
  refine X_loc (vs1 := [(0, .ref (ad 2)), (2, .int a0)]) [1, 0] rfl ?_
  refine wb_Net_remove_12 C (e := e5) (fun t ht => ?_) n _ he5
  subst ht
  obtain rfl := Option.some.inj h
  exact hret _ _ dX2_remove_68

abbrev rm_Net_merge : Room := { frames := 1, cells := 0, slots := 0, locals := 23 }
def b_Net_merge_2 (n : Nat) (v1 : Int32) (v2 : Int32) (s : ST × Int32) : Option ((ST × Int32) ⊕ (ST)) :=
  if (s.1.1 129) ≤ s.2 then
    some (.inr s.1)
  else
    grd (jin s.2 16) <|
    bnd (f_renumbered n (s.1.2 3 (jix s.2)) v1 v2) fun o1 =>
    grd (jin s.2 16) <|
    nam (sA s.1 3 (upd (s.1.2 3) (jix s.2) o1)) fun σ2 =>
    grd (jin s.2 16) <|
    bnd (f_renumbered n (σ2.2 4 (jix s.2)) v1 v2) fun o3 =>
    grd (jin s.2 16) <|
    nam (sA σ2 4 (upd (σ2.2 4) (jix s.2) o3)) fun σ4 =>
    some (.inl (σ4, s.2 + (1 : Int32)))
def f_Net_merge (n : Nat) (σ : ST) (a0 : Int32) (a1 : Int32) : Option (ST) :=
  bnd (lp (b_Net_merge_2 n a0 a1) n (σ, (0 : Int32))) fun e5 =>
  nam (sS e5 128 ((e5.1 128) - (1 : Int32))) fun σ6 =>
  some σ6
theorem hf21_Net_merge : Cond.fieldLink RX2 21 (TX2 0).1 (TX2 0).2.1 (TX2 0).2.2.1 ∈ wsX2_merge := by decide +kernel
theorem hf15_Net_merge : Cond.fieldLink RX2 15 (TX2 3).1 (TX2 3).2.1 (TX2 3).2.2.1 ∈ wsX2_merge := by decide +kernel
theorem hf9_Net_merge : Cond.fieldLink RX2 9 (TX2 2).1 (TX2 2).2.1 (TX2 2).2.2.1 ∈ wsX2_merge := by decide +kernel
theorem hf25_Net_merge : Cond.fieldLink RX2 25 (TX2 1).1 (TX2 1).2.1 (TX2 1).2.2.1 ∈ wsX2_merge := by decide +kernel
theorem hi2_Net_merge : ∀ w ∈ u_ws RX2 TX2 5, w ∈ wsX2_merge := by decide +kernel
set_option maxHeartbeats 4000000 in
set_option maxRecDepth 100000 in
theorem wb_Net_merge_2 {l : Launch} {D : va_G} {cs : Nat → ClassId} {K : XK} {ad : Nat → Nat} {im : Nat → Option Nat} {rest : va_W} (C : XC D cs K 4 rm_Net_merge cX2_merge RX2 wsX2_merge none) {n : Nat} {v1 : Int32} {v2 : Int32} {e : (ST)} (kx : ∀ (t : ST), e = t → XW l D K 0 0 (wX cs ad t im rest) 50 [(0, .ref (ad 2))] []) : ∀ (q : Nat) (s : ST × Int32), lp (b_Net_merge_2 n v1 v2) q s = some e → XW l D K 0 0 (wX cs ad s.1 im rest) 2 [(0, .ref (ad 2)), (1, .int v1), (2, .int v2), (3, .int s.2)] [] := by
  refine lp_walk (G := fun (s : ST × Int32) => XW l D K 0 0 (wX cs ad s.1 im rest) 2 [(0, .ref (ad 2)), (1, .int v1), (2, .int v2), (3, .int s.2)] []) ?_
  intro s o h kin kex
  unfold b_Net_merge_2 at h
  refine X_iload_n C 3 rfl rfl dX2_merge_2 ?_
  refine X_aload_n C 0 rfl rfl dX2_merge_3 ?_
  refine X_get C 2 1 hi2_Net_merge hf25_Net_merge (xe_2 _ _ _ _ _) rfl (by decide) rfl dX2_merge_4 ?_
  refine X_icmpge C (tgt := 50) (by decide) dX2_merge_7 h (fun h => ?_) (fun h => ?_)
  · obtain rfl := Option.some.inj h
    refine X_loc (vs1 := [(0, .ref (ad 2))]) [0] rfl ?_
    exact kx _ (kex _ rfl).symm
  · refine X_aload_n C 0 rfl rfl dX2_merge_10 ?_
    refine X_get C 2 2 hi2_Net_merge hf9_Net_merge (xe_2 _ _ _ _ _) rfl (by decide) rfl dX2_merge_11 ?_
    refine X_iload_n C 3 rfl rfl dX2_merge_14 ?_
    refine X_aload_n C 0 rfl rfl dX2_merge_15 ?_
    refine X_get C 2 2 hi2_Net_merge hf9_Net_merge (xe_2 _ _ _ _ _) rfl (by decide) rfl dX2_merge_16 ?_
    refine X_iload_n C 3 rfl rfl dX2_merge_19 ?_
    refine X_iald C 3 (xe_3 _ _ _ _ _) h dX2_merge_20 (fun h => ?_)
    refine X_iload_n C 1 rfl rfl dX2_merge_21 ?_
    refine X_iload_n C 2 rfl rfl dX2_merge_22 ?_
    obtain ⟨o1, eo1, h⟩ := bnd_some h
    refine X_callSi C (n := 3) (As := [.int (s.1.2 3 (jix s.2)), .int v1, .int v2]) (c_renumbered eo1) gX2_merge_X2_renumbered rfl rfl rfl (by decide +kernel) ⟨Nat.le_of_ble_eq_true rfl, Nat.le_of_ble_eq_true rfl⟩ ⟨Nat.zero_le _, Nat.zero_le _⟩ rfl rfl (Nat.le_of_ble_eq_true rfl) dX2_merge_23 ?_
    refine X_iast C 3 (xe_3 _ _ _ _ _) (xa_3 _ _ _ _ _ _) h dX2_merge_26 (fun h => ?_)
    refine X_nam (G := fun σ2 => XW l D K 0 0 (wX cs ad σ2 im rest) 27 [(0, .ref (ad 2)), (1, .int v1), (2, .int v2), (3, .int s.2)] []) h (fun σ2 h => ?_)
    refine X_aload_n C 0 rfl rfl dX2_merge_27 ?_
    refine X_get C 2 3 hi2_Net_merge hf15_Net_merge (xe_2 _ _ _ _ _) rfl (by decide) rfl dX2_merge_28 ?_
    refine X_iload_n C 3 rfl rfl dX2_merge_31 ?_
    refine X_aload_n C 0 rfl rfl dX2_merge_32 ?_
    refine X_get C 2 3 hi2_Net_merge hf15_Net_merge (xe_2 _ _ _ _ _) rfl (by decide) rfl dX2_merge_33 ?_
    refine X_iload_n C 3 rfl rfl dX2_merge_36 ?_
    refine X_iald C 4 (xe_4 _ _ _ _ _) h dX2_merge_37 (fun h => ?_)
    refine X_iload_n C 1 rfl rfl dX2_merge_38 ?_
    refine X_iload_n C 2 rfl rfl dX2_merge_39 ?_
    obtain ⟨o3, eo3, h⟩ := bnd_some h
    refine X_callSi C (n := 3) (As := [.int (σ2.2 4 (jix s.2)), .int v1, .int v2]) (c_renumbered eo3) gX2_merge_X2_renumbered rfl rfl rfl (by decide +kernel) ⟨Nat.le_of_ble_eq_true rfl, Nat.le_of_ble_eq_true rfl⟩ ⟨Nat.zero_le _, Nat.zero_le _⟩ rfl rfl (Nat.le_of_ble_eq_true rfl) dX2_merge_40 ?_
    refine X_iast C 4 (xe_4 _ _ _ _ _) (xa_4 _ _ _ _ _ _) h dX2_merge_43 (fun h => ?_)
    refine X_nam (G := fun σ4 => XW l D K 0 0 (wX cs ad σ4 im rest) 44 [(0, .ref (ad 2)), (1, .int v1), (2, .int v2), (3, .int s.2)] []) h (fun σ4 h => ?_)
    refine X_iinc (v := s.2 + (1 : Int32)) (vs1 := [(3, .int (s.2 + (1 : Int32))), (0, .ref (ad 2)), (1, .int v1), (2, .int v2)]) C 3 rfl rfl (by decide) rfl dX2_merge_44 ?_
    refine X_goto C (tgt := 2) (by decide) dX2_merge_47 ?_
    obtain rfl := Option.some.inj h
    refine X_loc (vs1 := [(0, .ref (ad 2)), (1, .int v1), (2, .int v2), (3, .int (s.2 + (1 : Int32)))]) [1, 2, 3, 0] rfl ?_
    exact kin _ rfl
set_option maxHeartbeats 4000000 in
set_option maxRecDepth 100000 in
theorem c_Net_merge {l : Launch} {D : va_G} {cs : Nat → ClassId} {ad : Nat → Nat} {im : Nat → Option Nat} {rest : va_W} {n : Nat} {σ : ST} {a0 : Int32} {a1 : Int32} {o : ST} (h : f_Net_merge n σ a0 a1 = some o) : CTv l D cs yX2_merge wsX2_merge rm_Net_merge [.ref (ad 2), .int a0, .int a1] (wX cs ad σ im rest) (wX cs ad o im rest) := by
  refine CTv_of (cc := cX2_merge) (nL := 4) (by decide) rfl (Nat.le_of_ble_eq_true rfl) ?_
  intro K C hret
  unfold f_Net_merge at h
  refine X_loc (vs1 := [(0, .ref (ad 2)), (1, .int a0), (2, .int a1)]) [0, 1, 2] rfl ?_
  refine X_iconst (v := 0) C (by decide) dX2_merge_0 ?_
  refine X_istore_n (vs1 := [(3, .int (0 : Int32)), (0, .ref (ad 2)), (1, .int a0), (2, .int a1)]) C rfl (by decide) rfl dX2_merge_1 ?_
  obtain ⟨e5, he5, h⟩ := bnd_some h
  refine X_loc (vs1 := [(0, .ref (ad 2)), (1, .int a0), (2, .int a1), (3, .int (0 : Int32))]) [1, 2, 3, 0] rfl ?_
  refine wb_Net_merge_2 C (e := e5) (fun t ht => ?_) n _ he5
  subst ht
  refine X_aload_n C 0 rfl rfl dX2_merge_50 ?_
  refine X_dup C rfl dX2_merge_51 ?_
  refine X_get C 2 0 hi2_Net_merge hf21_Net_merge (xe_2 _ _ _ _ _) rfl (by decide) rfl dX2_merge_52 ?_
  refine X_iconst (v := 1) C (by decide) dX2_merge_55 ?_
  refine X_isub C dX2_merge_56 ?_
  refine X_put (ty := .int) C 2 0 hi2_Net_merge hf21_Net_merge tyX2 tyX2_ok nmX2 (xe_2 _ _ _ _ _) rfl (by decide) rfl (by decide +kernel) rfl rfl (Nat.le_of_ble_eq_true rfl) (xs_2_0 _ _ _ _ _ _) dX2_merge_57 ?_
  refine X_nam (G := fun σ6 => XW l D K 0 0 (wX cs ad σ6 im rest) 60 [(0, .ref (ad 2))] []) h (fun σ6 h => ?_)
  obtain rfl := Option.some.inj h
  exact hret _ _ dX2_merge_60

abbrev rm_Net_entering : Room := { frames := 1, cells := 0, slots := 0, locals := 21 }
def j_Net_entering_44_4 (n : Nat) (σ : ST) (v1 : Int32) (v2 : Int32) (v3 : Int32) : Option ((Int32 × Int32) ⊕ (Int32)) :=
  some (.inl (v2, v3 + (1 : Int32)))
def b_Net_entering_4 (n : Nat) (σ : ST) (v1 : Int32) (s : Int32 × Int32) : Option ((Int32 × Int32) ⊕ (Int32)) :=
  if (σ.1 129) ≤ s.2 then
    some (.inr s.1)
  else
    grd (jin s.2 16) <|
    bnd (f_contains n v1 (σ.2 4 (jix s.2))) fun o1 =>
    if o1 = 0 then
      j_Net_entering_44_4 n σ v1 s.1 s.2
    else
      grd (jin s.2 16) <|
      bnd (f_contains n v1 (σ.2 3 (jix s.2))) fun o2 =>
      if o2 = 0 then
        nam (s.1 ||| (jshl (1 : Int32) s.2)) fun x3 =>
        j_Net_entering_44_4 n σ v1 x3 s.2
      else
        j_Net_entering_44_4 n σ v1 s.1 s.2
def f_Net_entering (n : Nat) (σ : ST) (a0 : Int32) : Option (Int32) :=
  bnd (lp (b_Net_entering_4 n σ a0) n ((0 : Int32), (0 : Int32))) fun e4 =>
  some e4
theorem hf9_Net_entering : Cond.fieldLink RX2 9 (TX2 2).1 (TX2 2).2.1 (TX2 2).2.2.1 ∈ wsX2_entering := by decide +kernel
theorem hnsX6_contains_Net_entering : Cond.static yX6_contains ∈ wsX2_entering := by decide +kernel
theorem hniX6_contains_Net_entering : Cond.initialized yX6_contains.cls ∈ wsX2_entering := by decide +kernel
theorem hf15_Net_entering : Cond.fieldLink RX2 15 (TX2 3).1 (TX2 3).2.1 (TX2 3).2.2.1 ∈ wsX2_entering := by decide +kernel
theorem hf25_Net_entering : Cond.fieldLink RX2 25 (TX2 1).1 (TX2 1).2.1 (TX2 1).2.2.1 ∈ wsX2_entering := by decide +kernel
theorem hi2_Net_entering : ∀ w ∈ u_ws RX2 TX2 5, w ∈ wsX2_entering := by decide +kernel
set_option maxHeartbeats 4000000 in
set_option maxRecDepth 100000 in
theorem wj_Net_entering_44_4 {l : Launch} {D : va_G} {cs : Nat → ClassId} {K : XK} {ad : Nat → Nat} {im : Nat → Option Nat} {rest : va_W} (C : XC D cs K 4 rm_Net_entering cX2_entering RX2 wsX2_entering (some .int)) {n : Nat} {σ : ST} {v1 : Int32} {v2 : Int32} {v3 : Int32} {o : (Int32 × Int32) ⊕ (Int32)} {e : (Int32)} (h : j_Net_entering_44_4 n σ v1 v2 v3 = some o) (kin : ∀ (s : Int32 × Int32), o = .inl s → XW l D K 0 0 (wX cs ad σ im rest) 4 [(0, .ref (ad 2)), (1, .int v1), (2, .int s.1), (3, .int s.2)] []) (kex : ∀ e1, o = .inr e1 → e1 = e) (kx : ∀ (t : Int32), e = t → XW l D K 0 0 (wX cs ad σ im rest) 50 [(2, .int t)] []) : XW l D K 0 0 (wX cs ad σ im rest) 44 [(0, .ref (ad 2)), (1, .int v1), (2, .int v2), (3, .int v3)] [] := by
  unfold j_Net_entering_44_4 at h
  refine X_iinc (v := v3 + (1 : Int32)) (vs1 := [(3, .int (v3 + (1 : Int32))), (0, .ref (ad 2)), (1, .int v1), (2, .int v2)]) C 3 rfl rfl (by decide) rfl dX2_entering_44 ?_
  refine X_goto C (tgt := 4) (by decide) dX2_entering_47 ?_
  obtain rfl := Option.some.inj h
  refine X_loc (vs1 := [(0, .ref (ad 2)), (1, .int v1), (2, .int v2), (3, .int (v3 + (1 : Int32)))]) [1, 2, 3, 0] rfl ?_
  exact kin _ rfl
set_option maxHeartbeats 4000000 in
set_option maxRecDepth 100000 in
theorem wb_Net_entering_4 {l : Launch} {D : va_G} {cs : Nat → ClassId} {K : XK} {ad : Nat → Nat} {im : Nat → Option Nat} {rest : va_W} (C : XC D cs K 4 rm_Net_entering cX2_entering RX2 wsX2_entering (some .int)) {n : Nat} {σ : ST} {v1 : Int32} {e : (Int32)} (kx : ∀ (t : Int32), e = t → XW l D K 0 0 (wX cs ad σ im rest) 50 [(2, .int t)] []) : ∀ (q : Nat) (s : Int32 × Int32), lp (b_Net_entering_4 n σ v1) q s = some e → XW l D K 0 0 (wX cs ad σ im rest) 4 [(0, .ref (ad 2)), (1, .int v1), (2, .int s.1), (3, .int s.2)] [] := by
  refine lp_walk (G := fun (s : Int32 × Int32) => XW l D K 0 0 (wX cs ad σ im rest) 4 [(0, .ref (ad 2)), (1, .int v1), (2, .int s.1), (3, .int s.2)] []) ?_
  intro s o h kin kex
  unfold b_Net_entering_4 at h
  refine X_iload_n C 3 rfl rfl dX2_entering_4 ?_
  refine X_aload_n C 0 rfl rfl dX2_entering_5 ?_
  refine X_get C 2 1 hi2_Net_entering hf25_Net_entering (xe_2 _ _ _ _ _) rfl (by decide) rfl dX2_entering_6 ?_
  refine X_icmpge C (tgt := 50) (by decide) dX2_entering_9 h (fun h => ?_) (fun h => ?_)
  · obtain rfl := Option.some.inj h
    refine X_loc (vs1 := [(2, .int s.1)]) [2] rfl ?_
    exact kx _ (kex _ rfl).symm
  · refine X_iload_n C 1 rfl rfl dX2_entering_12 ?_
    refine X_aload_n C 0 rfl rfl dX2_entering_13 ?_
    refine X_get C 2 3 hi2_Net_entering hf15_Net_entering (xe_2 _ _ _ _ _) rfl (by decide) rfl dX2_entering_14 ?_
    refine X_iload_n C 3 rfl rfl dX2_entering_17 ?_
    refine X_iald C 4 (xe_4 _ _ _ _ _) h dX2_entering_18 (fun h => ?_)
    obtain ⟨o1, eo1, h⟩ := bnd_some h
    refine X_callSNi C (n := 2) (As := [.int v1, .int (σ.2 4 (jix s.2))]) (c_contains eo1) gX2_entering_X6_contains_n40 (by decide +kernel) hniX6_contains_Net_entering hnsX6_contains_Net_entering rfl rfl rfl (by decide +kernel) ⟨Nat.le_of_ble_eq_true rfl, Nat.le_of_ble_eq_true rfl⟩ ⟨Nat.zero_le _, Nat.zero_le _⟩ rfl rfl (Nat.le_of_ble_eq_true rfl) dX2_entering_19 ?_
    refine X_ifeq C (tgt := 44) (by decide) dX2_entering_22 h (fun h => ?_) (fun h => ?_)
    · exact wj_Net_entering_44_4 C h kin kex kx
    · refine X_iload_n C 1 rfl rfl dX2_entering_25 ?_
      refine X_aload_n C 0 rfl rfl dX2_entering_26 ?_
      refine X_get C 2 2 hi2_Net_entering hf9_Net_entering (xe_2 _ _ _ _ _) rfl (by decide) rfl dX2_entering_27 ?_
      refine X_iload_n C 3 rfl rfl dX2_entering_30 ?_
      refine X_iald C 3 (xe_3 _ _ _ _ _) h dX2_entering_31 (fun h => ?_)
      obtain ⟨o2, eo2, h⟩ := bnd_some h
      refine X_callSNi C (n := 2) (As := [.int v1, .int (σ.2 3 (jix s.2))]) (c_contains eo2) gX2_entering_X6_contains_n40 (by decide +kernel) hniX6_contains_Net_entering hnsX6_contains_Net_entering rfl rfl rfl (by decide +kernel) ⟨Nat.le_of_ble_eq_true rfl, Nat.le_of_ble_eq_true rfl⟩ ⟨Nat.zero_le _, Nat.zero_le _⟩ rfl rfl (Nat.le_of_ble_eq_true rfl) dX2_entering_32 ?_
      refine X_ifne C (tgt := 44) (by decide) dX2_entering_35 h (fun h => ?_) (fun h => ?_)
      · exact wj_Net_entering_44_4 C h kin kex kx
      · refine X_iload_n C 2 rfl rfl dX2_entering_38 ?_
        refine X_iconst (v := 1) C (by decide) dX2_entering_39 ?_
        refine X_iload_n C 3 rfl rfl dX2_entering_40 ?_
        refine X_ishl C dX2_entering_41 ?_
        refine X_ior C dX2_entering_42 ?_
        refine X_nam (G := fun x3 => XW l D K 0 0 (wX cs ad σ im rest) 43 [(0, .ref (ad 2)), (1, .int v1), (2, .int s.1), (3, .int s.2)] [.int x3]) h (fun x3 h => ?_)
        refine X_istore_n (vs1 := [(2, .int x3), (0, .ref (ad 2)), (1, .int v1), (3, .int s.2)]) C rfl (by decide) rfl dX2_entering_43 ?_
        refine X_loc (vs1 := [(0, .ref (ad 2)), (1, .int v1), (2, .int x3), (3, .int s.2)]) [1, 2, 0, 3] rfl ?_
        exact wj_Net_entering_44_4 C h kin kex kx
set_option maxHeartbeats 4000000 in
set_option maxRecDepth 100000 in
theorem c_Net_entering {l : Launch} {D : va_G} {cs : Nat → ClassId} {ad : Nat → Nat} {im : Nat → Option Nat} {rest : va_W} {n : Nat} {σ : ST} {a0 : Int32} {o : Int32} (h : f_Net_entering n σ a0 = some o) : CTi l D cs yX2_entering wsX2_entering rm_Net_entering [.ref (ad 2), .int a0] (wX cs ad σ im rest) o (wX cs ad σ im rest) := by
  refine CTi_of (cc := cX2_entering) (nL := 4) (by decide) rfl (Nat.le_of_ble_eq_true rfl) ?_
  intro K C hret
  unfold f_Net_entering at h
  refine X_loc (vs1 := [(0, .ref (ad 2)), (1, .int a0)]) [0, 1] rfl ?_
  refine X_iconst (v := 0) C (by decide) dX2_entering_0 ?_
  refine X_istore_n (vs1 := [(2, .int (0 : Int32)), (0, .ref (ad 2)), (1, .int a0)]) C rfl (by decide) rfl dX2_entering_1 ?_
  refine X_iconst (v := 0) C (by decide) dX2_entering_2 ?_
  refine X_istore_n (vs1 := [(3, .int (0 : Int32)), (2, .int (0 : Int32)), (0, .ref (ad 2)), (1, .int a0)]) C rfl (by decide) rfl dX2_entering_3 ?_
  obtain ⟨e4, he4, h⟩ := bnd_some h
  refine X_loc (vs1 := [(0, .ref (ad 2)), (1, .int a0), (2, .int (0 : Int32)), (3, .int (0 : Int32))]) [2, 3, 1, 0] rfl ?_
  refine wb_Net_entering_4 C (e := e4) (fun t ht => ?_) n _ he4
  subst ht
  refine X_iload_n C 0 rfl rfl dX2_entering_50 ?_
  obtain rfl := Option.some.inj h
  exact hret _ _ dX2_entering_51

abbrev rm_Net_leaving : Room := { frames := 2, cells := 0, slots := 0, locals := 44 }
def f_Net_leaving (n : Nat) (σ : ST) (a0 : Int32) : Option (Int32) :=
  bnd (f_Net_allNodes σ) fun o1 =>
  bnd (f_Net_entering n σ (o1 &&& (a0 ^^^ (-1 : Int32)))) fun o2 =>
  some o2
set_option maxHeartbeats 4000000 in
set_option maxRecDepth 100000 in
theorem c_Net_leaving {l : Launch} {D : va_G} {cs : Nat → ClassId} {ad : Nat → Nat} {im : Nat → Option Nat} {rest : va_W} {n : Nat} {σ : ST} {a0 : Int32} {o : Int32} (h : f_Net_leaving n σ a0 = some o) : CTi l D cs yX2_leaving wsX2_leaving rm_Net_leaving [.ref (ad 2), .int a0] (wX cs ad σ im rest) o (wX cs ad σ im rest) := by
  refine CTi_of (cc := cX2_leaving) (nL := 2) (by decide) rfl (Nat.le_of_ble_eq_true rfl) ?_
  intro K C hret
  unfold f_Net_leaving at h
  refine X_loc (vs1 := [(0, .ref (ad 2)), (1, .int a0)]) [0, 1] rfl ?_
  refine X_aload_n C 0 rfl rfl dX2_leaving_0 ?_
  refine X_aload_n C 0 rfl rfl dX2_leaving_1 ?_
  obtain ⟨o1, eo1, h⟩ := bnd_some h
  refine X_callVi C (n := 0) (As := []) (c_Net_allNodes eo1) rfl gX2_leaving_X2_allNodes rfl rfl (xe_2 _ _ _ _ _) rfl rfl (by decide +kernel) ⟨Nat.le_of_ble_eq_true rfl, Nat.le_of_ble_eq_true rfl⟩ ⟨Nat.zero_le _, Nat.zero_le _⟩ rfl rfl (Nat.le_of_ble_eq_true rfl) dX2_leaving_2 ?_
  refine X_iload_n C 1 rfl rfl dX2_leaving_5 ?_
  refine X_iconst (v := (-1)) C (by decide) dX2_leaving_6 ?_
  refine X_ixor C dX2_leaving_7 ?_
  refine X_iand C dX2_leaving_8 ?_
  obtain ⟨o2, eo2, h⟩ := bnd_some h
  refine X_callVi C (n := 1) (As := [.int (o1 &&& (a0 ^^^ (-1 : Int32)))]) (c_Net_entering eo2) rfl gX2_leaving_X2_entering rfl rfl (xe_2 _ _ _ _ _) rfl rfl (by decide +kernel) ⟨Nat.le_of_ble_eq_true rfl, Nat.le_of_ble_eq_true rfl⟩ ⟨Nat.zero_le _, Nat.zero_le _⟩ rfl rfl (Nat.le_of_ble_eq_true rfl) dX2_leaving_9 ?_
  obtain rfl := Option.some.inj h
  exact hret _ _ dX2_leaving_12

abbrev rm_Net_isSide : Room := { frames := 3, cells := 0, slots := 0, locals := 65 }
def j_Net_isSide_25 (n : Nat) (σ : ST) (t0 : Int32) : Option (Int32) :=
  grd (jz t0) <|
  some t0
def j_Net_isSide_24 (n : Nat) (σ : ST) : Option (Int32) :=
  j_Net_isSide_25 n σ (0 : Int32)
def f_Net_isSide (n : Nat) (σ : ST) (a0 : Int32) : Option (Int32) :=
  if a0 ≤ 0 then
    j_Net_isSide_24 n σ
  else
    bnd (f_Net_allNodes σ) fun o1 =>
    if o1 ≤ a0 then
      j_Net_isSide_24 n σ
    else
      bnd (f_Net_leaving n σ a0) fun o2 =>
      if o2 = 0 then
        j_Net_isSide_25 n σ (1 : Int32)
      else
        j_Net_isSide_24 n σ
set_option maxHeartbeats 4000000 in
set_option maxRecDepth 100000 in
theorem wj_Net_isSide_25 {l : Launch} {D : va_G} {cs : Nat → ClassId} {K : XK} {ad : Nat → Nat} {im : Nat → Option Nat} {rest : va_W} (C : XC D cs K 2 rm_Net_isSide cX2_isSide RX2 wsX2_isSide (some .boolean)) {n : Nat} {σ : ST} {t0 : Int32} {o : Int32} (h : j_Net_isSide_25 n σ t0 = some o) (hret : XRz l D K cX2_isSide o (wX cs ad σ im rest)) : XW l D K 0 0 (wX cs ad σ im rest) 25 [] [.int t0] := by
  unfold j_Net_isSide_25 at h
  obtain ⟨hz, h⟩ := grd_some h
  obtain rfl := Option.some.inj h
  exact hret _ _ hz dX2_isSide_25
set_option maxHeartbeats 4000000 in
set_option maxRecDepth 100000 in
theorem wj_Net_isSide_24 {l : Launch} {D : va_G} {cs : Nat → ClassId} {K : XK} {ad : Nat → Nat} {im : Nat → Option Nat} {rest : va_W} (C : XC D cs K 2 rm_Net_isSide cX2_isSide RX2 wsX2_isSide (some .boolean)) {n : Nat} {σ : ST} {o : Int32} (h : j_Net_isSide_24 n σ = some o) (hret : XRz l D K cX2_isSide o (wX cs ad σ im rest)) : XW l D K 0 0 (wX cs ad σ im rest) 24 [] [] := by
  unfold j_Net_isSide_24 at h
  refine X_iconst (v := 0) C (by decide) dX2_isSide_24 ?_
  exact wj_Net_isSide_25 C h hret
set_option maxHeartbeats 4000000 in
set_option maxRecDepth 100000 in
theorem c_Net_isSide {l : Launch} {D : va_G} {cs : Nat → ClassId} {ad : Nat → Nat} {im : Nat → Option Nat} {rest : va_W} {n : Nat} {σ : ST} {a0 : Int32} {o : Int32} (h : f_Net_isSide n σ a0 = some o) : CTi l D cs yX2_isSide wsX2_isSide rm_Net_isSide [.ref (ad 2), .int a0] (wX cs ad σ im rest) o (wX cs ad σ im rest) := by
  refine CTz_of (cc := cX2_isSide) (nL := 2) (by decide) rfl (Nat.le_of_ble_eq_true rfl) ?_
  intro K C hret
  unfold f_Net_isSide at h
  refine X_loc (vs1 := [(0, .ref (ad 2)), (1, .int a0)]) [0, 1] rfl ?_
  refine X_iload_n C 1 rfl rfl dX2_isSide_0 ?_
  refine X_ifle C (tgt := 24) (by decide) dX2_isSide_1 h (fun h => ?_) (fun h => ?_)
  · refine X_loc (vs1 := []) [] rfl ?_
    exact wj_Net_isSide_24 C h hret
  · refine X_iload_n C 1 rfl rfl dX2_isSide_4 ?_
    refine X_aload_n C 0 rfl rfl dX2_isSide_5 ?_
    obtain ⟨o1, eo1, h⟩ := bnd_some h
    refine X_callVi C (n := 0) (As := []) (c_Net_allNodes eo1) rfl gX2_isSide_X2_allNodes rfl rfl (xe_2 _ _ _ _ _) rfl rfl (by decide +kernel) ⟨Nat.le_of_ble_eq_true rfl, Nat.le_of_ble_eq_true rfl⟩ ⟨Nat.zero_le _, Nat.zero_le _⟩ rfl rfl (Nat.le_of_ble_eq_true rfl) dX2_isSide_6 ?_
    refine X_icmpge C (tgt := 24) (by decide) dX2_isSide_9 h (fun h => ?_) (fun h => ?_)
    · refine X_loc (vs1 := []) [] rfl ?_
      exact wj_Net_isSide_24 C h hret
    · refine X_aload_n C 0 rfl rfl dX2_isSide_12 ?_
      refine X_iload_n C 1 rfl rfl dX2_isSide_13 ?_
      obtain ⟨o2, eo2, h⟩ := bnd_some h
      refine X_callVi C (n := 1) (As := [.int a0]) (c_Net_leaving eo2) rfl gX2_isSide_X2_leaving rfl rfl (xe_2 _ _ _ _ _) rfl rfl (by decide +kernel) ⟨Nat.le_of_ble_eq_true rfl, Nat.le_of_ble_eq_true rfl⟩ ⟨Nat.zero_le _, Nat.zero_le _⟩ rfl rfl (Nat.le_of_ble_eq_true rfl) dX2_isSide_14 ?_
      refine X_ifne C (tgt := 24) (by decide) dX2_isSide_17 h (fun h => ?_) (fun h => ?_)
      · refine X_loc (vs1 := []) [] rfl ?_
        exact wj_Net_isSide_24 C h hret
      · refine X_iconst (v := 1) C (by decide) dX2_isSide_20 ?_
        refine X_goto C (tgt := 25) (by decide) dX2_isSide_21 ?_
        refine X_loc (vs1 := []) [] rfl ?_
        exact wj_Net_isSide_25 C h hret

abbrev rm_Net_arcsAt_t : Room := { frames := 0, cells := 0, slots := 0, locals := 0 }
def j_Net_arcsAt_t_29_5 (n : Nat) (σ : ST) (v2 : Int32) (v3 : Int32) (v4 : Int32) : Option ((Int32 × Int32) ⊕ (Int32)) :=
  some (.inl (v3, v4 + (1 : Int32)))
def b_Net_arcsAt_t_5 (n : Nat) (σ : ST) (v2 : Int32) (s : Int32 × Int32) : Option ((Int32 × Int32) ⊕ (Int32)) :=
  if (σ.1 129) ≤ s.2 then
    some (.inr s.1)
  else
    grd (jin s.2 16) <|
    if (σ.2 3 (jix s.2)) = v2 then
      nam (s.1 ||| (jshl (1 : Int32) s.2)) fun x1 =>
      j_Net_arcsAt_t_29_5 n σ v2 x1 s.2
    else
      j_Net_arcsAt_t_29_5 n σ v2 s.1 s.2
def f_Net_arcsAt_t (n : Nat) (σ : ST) (a0 : Int32) : Option (Int32) :=
  bnd (lp (b_Net_arcsAt_t_5 n σ a0) n ((0 : Int32), (0 : Int32))) fun e2 =>
  some e2
theorem hf25_Net_arcsAt_t : Cond.fieldLink RX2 25 (TX2 1).1 (TX2 1).2.1 (TX2 1).2.2.1 ∈ wsX2_arcsAt := by decide +kernel
theorem hi2_Net_arcsAt_t : ∀ w ∈ u_ws RX2 TX2 5, w ∈ wsX2_arcsAt := by decide +kernel
set_option maxHeartbeats 4000000 in
set_option maxRecDepth 100000 in
theorem wj_Net_arcsAt_t_29_5 {l : Launch} {D : va_G} {cs : Nat → ClassId} {K : XK} {ad : Nat → Nat} {im : Nat → Option Nat} {rest : va_W} (C : XC D cs K 5 rm_Net_arcsAt_t cX2_arcsAt RX2 wsX2_arcsAt (some .int)) {n : Nat} {σ : ST} {v2 : Int32} {v3 : Int32} {v4 : Int32} {o : (Int32 × Int32) ⊕ (Int32)} {e : (Int32)} (h : j_Net_arcsAt_t_29_5 n σ v2 v3 v4 = some o) (kin : ∀ (s : Int32 × Int32), o = .inl s → XW l D K 0 0 (wX cs ad σ im rest) 5 [(0, .ref (ad 2)), (1, .ref (ad 3)), (2, .int v2), (3, .int s.1), (4, .int s.2)] []) (kex : ∀ e1, o = .inr e1 → e1 = e) (kx : ∀ (t : Int32), e = t → XW l D K 0 0 (wX cs ad σ im rest) 35 [(3, .int t)] []) : XW l D K 0 0 (wX cs ad σ im rest) 29 [(0, .ref (ad 2)), (1, .ref (ad 3)), (2, .int v2), (3, .int v3), (4, .int v4)] [] := by
  unfold j_Net_arcsAt_t_29_5 at h
  refine X_iinc (v := v4 + (1 : Int32)) (vs1 := [(4, .int (v4 + (1 : Int32))), (0, .ref (ad 2)), (1, .ref (ad 3)), (2, .int v2), (3, .int v3)]) C 4 rfl rfl (by decide) rfl dX2_arcsAt_29 ?_
  refine X_goto C (tgt := 5) (by decide) dX2_arcsAt_32 ?_
  obtain rfl := Option.some.inj h
  refine X_loc (vs1 := [(0, .ref (ad 2)), (1, .ref (ad 3)), (2, .int v2), (3, .int v3), (4, .int (v4 + (1 : Int32)))]) [1, 2, 3, 4, 0] rfl ?_
  exact kin _ rfl
set_option maxHeartbeats 4000000 in
set_option maxRecDepth 100000 in
theorem wb_Net_arcsAt_t_5 {l : Launch} {D : va_G} {cs : Nat → ClassId} {K : XK} {ad : Nat → Nat} {im : Nat → Option Nat} {rest : va_W} (C : XC D cs K 5 rm_Net_arcsAt_t cX2_arcsAt RX2 wsX2_arcsAt (some .int)) {n : Nat} {σ : ST} {v2 : Int32} {e : (Int32)} (kx : ∀ (t : Int32), e = t → XW l D K 0 0 (wX cs ad σ im rest) 35 [(3, .int t)] []) : ∀ (q : Nat) (s : Int32 × Int32), lp (b_Net_arcsAt_t_5 n σ v2) q s = some e → XW l D K 0 0 (wX cs ad σ im rest) 5 [(0, .ref (ad 2)), (1, .ref (ad 3)), (2, .int v2), (3, .int s.1), (4, .int s.2)] [] := by
  refine lp_walk (G := fun (s : Int32 × Int32) => XW l D K 0 0 (wX cs ad σ im rest) 5 [(0, .ref (ad 2)), (1, .ref (ad 3)), (2, .int v2), (3, .int s.1), (4, .int s.2)] []) ?_
  intro s o h kin kex
  unfold b_Net_arcsAt_t_5 at h
  refine X_iload C 4 rfl dX2_arcsAt_5 ?_
  refine X_aload_n C 0 rfl rfl dX2_arcsAt_7 ?_
  refine X_get C 2 1 hi2_Net_arcsAt_t hf25_Net_arcsAt_t (xe_2 _ _ _ _ _) rfl (by decide) rfl dX2_arcsAt_8 ?_
  refine X_icmpge C (tgt := 35) (by decide) dX2_arcsAt_11 h (fun h => ?_) (fun h => ?_)
  · obtain rfl := Option.some.inj h
    refine X_loc (vs1 := [(3, .int s.1)]) [3] rfl ?_
    exact kx _ (kex _ rfl).symm
  · refine X_aload_n C 1 rfl rfl dX2_arcsAt_14 ?_
    refine X_iload C 4 rfl dX2_arcsAt_15 ?_
    refine X_iald C 3 (xe_3 _ _ _ _ _) h dX2_arcsAt_17 (fun h => ?_)
    refine X_iload_n C 2 rfl rfl dX2_arcsAt_18 ?_
    refine X_icmpne C (tgt := 29) (by decide) dX2_arcsAt_19 h (fun h => ?_) (fun h => ?_)
    · exact wj_Net_arcsAt_t_29_5 C h kin kex kx
    · refine X_iload_n C 3 rfl rfl dX2_arcsAt_22 ?_
      refine X_iconst (v := 1) C (by decide) dX2_arcsAt_23 ?_
      refine X_iload C 4 rfl dX2_arcsAt_24 ?_
      refine X_ishl C dX2_arcsAt_26 ?_
      refine X_ior C dX2_arcsAt_27 ?_
      refine X_nam (G := fun x1 => XW l D K 0 0 (wX cs ad σ im rest) 28 [(0, .ref (ad 2)), (1, .ref (ad 3)), (2, .int v2), (3, .int s.1), (4, .int s.2)] [.int x1]) h (fun x1 h => ?_)
      refine X_istore_n (vs1 := [(3, .int x1), (0, .ref (ad 2)), (1, .ref (ad 3)), (2, .int v2), (4, .int s.2)]) C rfl (by decide) rfl dX2_arcsAt_28 ?_
      refine X_loc (vs1 := [(0, .ref (ad 2)), (1, .ref (ad 3)), (2, .int v2), (3, .int x1), (4, .int s.2)]) [1, 2, 3, 0, 4] rfl ?_
      exact wj_Net_arcsAt_t_29_5 C h kin kex kx
set_option maxHeartbeats 4000000 in
set_option maxRecDepth 100000 in
theorem c_Net_arcsAt_t {l : Launch} {D : va_G} {cs : Nat → ClassId} {ad : Nat → Nat} {im : Nat → Option Nat} {rest : va_W} {n : Nat} {σ : ST} {a0 : Int32} {o : Int32} (h : f_Net_arcsAt_t n σ a0 = some o) : CTi l D cs yX2_arcsAt wsX2_arcsAt rm_Net_arcsAt_t [.ref (ad 2), .ref (ad 3), .int a0] (wX cs ad σ im rest) o (wX cs ad σ im rest) := by
  refine CTi_of (cc := cX2_arcsAt) (nL := 5) (by decide) rfl (Nat.le_of_ble_eq_true rfl) ?_
  intro K C hret
  unfold f_Net_arcsAt_t at h
  refine X_loc (vs1 := [(0, .ref (ad 2)), (1, .ref (ad 3)), (2, .int a0)]) [0, 1, 2] rfl ?_
  refine X_iconst (v := 0) C (by decide) dX2_arcsAt_0 ?_
  refine X_istore_n (vs1 := [(3, .int (0 : Int32)), (0, .ref (ad 2)), (1, .ref (ad 3)), (2, .int a0)]) C rfl (by decide) rfl dX2_arcsAt_1 ?_
  refine X_iconst (v := 0) C (by decide) dX2_arcsAt_2 ?_
  refine X_istore (vs1 := [(4, .int (0 : Int32)), (3, .int (0 : Int32)), (0, .ref (ad 2)), (1, .ref (ad 3)), (2, .int a0)]) C (by decide) rfl dX2_arcsAt_3 ?_
  obtain ⟨e2, he2, h⟩ := bnd_some h
  refine X_loc (vs1 := [(0, .ref (ad 2)), (1, .ref (ad 3)), (2, .int a0), (3, .int (0 : Int32)), (4, .int (0 : Int32))]) [2, 3, 4, 1, 0] rfl ?_
  refine wb_Net_arcsAt_t_5 C (e := e2) (fun t ht => ?_) n _ he2
  subst ht
  refine X_iload_n C 0 rfl rfl dX2_arcsAt_35 ?_
  obtain rfl := Option.some.inj h
  exact hret _ _ dX2_arcsAt_36

abbrev rm_Net_arcsAt_h : Room := { frames := 0, cells := 0, slots := 0, locals := 0 }
def j_Net_arcsAt_h_29_5 (n : Nat) (σ : ST) (v2 : Int32) (v3 : Int32) (v4 : Int32) : Option ((Int32 × Int32) ⊕ (Int32)) :=
  some (.inl (v3, v4 + (1 : Int32)))
def b_Net_arcsAt_h_5 (n : Nat) (σ : ST) (v2 : Int32) (s : Int32 × Int32) : Option ((Int32 × Int32) ⊕ (Int32)) :=
  if (σ.1 129) ≤ s.2 then
    some (.inr s.1)
  else
    grd (jin s.2 16) <|
    if (σ.2 4 (jix s.2)) = v2 then
      nam (s.1 ||| (jshl (1 : Int32) s.2)) fun x1 =>
      j_Net_arcsAt_h_29_5 n σ v2 x1 s.2
    else
      j_Net_arcsAt_h_29_5 n σ v2 s.1 s.2
def f_Net_arcsAt_h (n : Nat) (σ : ST) (a0 : Int32) : Option (Int32) :=
  bnd (lp (b_Net_arcsAt_h_5 n σ a0) n ((0 : Int32), (0 : Int32))) fun e2 =>
  some e2
theorem hf25_Net_arcsAt_h : Cond.fieldLink RX2 25 (TX2 1).1 (TX2 1).2.1 (TX2 1).2.2.1 ∈ wsX2_arcsAt := by decide +kernel
theorem hi2_Net_arcsAt_h : ∀ w ∈ u_ws RX2 TX2 5, w ∈ wsX2_arcsAt := by decide +kernel
set_option maxHeartbeats 4000000 in
set_option maxRecDepth 100000 in
theorem wj_Net_arcsAt_h_29_5 {l : Launch} {D : va_G} {cs : Nat → ClassId} {K : XK} {ad : Nat → Nat} {im : Nat → Option Nat} {rest : va_W} (C : XC D cs K 5 rm_Net_arcsAt_h cX2_arcsAt RX2 wsX2_arcsAt (some .int)) {n : Nat} {σ : ST} {v2 : Int32} {v3 : Int32} {v4 : Int32} {o : (Int32 × Int32) ⊕ (Int32)} {e : (Int32)} (h : j_Net_arcsAt_h_29_5 n σ v2 v3 v4 = some o) (kin : ∀ (s : Int32 × Int32), o = .inl s → XW l D K 0 0 (wX cs ad σ im rest) 5 [(0, .ref (ad 2)), (1, .ref (ad 4)), (2, .int v2), (3, .int s.1), (4, .int s.2)] []) (kex : ∀ e1, o = .inr e1 → e1 = e) (kx : ∀ (t : Int32), e = t → XW l D K 0 0 (wX cs ad σ im rest) 35 [(3, .int t)] []) : XW l D K 0 0 (wX cs ad σ im rest) 29 [(0, .ref (ad 2)), (1, .ref (ad 4)), (2, .int v2), (3, .int v3), (4, .int v4)] [] := by
  unfold j_Net_arcsAt_h_29_5 at h
  refine X_iinc (v := v4 + (1 : Int32)) (vs1 := [(4, .int (v4 + (1 : Int32))), (0, .ref (ad 2)), (1, .ref (ad 4)), (2, .int v2), (3, .int v3)]) C 4 rfl rfl (by decide) rfl dX2_arcsAt_29 ?_
  refine X_goto C (tgt := 5) (by decide) dX2_arcsAt_32 ?_
  obtain rfl := Option.some.inj h
  refine X_loc (vs1 := [(0, .ref (ad 2)), (1, .ref (ad 4)), (2, .int v2), (3, .int v3), (4, .int (v4 + (1 : Int32)))]) [1, 2, 3, 4, 0] rfl ?_
  exact kin _ rfl
set_option maxHeartbeats 4000000 in
set_option maxRecDepth 100000 in
theorem wb_Net_arcsAt_h_5 {l : Launch} {D : va_G} {cs : Nat → ClassId} {K : XK} {ad : Nat → Nat} {im : Nat → Option Nat} {rest : va_W} (C : XC D cs K 5 rm_Net_arcsAt_h cX2_arcsAt RX2 wsX2_arcsAt (some .int)) {n : Nat} {σ : ST} {v2 : Int32} {e : (Int32)} (kx : ∀ (t : Int32), e = t → XW l D K 0 0 (wX cs ad σ im rest) 35 [(3, .int t)] []) : ∀ (q : Nat) (s : Int32 × Int32), lp (b_Net_arcsAt_h_5 n σ v2) q s = some e → XW l D K 0 0 (wX cs ad σ im rest) 5 [(0, .ref (ad 2)), (1, .ref (ad 4)), (2, .int v2), (3, .int s.1), (4, .int s.2)] [] := by
  refine lp_walk (G := fun (s : Int32 × Int32) => XW l D K 0 0 (wX cs ad σ im rest) 5 [(0, .ref (ad 2)), (1, .ref (ad 4)), (2, .int v2), (3, .int s.1), (4, .int s.2)] []) ?_
  intro s o h kin kex
  unfold b_Net_arcsAt_h_5 at h
  refine X_iload C 4 rfl dX2_arcsAt_5 ?_
  refine X_aload_n C 0 rfl rfl dX2_arcsAt_7 ?_
  refine X_get C 2 1 hi2_Net_arcsAt_h hf25_Net_arcsAt_h (xe_2 _ _ _ _ _) rfl (by decide) rfl dX2_arcsAt_8 ?_
  refine X_icmpge C (tgt := 35) (by decide) dX2_arcsAt_11 h (fun h => ?_) (fun h => ?_)
  · obtain rfl := Option.some.inj h
    refine X_loc (vs1 := [(3, .int s.1)]) [3] rfl ?_
    exact kx _ (kex _ rfl).symm
  · refine X_aload_n C 1 rfl rfl dX2_arcsAt_14 ?_
    refine X_iload C 4 rfl dX2_arcsAt_15 ?_
    refine X_iald C 4 (xe_4 _ _ _ _ _) h dX2_arcsAt_17 (fun h => ?_)
    refine X_iload_n C 2 rfl rfl dX2_arcsAt_18 ?_
    refine X_icmpne C (tgt := 29) (by decide) dX2_arcsAt_19 h (fun h => ?_) (fun h => ?_)
    · exact wj_Net_arcsAt_h_29_5 C h kin kex kx
    · refine X_iload_n C 3 rfl rfl dX2_arcsAt_22 ?_
      refine X_iconst (v := 1) C (by decide) dX2_arcsAt_23 ?_
      refine X_iload C 4 rfl dX2_arcsAt_24 ?_
      refine X_ishl C dX2_arcsAt_26 ?_
      refine X_ior C dX2_arcsAt_27 ?_
      refine X_nam (G := fun x1 => XW l D K 0 0 (wX cs ad σ im rest) 28 [(0, .ref (ad 2)), (1, .ref (ad 4)), (2, .int v2), (3, .int s.1), (4, .int s.2)] [.int x1]) h (fun x1 h => ?_)
      refine X_istore_n (vs1 := [(3, .int x1), (0, .ref (ad 2)), (1, .ref (ad 4)), (2, .int v2), (4, .int s.2)]) C rfl (by decide) rfl dX2_arcsAt_28 ?_
      refine X_loc (vs1 := [(0, .ref (ad 2)), (1, .ref (ad 4)), (2, .int v2), (3, .int x1), (4, .int s.2)]) [1, 2, 3, 0, 4] rfl ?_
      exact wj_Net_arcsAt_h_29_5 C h kin kex kx
set_option maxHeartbeats 4000000 in
set_option maxRecDepth 100000 in
theorem c_Net_arcsAt_h {l : Launch} {D : va_G} {cs : Nat → ClassId} {ad : Nat → Nat} {im : Nat → Option Nat} {rest : va_W} {n : Nat} {σ : ST} {a0 : Int32} {o : Int32} (h : f_Net_arcsAt_h n σ a0 = some o) : CTi l D cs yX2_arcsAt wsX2_arcsAt rm_Net_arcsAt_h [.ref (ad 2), .ref (ad 4), .int a0] (wX cs ad σ im rest) o (wX cs ad σ im rest) := by
  refine CTi_of (cc := cX2_arcsAt) (nL := 5) (by decide) rfl (Nat.le_of_ble_eq_true rfl) ?_
  intro K C hret
  unfold f_Net_arcsAt_h at h
  refine X_loc (vs1 := [(0, .ref (ad 2)), (1, .ref (ad 4)), (2, .int a0)]) [0, 1, 2] rfl ?_
  refine X_iconst (v := 0) C (by decide) dX2_arcsAt_0 ?_
  refine X_istore_n (vs1 := [(3, .int (0 : Int32)), (0, .ref (ad 2)), (1, .ref (ad 4)), (2, .int a0)]) C rfl (by decide) rfl dX2_arcsAt_1 ?_
  refine X_iconst (v := 0) C (by decide) dX2_arcsAt_2 ?_
  refine X_istore (vs1 := [(4, .int (0 : Int32)), (3, .int (0 : Int32)), (0, .ref (ad 2)), (1, .ref (ad 4)), (2, .int a0)]) C (by decide) rfl dX2_arcsAt_3 ?_
  obtain ⟨e2, he2, h⟩ := bnd_some h
  refine X_loc (vs1 := [(0, .ref (ad 2)), (1, .ref (ad 4)), (2, .int a0), (3, .int (0 : Int32)), (4, .int (0 : Int32))]) [2, 3, 4, 1, 0] rfl ?_
  refine wb_Net_arcsAt_h_5 C (e := e2) (fun t ht => ?_) n _ he2
  subst ht
  refine X_iload_n C 0 rfl rfl dX2_arcsAt_35 ?_
  obtain rfl := Option.some.inj h
  exact hret _ _ dX2_arcsAt_36

abbrev rm_Net_arcsFrom : Room := { frames := 1, cells := 0, slots := 0, locals := 24 }
def f_Net_arcsFrom (n : Nat) (σ : ST) (a0 : Int32) : Option (Int32) :=
  bnd (f_Net_arcsAt_t n σ a0) fun o1 =>
  some o1
theorem hf9_Net_arcsFrom : Cond.fieldLink RX2 9 (TX2 2).1 (TX2 2).2.1 (TX2 2).2.2.1 ∈ wsX2_arcsFrom := by decide +kernel
theorem hi2_Net_arcsFrom : ∀ w ∈ u_ws RX2 TX2 5, w ∈ wsX2_arcsFrom := by decide +kernel
set_option maxHeartbeats 4000000 in
set_option maxRecDepth 100000 in
theorem c_Net_arcsFrom {l : Launch} {D : va_G} {cs : Nat → ClassId} {ad : Nat → Nat} {im : Nat → Option Nat} {rest : va_W} {n : Nat} {σ : ST} {a0 : Int32} {o : Int32} (h : f_Net_arcsFrom n σ a0 = some o) : CTi l D cs yX2_arcsFrom wsX2_arcsFrom rm_Net_arcsFrom [.ref (ad 2), .int a0] (wX cs ad σ im rest) o (wX cs ad σ im rest) := by
  refine CTi_of (cc := cX2_arcsFrom) (nL := 2) (by decide) rfl (Nat.le_of_ble_eq_true rfl) ?_
  intro K C hret
  unfold f_Net_arcsFrom at h
  refine X_loc (vs1 := [(0, .ref (ad 2)), (1, .int a0)]) [0, 1] rfl ?_
  refine X_aload_n C 0 rfl rfl dX2_arcsFrom_0 ?_
  refine X_aload_n C 0 rfl rfl dX2_arcsFrom_1 ?_
  refine X_get C 2 2 hi2_Net_arcsFrom hf9_Net_arcsFrom (xe_2 _ _ _ _ _) rfl (by decide) rfl dX2_arcsFrom_2 ?_
  refine X_iload_n C 1 rfl rfl dX2_arcsFrom_5 ?_
  obtain ⟨o1, eo1, h⟩ := bnd_some h
  refine X_callVi C (n := 2) (As := [.ref (ad 3), .int a0]) (c_Net_arcsAt_t eo1) rfl gX2_arcsFrom_X2_arcsAt rfl rfl (xe_2 _ _ _ _ _) rfl rfl (by decide +kernel) ⟨Nat.le_of_ble_eq_true rfl, Nat.le_of_ble_eq_true rfl⟩ ⟨Nat.zero_le _, Nat.zero_le _⟩ rfl rfl (Nat.le_of_ble_eq_true rfl) dX2_arcsFrom_6 ?_
  obtain rfl := Option.some.inj h
  exact hret _ _ dX2_arcsFrom_9

abbrev rm_Net_arcsTo : Room := { frames := 1, cells := 0, slots := 0, locals := 24 }
def f_Net_arcsTo (n : Nat) (σ : ST) (a0 : Int32) : Option (Int32) :=
  bnd (f_Net_arcsAt_h n σ a0) fun o1 =>
  some o1
theorem hf15_Net_arcsTo : Cond.fieldLink RX2 15 (TX2 3).1 (TX2 3).2.1 (TX2 3).2.2.1 ∈ wsX2_arcsTo := by decide +kernel
theorem hi2_Net_arcsTo : ∀ w ∈ u_ws RX2 TX2 5, w ∈ wsX2_arcsTo := by decide +kernel
set_option maxHeartbeats 4000000 in
set_option maxRecDepth 100000 in
theorem c_Net_arcsTo {l : Launch} {D : va_G} {cs : Nat → ClassId} {ad : Nat → Nat} {im : Nat → Option Nat} {rest : va_W} {n : Nat} {σ : ST} {a0 : Int32} {o : Int32} (h : f_Net_arcsTo n σ a0 = some o) : CTi l D cs yX2_arcsTo wsX2_arcsTo rm_Net_arcsTo [.ref (ad 2), .int a0] (wX cs ad σ im rest) o (wX cs ad σ im rest) := by
  refine CTi_of (cc := cX2_arcsTo) (nL := 2) (by decide) rfl (Nat.le_of_ble_eq_true rfl) ?_
  intro K C hret
  unfold f_Net_arcsTo at h
  refine X_loc (vs1 := [(0, .ref (ad 2)), (1, .int a0)]) [0, 1] rfl ?_
  refine X_aload_n C 0 rfl rfl dX2_arcsTo_0 ?_
  refine X_aload_n C 0 rfl rfl dX2_arcsTo_1 ?_
  refine X_get C 2 3 hi2_Net_arcsTo hf15_Net_arcsTo (xe_2 _ _ _ _ _) rfl (by decide) rfl dX2_arcsTo_2 ?_
  refine X_iload_n C 1 rfl rfl dX2_arcsTo_5 ?_
  obtain ⟨o1, eo1, h⟩ := bnd_some h
  refine X_callVi C (n := 2) (As := [.ref (ad 4), .int a0]) (c_Net_arcsAt_h eo1) rfl gX2_arcsTo_X2_arcsAt rfl rfl (xe_2 _ _ _ _ _) rfl rfl (by decide +kernel) ⟨Nat.le_of_ble_eq_true rfl, Nat.le_of_ble_eq_true rfl⟩ ⟨Nat.zero_le _, Nat.zero_le _⟩ rfl rfl (Nat.le_of_ble_eq_true rfl) dX2_arcsTo_6 ?_
  obtain rfl := Option.some.inj h
  exact hret _ _ dX2_arcsTo_9
