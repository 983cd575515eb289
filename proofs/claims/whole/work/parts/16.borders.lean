abbrev rm_x_begin : Room := { frames := 3, cells := 0, slots := 0, locals := 64 }
def j_x_begin_11 (n : Nat) (σ : ST) : Option (Int32 × ST) :=
  some ((0 : Int32), σ)
def f_x_begin (n : Nat) (σ : ST) (a0 : Int32) : Option (Int32 × ST) :=
  if a0 < (1 : Int32) then
    j_x_begin_11 n σ
  else
    if a0 ≤ (8 : Int32) then
      bnd (f_Net_clear σ a0) fun o1 =>
      nam (sS o1 66 (0 : Int32)) fun σ2 =>
      bnd (f_Fam_putAway n σ2) fun o3 =>
      some ((1 : Int32), o3)
    else
      j_x_begin_11 n σ
theorem hf55_x_begin : Cond.fieldLink RX6 55 (TX0 1).1 (TX0 1).2.1 (TX0 1).2.2.1 ∈ wsX6_begin := by decide +kernel
theorem hf51_x_begin : Cond.fieldLink RX6 51 (TX0 2).1 (TX0 2).2.1 (TX0 2).2.2.1 ∈ wsX6_begin := by decide +kernel
theorem hf41_x_begin : Cond.fieldLink RX6 41 (TX0 0).1 (TX0 0).2.1 (TX0 0).2.2.1 ∈ wsX6_begin := by decide +kernel
theorem hi0_x_begin : ∀ w ∈ u_ws RX0 TX0 3, w ∈ wsX6_begin := by decide +kernel
theorem hf10_x_begin : Cond.fieldLink RX6 10 (TX6 0).1 (TX6 0).2.1 (TX6 0).2.2.1 ∈ wsX6_begin := by decide +kernel
theorem hi6_x_begin : ∀ w ∈ u_ws RX6 TX6 5, w ∈ wsX6_begin := by decide +kernel
set_option maxHeartbeats 4000000 in
set_option maxRecDepth 100000 in
theorem wj_x_begin_11 {l : Launch} {D : va_G} {cs : Nat → ClassId} {K : XK} {ad : Nat → Nat} {im : Nat → Option Nat} {rest : va_W} (C : XC D cs K 2 rm_x_begin cX6_begin RX6 wsX6_begin (some .boolean)) {n : Nat} {σ : ST} {o : Int32 × ST} (h : j_x_begin_11 n σ = some o) (hret : XRz l D K cX6_begin o.1 (wX cs ad o.2 im rest)) : XW l D K 0 0 (wX cs ad σ im rest) 11 [] [] := by
  unfold j_x_begin_11 at h
  refine X_iconst (v := 0) C (by decide) dX6_begin_11 ?_
  obtain rfl := Option.some.inj h
  exact hret _ _ jz_0 dX6_begin_12
set_option maxHeartbeats 4000000 in
set_option maxRecDepth 100000 in
theorem c_x_begin {l : Launch} {D : va_G} {cs : Nat → ClassId} {ad : Nat → Nat} {im : Nat → Option Nat} {rest : va_W} {n : Nat} {σ : ST} {a0 : Int32} {o : Int32 × ST} (h : f_x_begin n σ a0 = some o) : CTi l D cs yX6_begin wsX6_begin rm_x_begin [.ref (ad 0), .int a0] (wX cs ad σ im rest) o.1 (wX cs ad o.2 im rest) := by
  refine CTz_of (cc := cX6_begin) (nL := 2) (by decide) rfl (Nat.le_of_ble_eq_true rfl) ?_
  intro K C hret
  unfold f_x_begin at h
  refine X_loc (vs1 := [(0, .ref (ad 0)), (1, .int a0)]) [0, 1] rfl ?_
  refine X_iload_n C 1 rfl rfl dX6_begin_0 ?_
  refine X_iconst (v := 1) C (by decide) dX6_begin_1 ?_
  refine X_icmplt C (tgt := 11) (by decide) dX6_begin_2 h (fun h => ?_) (fun h => ?_)
  · refine X_loc (vs1 := []) [] rfl ?_
    exact wj_x_begin_11 C h hret
  · refine X_iload_n C 1 rfl rfl dX6_begin_5 ?_
    refine X_bipush (v := 8) C (by decide) dX6_begin_6 ?_
    refine X_icmple C (tgt := 13) (by decide) dX6_begin_8 h (fun h => ?_) (fun h => ?_)
    · refine X_aload_n C 0 rfl rfl dX6_begin_13 ?_
      refine X_get C 0 0 hi6_x_begin hf10_x_begin (xe_0 _ _ _ _ _) rfl (by decide) rfl dX6_begin_14 ?_
      refine X_get C 1 0 hi0_x_begin hf41_x_begin (xe_1 _ _ _ _ _) rfl (by decide) rfl dX6_begin_17 ?_
      refine X_iload_n C 1 rfl rfl dX6_begin_20 ?_
      obtain ⟨o1, eo1, h⟩ := bnd_some h
      refine X_callVv C (n := 1) (As := [.int a0]) (c_Net_clear eo1) rfl gX6_begin_X2_clear rfl rfl (xe_2 _ _ _ _ _) rfl rfl (by decide +kernel) ⟨Nat.le_of_ble_eq_true rfl, Nat.le_of_ble_eq_true rfl⟩ ⟨Nat.zero_le _, Nat.zero_le _⟩ rfl rfl (Nat.le_of_ble_eq_true rfl) dX6_begin_21 ?_
      refine X_aload_n C 0 rfl rfl dX6_begin_24 ?_
      refine X_get C 0 0 hi6_x_begin hf10_x_begin (xe_0 _ _ _ _ _) rfl (by decide) rfl dX6_begin_25 ?_
      refine X_iconst (v := 0) C (by decide) dX6_begin_28 ?_
      refine X_put (ty := .int) C 1 2 hi0_x_begin hf51_x_begin tyX0 tyX0_ok nmX0 (xe_1 _ _ _ _ _) rfl (by decide) rfl (by decide +kernel) rfl rfl (Nat.le_of_ble_eq_true rfl) (xs_1_2 _ _ _ _ _ _) dX6_begin_29 ?_
      refine X_nam (G := fun σ2 => XW l D K 0 0 (wX cs ad σ2 im rest) 32 [(0, .ref (ad 0)), (1, .int a0)] []) h (fun σ2 h => ?_)
      refine X_aload_n C 0 rfl rfl dX6_begin_32 ?_
      refine X_get C 0 0 hi6_x_begin hf10_x_begin (xe_0 _ _ _ _ _) rfl (by decide) rfl dX6_begin_33 ?_
      refine X_get C 1 1 hi0_x_begin hf55_x_begin (xe_1 _ _ _ _ _) rfl (by decide) rfl dX6_begin_36 ?_
      obtain ⟨o3, eo3, h⟩ := bnd_some h
      refine X_callVv C (n := 0) (As := []) (c_Fam_putAway eo3) rfl gX6_begin_X1_putAway rfl rfl (xe_6 _ _ _ _ _) rfl rfl (by decide +kernel) ⟨Nat.le_of_ble_eq_true rfl, Nat.le_of_ble_eq_true rfl⟩ ⟨Nat.zero_le _, Nat.zero_le _⟩ rfl rfl (Nat.le_of_ble_eq_true rfl) dX6_begin_39 ?_
      refine X_iconst (v := 1) C (by decide) dX6_begin_42 ?_
      obtain rfl := Option.some.inj h
      exact hret _ _ jz_1 dX6_begin_43
    · refine X_loc (vs1 := []) [] rfl ?_
      exact wj_x_begin_11 C h hret

abbrev rm_x_arc : Room := { frames := 1, cells := 0, slots := 0, locals := 23 }
def j_x_arc_44 (n : Nat) (σ : ST) : Option (Int32 × ST) :=
  some ((-1 : Int32), σ)
def f_x_arc (n : Nat) (σ : ST) (a0 : Int32) (a1 : Int32) (a2 : Int32) : Option (Int32 × ST) :=
  if (16 : Int32) ≤ (σ.1 129) then
    j_x_arc_44 n σ
  else
    bnd (f_Net_hasNode n σ a0) fun o1 =>
    if o1 = 0 then
      j_x_arc_44 n σ
    else
      bnd (f_Net_hasNode n σ a1) fun o2 =>
      if o2 = 0 then
        j_x_arc_44 n σ
      else
        bnd (f_isWeight n a2) fun o3 =>
        if o3 = 0 then
          j_x_arc_44 n σ
        else
          bnd (f_Net_append σ a0 a1 a2) fun o4 =>
          some (o4.1, o4.2)
theorem hf64_x_arc : Cond.fieldLink RX6 64 (TX2 1).1 (TX2 1).2.1 (TX2 1).2.2.1 ∈ wsX6_arc := by decide +kernel
theorem hi2_x_arc : ∀ w ∈ u_ws RX2 TX2 5, w ∈ wsX6_arc := by decide +kernel
theorem hf41_x_arc : Cond.fieldLink RX6 41 (TX0 0).1 (TX0 0).2.1 (TX0 0).2.2.1 ∈ wsX6_arc := by decide +kernel
theorem hi0_x_arc : ∀ w ∈ u_ws RX0 TX0 3, w ∈ wsX6_arc := by decide +kernel
theorem hf10_x_arc : Cond.fieldLink RX6 10 (TX6 0).1 (TX6 0).2.1 (TX6 0).2.2.1 ∈ wsX6_arc := by decide +kernel
theorem hi6_x_arc : ∀ w ∈ u_ws RX6 TX6 5, w ∈ wsX6_arc := by decide +kernel
set_option maxHeartbeats 4000000 in
set_option maxRecDepth 100000 in
theorem wj_x_arc_44 {l : Launch} {D : va_G} {cs : Nat → ClassId} {K : XK} {ad : Nat → Nat} {im : Nat → Option Nat} {rest : va_W} (C : XC D cs K 5 rm_x_arc cX6_arc RX6 wsX6_arc (some .int)) {n : Nat} {σ : ST} {o : Int32 × ST} (h : j_x_arc_44 n σ = some o) (hret : XRi l D K cX6_arc o.1 (wX cs ad o.2 im rest)) : XW l D K 0 0 (wX cs ad σ im rest) 44 [] [] := by
  unfold j_x_arc_44 at h
  refine X_iconst (v := (-1)) C (by decide) dX6_arc_44 ?_
  obtain rfl := Option.some.inj h
  exact hret _ _ dX6_arc_45
set_option maxHeartbeats 4000000 in
set_option maxRecDepth 100000 in
theorem c_x_arc {l : Launch} {D : va_G} {cs : Nat → ClassId} {ad : Nat → Nat} {im : Nat → Option Nat} {rest : va_W} {n : Nat} {σ : ST} {a0 : Int32} {a1 : Int32} {a2 : Int32} {o : Int32 × ST} (h : f_x_arc n σ a0 a1 a2 = some o) : CTi l D cs yX6_arc wsX6_arc rm_x_arc [.ref (ad 0), .int a0, .int a1, .int a2] (wX cs ad σ im rest) o.1 (wX cs ad o.2 im rest) := by
  refine CTi_of (cc := cX6_arc) (nL := 5) (by decide) rfl (Nat.le_of_ble_eq_true rfl) ?_
  intro K C hret
  unfold f_x_arc at h
  refine X_loc (vs1 := [(0, .ref (ad 0)), (1, .int a0), (2, .int a1), (3, .int a2)]) [0, 1, 2, 3] rfl ?_
  refine X_aload_n C 0 rfl rfl dX6_arc_0 ?_
  refine X_get C 0 0 hi6_x_arc hf10_x_arc (xe_0 _ _ _ _ _) rfl (by decide) rfl dX6_arc_1 ?_
  refine X_get C 1 0 hi0_x_arc hf41_x_arc (xe_1 _ _ _ _ _) rfl (by decide) rfl dX6_arc_4 ?_
  refine X_astore (vs1 := [(4, .ref (ad 2)), (0, .ref (ad 0)), (1, .int a0), (2, .int a1), (3, .int a2)]) C (by decide) rfl dX6_arc_7 ?_
  refine X_aload C 0 rfl dX6_arc_9 ?_
  refine X_get C 2 1 hi2_x_arc hf64_x_arc (xe_2 _ _ _ _ _) rfl (by decide) rfl dX6_arc_11 ?_
  refine X_bipush (v := 16) C (by decide) dX6_arc_14 ?_
  refine X_icmpge C (tgt := 44) (by decide) dX6_arc_16 h (fun h => ?_) (fun h => ?_)
  · refine X_loc (vs1 := []) [] rfl ?_
    exact wj_x_arc_44 C h hret
  · refine X_aload C 0 rfl dX6_arc_19 ?_
    refine X_iload_n C 2 rfl rfl dX6_arc_21 ?_
    obtain ⟨o1, eo1, h⟩ := bnd_some h
    refine X_callVi C (n := 1) (As := [.int a0]) (c_Net_hasNode eo1) rfl gX6_arc_X2_hasNode rfl rfl (xe_2 _ _ _ _ _) rfl rfl (by decide +kernel) ⟨Nat.le_of_ble_eq_true rfl, Nat.le_of_ble_eq_true rfl⟩ ⟨Nat.zero_le _, Nat.zero_le _⟩ rfl rfl (Nat.le_of_ble_eq_true rfl) dX6_arc_22 ?_
    refine X_ifeq C (tgt := 44) (by decide) dX6_arc_25 h (fun h => ?_) (fun h => ?_)
    · refine X_loc (vs1 := []) [] rfl ?_
      exact wj_x_arc_44 C h hret
    · refine X_aload C 0 rfl dX6_arc_28 ?_
      refine X_iload_n C 3 rfl rfl dX6_arc_30 ?_
      obtain ⟨o2, eo2, h⟩ := bnd_some h
      refine X_callVi C (n := 1) (As := [.int a1]) (c_Net_hasNode eo2) rfl gX6_arc_X2_hasNode rfl rfl (xe_2 _ _ _ _ _) rfl rfl (by decide +kernel) ⟨Nat.le_of_ble_eq_true rfl, Nat.le_of_ble_eq_true rfl⟩ ⟨Nat.zero_le _, Nat.zero_le _⟩ rfl rfl (Nat.le_of_ble_eq_true rfl) dX6_arc_31 ?_
      refine X_ifeq C (tgt := 44) (by decide) dX6_arc_34 h (fun h => ?_) (fun h => ?_)
      · refine X_loc (vs1 := []) [] rfl ?_
        exact wj_x_arc_44 C h hret
      · refine X_iload_n C 4 rfl rfl dX6_arc_37 ?_
        obtain ⟨o3, eo3, h⟩ := bnd_some h
        refine X_callSi C (n := 1) (As := [.int a2]) (c_isWeight eo3) gX6_arc_X6_isWeight rfl rfl rfl (by decide +kernel) ⟨Nat.le_of_ble_eq_true rfl, Nat.le_of_ble_eq_true rfl⟩ ⟨Nat.zero_le _, Nat.zero_le _⟩ rfl rfl (Nat.le_of_ble_eq_true rfl) dX6_arc_38 ?_
        refine X_ifne C (tgt := 46) (by decide) dX6_arc_41 h (fun h => ?_) (fun h => ?_)
        · refine X_aload C 0 rfl dX6_arc_46 ?_
          refine X_iload_n C 2 rfl rfl dX6_arc_48 ?_
          refine X_iload_n C 3 rfl rfl dX6_arc_49 ?_
          refine X_iload_n C 4 rfl rfl dX6_arc_50 ?_
          obtain ⟨o4, eo4, h⟩ := bnd_some h
          refine X_callVi C (n := 3) (As := [.int a0, .int a1, .int a2]) (c_Net_append eo4) rfl gX6_arc_X2_append rfl rfl (xe_2 _ _ _ _ _) rfl rfl (by decide +kernel) ⟨Nat.le_of_ble_eq_true rfl, Nat.le_of_ble_eq_true rfl⟩ ⟨Nat.zero_le _, Nat.zero_le _⟩ rfl rfl (Nat.le_of_ble_eq_true rfl) dX6_arc_51 ?_
          obtain rfl := Option.some.inj h
          exact hret _ _ dX6_arc_54
        · refine X_loc (vs1 := []) [] rfl ?_
          exact wj_x_arc_44 C h hret

abbrev rm_x_drop : Room := { frames := 1, cells := 0, slots := 0, locals := 22 }
def f_x_drop (n : Nat) (σ : ST) (a0 : Int32) : Option (Int32 × ST) :=
  bnd (f_Net_hasArc n σ a0) fun o1 =>
  if o1 = 0 then
    some ((-1 : Int32), σ)
  else
    bnd (f_Net_remove n σ a0) fun o2 =>
    some (o2.1 129, o2)
theorem hf64_x_drop : Cond.fieldLink RX6 64 (TX2 1).1 (TX2 1).2.1 (TX2 1).2.2.1 ∈ wsX6_drop := by decide +kernel
theorem hi2_x_drop : ∀ w ∈ u_ws RX2 TX2 5, w ∈ wsX6_drop := by decide +kernel
theorem hf41_x_drop : Cond.fieldLink RX6 41 (TX0 0).1 (TX0 0).2.1 (TX0 0).2.2.1 ∈ wsX6_drop := by decide +kernel
theorem hi0_x_drop : ∀ w ∈ u_ws RX0 TX0 3, w ∈ wsX6_drop := by decide +kernel
theorem hf10_x_drop : Cond.fieldLink RX6 10 (TX6 0).1 (TX6 0).2.1 (TX6 0).2.2.1 ∈ wsX6_drop := by decide +kernel
theorem hi6_x_drop : ∀ w ∈ u_ws RX6 TX6 5, w ∈ wsX6_drop := by decide +kernel
set_option maxHeartbeats 4000000 in
set_option maxRecDepth 100000 in
theorem c_x_drop {l : Launch} {D : va_G} {cs : Nat → ClassId} {ad : Nat → Nat} {im : Nat → Option Nat} {rest : va_W} {n : Nat} {σ : ST} {a0 : Int32} {o : Int32 × ST} (h : f_x_drop n σ a0 = some o) : CTi l D cs yX6_drop wsX6_drop rm_x_drop [.ref (ad 0), .int a0] (wX cs ad σ im rest) o.1 (wX cs ad o.2 im rest) := by
  refine CTi_of (cc := cX6_drop) (nL := 2) (by decide) rfl (Nat.le_of_ble_eq_true rfl) ?_
  intro K C hret
  unfold f_x_drop at h
  refine X_loc (vs1 := [(0, .ref (ad 0)), (1, .int a0)]) [0, 1] rfl ?_
  refine X_aload_n C 0 rfl rfl dX6_drop_0 ?_
  refine X_get C 0 0 hi6_x_drop hf10_x_drop (xe_0 _ _ _ _ _) rfl (by decide) rfl dX6_drop_1 ?_
  refine X_get C 1 0 hi0_x_drop hf41_x_drop (xe_1 _ _ _ _ _) rfl (by decide) rfl dX6_drop_4 ?_
  refine X_iload_n C 1 rfl rfl dX6_drop_7 ?_
  obtain ⟨o1, eo1, h⟩ := bnd_some h
  refine X_callVi C (n := 1) (As := [.int a0]) (c_Net_hasArc eo1) rfl gX6_drop_X2_hasArc rfl rfl (xe_2 _ _ _ _ _) rfl rfl (by decide +kernel) ⟨Nat.le_of_ble_eq_true rfl, Nat.le_of_ble_eq_true rfl⟩ ⟨Nat.zero_le _, Nat.zero_le _⟩ rfl rfl (Nat.le_of_ble_eq_true rfl) dX6_drop_8 ?_
  refine X_ifne C (tgt := 16) (by decide) dX6_drop_11 h (fun h => ?_) (fun h => ?_)
  · refine X_aload_n C 0 rfl rfl dX6_drop_16 ?_
    refine X_get C 0 0 hi6_x_drop hf10_x_drop (xe_0 _ _ _ _ _) rfl (by decide) rfl dX6_drop_17 ?_
    refine X_get C 1 0 hi0_x_drop hf41_x_drop (xe_1 _ _ _ _ _) rfl (by decide) rfl dX6_drop_20 ?_
    refine X_iload_n C 1 rfl rfl dX6_drop_23 ?_
    obtain ⟨o2, eo2, h⟩ := bnd_some h
    refine X_callVv C (n := 1) (As := [.int a0]) (c_Net_remove eo2) rfl gX6_drop_X2_remove rfl rfl (xe_2 _ _ _ _ _) rfl rfl (by decide +kernel) ⟨Nat.le_of_ble_eq_true rfl, Nat.le_of_ble_eq_true rfl⟩ ⟨Nat.zero_le _, Nat.zero_le _⟩ rfl rfl (Nat.le_of_ble_eq_true rfl) dX6_drop_24 ?_
    refine X_aload_n C 0 rfl rfl dX6_drop_27 ?_
    refine X_get C 0 0 hi6_x_drop hf10_x_drop (xe_0 _ _ _ _ _) rfl (by decide) rfl dX6_drop_28 ?_
    refine X_get C 1 0 hi0_x_drop hf41_x_drop (xe_1 _ _ _ _ _) rfl (by decide) rfl dX6_drop_31 ?_
    refine X_get C 2 1 hi2_x_drop hf64_x_drop (xe_2 _ _ _ _ _) rfl (by decide) rfl dX6_drop_34 ?_
    obtain rfl := Option.some.inj h
    exact hret _ _ dX6_drop_37
  · refine X_iconst (v := (-1)) C (by decide) dX6_drop_14 ?_
    obtain rfl := Option.some.inj h
    exact hret _ _ dX6_drop_15

abbrev rm_x_weigh : Room := { frames := 1, cells := 0, slots := 0, locals := 21 }
def j_x_weigh_21 (n : Nat) (σ : ST) : Option (Int32 × ST) :=
  some ((-1 : Int32), σ)
def f_x_weigh (n : Nat) (σ : ST) (a0 : Int32) (a1 : Int32) : Option (Int32 × ST) :=
  bnd (f_Net_hasArc n σ a0) fun o1 =>
  if o1 = 0 then
    j_x_weigh_21 n σ
  else
    bnd (f_isWeight n a1) fun o2 =>
    if o2 = 0 then
      j_x_weigh_21 n σ
    else
      grd (jin a0 16) <|
      grd (jin a0 16) <|
      nam (sA σ 5 (upd (σ.2 5) (jix a0) a1)) fun σ3 =>
      some (σ.2 5 (jix a0), σ3)
theorem hf84_x_weigh : Cond.fieldLink RX6 84 (TX2 4).1 (TX2 4).2.1 (TX2 4).2.2.1 ∈ wsX6_weigh := by decide +kernel
theorem hi2_x_weigh : ∀ w ∈ u_ws RX2 TX2 5, w ∈ wsX6_weigh := by decide +kernel
theorem hf41_x_weigh : Cond.fieldLink RX6 41 (TX0 0).1 (TX0 0).2.1 (TX0 0).2.2.1 ∈ wsX6_weigh := by decide +kernel
theorem hi0_x_weigh : ∀ w ∈ u_ws RX0 TX0 3, w ∈ wsX6_weigh := by decide +kernel
theorem hf10_x_weigh : Cond.fieldLink RX6 10 (TX6 0).1 (TX6 0).2.1 (TX6 0).2.2.1 ∈ wsX6_weigh := by decide +kernel
theorem hi6_x_weigh : ∀ w ∈ u_ws RX6 TX6 5, w ∈ wsX6_weigh := by decide +kernel
set_option maxHeartbeats 4000000 in
set_option maxRecDepth 100000 in
theorem wj_x_weigh_21 {l : Launch} {D : va_G} {cs : Nat → ClassId} {K : XK} {ad : Nat → Nat} {im : Nat → Option Nat} {rest : va_W} (C : XC D cs K 4 rm_x_weigh cX6_weigh RX6 wsX6_weigh (some .int)) {n : Nat} {σ : ST} {o : Int32 × ST} (h : j_x_weigh_21 n σ = some o) (hret : XRi l D K cX6_weigh o.1 (wX cs ad o.2 im rest)) : XW l D K 0 0 (wX cs ad σ im rest) 21 [] [] := by
  unfold j_x_weigh_21 at h
  refine X_iconst (v := (-1)) C (by decide) dX6_weigh_21 ?_
  obtain rfl := Option.some.inj h
  exact hret _ _ dX6_weigh_22
set_option maxHeartbeats 4000000 in
set_option maxRecDepth 100000 in
theorem c_x_weigh {l : Launch} {D : va_G} {cs : Nat → ClassId} {ad : Nat → Nat} {im : Nat → Option Nat} {rest : va_W} {n : Nat} {σ : ST} {a0 : Int32} {a1 : Int32} {o : Int32 × ST} (h : f_x_weigh n σ a0 a1 = some o) : CTi l D cs yX6_weigh wsX6_weigh rm_x_weigh [.ref (ad 0), .int a0, .int a1] (wX cs ad σ im rest) o.1 (wX cs ad o.2 im rest) := by
  refine CTi_of (cc := cX6_weigh) (nL := 4) (by decide) rfl (Nat.le_of_ble_eq_true rfl) ?_
  intro K C hret
  unfold f_x_weigh at h
  refine X_loc (vs1 := [(0, .ref (ad 0)), (1, .int a0), (2, .int a1)]) [0, 1, 2] rfl ?_
  refine X_aload_n C 0 rfl rfl dX6_weigh_0 ?_
  refine X_get C 0 0 hi6_x_weigh hf10_x_weigh (xe_0 _ _ _ _ _) rfl (by decide) rfl dX6_weigh_1 ?_
  refine X_get C 1 0 hi0_x_weigh hf41_x_weigh (xe_1 _ _ _ _ _) rfl (by decide) rfl dX6_weigh_4 ?_
  refine X_iload_n C 1 rfl rfl dX6_weigh_7 ?_
  obtain ⟨o1, eo1, h⟩ := bnd_some h
  refine X_callVi C (n := 1) (As := [.int a0]) (c_Net_hasArc eo1) rfl gX6_weigh_X2_hasArc rfl rfl (xe_2 _ _ _ _ _) rfl rfl (by decide +kernel) ⟨Nat.le_of_ble_eq_true rfl, Nat.le_of_ble_eq_true rfl⟩ ⟨Nat.zero_le _, Nat.zero_le _⟩ rfl rfl (Nat.le_of_ble_eq_true rfl) dX6_weigh_8 ?_
  refine X_ifeq C (tgt := 21) (by decide) dX6_weigh_11 h (fun h => ?_) (fun h => ?_)
  · refine X_loc (vs1 := []) [] rfl ?_
    exact wj_x_weigh_21 C h hret
  · refine X_iload_n C 2 rfl rfl dX6_weigh_14 ?_
    obtain ⟨o2, eo2, h⟩ := bnd_some h
    refine X_callSi C (n := 1) (As := [.int a1]) (c_isWeight eo2) gX6_weigh_X6_isWeight rfl rfl rfl (by decide +kernel) ⟨Nat.le_of_ble_eq_true rfl, Nat.le_of_ble_eq_true rfl⟩ ⟨Nat.zero_le _, Nat.zero_le _⟩ rfl rfl (Nat.le_of_ble_eq_true rfl) dX6_weigh_15 ?_
    refine X_ifne C (tgt := 23) (by decide) dX6_weigh_18 h (fun h => ?_) (fun h => ?_)
    · refine X_aload_n C 0 rfl rfl dX6_weigh_23 ?_
      refine X_get C 0 0 hi6_x_weigh hf10_x_weigh (xe_0 _ _ _ _ _) rfl (by decide) rfl dX6_weigh_24 ?_
      refine X_get C 1 0 hi0_x_weigh hf41_x_weigh (xe_1 _ _ _ _ _) rfl (by decide) rfl dX6_weigh_27 ?_
      refine X_get C 2 4 hi2_x_weigh hf84_x_weigh (xe_2 _ _ _ _ _) rfl (by decide) rfl dX6_weigh_30 ?_
      refine X_iload_n C 1 rfl rfl dX6_weigh_33 ?_
      refine X_iald C 5 (xe_5 _ _ _ _ _) h dX6_weigh_34 (fun h => ?_)
      refine X_istore_n (vs1 := [(3, .int (σ.2 5 (jix a0))), (0, .ref (ad 0)), (1, .int a0), (2, .int a1)]) C rfl (by decide) rfl dX6_weigh_35 ?_
      refine X_aload_n C 1 rfl rfl dX6_weigh_36 ?_
      refine X_get C 0 0 hi6_x_weigh hf10_x_weigh (xe_0 _ _ _ _ _) rfl (by decide) rfl dX6_weigh_37 ?_
      refine X_get C 1 0 hi0_x_weigh hf41_x_weigh (xe_1 _ _ _ _ _) rfl (by decide) rfl dX6_weigh_40 ?_
      refine X_get C 2 4 hi2_x_weigh hf84_x_weigh (xe_2 _ _ _ _ _) rfl (by decide) rfl dX6_weigh_43 ?_
      refine X_iload_n C 2 rfl rfl dX6_weigh_46 ?_
      refine X_iload_n C 3 rfl rfl dX6_weigh_47 ?_
      refine X_iast C 5 (xe_5 _ _ _ _ _) (xa_5 _ _ _ _ _ _) h dX6_weigh_48 (fun h => ?_)
      refine X_nam (G := fun σ3 => XW l D K 0 0 (wX cs ad σ3 im rest) 49 [(3, .int (σ.2 5 (jix a0))), (0, .ref (ad 0)), (1, .int a0), (2, .int a1)] []) h (fun σ3 h => ?_)
      refine X_iload_n C 0 rfl rfl dX6_weigh_49 ?_
      obtain rfl := Option.some.inj h
      exact hret _ _ dX6_weigh_50
    · refine X_loc (vs1 := []) [] rfl ?_
      exact wj_x_weigh_21 C h hret

abbrev rm_x_turn : Room := { frames := 1, cells := 0, slots := 0, locals := 21 }
def f_x_turn (n : Nat) (σ : ST) (a0 : Int32) : Option (Int32 × ST) :=
  bnd (f_Net_hasArc n σ a0) fun o1 =>
  if o1 = 0 then
    some ((0 : Int32), σ)
  else
    grd (jin a0 16) <|
    grd (jin a0 16) <|
    grd (jin a0 16) <|
    nam (sA σ 3 (upd (σ.2 3) (jix a0) (σ.2 4 (jix a0)))) fun σ2 =>
    grd (jin a0 16) <|
    nam (sA σ2 4 (upd (σ2.2 4) (jix a0) (σ.2 3 (jix a0)))) fun σ3 =>
    some ((1 : Int32), σ3)
theorem hf91_x_turn : Cond.fieldLink RX6 91 (TX2 3).1 (TX2 3).2.1 (TX2 3).2.2.1 ∈ wsX6_turn := by decide +kernel
theorem hf88_x_turn : Cond.fieldLink RX6 88 (TX2 2).1 (TX2 2).2.1 (TX2 2).2.2.1 ∈ wsX6_turn := by decide +kernel
theorem hi2_x_turn : ∀ w ∈ u_ws RX2 TX2 5, w ∈ wsX6_turn := by decide +kernel
theorem hf41_x_turn : Cond.fieldLink RX6 41 (TX0 0).1 (TX0 0).2.1 (TX0 0).2.2.1 ∈ wsX6_turn := by decide +kernel
theorem hi0_x_turn : ∀ w ∈ u_ws RX0 TX0 3, w ∈ wsX6_turn := by decide +kernel
theorem hf10_x_turn : Cond.fieldLink RX6 10 (TX6 0).1 (TX6 0).2.1 (TX6 0).2.2.1 ∈ wsX6_turn := by decide +kernel
theorem hi6_x_turn : ∀ w ∈ u_ws RX6 TX6 5, w ∈ wsX6_turn := by decide +kernel
set_option maxHeartbeats 4000000 in
set_option maxRecDepth 100000 in
theorem c_x_turn {l : Launch} {D : va_G} {cs : Nat → ClassId} {ad : Nat → Nat} {im : Nat → Option Nat} {rest : va_W} {n : Nat} {σ : ST} {a0 : Int32} {o : Int32 × ST} (h : f_x_turn n σ a0 = some o) : CTi l D cs yX6_turn wsX6_turn rm_x_turn [.ref (ad 0), .int a0] (wX cs ad σ im rest) o.1 (wX cs ad o.2 im rest) := by
  refine CTz_of (cc := cX6_turn) (nL := 3) (by decide) rfl (Nat.le_of_ble_eq_true rfl) ?_
  intro K C hret
  unfold f_x_turn at h
  refine X_loc (vs1 := [(0, .ref (ad 0)), (1, .int a0)]) [0, 1] rfl ?_
  refine X_aload_n C 0 rfl rfl dX6_turn_0 ?_
  refine X_get C 0 0 hi6_x_turn hf10_x_turn (xe_0 _ _ _ _ _) rfl (by decide) rfl dX6_turn_1 ?_
  refine X_get C 1 0 hi0_x_turn hf41_x_turn (xe_1 _ _ _ _ _) rfl (by decide) rfl dX6_turn_4 ?_
  refine X_iload_n C 1 rfl rfl dX6_turn_7 ?_
  obtain ⟨o1, eo1, h⟩ := bnd_some h
  refine X_callVi C (n := 1) (As := [.int a0]) (c_Net_hasArc eo1) rfl gX6_turn_X2_hasArc rfl rfl (xe_2 _ _ _ _ _) rfl rfl (by decide +kernel) ⟨Nat.le_of_ble_eq_true rfl, Nat.le_of_ble_eq_true rfl⟩ ⟨Nat.zero_le _, Nat.zero_le _⟩ rfl rfl (Nat.le_of_ble_eq_true rfl) dX6_turn_8 ?_
  refine X_ifne C (tgt := 16) (by decide) dX6_turn_11 h (fun h => ?_) (fun h => ?_)
  · refine X_aload_n C 0 rfl rfl dX6_turn_16 ?_
    refine X_get C 0 0 hi6_x_turn hf10_x_turn (xe_0 _ _ _ _ _) rfl (by decide) rfl dX6_turn_17 ?_
    refine X_get C 1 0 hi0_x_turn hf41_x_turn (xe_1 _ _ _ _ _) rfl (by decide) rfl dX6_turn_20 ?_
    refine X_get C 2 2 hi2_x_turn hf88_x_turn (xe_2 _ _ _ _ _) rfl (by decide) rfl dX6_turn_23 ?_
    refine X_iload_n C 1 rfl rfl dX6_turn_26 ?_
    refine X_iald C 3 (xe_3 _ _ _ _ _) h dX6_turn_27 (fun h => ?_)
    refine X_istore_n (vs1 := [(2, .int (σ.2 3 (jix a0))), (0, .ref (ad 0)), (1, .int a0)]) C rfl (by decide) rfl dX6_turn_28 ?_
    refine X_aload_n C 1 rfl rfl dX6_turn_29 ?_
    refine X_get C 0 0 hi6_x_turn hf10_x_turn (xe_0 _ _ _ _ _) rfl (by decide) rfl dX6_turn_30 ?_
    refine X_get C 1 0 hi0_x_turn hf41_x_turn (xe_1 _ _ _ _ _) rfl (by decide) rfl dX6_turn_33 ?_
    refine X_get C 2 2 hi2_x_turn hf88_x_turn (xe_2 _ _ _ _ _) rfl (by decide) rfl dX6_turn_36 ?_
    refine X_iload_n C 2 rfl rfl dX6_turn_39 ?_
    refine X_aload_n C 1 rfl rfl dX6_turn_40 ?_
    refine X_get C 0 0 hi6_x_turn hf10_x_turn (xe_0 _ _ _ _ _) rfl (by decide) rfl dX6_turn_41 ?_
    refine X_get C 1 0 hi0_x_turn hf41_x_turn (xe_1 _ _ _ _ _) rfl (by decide) rfl dX6_turn_44 ?_
    refine X_get C 2 3 hi2_x_turn hf91_x_turn (xe_2 _ _ _ _ _) rfl (by decide) rfl dX6_turn_47 ?_
    refine X_iload_n C 2 rfl rfl dX6_turn_50 ?_
    refine X_iald C 4 (xe_4 _ _ _ _ _) h dX6_turn_51 (fun h => ?_)
    refine X_iast C 3 (xe_3 _ _ _ _ _) (xa_3 _ _ _ _ _ _) h dX6_turn_52 (fun h => ?_)
    refine X_nam (G := fun σ2 => XW l D K 0 0 (wX cs ad σ2 im rest) 53 [(2, .int (σ.2 3 (jix a0))), (0, .ref (ad 0)), (1, .int a0)] []) h (fun σ2 h => ?_)
    refine X_aload_n C 1 rfl rfl dX6_turn_53 ?_
    refine X_get C 0 0 hi6_x_turn hf10_x_turn (xe_0 _ _ _ _ _) rfl (by decide) rfl dX6_turn_54 ?_
    refine X_get C 1 0 hi0_x_turn hf41_x_turn (xe_1 _ _ _ _ _) rfl (by decide) rfl dX6_turn_57 ?_
    refine X_get C 2 3 hi2_x_turn hf91_x_turn (xe_2 _ _ _ _ _) rfl (by decide) rfl dX6_turn_60 ?_
    refine X_iload_n C 2 rfl rfl dX6_turn_63 ?_
    refine X_iload_n C 0 rfl rfl dX6_turn_64 ?_
    refine X_iast C 4 (xe_4 _ _ _ _ _) (xa_4 _ _ _ _ _ _) h dX6_turn_65 (fun h => ?_)
    refine X_nam (G := fun σ3 => XW l D K 0 0 (wX cs ad σ3 im rest) 66 [(2, .int (σ.2 3 (jix a0))), (0, .ref (ad 0)), (1, .int a0)] []) h (fun σ3 h => ?_)
    refine X_iconst (v := 1) C (by decide) dX6_turn_66 ?_
    obtain rfl := Option.some.inj h
    exact hret _ _ jz_1 dX6_turn_67
  · refine X_iconst (v := 0) C (by decide) dX6_turn_14 ?_
    obtain rfl := Option.some.inj h
    exact hret _ _ jz_0 dX6_turn_15

abbrev rm_x_join : Room := { frames := 2, cells := 0, slots := 0, locals := 46 }
def j_x_join_33 (n : Nat) (σ : ST) : Option (Int32 × ST) :=
  some ((-1 : Int32), σ)
def f_x_join (n : Nat) (σ : ST) (a0 : Int32) (a1 : Int32) : Option (Int32 × ST) :=
  bnd (f_Net_hasNode n σ a0) fun o1 =>
  if o1 = 0 then
    j_x_join_33 n σ
  else
    bnd (f_Net_hasNode n σ a1) fun o2 =>
    if o2 = 0 then
      j_x_join_33 n σ
    else
      if a0 = a1 then
        j_x_join_33 n σ
      else
        bnd (f_Net_merge n σ a0 a1) fun o3 =>
        some (o3.1 128, o3)
theorem hf98_x_join : Cond.fieldLink RX6 98 (TX2 0).1 (TX2 0).2.1 (TX2 0).2.2.1 ∈ wsX6_join := by decide +kernel
theorem hi2_x_join : ∀ w ∈ u_ws RX2 TX2 5, w ∈ wsX6_join := by decide +kernel
theorem hf41_x_join : Cond.fieldLink RX6 41 (TX0 0).1 (TX0 0).2.1 (TX0 0).2.2.1 ∈ wsX6_join := by decide +kernel
theorem hi0_x_join : ∀ w ∈ u_ws RX0 TX0 3, w ∈ wsX6_join := by decide +kernel
theorem hf10_x_join : Cond.fieldLink RX6 10 (TX6 0).1 (TX6 0).2.1 (TX6 0).2.2.1 ∈ wsX6_join := by decide +kernel
theorem hi6_x_join : ∀ w ∈ u_ws RX6 TX6 5, w ∈ wsX6_join := by decide +kernel
set_option maxHeartbeats 4000000 in
set_option maxRecDepth 100000 in
theorem wj_x_join_33 {l : Launch} {D : va_G} {cs : Nat → ClassId} {K : XK} {ad : Nat → Nat} {im : Nat → Option Nat} {rest : va_W} (C : XC D cs K 3 rm_x_join cX6_join RX6 wsX6_join (some .int)) {n : Nat} {σ : ST} {o : Int32 × ST} (h : j_x_join_33 n σ = some o) (hret : XRi l D K cX6_join o.1 (wX cs ad o.2 im rest)) : XW l D K 0 0 (wX cs ad σ im rest) 33 [] [] := by
  unfold j_x_join_33 at h
  refine X_iconst (v := (-1)) C (by decide) dX6_join_33 ?_
  obtain rfl := Option.some.inj h
  exact hret _ _ dX6_join_34
set_option maxHeartbeats 4000000 in
set_option maxRecDepth 100000 in
theorem c_x_join {l : Launch} {D : va_G} {cs : Nat → ClassId} {ad : Nat → Nat} {im : Nat → Option Nat} {rest : va_W} {n : Nat} {σ : ST} {a0 : Int32} {a1 : Int32} {o : Int32 × ST} (h : f_x_join n σ a0 a1 = some o) : CTi l D cs yX6_join wsX6_join rm_x_join [.ref (ad 0), .int a0, .int a1] (wX cs ad σ im rest) o.1 (wX cs ad o.2 im rest) := by
  refine CTi_of (cc := cX6_join) (nL := 3) (by decide) rfl (Nat.le_of_ble_eq_true rfl) ?_
  intro K C hret
  unfold f_x_join at h
  refine X_loc (vs1 := [(0, .ref (ad 0)), (1, .int a0), (2, .int a1)]) [0, 1, 2] rfl ?_
  refine X_aload_n C 0 rfl rfl dX6_join_0 ?_
  refine X_get C 0 0 hi6_x_join hf10_x_join (xe_0 _ _ _ _ _) rfl (by decide) rfl dX6_join_1 ?_
  refine X_get C 1 0 hi0_x_join hf41_x_join (xe_1 _ _ _ _ _) rfl (by decide) rfl dX6_join_4 ?_
  refine X_iload_n C 1 rfl rfl dX6_join_7 ?_
  obtain ⟨o1, eo1, h⟩ := bnd_some h
  refine X_callVi C (n := 1) (As := [.int a0]) (c_Net_hasNode eo1) rfl gX6_join_X2_hasNode rfl rfl (xe_2 _ _ _ _ _) rfl rfl (by decide +kernel) ⟨Nat.le_of_ble_eq_true rfl, Nat.le_of_ble_eq_true rfl⟩ ⟨Nat.zero_le _, Nat.zero_le _⟩ rfl rfl (Nat.le_of_ble_eq_true rfl) dX6_join_8 ?_
  refine X_ifeq C (tgt := 33) (by decide) dX6_join_11 h (fun h => ?_) (fun h => ?_)
  · refine X_loc (vs1 := []) [] rfl ?_
    exact wj_x_join_33 C h hret
  · refine X_aload_n C 0 rfl rfl dX6_join_14 ?_
    refine X_get C 0 0 hi6_x_join hf10_x_join (xe_0 _ _ _ _ _) rfl (by decide) rfl dX6_join_15 ?_
    refine X_get C 1 0 hi0_x_join hf41_x_join (xe_1 _ _ _ _ _) rfl (by decide) rfl dX6_join_18 ?_
    refine X_iload_n C 2 rfl rfl dX6_join_21 ?_
    obtain ⟨o2, eo2, h⟩ := bnd_some h
    refine X_callVi C (n := 1) (As := [.int a1]) (c_Net_hasNode eo2) rfl gX6_join_X2_hasNode rfl rfl (xe_2 _ _ _ _ _) rfl rfl (by decide +kernel) ⟨Nat.le_of_ble_eq_true rfl, Nat.le_of_ble_eq_true rfl⟩ ⟨Nat.zero_le _, Nat.zero_le _⟩ rfl rfl (Nat.le_of_ble_eq_true rfl) dX6_join_22 ?_
    refine X_ifeq C (tgt := 33) (by decide) dX6_join_25 h (fun h => ?_) (fun h => ?_)
    · refine X_loc (vs1 := []) [] rfl ?_
      exact wj_x_join_33 C h hret
    · refine X_iload_n C 1 rfl rfl dX6_join_28 ?_
      refine X_iload_n C 2 rfl rfl dX6_join_29 ?_
      refine X_icmpne C (tgt := 35) (by decide) dX6_join_30 h (fun h => ?_) (fun h => ?_)
      · refine X_aload_n C 0 rfl rfl dX6_join_35 ?_
        refine X_get C 0 0 hi6_x_join hf10_x_join (xe_0 _ _ _ _ _) rfl (by decide) rfl dX6_join_36 ?_
        refine X_get C 1 0 hi0_x_join hf41_x_join (xe_1 _ _ _ _ _) rfl (by decide) rfl dX6_join_39 ?_
        refine X_iload_n C 1 rfl rfl dX6_join_42 ?_
        refine X_iload_n C 2 rfl rfl dX6_join_43 ?_
        obtain ⟨o3, eo3, h⟩ := bnd_some h
        refine X_callVv C (n := 2) (As := [.int a0, .int a1]) (c_Net_merge eo3) rfl gX6_join_X2_merge rfl rfl (xe_2 _ _ _ _ _) rfl rfl (by decide +kernel) ⟨Nat.le_of_ble_eq_true rfl, Nat.le_of_ble_eq_true rfl⟩ ⟨Nat.zero_le _, Nat.zero_le _⟩ rfl rfl (Nat.le_of_ble_eq_true rfl) dX6_join_44 ?_
        refine X_aload_n C 0 rfl rfl dX6_join_47 ?_
        refine X_get C 0 0 hi6_x_join hf10_x_join (xe_0 _ _ _ _ _) rfl (by decide) rfl dX6_join_48 ?_
        refine X_get C 1 0 hi0_x_join hf41_x_join (xe_1 _ _ _ _ _) rfl (by decide) rfl dX6_join_51 ?_
        refine X_get C 2 0 hi2_x_join hf98_x_join (xe_2 _ _ _ _ _) rfl (by decide) rfl dX6_join_54 ?_
        obtain rfl := Option.some.inj h
        exact hret _ _ dX6_join_57
      · refine X_loc (vs1 := []) [] rfl ?_
        exact wj_x_join_33 C h hret

abbrev rm_x_tell : Room := { frames := 1, cells := 0, slots := 0, locals := 21 }
def f_x_tell (n : Nat) (σ : ST) (a0 : Int32) (a1 : Int32) : Option (Int32) :=
  bnd (f_Net_hasArc n σ a0) fun o1 =>
  if o1 = 0 then
    some (-1 : Int32)
  else
    if a1 = (0 : Int32) then
      grd (jin a0 16) <|
      some (σ.2 3 (jix a0))
    else
    if a1 = (1 : Int32) then
      grd (jin a0 16) <|
      some (σ.2 4 (jix a0))
    else
    if a1 = (2 : Int32) then
      grd (jin a0 16) <|
      some (σ.2 5 (jix a0))
    else
    if a1 = (3 : Int32) then
      grd (jin a0 16) <|
      some (σ.2 8 (jix a0))
    else
    if a1 = (4 : Int32) then
      some ((jshr (σ.1 66) a0) &&& (1 : Int32))
    else
      some (-1 : Int32)
theorem hf51_x_tell : Cond.fieldLink RX6 51 (TX0 2).1 (TX0 2).2.1 (TX0 2).2.2.1 ∈ wsX6_tell := by decide +kernel
theorem hf101_x_tell : Cond.fieldLink RX6 101 (TX1 3).1 (TX1 3).2.1 (TX1 3).2.2.1 ∈ wsX6_tell := by decide +kernel
theorem hi1_x_tell : ∀ w ∈ u_ws RX1 TX1 4, w ∈ wsX6_tell := by decide +kernel
theorem hf55_x_tell : Cond.fieldLink RX6 55 (TX0 1).1 (TX0 1).2.1 (TX0 1).2.2.1 ∈ wsX6_tell := by decide +kernel
theorem hf84_x_tell : Cond.fieldLink RX6 84 (TX2 4).1 (TX2 4).2.1 (TX2 4).2.2.1 ∈ wsX6_tell := by decide +kernel
theorem hf91_x_tell : Cond.fieldLink RX6 91 (TX2 3).1 (TX2 3).2.1 (TX2 3).2.2.1 ∈ wsX6_tell := by decide +kernel
theorem hf88_x_tell : Cond.fieldLink RX6 88 (TX2 2).1 (TX2 2).2.1 (TX2 2).2.2.1 ∈ wsX6_tell := by decide +kernel
theorem hi2_x_tell : ∀ w ∈ u_ws RX2 TX2 5, w ∈ wsX6_tell := by decide +kernel
theorem hf41_x_tell : Cond.fieldLink RX6 41 (TX0 0).1 (TX0 0).2.1 (TX0 0).2.2.1 ∈ wsX6_tell := by decide +kernel
theorem hi0_x_tell : ∀ w ∈ u_ws RX0 TX0 3, w ∈ wsX6_tell := by decide +kernel
theorem hf10_x_tell : Cond.fieldLink RX6 10 (TX6 0).1 (TX6 0).2.1 (TX6 0).2.2.1 ∈ wsX6_tell := by decide +kernel
theorem hi6_x_tell : ∀ w ∈ u_ws RX6 TX6 5, w ∈ wsX6_tell := by decide +kernel
set_option maxHeartbeats 4000000 in
set_option maxRecDepth 100000 in
theorem c_x_tell {l : Launch} {D : va_G} {cs : Nat → ClassId} {ad : Nat → Nat} {im : Nat → Option Nat} {rest : va_W} {n : Nat} {σ : ST} {a0 : Int32} {a1 : Int32} {o : Int32} (h : f_x_tell n σ a0 a1 = some o) : CTi l D cs yX6_tell wsX6_tell rm_x_tell [.ref (ad 0), .int a0, .int a1] (wX cs ad σ im rest) o (wX cs ad σ im rest) := by
  refine CTi_of (cc := cX6_tell) (nL := 3) (by decide) rfl (Nat.le_of_ble_eq_true rfl) ?_
  intro K C hret
  unfold f_x_tell at h
  refine X_loc (vs1 := [(0, .ref (ad 0)), (1, .int a0), (2, .int a1)]) [0, 1, 2] rfl ?_
  refine X_aload_n C 0 rfl rfl dX6_tell_0 ?_
  refine X_get C 0 0 hi6_x_tell hf10_x_tell (xe_0 _ _ _ _ _) rfl (by decide) rfl dX6_tell_1 ?_
  refine X_get C 1 0 hi0_x_tell hf41_x_tell (xe_1 _ _ _ _ _) rfl (by decide) rfl dX6_tell_4 ?_
  refine X_iload_n C 1 rfl rfl dX6_tell_7 ?_
  obtain ⟨o1, eo1, h⟩ := bnd_some h
  refine X_callVi C (n := 1) (As := [.int a0]) (c_Net_hasArc eo1) rfl gX6_tell_X2_hasArc rfl rfl (xe_2 _ _ _ _ _) rfl rfl (by decide +kernel) ⟨Nat.le_of_ble_eq_true rfl, Nat.le_of_ble_eq_true rfl⟩ ⟨Nat.zero_le _, Nat.zero_le _⟩ rfl rfl (Nat.le_of_ble_eq_true rfl) dX6_tell_8 ?_
  refine X_ifne C (tgt := 16) (by decide) dX6_tell_11 h (fun h => ?_) (fun h => ?_)
  · refine X_iload_n C 2 rfl rfl dX6_tell_16 ?_
    refine X_case h (fun hx0 h => ?_) (fun hx0 h => ?_)
    · refine X_tblIn C (tgt := 52) (by rw [hx0]; decide) (by rw [hx0]; decide) (by rw [hx0]; rfl) (by decide) dX6_tell_17 ?_
      refine X_aload_n C 0 rfl rfl dX6_tell_52 ?_
      refine X_get C 0 0 hi6_x_tell hf10_x_tell (xe_0 _ _ _ _ _) rfl (by decide) rfl dX6_tell_53 ?_
      refine X_get C 1 0 hi0_x_tell hf41_x_tell (xe_1 _ _ _ _ _) rfl (by decide) rfl dX6_tell_56 ?_
      refine X_get C 2 2 hi2_x_tell hf88_x_tell (xe_2 _ _ _ _ _) rfl (by decide) rfl dX6_tell_59 ?_
      refine X_iload_n C 1 rfl rfl dX6_tell_62 ?_
      refine X_iald C 3 (xe_3 _ _ _ _ _) h dX6_tell_63 (fun h => ?_)
      obtain rfl := Option.some.inj h
      exact hret _ _ dX6_tell_64
    refine X_case h (fun hx1 h => ?_) (fun hx1 h => ?_)
    · refine X_tblIn C (tgt := 65) (by rw [hx1]; decide) (by rw [hx1]; decide) (by rw [hx1]; rfl) (by decide) dX6_tell_17 ?_
      refine X_aload_n C 0 rfl rfl dX6_tell_65 ?_
      refine X_get C 0 0 hi6_x_tell hf10_x_tell (xe_0 _ _ _ _ _) rfl (by decide) rfl dX6_tell_66 ?_
      refine X_get C 1 0 hi0_x_tell hf41_x_tell (xe_1 _ _ _ _ _) rfl (by decide) rfl dX6_tell_69 ?_
      refine X_get C 2 3 hi2_x_tell hf91_x_tell (xe_2 _ _ _ _ _) rfl (by decide) rfl dX6_tell_72 ?_
      refine X_iload_n C 1 rfl rfl dX6_tell_75 ?_
      refine X_iald C 4 (xe_4 _ _ _ _ _) h dX6_tell_76 (fun h => ?_)
      obtain rfl := Option.some.inj h
      exact hret _ _ dX6_tell_77
    refine X_case h (fun hx2 h => ?_) (fun hx2 h => ?_)
    · refine X_tblIn C (tgt := 78) (by rw [hx2]; decide) (by rw [hx2]; decide) (by rw [hx2]; rfl) (by decide) dX6_tell_17 ?_
      refine X_aload_n C 0 rfl rfl dX6_tell_78 ?_
      refine X_get C 0 0 hi6_x_tell hf10_x_tell (xe_0 _ _ _ _ _) rfl (by decide) rfl dX6_tell_79 ?_
      refine X_get C 1 0 hi0_x_tell hf41_x_tell (xe_1 _ _ _ _ _) rfl (by decide) rfl dX6_tell_82 ?_
      refine X_get C 2 4 hi2_x_tell hf84_x_tell (xe_2 _ _ _ _ _) rfl (by decide) rfl dX6_tell_85 ?_
      refine X_iload_n C 1 rfl rfl dX6_tell_88 ?_
      refine X_iald C 5 (xe_5 _ _ _ _ _) h dX6_tell_89 (fun h => ?_)
      obtain rfl := Option.some.inj h
      exact hret _ _ dX6_tell_90
    refine X_case h (fun hx3 h => ?_) (fun hx3 h => ?_)
    · refine X_tblIn C (tgt := 91) (by rw [hx3]; decide) (by rw [hx3]; decide) (by rw [hx3]; rfl) (by decide) dX6_tell_17 ?_
      refine X_aload_n C 0 rfl rfl dX6_tell_91 ?_
      refine X_get C 0 0 hi6_x_tell hf10_x_tell (xe_0 _ _ _ _ _) rfl (by decide) rfl dX6_tell_92 ?_
      refine X_get C 1 1 hi0_x_tell hf55_x_tell (xe_1 _ _ _ _ _) rfl (by decide) rfl dX6_tell_95 ?_
      refine X_get C 6 3 hi1_x_tell hf101_x_tell (xe_6 _ _ _ _ _) rfl (by decide) rfl dX6_tell_98 ?_
      refine X_iload_n C 1 rfl rfl dX6_tell_101 ?_
      refine X_iald C 8 (xe_8 _ _ _ _ _) h dX6_tell_102 (fun h => ?_)
      obtain rfl := Option.some.inj h
      exact hret _ _ dX6_tell_103
    refine X_case h (fun hx4 h => ?_) (fun hx4 h => ?_)
    · refine X_tblIn C (tgt := 104) (by rw [hx4]; decide) (by rw [hx4]; decide) (by rw [hx4]; rfl) (by decide) dX6_tell_17 ?_
      refine X_aload_n C 0 rfl rfl dX6_tell_104 ?_
      refine X_get C 0 0 hi6_x_tell hf10_x_tell (xe_0 _ _ _ _ _) rfl (by decide) rfl dX6_tell_105 ?_
      refine X_get C 1 2 hi0_x_tell hf51_x_tell (xe_1 _ _ _ _ _) rfl (by decide) rfl dX6_tell_108 ?_
      refine X_iload_n C 1 rfl rfl dX6_tell_111 ?_
      refine X_ishr C dX6_tell_112 ?_
      refine X_iconst (v := 1) C (by decide) dX6_tell_113 ?_
      refine X_iand C dX6_tell_114 ?_
      obtain rfl := Option.some.inj h
      exact hret _ _ dX6_tell_115
    have hx0t := lv_neT (a := 0) hx0 (by decide)
    have hx1t := lv_neT (a := 1) hx1 (by decide)
    have hx2t := lv_neT (a := 2) hx2 (by decide)
    have hx3t := lv_neT (a := 3) hx3 (by decide)
    have hx4t := lv_neT (a := 4) hx4 (by decide)
    refine X_tblOut C (tgt := 116) (by omega) (by decide) dX6_tell_17 ?_
    refine X_iconst (v := (-1)) C (by decide) dX6_tell_116 ?_
    obtain rfl := Option.some.inj h
    exact hret _ _ dX6_tell_117
  · refine X_iconst (v := (-1)) C (by decide) dX6_tell_14 ?_
    obtain rfl := Option.some.inj h
    exact hret _ _ dX6_tell_15

abbrev rm_x_isStrong : Room := { frames := 3, cells := 0, slots := 0, locals := 66 }
def f_x_isStrong (n : Nat) (σ : ST) (a0 : Int32) : Option (Int32 × ST) :=
  bnd (f_Paths_follow n σ a0) fun o1 =>
  bnd (f_Paths_areStrong n o1) fun o2 =>
  grd (jz o2) <|
  some (o2, o1)
theorem hf41_x_isStrong : Cond.fieldLink RX6 41 (TX0 0).1 (TX0 0).2.1 (TX0 0).2.2.1 ∈ wsX6_isStrong := by decide +kernel
theorem hi0_x_isStrong : ∀ w ∈ u_ws RX0 TX0 3, w ∈ wsX6_isStrong := by decide +kernel
theorem hf10_x_isStrong : Cond.fieldLink RX6 10 (TX6 0).1 (TX6 0).2.1 (TX6 0).2.2.1 ∈ wsX6_isStrong := by decide +kernel
theorem hf23_x_isStrong : Cond.fieldLink RX6 23 (TX6 2).1 (TX6 2).2.1 (TX6 2).2.2.1 ∈ wsX6_isStrong := by decide +kernel
theorem hi6_x_isStrong : ∀ w ∈ u_ws RX6 TX6 5, w ∈ wsX6_isStrong := by decide +kernel
set_option maxHeartbeats 4000000 in
set_option maxRecDepth 100000 in
theorem c_x_isStrong {l : Launch} {D : va_G} {cs : Nat → ClassId} {ad : Nat → Nat} {im : Nat → Option Nat} {rest : va_W} {n : Nat} {σ : ST} {a0 : Int32} {o : Int32 × ST} (h : f_x_isStrong n σ a0 = some o) : CTi l D cs yX6_isStrong wsX6_isStrong rm_x_isStrong [.ref (ad 0), .int a0] (wX cs ad σ im rest) o.1 (wX cs ad o.2 im rest) := by
  refine CTz_of (cc := cX6_isStrong) (nL := 2) (by decide) rfl (Nat.le_of_ble_eq_true rfl) ?_
  intro K C hret
  unfold f_x_isStrong at h
  refine X_loc (vs1 := [(0, .ref (ad 0)), (1, .int a0)]) [0, 1] rfl ?_
  refine X_aload_n C 0 rfl rfl dX6_isStrong_0 ?_
  refine X_get C 0 2 hi6_x_isStrong hf23_x_isStrong (xe_0 _ _ _ _ _) rfl (by decide) rfl dX6_isStrong_1 ?_
  refine X_aload_n C 0 rfl rfl dX6_isStrong_4 ?_
  refine X_get C 0 0 hi6_x_isStrong hf10_x_isStrong (xe_0 _ _ _ _ _) rfl (by decide) rfl dX6_isStrong_5 ?_
  refine X_get C 1 0 hi0_x_isStrong hf41_x_isStrong (xe_1 _ _ _ _ _) rfl (by decide) rfl dX6_isStrong_8 ?_
  refine X_iload_n C 1 rfl rfl dX6_isStrong_11 ?_
  obtain ⟨o1, eo1, h⟩ := bnd_some h
  refine X_callVv C (n := 2) (As := [.ref (ad 2), .int a0]) (c_Paths_follow eo1) rfl gX6_isStrong_X3_follow rfl rfl (xe_10 _ _ _ _ _) rfl rfl (by decide +kernel) ⟨Nat.le_of_ble_eq_true rfl, Nat.le_of_ble_eq_true rfl⟩ ⟨Nat.zero_le _, Nat.zero_le _⟩ rfl rfl (Nat.le_of_ble_eq_true rfl) dX6_isStrong_12 ?_
  refine X_aload_n C 0 rfl rfl dX6_isStrong_15 ?_
  refine X_get C 0 2 hi6_x_isStrong hf23_x_isStrong (xe_0 _ _ _ _ _) rfl (by decide) rfl dX6_isStrong_16 ?_
  obtain ⟨o2, eo2, h⟩ := bnd_some h
  refine X_callVi C (n := 0) (As := []) (c_Paths_areStrong eo2) rfl gX6_isStrong_X3_areStrong rfl rfl (xe_10 _ _ _ _ _) rfl rfl (by decide +kernel) ⟨Nat.le_of_ble_eq_true rfl, Nat.le_of_ble_eq_true rfl⟩ ⟨Nat.zero_le _, Nat.zero_le _⟩ rfl rfl (Nat.le_of_ble_eq_true rfl) dX6_isStrong_19 ?_
  obtain ⟨hz, h⟩ := grd_some h
  obtain rfl := Option.some.inj h
  exact hret _ _ hz dX6_isStrong_22

abbrev rm_x_isWhole : Room := { frames := 4, cells := 0, slots := 0, locals := 87 }
def f_x_isWhole (n : Nat) (σ : ST) : Option (Int32 × ST) :=
  bnd (f_x_isStrong n σ (65535 : Int32)) fun o1 =>
  grd (jz o1.1) <|
  some (o1.1, o1.2)
theorem hc112_x_isWhole : Cond.constant RX6 112 (65535) ∈ wsX6_isWhole := by decide +kernel
set_option maxHeartbeats 4000000 in
set_option maxRecDepth 100000 in
theorem c_x_isWhole {l : Launch} {D : va_G} {cs : Nat → ClassId} {ad : Nat → Nat} {im : Nat → Option Nat} {rest : va_W} {n : Nat} {σ : ST} {o : Int32 × ST} (h : f_x_isWhole n σ = some o) : CTi l D cs yX6_isWhole wsX6_isWhole rm_x_isWhole [.ref (ad 0)] (wX cs ad σ im rest) o.1 (wX cs ad o.2 im rest) := by
  refine CTz_of (cc := cX6_isWhole) (nL := 1) (by decide) rfl (Nat.le_of_ble_eq_true rfl) ?_
  intro K C hret
  unfold f_x_isWhole at h
  refine X_loc (vs1 := [(0, .ref (ad 0))]) [0] rfl ?_
  refine X_aload_n C 0 rfl rfl dX6_isWhole_0 ?_
  refine X_ldc (v := 65535) C hc112_x_isWhole dX6_isWhole_1 ?_
  obtain ⟨o1, eo1, h⟩ := bnd_some h
  refine X_callVi C (n := 1) (As := [.int (65535 : Int32)]) (c_x_isStrong eo1) rfl gX6_isWhole_X6_isStrong rfl rfl (xe_0 _ _ _ _ _) rfl rfl (by decide +kernel) ⟨Nat.le_of_ble_eq_true rfl, Nat.le_of_ble_eq_true rfl⟩ ⟨Nat.zero_le _, Nat.zero_le _⟩ rfl rfl (Nat.le_of_ble_eq_true rfl) dX6_isWhole_3 ?_
  obtain ⟨hz, h⟩ := grd_some h
  obtain rfl := Option.some.inj h
  exact hret _ _ hz dX6_isWhole_6

abbrev rm_x_node : Room := { frames := 3, cells := 0, slots := 0, locals := 66 }
def f_x_node (n : Nat) (σ : ST) (a0 : Int32) (a1 : Int32) : Option (Int32 × ST) :=
  bnd (f_Net_hasNode n σ a0) fun o1 =>
  if o1 = 0 then
    some ((-1 : Int32), σ)
  else
    if a1 = (0 : Int32) then
      bnd (f_Paths_follow n σ (0 : Int32)) fun o2 =>
      bnd (f_Paths_part n o2 a0) fun o3 =>
      some (o3, o2)
    else
    if a1 = (1 : Int32) then
      bnd (f_Paths_follow n σ (65535 : Int32)) fun o4 =>
      bnd (f_Paths_part n o4 a0) fun o5 =>
      some (o5, o4)
    else
    if a1 = (2 : Int32) then
      bnd (f_Paths_follow n σ (0 : Int32)) fun o6 =>
      grd (jin a0 8) <|
      some (o6.2 11 (jix a0), o6)
    else
    if a1 = (3 : Int32) then
      bnd (f_Paths_follow n σ (0 : Int32)) fun o7 =>
      grd (jin a0 8) <|
      some (o7.2 12 (jix a0), o7)
    else
      some ((-1 : Int32), σ)
theorem hf116_x_node : Cond.fieldLink RX6 116 (TX3 1).1 (TX3 1).2.1 (TX3 1).2.2.1 ∈ wsX6_node := by decide +kernel
theorem hf113_x_node : Cond.fieldLink RX6 113 (TX3 0).1 (TX3 0).2.1 (TX3 0).2.2.1 ∈ wsX6_node := by decide +kernel
theorem hi3_x_node : ∀ w ∈ u_ws RX3 TX3 3, w ∈ wsX6_node := by decide +kernel
theorem hc112_x_node : Cond.constant RX6 112 (65535) ∈ wsX6_node := by decide +kernel
theorem hf23_x_node : Cond.fieldLink RX6 23 (TX6 2).1 (TX6 2).2.1 (TX6 2).2.2.1 ∈ wsX6_node := by decide +kernel
theorem hf41_x_node : Cond.fieldLink RX6 41 (TX0 0).1 (TX0 0).2.1 (TX0 0).2.2.1 ∈ wsX6_node := by decide +kernel
theorem hi0_x_node : ∀ w ∈ u_ws RX0 TX0 3, w ∈ wsX6_node := by decide +kernel
theorem hf10_x_node : Cond.fieldLink RX6 10 (TX6 0).1 (TX6 0).2.1 (TX6 0).2.2.1 ∈ wsX6_node := by decide +kernel
theorem hi6_x_node : ∀ w ∈ u_ws RX6 TX6 5, w ∈ wsX6_node := by decide +kernel
set_option maxHeartbeats 4000000 in
set_option maxRecDepth 100000 in
theorem c_x_node {l : Launch} {D : va_G} {cs : Nat → ClassId} {ad : Nat → Nat} {im : Nat → Option Nat} {rest : va_W} {n : Nat} {σ : ST} {a0 : Int32} {a1 : Int32} {o : Int32 × ST} (h : f_x_node n σ a0 a1 = some o) : CTi l D cs yX6_node wsX6_node rm_x_node [.ref (ad 0), .int a0, .int a1] (wX cs ad σ im rest) o.1 (wX cs ad o.2 im rest) := by
  refine CTi_of (cc := cX6_node) (nL := 3) (by decide) rfl (Nat.le_of_ble_eq_true rfl) ?_
  intro K C hret
  unfold f_x_node at h
  refine X_loc (vs1 := [(0, .ref (ad 0)), (1, .int a0), (2, .int a1)]) [0, 1, 2] rfl ?_
  refine X_aload_n C 0 rfl rfl dX6_node_0 ?_
  refine X_get C 0 0 hi6_x_node hf10_x_node (xe_0 _ _ _ _ _) rfl (by decide) rfl dX6_node_1 ?_
  refine X_get C 1 0 hi0_x_node hf41_x_node (xe_1 _ _ _ _ _) rfl (by decide) rfl dX6_node_4 ?_
  refine X_iload_n C 1 rfl rfl dX6_node_7 ?_
  obtain ⟨o1, eo1, h⟩ := bnd_some h
  refine X_callVi C (n := 1) (As := [.int a0]) (c_Net_hasNode eo1) rfl gX6_node_X2_hasNode rfl rfl (xe_2 _ _ _ _ _) rfl rfl (by decide +kernel) ⟨Nat.le_of_ble_eq_true rfl, Nat.le_of_ble_eq_true rfl⟩ ⟨Nat.zero_le _, Nat.zero_le _⟩ rfl rfl (Nat.le_of_ble_eq_true rfl) dX6_node_8 ?_
  refine X_ifne C (tgt := 16) (by decide) dX6_node_11 h (fun h => ?_) (fun h => ?_)
  · refine X_iload_n C 2 rfl rfl dX6_node_16 ?_
    refine X_case h (fun hx0 h => ?_) (fun hx0 h => ?_)
    · refine X_tblIn C (tgt := 48) (by rw [hx0]; decide) (by rw [hx0]; decide) (by rw [hx0]; rfl) (by decide) dX6_node_17 ?_
      refine X_aload_n C 0 rfl rfl dX6_node_48 ?_
      refine X_get C 0 2 hi6_x_node hf23_x_node (xe_0 _ _ _ _ _) rfl (by decide) rfl dX6_node_49 ?_
      refine X_aload_n C 0 rfl rfl dX6_node_52 ?_
      refine X_get C 0 0 hi6_x_node hf10_x_node (xe_0 _ _ _ _ _) rfl (by decide) rfl dX6_node_53 ?_
      refine X_get C 1 0 hi0_x_node hf41_x_node (xe_1 _ _ _ _ _) rfl (by decide) rfl dX6_node_56 ?_
      refine X_iconst (v := 0) C (by decide) dX6_node_59 ?_
      obtain ⟨o2, eo2, h⟩ := bnd_some h
      refine X_callVv C (n := 2) (As := [.ref (ad 2), .int (0 : Int32)]) (c_Paths_follow eo2) rfl gX6_node_X3_follow rfl rfl (xe_10 _ _ _ _ _) rfl rfl (by decide +kernel) ⟨Nat.le_of_ble_eq_true rfl, Nat.le_of_ble_eq_true rfl⟩ ⟨Nat.zero_le _, Nat.zero_le _⟩ rfl rfl (Nat.le_of_ble_eq_true rfl) dX6_node_60 ?_
      refine X_aload_n C 0 rfl rfl dX6_node_63 ?_
      refine X_get C 0 2 hi6_x_node hf23_x_node (xe_0 _ _ _ _ _) rfl (by decide) rfl dX6_node_64 ?_
      refine X_iload_n C 1 rfl rfl dX6_node_67 ?_
      obtain ⟨o3, eo3, h⟩ := bnd_some h
      refine X_callVi C (n := 1) (As := [.int a0]) (c_Paths_part eo3) rfl gX6_node_X3_part rfl rfl (xe_10 _ _ _ _ _) rfl rfl (by decide +kernel) ⟨Nat.le_of_ble_eq_true rfl, Nat.le_of_ble_eq_true rfl⟩ ⟨Nat.zero_le _, Nat.zero_le _⟩ rfl rfl (Nat.le_of_ble_eq_true rfl) dX6_node_68 ?_
      obtain rfl := Option.some.inj h
      exact hret _ _ dX6_node_71
    refine X_case h (fun hx1 h => ?_) (fun hx1 h => ?_)
    · refine X_tblIn C (tgt := 72) (by rw [hx1]; decide) (by rw [hx1]; decide) (by rw [hx1]; rfl) (by decide) dX6_node_17 ?_
      refine X_aload_n C 0 rfl rfl dX6_node_72 ?_
      refine X_get C 0 2 hi6_x_node hf23_x_node (xe_0 _ _ _ _ _) rfl (by decide) rfl dX6_node_73 ?_
      refine X_aload_n C 0 rfl rfl dX6_node_76 ?_
      refine X_get C 0 0 hi6_x_node hf10_x_node (xe_0 _ _ _ _ _) rfl (by decide) rfl dX6_node_77 ?_
      refine X_get C 1 0 hi0_x_node hf41_x_node (xe_1 _ _ _ _ _) rfl (by decide) rfl dX6_node_80 ?_
      refine X_ldc (v := 65535) C hc112_x_node dX6_node_83 ?_
      obtain ⟨o4, eo4, h⟩ := bnd_some h
      refine X_callVv C (n := 2) (As := [.ref (ad 2), .int (65535 : Int32)]) (c_Paths_follow eo4) rfl gX6_node_X3_follow rfl rfl (xe_10 _ _ _ _ _) rfl rfl (by decide +kernel) ⟨Nat.le_of_ble_eq_true rfl, Nat.le_of_ble_eq_true rfl⟩ ⟨Nat.zero_le _, Nat.zero_le _⟩ rfl rfl (Nat.le_of_ble_eq_true rfl) dX6_node_85 ?_
      refine X_aload_n C 0 rfl rfl dX6_node_88 ?_
      refine X_get C 0 2 hi6_x_node hf23_x_node (xe_0 _ _ _ _ _) rfl (by decide) rfl dX6_node_89 ?_
      refine X_iload_n C 1 rfl rfl dX6_node_92 ?_
      obtain ⟨o5, eo5, h⟩ := bnd_some h
      refine X_callVi C (n := 1) (As := [.int a0]) (c_Paths_part eo5) rfl gX6_node_X3_part rfl rfl (xe_10 _ _ _ _ _) rfl rfl (by decide +kernel) ⟨Nat.le_of_ble_eq_true rfl, Nat.le_of_ble_eq_true rfl⟩ ⟨Nat.zero_le _, Nat.zero_le _⟩ rfl rfl (Nat.le_of_ble_eq_true rfl) dX6_node_93 ?_
      obtain rfl := Option.some.inj h
      exact hret _ _ dX6_node_96
    refine X_case h (fun hx2 h => ?_) (fun hx2 h => ?_)
    · refine X_tblIn C (tgt := 97) (by rw [hx2]; decide) (by rw [hx2]; decide) (by rw [hx2]; rfl) (by decide) dX6_node_17 ?_
      refine X_aload_n C 0 rfl rfl dX6_node_97 ?_
      refine X_get C 0 2 hi6_x_node hf23_x_node (xe_0 _ _ _ _ _) rfl (by decide) rfl dX6_node_98 ?_
      refine X_aload_n C 0 rfl rfl dX6_node_101 ?_
      refine X_get C 0 0 hi6_x_node hf10_x_node (xe_0 _ _ _ _ _) rfl (by decide) rfl dX6_node_102 ?_
      refine X_get C 1 0 hi0_x_node hf41_x_node (xe_1 _ _ _ _ _) rfl (by decide) rfl dX6_node_105 ?_
      refine X_iconst (v := 0) C (by decide) dX6_node_108 ?_
      obtain ⟨o6, eo6, h⟩ := bnd_some h
      refine X_callVv C (n := 2) (As := [.ref (ad 2), .int (0 : Int32)]) (c_Paths_follow eo6) rfl gX6_node_X3_follow rfl rfl (xe_10 _ _ _ _ _) rfl rfl (by decide +kernel) ⟨Nat.le_of_ble_eq_true rfl, Nat.le_of_ble_eq_true rfl⟩ ⟨Nat.zero_le _, Nat.zero_le _⟩ rfl rfl (Nat.le_of_ble_eq_true rfl) dX6_node_109 ?_
      refine X_aload_n C 0 rfl rfl dX6_node_112 ?_
      refine X_get C 0 2 hi6_x_node hf23_x_node (xe_0 _ _ _ _ _) rfl (by decide) rfl dX6_node_113 ?_
      refine X_get C 10 0 hi3_x_node hf113_x_node (xe_10 _ _ _ _ _) rfl (by decide) rfl dX6_node_116 ?_
      refine X_iload_n C 1 rfl rfl dX6_node_119 ?_
      refine X_iald C 11 (xe_11 _ _ _ _ _) h dX6_node_120 (fun h => ?_)
      obtain rfl := Option.some.inj h
      exact hret _ _ dX6_node_121
    refine X_case h (fun hx3 h => ?_) (fun hx3 h => ?_)
    · refine X_tblIn C (tgt := 122) (by rw [hx3]; decide) (by rw [hx3]; decide) (by rw [hx3]; rfl) (by decide) dX6_node_17 ?_
      refine X_aload_n C 0 rfl rfl dX6_node_122 ?_
      refine X_get C 0 2 hi6_x_node hf23_x_node (xe_0 _ _ _ _ _) rfl (by decide) rfl dX6_node_123 ?_
      refine X_aload_n C 0 rfl rfl dX6_node_126 ?_
      refine X_get C 0 0 hi6_x_node hf10_x_node (xe_0 _ _ _ _ _) rfl (by decide) rfl dX6_node_127 ?_
      refine X_get C 1 0 hi0_x_node hf41_x_node (xe_1 _ _ _ _ _) rfl (by decide) rfl dX6_node_130 ?_
      refine X_iconst (v := 0) C (by decide) dX6_node_133 ?_
      obtain ⟨o7, eo7, h⟩ := bnd_some h
      refine X_callVv C (n := 2) (As := [.ref (ad 2), .int (0 : Int32)]) (c_Paths_follow eo7) rfl gX6_node_X3_follow rfl rfl (xe_10 _ _ _ _ _) rfl rfl (by decide +kernel) ⟨Nat.le_of_ble_eq_true rfl, Nat.le_of_ble_eq_true rfl⟩ ⟨Nat.zero_le _, Nat.zero_le _⟩ rfl rfl (Nat.le_of_ble_eq_true rfl) dX6_node_134 ?_
      refine X_aload_n C 0 rfl rfl dX6_node_137 ?_
      refine X_get C 0 2 hi6_x_node hf23_x_node (xe_0 _ _ _ _ _) rfl (by decide) rfl dX6_node_138 ?_
      refine X_get C 10 1 hi3_x_node hf116_x_node (xe_10 _ _ _ _ _) rfl (by decide) rfl dX6_node_141 ?_
      refine X_iload_n C 1 rfl rfl dX6_node_144 ?_
      refine X_iald C 12 (xe_12 _ _ _ _ _) h dX6_node_145 (fun h => ?_)
      obtain rfl := Option.some.inj h
      exact hret _ _ dX6_node_146
    have hx0t := lv_neT (a := 0) hx0 (by decide)
    have hx1t := lv_neT (a := 1) hx1 (by decide)
    have hx2t := lv_neT (a := 2) hx2 (by decide)
    have hx3t := lv_neT (a := 3) hx3 (by decide)
    refine X_tblOut C (tgt := 147) (by omega) (by decide) dX6_node_17 ?_
    refine X_iconst (v := (-1)) C (by decide) dX6_node_147 ?_
    obtain rfl := Option.some.inj h
    exact hret _ _ dX6_node_148
  · refine X_iconst (v := (-1)) C (by decide) dX6_node_14 ?_
    obtain rfl := Option.some.inj h
    exact hret _ _ dX6_node_15

abbrev rm_x_side : Room := { frames := 4, cells := 0, slots := 0, locals := 94 }
def j_x_side_13 (n : Nat) (σ : ST) : Option (Int32 × ST) :=
  some ((-1 : Int32), σ)
def j_x_side_67 (n : Nat) (σ : ST) (t0 : Int32) : Option (Int32 × ST) :=
  some (t0, σ)
def f_x_side (n : Nat) (σ : ST) (a0 : Int32) (a1 : Int32) : Option (Int32 × ST) :=
  if a0 < 0 then
    j_x_side_13 n σ
  else
    if a1 < 0 then
      j_x_side_13 n σ
    else
      if a1 ≤ (1 : Int32) then
        bnd (f_Sides_find n σ) fun o1 =>
        if a0 < (o1.1 832) then
          if a1 = 0 then
            grd (jin a0 256) <|
            j_x_side_67 n o1 (o1.2 14 (jix a0))
          else
            grd (jin a0 256) <|
            j_x_side_67 n o1 (o1.2 15 (jix a0))
        else
          some ((-1 : Int32), o1)
      else
        j_x_side_13 n σ
theorem hf142_x_side : Cond.fieldLink RX6 142 (TX5 1).1 (TX5 1).2.1 (TX5 1).2.2.1 ∈ wsX6_side := by decide +kernel
theorem hf145_x_side : Cond.fieldLink RX6 145 (TX5 2).1 (TX5 2).2.1 (TX5 2).2.2.1 ∈ wsX6_side := by decide +kernel
theorem hf134_x_side : Cond.fieldLink RX6 134 (TX5 0).1 (TX5 0).2.1 (TX5 0).2.2.1 ∈ wsX6_side := by decide +kernel
theorem hi5_x_side : ∀ w ∈ u_ws RX5 TX5 5, w ∈ wsX6_side := by decide +kernel
theorem hf41_x_side : Cond.fieldLink RX6 41 (TX0 0).1 (TX0 0).2.1 (TX0 0).2.2.1 ∈ wsX6_side := by decide +kernel
theorem hi0_x_side : ∀ w ∈ u_ws RX0 TX0 3, w ∈ wsX6_side := by decide +kernel
theorem hf10_x_side : Cond.fieldLink RX6 10 (TX6 0).1 (TX6 0).2.1 (TX6 0).2.2.1 ∈ wsX6_side := by decide +kernel
theorem hf30_x_side : Cond.fieldLink RX6 30 (TX6 3).1 (TX6 3).2.1 (TX6 3).2.2.1 ∈ wsX6_side := by decide +kernel
theorem hi6_x_side : ∀ w ∈ u_ws RX6 TX6 5, w ∈ wsX6_side := by decide +kernel
set_option maxHeartbeats 4000000 in
set_option maxRecDepth 100000 in
theorem wj_x_side_13 {l : Launch} {D : va_G} {cs : Nat → ClassId} {K : XK} {ad : Nat → Nat} {im : Nat → Option Nat} {rest : va_W} (C : XC D cs K 3 rm_x_side cX6_side RX6 wsX6_side (some .int)) {n : Nat} {σ : ST} {o : Int32 × ST} (h : j_x_side_13 n σ = some o) (hret : XRi l D K cX6_side o.1 (wX cs ad o.2 im rest)) : XW l D K 0 0 (wX cs ad σ im rest) 13 [] [] := by
  unfold j_x_side_13 at h
  refine X_iconst (v := (-1)) C (by decide) dX6_side_13 ?_
  obtain rfl := Option.some.inj h
  exact hret _ _ dX6_side_14
set_option maxHeartbeats 4000000 in
set_option maxRecDepth 100000 in
theorem wj_x_side_67 {l : Launch} {D : va_G} {cs : Nat → ClassId} {K : XK} {ad : Nat → Nat} {im : Nat → Option Nat} {rest : va_W} (C : XC D cs K 3 rm_x_side cX6_side RX6 wsX6_side (some .int)) {n : Nat} {σ : ST} {t0 : Int32} {o : Int32 × ST} (h : j_x_side_67 n σ t0 = some o) (hret : XRi l D K cX6_side o.1 (wX cs ad o.2 im rest)) : XW l D K 0 0 (wX cs ad σ im rest) 67 [] [.int t0] := by
  unfold j_x_side_67 at h
  obtain rfl := Option.some.inj h
  exact hret _ _ dX6_side_67
set_option maxHeartbeats 4000000 in
set_option maxRecDepth 100000 in
theorem c_x_side {l : Launch} {D : va_G} {cs : Nat → ClassId} {ad : Nat → Nat} {im : Nat → Option Nat} {rest : va_W} {n : Nat} {σ : ST} {a0 : Int32} {a1 : Int32} {o : Int32 × ST} (h : f_x_side n σ a0 a1 = some o) : CTi l D cs yX6_side wsX6_side rm_x_side [.ref (ad 0), .int a0, .int a1] (wX cs ad σ im rest) o.1 (wX cs ad o.2 im rest) := by
  refine CTi_of (cc := cX6_side) (nL := 3) (by decide) rfl (Nat.le_of_ble_eq_true rfl) ?_
  intro K C hret
  unfold f_x_side at h
  refine X_loc (vs1 := [(0, .ref (ad 0)), (1, .int a0), (2, .int a1)]) [0, 1, 2] rfl ?_
  refine X_iload_n C 1 rfl rfl dX6_side_0 ?_
  refine X_iflt C (tgt := 13) (by decide) dX6_side_1 h (fun h => ?_) (fun h => ?_)
  · refine X_loc (vs1 := []) [] rfl ?_
    exact wj_x_side_13 C h hret
  · refine X_iload_n C 2 rfl rfl dX6_side_4 ?_
    refine X_iflt C (tgt := 13) (by decide) dX6_side_5 h (fun h => ?_) (fun h => ?_)
    · refine X_loc (vs1 := []) [] rfl ?_
      exact wj_x_side_13 C h hret
    · refine X_iload_n C 2 rfl rfl dX6_side_8 ?_
      refine X_iconst (v := 1) C (by decide) dX6_side_9 ?_
      refine X_icmple C (tgt := 15) (by decide) dX6_side_10 h (fun h => ?_) (fun h => ?_)
      · refine X_aload_n C 0 rfl rfl dX6_side_15 ?_
        refine X_get C 0 3 hi6_x_side hf30_x_side (xe_0 _ _ _ _ _) rfl (by decide) rfl dX6_side_16 ?_
        refine X_aload_n C 0 rfl rfl dX6_side_19 ?_
        refine X_get C 0 0 hi6_x_side hf10_x_side (xe_0 _ _ _ _ _) rfl (by decide) rfl dX6_side_20 ?_
        refine X_get C 1 0 hi0_x_side hf41_x_side (xe_1 _ _ _ _ _) rfl (by decide) rfl dX6_side_23 ?_
        obtain ⟨o1, eo1, h⟩ := bnd_some h
        refine X_callVv C (n := 1) (As := [.ref (ad 2)]) (c_Sides_find eo1) rfl gX6_side_X5_find rfl rfl (xe_13 _ _ _ _ _) rfl rfl (by decide +kernel) ⟨Nat.le_of_ble_eq_true rfl, Nat.le_of_ble_eq_true rfl⟩ ⟨Nat.zero_le _, Nat.zero_le _⟩ rfl rfl (Nat.le_of_ble_eq_true rfl) dX6_side_26 ?_
        refine X_iload_n C 1 rfl rfl dX6_side_29 ?_
        refine X_aload_n C 0 rfl rfl dX6_side_30 ?_
        refine X_get C 0 3 hi6_x_side hf30_x_side (xe_0 _ _ _ _ _) rfl (by decide) rfl dX6_side_31 ?_
        refine X_get C 13 0 hi5_x_side hf134_x_side (xe_13 _ _ _ _ _) rfl (by decide) rfl dX6_side_34 ?_
        refine X_icmplt C (tgt := 42) (by decide) dX6_side_37 h (fun h => ?_) (fun h => ?_)
        · refine X_iload_n C 2 rfl rfl dX6_side_42 ?_
          refine X_ifne C (tgt := 58) (by decide) dX6_side_43 h (fun h => ?_) (fun h => ?_)
          · refine X_aload_n C 0 rfl rfl dX6_side_58 ?_
            refine X_get C 0 3 hi6_x_side hf30_x_side (xe_0 _ _ _ _ _) rfl (by decide) rfl dX6_side_59 ?_
            refine X_get C 13 2 hi5_x_side hf145_x_side (xe_13 _ _ _ _ _) rfl (by decide) rfl dX6_side_62 ?_
            refine X_iload_n C 1 rfl rfl dX6_side_65 ?_
            refine X_iald C 15 (xe_15 _ _ _ _ _) h dX6_side_66 (fun h => ?_)
            refine X_loc (vs1 := []) [] rfl ?_
            exact wj_x_side_67 C h hret
          · refine X_aload_n C 0 rfl rfl dX6_side_46 ?_
            refine X_get C 0 3 hi6_x_side hf30_x_side (xe_0 _ _ _ _ _) rfl (by decide) rfl dX6_side_47 ?_
            refine X_get C 13 1 hi5_x_side hf142_x_side (xe_13 _ _ _ _ _) rfl (by decide) rfl dX6_side_50 ?_
            refine X_iload_n C 1 rfl rfl dX6_side_53 ?_
            refine X_iald C 14 (xe_14 _ _ _ _ _) h dX6_side_54 (fun h => ?_)
            refine X_goto C (tgt := 67) (by decide) dX6_side_55 ?_
            refine X_loc (vs1 := []) [] rfl ?_
            exact wj_x_side_67 C h hret
        · refine X_iconst (v := (-1)) C (by decide) dX6_side_40 ?_
          obtain rfl := Option.some.inj h
          exact hret _ _ dX6_side_41
      · refine X_loc (vs1 := []) [] rfl ?_
        exact wj_x_side_13 C h hret

abbrev rm_x_bounds : Room := { frames := 3, cells := 0, slots := 0, locals := 66 }
def j_x_bounds_116 (n : Nat) (σ : ST) (t0 : Int32) : Option (Int32 × ST) :=
  some (t0, σ)
def f_x_bounds (n : Nat) (σ : ST) (a0 : Int32) (a1 : Int32) : Option (Int32 × ST) :=
  bnd (f_Net_hasArc n σ a0) fun o1 =>
  if o1 = 0 then
    some ((0 : Int32), σ)
  else
    grd (jin a0 16) <|
    grd (jin a0 16) <|
    bnd (f_Paths_follow n σ (0 : Int32)) fun o2 =>
    grd (jin (σ.2 4 (jix a0)) 8) <|
    bnd (f_contains n (o2.2 11 (jix (σ.2 4 (jix a0)))) (σ.2 3 (jix a0))) fun o3 =>
    if o3 = 0 then
      if a1 = 0 then
        grd (jin (σ.2 4 (jix a0)) 8) <|
        j_x_bounds_116 n o2 (o2.2 11 (jix (σ.2 4 (jix a0))))
      else
        bnd (f_Net_allNodes o2) fun o4 =>
        grd (jin (σ.2 3 (jix a0)) 8) <|
        j_x_bounds_116 n o2 (o4 &&& ((o2.2 12 (jix (σ.2 3 (jix a0)))) ^^^ (-1 : Int32)))
    else
      some ((0 : Int32), o2)
theorem hf116_x_bounds : Cond.fieldLink RX6 116 (TX3 1).1 (TX3 1).2.1 (TX3 1).2.2.1 ∈ wsX6_bounds := by decide +kernel
theorem hf113_x_bounds : Cond.fieldLink RX6 113 (TX3 0).1 (TX3 0).2.1 (TX3 0).2.2.1 ∈ wsX6_bounds := by decide +kernel
theorem hi3_x_bounds : ∀ w ∈ u_ws RX3 TX3 3, w ∈ wsX6_bounds := by decide +kernel
theorem hf23_x_bounds : Cond.fieldLink RX6 23 (TX6 2).1 (TX6 2).2.1 (TX6 2).2.2.1 ∈ wsX6_bounds := by decide +kernel
theorem hf91_x_bounds : Cond.fieldLink RX6 91 (TX2 3).1 (TX2 3).2.1 (TX2 3).2.2.1 ∈ wsX6_bounds := by decide +kernel
theorem hf88_x_bounds : Cond.fieldLink RX6 88 (TX2 2).1 (TX2 2).2.1 (TX2 2).2.2.1 ∈ wsX6_bounds := by decide +kernel
theorem hi2_x_bounds : ∀ w ∈ u_ws RX2 TX2 5, w ∈ wsX6_bounds := by decide +kernel
theorem hf41_x_bounds : Cond.fieldLink RX6 41 (TX0 0).1 (TX0 0).2.1 (TX0 0).2.2.1 ∈ wsX6_bounds := by decide +kernel
theorem hi0_x_bounds : ∀ w ∈ u_ws RX0 TX0 3, w ∈ wsX6_bounds := by decide +kernel
theorem hf10_x_bounds : Cond.fieldLink RX6 10 (TX6 0).1 (TX6 0).2.1 (TX6 0).2.2.1 ∈ wsX6_bounds := by decide +kernel
theorem hi6_x_bounds : ∀ w ∈ u_ws RX6 TX6 5, w ∈ wsX6_bounds := by decide +kernel
set_option maxHeartbeats 4000000 in
set_option maxRecDepth 100000 in
theorem wj_x_bounds_116 {l : Launch} {D : va_G} {cs : Nat → ClassId} {K : XK} {ad : Nat → Nat} {im : Nat → Option Nat} {rest : va_W} (C : XC D cs K 5 rm_x_bounds cX6_bounds RX6 wsX6_bounds (some .int)) {n : Nat} {σ : ST} {t0 : Int32} {o : Int32 × ST} (h : j_x_bounds_116 n σ t0 = some o) (hret : XRi l D K cX6_bounds o.1 (wX cs ad o.2 im rest)) : XW l D K 0 0 (wX cs ad σ im rest) 116 [] [.int t0] := by
  unfold j_x_bounds_116 at h
  obtain rfl := Option.some.inj h
  exact hret _ _ dX6_bounds_116
set_option maxHeartbeats 4000000 in
set_option maxRecDepth 100000 in
theorem c_x_bounds {l : Launch} {D : va_G} {cs : Nat → ClassId} {ad : Nat → Nat} {im : Nat → Option Nat} {rest : va_W} {n : Nat} {σ : ST} {a0 : Int32} {a1 : Int32} {o : Int32 × ST} (h : f_x_bounds n σ a0 a1 = some o) : CTi l D cs yX6_bounds wsX6_bounds rm_x_bounds [.ref (ad 0), .int a0, .int a1] (wX cs ad σ im rest) o.1 (wX cs ad o.2 im rest) := by
  refine CTi_of (cc := cX6_bounds) (nL := 5) (by decide) rfl (Nat.le_of_ble_eq_true rfl) ?_
  intro K C hret
  unfold f_x_bounds at h
  refine X_loc (vs1 := [(0, .ref (ad 0)), (1, .int a0), (2, .int a1)]) [0, 1, 2] rfl ?_
  refine X_aload_n C 0 rfl rfl dX6_bounds_0 ?_
  refine X_get C 0 0 hi6_x_bounds hf10_x_bounds (xe_0 _ _ _ _ _) rfl (by decide) rfl dX6_bounds_1 ?_
  refine X_get C 1 0 hi0_x_bounds hf41_x_bounds (xe_1 _ _ _ _ _) rfl (by decide) rfl dX6_bounds_4 ?_
  refine X_iload_n C 1 rfl rfl dX6_bounds_7 ?_
  obtain ⟨o1, eo1, h⟩ := bnd_some h
  refine X_callVi C (n := 1) (As := [.int a0]) (c_Net_hasArc eo1) rfl gX6_bounds_X2_hasArc rfl rfl (xe_2 _ _ _ _ _) rfl rfl (by decide +kernel) ⟨Nat.le_of_ble_eq_true rfl, Nat.le_of_ble_eq_true rfl⟩ ⟨Nat.zero_le _, Nat.zero_le _⟩ rfl rfl (Nat.le_of_ble_eq_true rfl) dX6_bounds_8 ?_
  refine X_ifne C (tgt := 16) (by decide) dX6_bounds_11 h (fun h => ?_) (fun h => ?_)
  · refine X_aload_n C 0 rfl rfl dX6_bounds_16 ?_
    refine X_get C 0 0 hi6_x_bounds hf10_x_bounds (xe_0 _ _ _ _ _) rfl (by decide) rfl dX6_bounds_17 ?_
    refine X_get C 1 0 hi0_x_bounds hf41_x_bounds (xe_1 _ _ _ _ _) rfl (by decide) rfl dX6_bounds_20 ?_
    refine X_get C 2 2 hi2_x_bounds hf88_x_bounds (xe_2 _ _ _ _ _) rfl (by decide) rfl dX6_bounds_23 ?_
    refine X_iload_n C 1 rfl rfl dX6_bounds_26 ?_
    refine X_iald C 3 (xe_3 _ _ _ _ _) h dX6_bounds_27 (fun h => ?_)
    refine X_istore_n (vs1 := [(3, .int (σ.2 3 (jix a0))), (0, .ref (ad 0)), (1, .int a0), (2, .int a1)]) C rfl (by decide) rfl dX6_bounds_28 ?_
    refine X_aload_n C 1 rfl rfl dX6_bounds_29 ?_
    refine X_get C 0 0 hi6_x_bounds hf10_x_bounds (xe_0 _ _ _ _ _) rfl (by decide) rfl dX6_bounds_30 ?_
    refine X_get C 1 0 hi0_x_bounds hf41_x_bounds (xe_1 _ _ _ _ _) rfl (by decide) rfl dX6_bounds_33 ?_
    refine X_get C 2 3 hi2_x_bounds hf91_x_bounds (xe_2 _ _ _ _ _) rfl (by decide) rfl dX6_bounds_36 ?_
    refine X_iload_n C 2 rfl rfl dX6_bounds_39 ?_
    refine X_iald C 4 (xe_4 _ _ _ _ _) h dX6_bounds_40 (fun h => ?_)
    refine X_istore (vs1 := [(4, .int (σ.2 4 (jix a0))), (3, .int (σ.2 3 (jix a0))), (0, .ref (ad 0)), (1, .int a0), (2, .int a1)]) C (by decide) rfl dX6_bounds_41 ?_
    refine X_aload_n C 2 rfl rfl dX6_bounds_43 ?_
    refine X_get C 0 2 hi6_x_bounds hf23_x_bounds (xe_0 _ _ _ _ _) rfl (by decide) rfl dX6_bounds_44 ?_
    refine X_aload_n C 2 rfl rfl dX6_bounds_47 ?_
    refine X_get C 0 0 hi6_x_bounds hf10_x_bounds (xe_0 _ _ _ _ _) rfl (by decide) rfl dX6_bounds_48 ?_
    refine X_get C 1 0 hi0_x_bounds hf41_x_bounds (xe_1 _ _ _ _ _) rfl (by decide) rfl dX6_bounds_51 ?_
    refine X_iconst (v := 0) C (by decide) dX6_bounds_54 ?_
    obtain ⟨o2, eo2, h⟩ := bnd_some h
    refine X_callVv C (n := 2) (As := [.ref (ad 2), .int (0 : Int32)]) (c_Paths_follow eo2) rfl gX6_bounds_X3_follow rfl rfl (xe_10 _ _ _ _ _) rfl rfl (by decide +kernel) ⟨Nat.le_of_ble_eq_true rfl, Nat.le_of_ble_eq_true rfl⟩ ⟨Nat.zero_le _, Nat.zero_le _⟩ rfl rfl (Nat.le_of_ble_eq_true rfl) dX6_bounds_55 ?_
    refine X_aload_n C 2 rfl rfl dX6_bounds_58 ?_
    refine X_get C 0 2 hi6_x_bounds hf23_x_bounds (xe_0 _ _ _ _ _) rfl (by decide) rfl dX6_bounds_59 ?_
    refine X_get C 10 0 hi3_x_bounds hf113_x_bounds (xe_10 _ _ _ _ _) rfl (by decide) rfl dX6_bounds_62 ?_
    refine X_iload C 0 rfl dX6_bounds_65 ?_
    refine X_iald C 11 (xe_11 _ _ _ _ _) h dX6_bounds_67 (fun h => ?_)
    refine X_iload_n C 1 rfl rfl dX6_bounds_68 ?_
    obtain ⟨o3, eo3, h⟩ := bnd_some h
    refine X_callSi C (n := 2) (As := [.int (o2.2 11 (jix (σ.2 4 (jix a0)))), .int (σ.2 3 (jix a0))]) (c_contains eo3) gX6_bounds_X6_contains rfl rfl rfl (by decide +kernel) ⟨Nat.le_of_ble_eq_true rfl, Nat.le_of_ble_eq_true rfl⟩ ⟨Nat.zero_le _, Nat.zero_le _⟩ rfl rfl (Nat.le_of_ble_eq_true rfl) dX6_bounds_69 ?_
    refine X_ifeq C (tgt := 77) (by decide) dX6_bounds_72 h (fun h => ?_) (fun h => ?_)
    · refine X_iload_n C 4 rfl rfl dX6_bounds_77 ?_
      refine X_ifeq C (tgt := 106) (by decide) dX6_bounds_78 h (fun h => ?_) (fun h => ?_)
      · refine X_aload_n C 2 rfl rfl dX6_bounds_106 ?_
        refine X_get C 0 2 hi6_x_bounds hf23_x_bounds (xe_0 _ _ _ _ _) rfl (by decide) rfl dX6_bounds_107 ?_
        refine X_get C 10 0 hi3_x_bounds hf113_x_bounds (xe_10 _ _ _ _ _) rfl (by decide) rfl dX6_bounds_110 ?_
        refine X_iload C 0 rfl dX6_bounds_113 ?_
        refine X_iald C 11 (xe_11 _ _ _ _ _) h dX6_bounds_115 (fun h => ?_)
        refine X_loc (vs1 := []) [] rfl ?_
        exact wj_x_bounds_116 C h hret
      · refine X_aload_n C 2 rfl rfl dX6_bounds_81 ?_
        refine X_get C 0 0 hi6_x_bounds hf10_x_bounds (xe_0 _ _ _ _ _) rfl (by decide) rfl dX6_bounds_82 ?_
        refine X_get C 1 0 hi0_x_bounds hf41_x_bounds (xe_1 _ _ _ _ _) rfl (by decide) rfl dX6_bounds_85 ?_
        obtain ⟨o4, eo4, h⟩ := bnd_some h
        refine X_callVi C (n := 0) (As := []) (c_Net_allNodes eo4) rfl gX6_bounds_X2_allNodes rfl rfl (xe_2 _ _ _ _ _) rfl rfl (by decide +kernel) ⟨Nat.le_of_ble_eq_true rfl, Nat.le_of_ble_eq_true rfl⟩ ⟨Nat.zero_le _, Nat.zero_le _⟩ rfl rfl (Nat.le_of_ble_eq_true rfl) dX6_bounds_88 ?_
        refine X_aload_n C 2 rfl rfl dX6_bounds_91 ?_
        refine X_get C 0 2 hi6_x_bounds hf23_x_bounds (xe_0 _ _ _ _ _) rfl (by decide) rfl dX6_bounds_92 ?_
        refine X_get C 10 1 hi3_x_bounds hf116_x_bounds (xe_10 _ _ _ _ _) rfl (by decide) rfl dX6_bounds_95 ?_
        refine X_iload_n C 1 rfl rfl dX6_bounds_98 ?_
        refine X_iald C 12 (xe_12 _ _ _ _ _) h dX6_bounds_99 (fun h => ?_)
        refine X_iconst (v := (-1)) C (by decide) dX6_bounds_100 ?_
        refine X_ixor C dX6_bounds_101 ?_
        refine X_iand C dX6_bounds_102 ?_
        refine X_goto C (tgt := 116) (by decide) dX6_bounds_103 ?_
        refine X_loc (vs1 := []) [] rfl ?_
        exact wj_x_bounds_116 C h hret
    · refine X_iconst (v := 0) C (by decide) dX6_bounds_75 ?_
      obtain rfl := Option.some.inj h
      exact hret _ _ dX6_bounds_76
  · refine X_iconst (v := 0) C (by decide) dX6_bounds_14 ?_
    obtain rfl := Option.some.inj h
    exact hret _ _ dX6_bounds_15

abbrev rm_x_isDijoin : Room := { frames := 4, cells := 0, slots := 0, locals := 94 }
def b_x_isDijoin_16 (n : Nat) (σ : ST) (v1 : Int32) (s : Int32) : Option ((Int32) ⊕ ((Unit) ⊕ (Int32 × ST))) :=
  if (σ.1 832) ≤ s then
    some (.inr (.inl ()))
  else
    grd (jin s 256) <|
    if ((σ.2 15 (jix s)) &&& v1) = 0 then
      some (.inr (.inr ((0 : Int32), σ)))
    else
      some (.inl (s + (1 : Int32)))
def f_x_isDijoin (n : Nat) (σ : ST) (a0 : Int32) : Option (Int32 × ST) :=
  bnd (f_Sides_find n σ) fun o1 =>
  bnd (lp (b_x_isDijoin_16 n o1 a0) n (0 : Int32)) fun e2 =>
  Sum.elim (fun t3 =>
    some ((1 : Int32), o1))
    (fun r => some r) e2
theorem hf145_x_isDijoin : Cond.fieldLink RX6 145 (TX5 2).1 (TX5 2).2.1 (TX5 2).2.2.1 ∈ wsX6_isDijoin := by decide +kernel
theorem hf134_x_isDijoin : Cond.fieldLink RX6 134 (TX5 0).1 (TX5 0).2.1 (TX5 0).2.2.1 ∈ wsX6_isDijoin := by decide +kernel
theorem hi5_x_isDijoin : ∀ w ∈ u_ws RX5 TX5 5, w ∈ wsX6_isDijoin := by decide +kernel
theorem hf41_x_isDijoin : Cond.fieldLink RX6 41 (TX0 0).1 (TX0 0).2.1 (TX0 0).2.2.1 ∈ wsX6_isDijoin := by decide +kernel
theorem hi0_x_isDijoin : ∀ w ∈ u_ws RX0 TX0 3, w ∈ wsX6_isDijoin := by decide +kernel
theorem hf10_x_isDijoin : Cond.fieldLink RX6 10 (TX6 0).1 (TX6 0).2.1 (TX6 0).2.2.1 ∈ wsX6_isDijoin := by decide +kernel
theorem hf30_x_isDijoin : Cond.fieldLink RX6 30 (TX6 3).1 (TX6 3).2.1 (TX6 3).2.2.1 ∈ wsX6_isDijoin := by decide +kernel
theorem hi6_x_isDijoin : ∀ w ∈ u_ws RX6 TX6 5, w ∈ wsX6_isDijoin := by decide +kernel
set_option maxHeartbeats 4000000 in
set_option maxRecDepth 100000 in
theorem wb_x_isDijoin_16 {l : Launch} {D : va_G} {cs : Nat → ClassId} {K : XK} {ad : Nat → Nat} {im : Nat → Option Nat} {rest : va_W} (C : XC D cs K 3 rm_x_isDijoin cX6_isDijoin RX6 wsX6_isDijoin (some .boolean)) {n : Nat} {σ : ST} {v1 : Int32} {e : ((Unit) ⊕ (Int32 × ST))} (kx : ∀ (t : Unit), e = .inl t → XW l D K 0 0 (wX cs ad σ im rest) 49 [] []) (kr : ∀ (t : Int32 × ST), e = .inr t → XRz l D K cX6_isDijoin t.1 (wX cs ad t.2 im rest)) : ∀ (q : Nat) (s : Int32), lp (b_x_isDijoin_16 n σ v1) q s = some e → XW l D K 0 0 (wX cs ad σ im rest) 16 [(0, .ref (ad 0)), (1, .int v1), (2, .int s)] [] := by
  refine lp_walk (G := fun (s : Int32) => XW l D K 0 0 (wX cs ad σ im rest) 16 [(0, .ref (ad 0)), (1, .int v1), (2, .int s)] []) ?_
  intro s o h kin kex
  unfold b_x_isDijoin_16 at h
  refine X_iload_n C 2 rfl rfl dX6_isDijoin_16 ?_
  refine X_aload_n C 0 rfl rfl dX6_isDijoin_17 ?_
  refine X_get C 0 3 hi6_x_isDijoin hf30_x_isDijoin (xe_0 _ _ _ _ _) rfl (by decide) rfl dX6_isDijoin_18 ?_
  refine X_get C 13 0 hi5_x_isDijoin hf134_x_isDijoin (xe_13 _ _ _ _ _) rfl (by decide) rfl dX6_isDijoin_21 ?_
  refine X_icmpge C (tgt := 49) (by decide) dX6_isDijoin_24 h (fun h => ?_) (fun h => ?_)
  · obtain rfl := Option.some.inj h
    refine X_loc (vs1 := []) [] rfl ?_
    exact kx _ (kex _ rfl).symm
  · refine X_aload_n C 0 rfl rfl dX6_isDijoin_27 ?_
    refine X_get C 0 3 hi6_x_isDijoin hf30_x_isDijoin (xe_0 _ _ _ _ _) rfl (by decide) rfl dX6_isDijoin_28 ?_
    refine X_get C 13 2 hi5_x_isDijoin hf145_x_isDijoin (xe_13 _ _ _ _ _) rfl (by decide) rfl dX6_isDijoin_31 ?_
    refine X_iload_n C 2 rfl rfl dX6_isDijoin_34 ?_
    refine X_iald C 15 (xe_15 _ _ _ _ _) h dX6_isDijoin_35 (fun h => ?_)
    refine X_iload_n C 1 rfl rfl dX6_isDijoin_36 ?_
    refine X_iand C dX6_isDijoin_37 ?_
    refine X_ifne C (tgt := 43) (by decide) dX6_isDijoin_38 h (fun h => ?_) (fun h => ?_)
    · refine X_iinc (v := s + (1 : Int32)) (vs1 := [(2, .int (s + (1 : Int32))), (0, .ref (ad 0)), (1, .int v1)]) C 2 rfl rfl (by decide) rfl dX6_isDijoin_43 ?_
      refine X_goto C (tgt := 16) (by decide) dX6_isDijoin_46 ?_
      obtain rfl := Option.some.inj h
      refine X_loc (vs1 := [(0, .ref (ad 0)), (1, .int v1), (2, .int (s + (1 : Int32)))]) [1, 2, 0] rfl ?_
      exact kin _ rfl
    · refine X_iconst (v := 0) C (by decide) dX6_isDijoin_41 ?_
      obtain rfl := Option.some.inj h
      exact kr _ (kex _ rfl).symm _ _ jz_0 dX6_isDijoin_42
set_option maxHeartbeats 4000000 in
set_option maxRecDepth 100000 in
theorem c_x_isDijoin {l : Launch} {D : va_G} {cs : Nat → ClassId} {ad : Nat → Nat} {im : Nat → Option Nat} {rest : va_W} {n : Nat} {σ : ST} {a0 : Int32} {o : Int32 × ST} (h : f_x_isDijoin n σ a0 = some o) : CTi l D cs yX6_isDijoin wsX6_isDijoin rm_x_isDijoin [.ref (ad 0), .int a0] (wX cs ad σ im rest) o.1 (wX cs ad o.2 im rest) := by
  refine CTz_of (cc := cX6_isDijoin) (nL := 3) (by decide) rfl (Nat.le_of_ble_eq_true rfl) ?_
  intro K C hret
  unfold f_x_isDijoin at h
  refine X_loc (vs1 := [(0, .ref (ad 0)), (1, .int a0)]) [0, 1] rfl ?_
  refine X_aload_n C 0 rfl rfl dX6_isDijoin_0 ?_
  refine X_get C 0 3 hi6_x_isDijoin hf30_x_isDijoin (xe_0 _ _ _ _ _) rfl (by decide) rfl dX6_isDijoin_1 ?_
  refine X_aload_n C 0 rfl rfl dX6_isDijoin_4 ?_
  refine X_get C 0 0 hi6_x_isDijoin hf10_x_isDijoin (xe_0 _ _ _ _ _) rfl (by decide) rfl dX6_isDijoin_5 ?_
  refine X_get C 1 0 hi0_x_isDijoin hf41_x_isDijoin (xe_1 _ _ _ _ _) rfl (by decide) rfl dX6_isDijoin_8 ?_
  obtain ⟨o1, eo1, h⟩ := bnd_some h
  refine X_callVv C (n := 1) (As := [.ref (ad 2)]) (c_Sides_find eo1) rfl gX6_isDijoin_X5_find rfl rfl (xe_13 _ _ _ _ _) rfl rfl (by decide +kernel) ⟨Nat.le_of_ble_eq_true rfl, Nat.le_of_ble_eq_true rfl⟩ ⟨Nat.zero_le _, Nat.zero_le _⟩ rfl rfl (Nat.le_of_ble_eq_true rfl) dX6_isDijoin_11 ?_
  refine X_iconst (v := 0) C (by decide) dX6_isDijoin_14 ?_
  refine X_istore_n (vs1 := [(2, .int (0 : Int32)), (0, .ref (ad 0)), (1, .int a0)]) C rfl (by decide) rfl dX6_isDijoin_15 ?_
  obtain ⟨e2, he2, h⟩ := bnd_some h
  refine X_loc (vs1 := [(0, .ref (ad 0)), (1, .int a0), (2, .int (0 : Int32))]) [1, 2, 0] rfl ?_
  refine wb_x_isDijoin_16 C (e := e2) (fun t3 ht => ?_) (fun r ht => ?_) n _ he2
  · subst ht
    dsimp only [Sum.elim] at h
    refine X_iconst (v := 1) C (by decide) dX6_isDijoin_49 ?_
    obtain rfl := Option.some.inj h
    exact hret _ _ jz_1 dX6_isDijoin_50
  · subst ht
    dsimp only [Sum.elim] at h
    obtain rfl := Option.some.inj h
    exact hret

abbrev rm_x_prepareSearch : Room := { frames := 4, cells := 0, slots := 0, locals := 94 }
def f_x_prepareSearch (n : Nat) (σ : ST) : Option (ST) :=
  bnd (f_Sides_find n σ) fun o1 =>
  bnd (f_Search_takeBorders n o1) fun o2 =>
  some o2
theorem hf37_x_prepareSearch : Cond.fieldLink RX6 37 (TX6 4).1 (TX6 4).2.1 (TX6 4).2.2.1 ∈ wsX6_prepareSearch := by decide +kernel
theorem hf41_x_prepareSearch : Cond.fieldLink RX6 41 (TX0 0).1 (TX0 0).2.1 (TX0 0).2.2.1 ∈ wsX6_prepareSearch := by decide +kernel
theorem hi0_x_prepareSearch : ∀ w ∈ u_ws RX0 TX0 3, w ∈ wsX6_prepareSearch := by decide +kernel
theorem hf10_x_prepareSearch : Cond.fieldLink RX6 10 (TX6 0).1 (TX6 0).2.1 (TX6 0).2.2.1 ∈ wsX6_prepareSearch := by decide +kernel
theorem hf30_x_prepareSearch : Cond.fieldLink RX6 30 (TX6 3).1 (TX6 3).2.1 (TX6 3).2.2.1 ∈ wsX6_prepareSearch := by decide +kernel
theorem hi6_x_prepareSearch : ∀ w ∈ u_ws RX6 TX6 5, w ∈ wsX6_prepareSearch := by decide +kernel
set_option maxHeartbeats 4000000 in
set_option maxRecDepth 100000 in
theorem c_x_prepareSearch {l : Launch} {D : va_G} {cs : Nat → ClassId} {ad : Nat → Nat} {im : Nat → Option Nat} {rest : va_W} {n : Nat} {σ : ST} {o : ST} (h : f_x_prepareSearch n σ = some o) : CTv l D cs yX6_prepareSearch wsX6_prepareSearch rm_x_prepareSearch [.ref (ad 0)] (wX cs ad σ im rest) (wX cs ad o im rest) := by
  refine CTv_of (cc := cX6_prepareSearch) (nL := 1) (by decide) rfl (Nat.le_of_ble_eq_true rfl) ?_
  intro K C hret
  unfold f_x_prepareSearch at h
  refine X_loc (vs1 := [(0, .ref (ad 0))]) [0] rfl ?_
  refine X_aload_n C 0 rfl rfl dX6_prepareSearch_0 ?_
  refine X_get C 0 3 hi6_x_prepareSearch hf30_x_prepareSearch (xe_0 _ _ _ _ _) rfl (by decide) rfl dX6_prepareSearch_1 ?_
  refine X_aload_n C 0 rfl rfl dX6_prepareSearch_4 ?_
  refine X_get C 0 0 hi6_x_prepareSearch hf10_x_prepareSearch (xe_0 _ _ _ _ _) rfl (by decide) rfl dX6_prepareSearch_5 ?_
  refine X_get C 1 0 hi0_x_prepareSearch hf41_x_prepareSearch (xe_1 _ _ _ _ _) rfl (by decide) rfl dX6_prepareSearch_8 ?_
  obtain ⟨o1, eo1, h⟩ := bnd_some h
  refine X_callVv C (n := 1) (As := [.ref (ad 2)]) (c_Sides_find eo1) rfl gX6_prepareSearch_X5_find rfl rfl (xe_13 _ _ _ _ _) rfl rfl (by decide +kernel) ⟨Nat.le_of_ble_eq_true rfl, Nat.le_of_ble_eq_true rfl⟩ ⟨Nat.zero_le _, Nat.zero_le _⟩ rfl rfl (Nat.le_of_ble_eq_true rfl) dX6_prepareSearch_11 ?_
  refine X_aload_n C 0 rfl rfl dX6_prepareSearch_14 ?_
  refine X_get C 0 4 hi6_x_prepareSearch hf37_x_prepareSearch (xe_0 _ _ _ _ _) rfl (by decide) rfl dX6_prepareSearch_15 ?_
  refine X_aload_n C 0 rfl rfl dX6_prepareSearch_18 ?_
  refine X_get C 0 3 hi6_x_prepareSearch hf30_x_prepareSearch (xe_0 _ _ _ _ _) rfl (by decide) rfl dX6_prepareSearch_19 ?_
  obtain ⟨o2, eo2, h⟩ := bnd_some h
  refine X_callVv C (n := 1) (As := [.ref (ad 13)]) (c_Search_takeBorders eo2) rfl gX6_prepareSearch_X4_takeBorders rfl rfl (xe_18 _ _ _ _ _) rfl rfl (by decide +kernel) ⟨Nat.le_of_ble_eq_true rfl, Nat.le_of_ble_eq_true rfl⟩ ⟨Nat.zero_le _, Nat.zero_le _⟩ rfl rfl (Nat.le_of_ble_eq_true rfl) dX6_prepareSearch_22 ?_
  obtain rfl := Option.some.inj h
  exact hret _ _ dX6_prepareSearch_25

abbrev rm_x_dijoin : Room := { frames := 23, cells := 0, slots := 0, locals := 1293 }
def f_x_dijoin (n : Nat) (σ : ST) : Option (Int32 × ST) :=
  bnd (f_x_isWhole n σ) fun o1 =>
  if o1.1 = 0 then
    some ((-1 : Int32), o1.2)
  else
    bnd (f_x_prepareSearch n o1.2) fun o2 =>
    bnd (f_Search_priceWithTies n o2) fun o3 =>
    bnd (f_Search_findBelow n o3 (2147483647 : Int32)) fun o4 =>
    nam (sS o4.2 66 (o4.2.1 1153)) fun σ5 =>
    bnd (f_sumOver_w n σ5 (σ5.1 1153)) fun o6 =>
    some (o6, σ5)
theorem hf84_x_dijoin : Cond.fieldLink RX6 84 (TX2 4).1 (TX2 4).2.1 (TX2 4).2.2.1 ∈ wsX6_dijoin := by decide +kernel
theorem hi2_x_dijoin : ∀ w ∈ u_ws RX2 TX2 5, w ∈ wsX6_dijoin := by decide +kernel
theorem hf51_x_dijoin : Cond.fieldLink RX6 51 (TX0 2).1 (TX0 2).2.1 (TX0 2).2.2.1 ∈ wsX6_dijoin := by decide +kernel
theorem hf168_x_dijoin : Cond.fieldLink RX6 168 (TX4 1).1 (TX4 1).2.1 (TX4 1).2.2.1 ∈ wsX6_dijoin := by decide +kernel
theorem hi4_x_dijoin : ∀ w ∈ u_ws RX4 TX4 10, w ∈ wsX6_dijoin := by decide +kernel
theorem hc164_x_dijoin : Cond.constant RX6 164 (2147483647) ∈ wsX6_dijoin := by decide +kernel
theorem hf41_x_dijoin : Cond.fieldLink RX6 41 (TX0 0).1 (TX0 0).2.1 (TX0 0).2.2.1 ∈ wsX6_dijoin := by decide +kernel
theorem hi0_x_dijoin : ∀ w ∈ u_ws RX0 TX0 3, w ∈ wsX6_dijoin := by decide +kernel
theorem hf10_x_dijoin : Cond.fieldLink RX6 10 (TX6 0).1 (TX6 0).2.1 (TX6 0).2.2.1 ∈ wsX6_dijoin := by decide +kernel
theorem hf37_x_dijoin : Cond.fieldLink RX6 37 (TX6 4).1 (TX6 4).2.1 (TX6 4).2.2.1 ∈ wsX6_dijoin := by decide +kernel
theorem hi6_x_dijoin : ∀ w ∈ u_ws RX6 TX6 5, w ∈ wsX6_dijoin := by decide +kernel
set_option maxHeartbeats 4000000 in
set_option maxRecDepth 100000 in
theorem c_x_dijoin {l : Launch} {D : va_G} {cs : Nat → ClassId} {ad : Nat → Nat} {im : Nat → Option Nat} {rest : va_W} {n : Nat} {σ : ST} {o : Int32 × ST} (h : f_x_dijoin n σ = some o) : CTi l D cs yX6_dijoin wsX6_dijoin rm_x_dijoin [.ref (ad 0)] (wX cs ad σ im rest) o.1 (wX cs ad o.2 im rest) := by
  refine CTi_of (cc := cX6_dijoin) (nL := 1) (by decide) rfl (Nat.le_of_ble_eq_true rfl) ?_
  intro K C hret
  unfold f_x_dijoin at h
  refine X_loc (vs1 := [(0, .ref (ad 0))]) [0] rfl ?_
  refine X_aload_n C 0 rfl rfl dX6_dijoin_0 ?_
  obtain ⟨o1, eo1, h⟩ := bnd_some h
  refine X_callVi C (n := 0) (As := []) (c_x_isWhole eo1) rfl gX6_dijoin_X6_isWhole rfl rfl (xe_0 _ _ _ _ _) rfl rfl (by decide +kernel) ⟨Nat.le_of_ble_eq_true rfl, Nat.le_of_ble_eq_true rfl⟩ ⟨Nat.zero_le _, Nat.zero_le _⟩ rfl rfl (Nat.le_of_ble_eq_true rfl) dX6_dijoin_1 ?_
  refine X_ifne C (tgt := 9) (by decide) dX6_dijoin_4 h (fun h => ?_) (fun h => ?_)
  · refine X_aload_n C 0 rfl rfl dX6_dijoin_9 ?_
    obtain ⟨o2, eo2, h⟩ := bnd_some h
    refine X_callVv C (n := 0) (As := []) (c_x_prepareSearch eo2) rfl gX6_dijoin_X6_prepareSearch rfl rfl (xe_0 _ _ _ _ _) rfl rfl (by decide +kernel) ⟨Nat.le_of_ble_eq_true rfl, Nat.le_of_ble_eq_true rfl⟩ ⟨Nat.zero_le _, Nat.zero_le _⟩ rfl rfl (Nat.le_of_ble_eq_true rfl) dX6_dijoin_10 ?_
    refine X_aload_n C 0 rfl rfl dX6_dijoin_13 ?_
    refine X_get C 0 4 hi6_x_dijoin hf37_x_dijoin (xe_0 _ _ _ _ _) rfl (by decide) rfl dX6_dijoin_14 ?_
    refine X_aload_n C 0 rfl rfl dX6_dijoin_17 ?_
    refine X_get C 0 0 hi6_x_dijoin hf10_x_dijoin (xe_0 _ _ _ _ _) rfl (by decide) rfl dX6_dijoin_18 ?_
    refine X_get C 1 0 hi0_x_dijoin hf41_x_dijoin (xe_1 _ _ _ _ _) rfl (by decide) rfl dX6_dijoin_21 ?_
    obtain ⟨o3, eo3, h⟩ := bnd_some h
    refine X_callVv C (n := 1) (As := [.ref (ad 2)]) (c_Search_priceWithTies eo3) rfl gX6_dijoin_X4_priceWithTies rfl rfl (xe_18 _ _ _ _ _) rfl rfl (by decide +kernel) ⟨Nat.le_of_ble_eq_true rfl, Nat.le_of_ble_eq_true rfl⟩ ⟨Nat.zero_le _, Nat.zero_le _⟩ rfl rfl (Nat.le_of_ble_eq_true rfl) dX6_dijoin_24 ?_
    refine X_aload_n C 0 rfl rfl dX6_dijoin_27 ?_
    refine X_get C 0 4 hi6_x_dijoin hf37_x_dijoin (xe_0 _ _ _ _ _) rfl (by decide) rfl dX6_dijoin_28 ?_
    refine X_ldc (v := 2147483647) C hc164_x_dijoin dX6_dijoin_31 ?_
    obtain ⟨o4, eo4, h⟩ := bnd_some h
    refine X_callVi C (n := 1) (As := [.int (2147483647 : Int32)]) (c_Search_findBelow eo4) rfl gX6_dijoin_X4_findBelow rfl rfl (xe_18 _ _ _ _ _) rfl rfl (by decide +kernel) ⟨Nat.le_of_ble_eq_true rfl, Nat.le_of_ble_eq_true rfl⟩ ⟨Nat.zero_le _, Nat.zero_le _⟩ rfl rfl (Nat.le_of_ble_eq_true rfl) dX6_dijoin_33 ?_
    refine X_pop C rfl dX6_dijoin_36 ?_
    refine X_aload_n C 0 rfl rfl dX6_dijoin_37 ?_
    refine X_get C 0 0 hi6_x_dijoin hf10_x_dijoin (xe_0 _ _ _ _ _) rfl (by decide) rfl dX6_dijoin_38 ?_
    refine X_aload_n C 0 rfl rfl dX6_dijoin_41 ?_
    refine X_get C 0 4 hi6_x_dijoin hf37_x_dijoin (xe_0 _ _ _ _ _) rfl (by decide) rfl dX6_dijoin_42 ?_
    refine X_get C 18 1 hi4_x_dijoin hf168_x_dijoin (xe_18 _ _ _ _ _) rfl (by decide) rfl dX6_dijoin_45 ?_
    refine X_put (ty := .int) C 1 2 hi0_x_dijoin hf51_x_dijoin tyX0 tyX0_ok nmX0 (xe_1 _ _ _ _ _) rfl (by decide) rfl (by decide +kernel) rfl rfl (Nat.le_of_ble_eq_true rfl) (xs_1_2 _ _ _ _ _ _) dX6_dijoin_48 ?_
    refine X_nam (G := fun σ5 => XW l D K 0 0 (wX cs ad σ5 im rest) 51 [(0, .ref (ad 0))] []) h (fun σ5 h => ?_)
    refine X_aload_n C 0 rfl rfl dX6_dijoin_51 ?_
    refine X_get C 0 0 hi6_x_dijoin hf10_x_dijoin (xe_0 _ _ _ _ _) rfl (by decide) rfl dX6_dijoin_52 ?_
    refine X_get C 1 0 hi0_x_dijoin hf41_x_dijoin (xe_1 _ _ _ _ _) rfl (by decide) rfl dX6_dijoin_55 ?_
    refine X_get C 2 4 hi2_x_dijoin hf84_x_dijoin (xe_2 _ _ _ _ _) rfl (by decide) rfl dX6_dijoin_58 ?_
    refine X_aload_n C 0 rfl rfl dX6_dijoin_61 ?_
    refine X_get C 0 4 hi6_x_dijoin hf37_x_dijoin (xe_0 _ _ _ _ _) rfl (by decide) rfl dX6_dijoin_62 ?_
    refine X_get C 18 1 hi4_x_dijoin hf168_x_dijoin (xe_18 _ _ _ _ _) rfl (by decide) rfl dX6_dijoin_65 ?_
    obtain ⟨o6, eo6, h⟩ := bnd_some h
    refine X_callSi C (n := 2) (As := [.ref (ad 5), .int (σ5.1 1153)]) (c_sumOver_w eo6) gX6_dijoin_X6_sumOver rfl rfl rfl (by decide +kernel) ⟨Nat.le_of_ble_eq_true rfl, Nat.le_of_ble_eq_true rfl⟩ ⟨Nat.zero_le _, Nat.zero_le _⟩ rfl rfl (Nat.le_of_ble_eq_true rfl) dX6_dijoin_68 ?_
    obtain rfl := Option.some.inj h
    exact hret _ _ dX6_dijoin_71
  · refine X_iconst (v := (-1)) C (by decide) dX6_dijoin_7 ?_
    obtain rfl := Option.some.inj h
    exact hret _ _ dX6_dijoin_8

abbrev rm_x_chosen : Room := { frames := 0, cells := 0, slots := 0, locals := 0 }
def f_x_chosen (σ : ST) : Option (Int32) :=
  some (σ.1 66)
theorem hf51_x_chosen : Cond.fieldLink RX6 51 (TX0 2).1 (TX0 2).2.1 (TX0 2).2.2.1 ∈ wsX6_chosen := by decide +kernel
theorem hi0_x_chosen : ∀ w ∈ u_ws RX0 TX0 3, w ∈ wsX6_chosen := by decide +kernel
theorem hf10_x_chosen : Cond.fieldLink RX6 10 (TX6 0).1 (TX6 0).2.1 (TX6 0).2.2.1 ∈ wsX6_chosen := by decide +kernel
theorem hi6_x_chosen : ∀ w ∈ u_ws RX6 TX6 5, w ∈ wsX6_chosen := by decide +kernel
set_option maxHeartbeats 4000000 in
set_option maxRecDepth 100000 in
theorem c_x_chosen {l : Launch} {D : va_G} {cs : Nat → ClassId} {ad : Nat → Nat} {im : Nat → Option Nat} {rest : va_W} {σ : ST} {o : Int32} (h : f_x_chosen σ = some o) : CTi l D cs yX6_chosen wsX6_chosen rm_x_chosen [.ref (ad 0)] (wX cs ad σ im rest) o (wX cs ad σ im rest) := by
  refine CTi_of (cc := cX6_chosen) (nL := 1) (by decide) rfl (Nat.le_of_ble_eq_true rfl) ?_
  intro K C hret
  unfold f_x_chosen at h
  refine X_loc (vs1 := [(0, .ref (ad 0))]) [0] rfl ?_
  refine X_aload_n C 0 rfl rfl dX6_chosen_0 ?_
  refine X_get C 0 0 hi6_x_chosen hf10_x_chosen (xe_0 _ _ _ _ _) rfl (by decide) rfl dX6_chosen_1 ?_
  refine X_get C 1 2 hi0_x_chosen hf51_x_chosen (xe_1 _ _ _ _ _) rfl (by decide) rfl dX6_chosen_4 ?_
  obtain rfl := Option.some.inj h
  exact hret _ _ dX6_chosen_7

abbrev rm_x_cost : Room := { frames := 23, cells := 0, slots := 0, locals := 1293 }
def j_x_cost_33 (n : Nat) (σ : ST) : Option (Int32 × ST) :=
  some ((-1 : Int32), σ)
def j_x_cost_85 (n : Nat) (σ : ST) (t0 : Int32) : Option (Int32 × ST) :=
  some (t0, σ)
def j_x_cost_26 (n : Nat) (σ : ST) (v1 : Int32) (v2 : Int32) : Option (Int32 × ST) :=
  bnd (f_x_isWhole n σ) fun o2 =>
  if o2.1 = 0 then
    j_x_cost_33 n o2.2
  else
    bnd (f_x_prepareSearch n o2.2) fun o3 =>
    bnd (f_Search_priceByWeight o3) fun o4 =>
    bnd (f_Search_reprice n o4 v1 v2) fun o5 =>
    bnd (f_Search_findBelow n o5 (2147483647 : Int32)) fun o6 =>
    if o6.1 = 0 then
      j_x_cost_85 n o6.2 (-1 : Int32)
    else
      j_x_cost_85 n o6.2 (o6.2.1 1152)
def f_x_cost (n : Nat) (σ : ST) (a0 : Int32) (a1 : Int32) : Option (Int32 × ST) :=
  bnd (f_Net_hasArc n σ a0) fun o1 =>
  if o1 = 0 then
    j_x_cost_33 n σ
  else
    if a1 = (-1 : Int32) then
      j_x_cost_26 n σ a0 a1
    else
      bnd (f_isWeight n a1) fun o7 =>
      if o7 = 0 then
        j_x_cost_33 n σ
      else
        j_x_cost_26 n σ a0 a1
theorem hf181_x_cost : Cond.fieldLink RX6 181 (TX4 0).1 (TX4 0).2.1 (TX4 0).2.2.1 ∈ wsX6_cost := by decide +kernel
theorem hi4_x_cost : ∀ w ∈ u_ws RX4 TX4 10, w ∈ wsX6_cost := by decide +kernel
theorem hc164_x_cost : Cond.constant RX6 164 (2147483647) ∈ wsX6_cost := by decide +kernel
theorem hf37_x_cost : Cond.fieldLink RX6 37 (TX6 4).1 (TX6 4).2.1 (TX6 4).2.2.1 ∈ wsX6_cost := by decide +kernel
theorem hf41_x_cost : Cond.fieldLink RX6 41 (TX0 0).1 (TX0 0).2.1 (TX0 0).2.2.1 ∈ wsX6_cost := by decide +kernel
theorem hi0_x_cost : ∀ w ∈ u_ws RX0 TX0 3, w ∈ wsX6_cost := by decide +kernel
theorem hf10_x_cost : Cond.fieldLink RX6 10 (TX6 0).1 (TX6 0).2.1 (TX6 0).2.2.1 ∈ wsX6_cost := by decide +kernel
theorem hi6_x_cost : ∀ w ∈ u_ws RX6 TX6 5, w ∈ wsX6_cost := by decide +kernel
set_option maxHeartbeats 4000000 in
set_option maxRecDepth 100000 in
theorem wj_x_cost_33 {l : Launch} {D : va_G} {cs : Nat → ClassId} {K : XK} {ad : Nat → Nat} {im : Nat → Option Nat} {rest : va_W} (C : XC D cs K 3 rm_x_cost cX6_cost RX6 wsX6_cost (some .int)) {n : Nat} {σ : ST} {o : Int32 × ST} (h : j_x_cost_33 n σ = some o) (hret : XRi l D K cX6_cost o.1 (wX cs ad o.2 im rest)) : XW l D K 0 0 (wX cs ad σ im rest) 33 [] [] := by
  unfold j_x_cost_33 at h
  refine X_iconst (v := (-1)) C (by decide) dX6_cost_33 ?_
  obtain rfl := Option.some.inj h
  exact hret _ _ dX6_cost_34
set_option maxHeartbeats 4000000 in
set_option maxRecDepth 100000 in
theorem wj_x_cost_85 {l : Launch} {D : va_G} {cs : Nat → ClassId} {K : XK} {ad : Nat → Nat} {im : Nat → Option Nat} {rest : va_W} (C : XC D cs K 3 rm_x_cost cX6_cost RX6 wsX6_cost (some .int)) {n : Nat} {σ : ST} {t0 : Int32} {o : Int32 × ST} (h : j_x_cost_85 n σ t0 = some o) (hret : XRi l D K cX6_cost o.1 (wX cs ad o.2 im rest)) : XW l D K 0 0 (wX cs ad σ im rest) 85 [] [.int t0] := by
  unfold j_x_cost_85 at h
  obtain rfl := Option.some.inj h
  exact hret _ _ dX6_cost_85
set_option maxHeartbeats 4000000 in
set_option maxRecDepth 100000 in
theorem wj_x_cost_26 {l : Launch} {D : va_G} {cs : Nat → ClassId} {K : XK} {ad : Nat → Nat} {im : Nat → Option Nat} {rest : va_W} (C : XC D cs K 3 rm_x_cost cX6_cost RX6 wsX6_cost (some .int)) {n : Nat} {σ : ST} {v1 : Int32} {v2 : Int32} {o : Int32 × ST} (h : j_x_cost_26 n σ v1 v2 = some o) (hret : XRi l D K cX6_cost o.1 (wX cs ad o.2 im rest)) : XW l D K 0 0 (wX cs ad σ im rest) 26 [(0, .ref (ad 0)), (1, .int v1), (2, .int v2)] [] := by
  unfold j_x_cost_26 at h
  refine X_aload_n C 0 rfl rfl dX6_cost_26 ?_
  obtain ⟨o2, eo2, h⟩ := bnd_some h
  refine X_callVi C (n := 0) (As := []) (c_x_isWhole eo2) rfl gX6_cost_X6_isWhole rfl rfl (xe_0 _ _ _ _ _) rfl rfl (by decide +kernel) ⟨Nat.le_of_ble_eq_true rfl, Nat.le_of_ble_eq_true rfl⟩ ⟨Nat.zero_le _, Nat.zero_le _⟩ rfl rfl (Nat.le_of_ble_eq_true rfl) dX6_cost_27 ?_
  refine X_ifne C (tgt := 35) (by decide) dX6_cost_30 h (fun h => ?_) (fun h => ?_)
  · refine X_aload_n C 0 rfl rfl dX6_cost_35 ?_
    obtain ⟨o3, eo3, h⟩ := bnd_some h
    refine X_callVv C (n := 0) (As := []) (c_x_prepareSearch eo3) rfl gX6_cost_X6_prepareSearch rfl rfl (xe_0 _ _ _ _ _) rfl rfl (by decide +kernel) ⟨Nat.le_of_ble_eq_true rfl, Nat.le_of_ble_eq_true rfl⟩ ⟨Nat.zero_le _, Nat.zero_le _⟩ rfl rfl (Nat.le_of_ble_eq_true rfl) dX6_cost_36 ?_
    refine X_aload_n C 0 rfl rfl dX6_cost_39 ?_
    refine X_get C 0 4 hi6_x_cost hf37_x_cost (xe_0 _ _ _ _ _) rfl (by decide) rfl dX6_cost_40 ?_
    refine X_aload_n C 0 rfl rfl dX6_cost_43 ?_
    refine X_get C 0 0 hi6_x_cost hf10_x_cost (xe_0 _ _ _ _ _) rfl (by decide) rfl dX6_cost_44 ?_
    refine X_get C 1 0 hi0_x_cost hf41_x_cost (xe_1 _ _ _ _ _) rfl (by decide) rfl dX6_cost_47 ?_
    obtain ⟨o4, eo4, h⟩ := bnd_some h
    refine X_callVv C (n := 1) (As := [.ref (ad 2)]) (c_Search_priceByWeight eo4) rfl gX6_cost_X4_priceByWeight rfl rfl (xe_18 _ _ _ _ _) rfl rfl (by decide +kernel) ⟨Nat.le_of_ble_eq_true rfl, Nat.le_of_ble_eq_true rfl⟩ ⟨Nat.zero_le _, Nat.zero_le _⟩ rfl rfl (Nat.le_of_ble_eq_true rfl) dX6_cost_50 ?_
    refine X_aload_n C 0 rfl rfl dX6_cost_53 ?_
    refine X_get C 0 4 hi6_x_cost hf37_x_cost (xe_0 _ _ _ _ _) rfl (by decide) rfl dX6_cost_54 ?_
    refine X_iload_n C 1 rfl rfl dX6_cost_57 ?_
    refine X_iload_n C 2 rfl rfl dX6_cost_58 ?_
    obtain ⟨o5, eo5, h⟩ := bnd_some h
    refine X_callVv C (n := 2) (As := [.int v1, .int v2]) (c_Search_reprice eo5) rfl gX6_cost_X4_reprice rfl rfl (xe_18 _ _ _ _ _) rfl rfl (by decide +kernel) ⟨Nat.le_of_ble_eq_true rfl, Nat.le_of_ble_eq_true rfl⟩ ⟨Nat.zero_le _, Nat.zero_le _⟩ rfl rfl (Nat.le_of_ble_eq_true rfl) dX6_cost_59 ?_
    refine X_aload_n C 0 rfl rfl dX6_cost_62 ?_
    refine X_get C 0 4 hi6_x_cost hf37_x_cost (xe_0 _ _ _ _ _) rfl (by decide) rfl dX6_cost_63 ?_
    refine X_ldc (v := 2147483647) C hc164_x_cost dX6_cost_66 ?_
    obtain ⟨o6, eo6, h⟩ := bnd_some h
    refine X_callVi C (n := 1) (As := [.int (2147483647 : Int32)]) (c_Search_findBelow eo6) rfl gX6_cost_X4_findBelow rfl rfl (xe_18 _ _ _ _ _) rfl rfl (by decide +kernel) ⟨Nat.le_of_ble_eq_true rfl, Nat.le_of_ble_eq_true rfl⟩ ⟨Nat.zero_le _, Nat.zero_le _⟩ rfl rfl (Nat.le_of_ble_eq_true rfl) dX6_cost_68 ?_
    refine X_ifeq C (tgt := 84) (by decide) dX6_cost_71 h (fun h => ?_) (fun h => ?_)
    · refine X_iconst (v := (-1)) C (by decide) dX6_cost_84 ?_
      refine X_loc (vs1 := []) [] rfl ?_
      exact wj_x_cost_85 C h hret
    · refine X_aload_n C 0 rfl rfl dX6_cost_74 ?_
      refine X_get C 0 4 hi6_x_cost hf37_x_cost (xe_0 _ _ _ _ _) rfl (by decide) rfl dX6_cost_75 ?_
      refine X_get C 18 0 hi4_x_cost hf181_x_cost (xe_18 _ _ _ _ _) rfl (by decide) rfl dX6_cost_78 ?_
      refine X_goto C (tgt := 85) (by decide) dX6_cost_81 ?_
      refine X_loc (vs1 := []) [] rfl ?_
      exact wj_x_cost_85 C h hret
  · refine X_loc (vs1 := []) [] rfl ?_
    exact wj_x_cost_33 C h hret
set_option maxHeartbeats 4000000 in
set_option maxRecDepth 100000 in
theorem c_x_cost {l : Launch} {D : va_G} {cs : Nat → ClassId} {ad : Nat → Nat} {im : Nat → Option Nat} {rest : va_W} {n : Nat} {σ : ST} {a0 : Int32} {a1 : Int32} {o : Int32 × ST} (h : f_x_cost n σ a0 a1 = some o) : CTi l D cs yX6_cost wsX6_cost rm_x_cost [.ref (ad 0), .int a0, .int a1] (wX cs ad σ im rest) o.1 (wX cs ad o.2 im rest) := by
  refine CTi_of (cc := cX6_cost) (nL := 3) (by decide) rfl (Nat.le_of_ble_eq_true rfl) ?_
  intro K C hret
  unfold f_x_cost at h
  refine X_loc (vs1 := [(0, .ref (ad 0)), (1, .int a0), (2, .int a1)]) [0, 1, 2] rfl ?_
  refine X_aload_n C 0 rfl rfl dX6_cost_0 ?_
  refine X_get C 0 0 hi6_x_cost hf10_x_cost (xe_0 _ _ _ _ _) rfl (by decide) rfl dX6_cost_1 ?_
  refine X_get C 1 0 hi0_x_cost hf41_x_cost (xe_1 _ _ _ _ _) rfl (by decide) rfl dX6_cost_4 ?_
  refine X_iload_n C 1 rfl rfl dX6_cost_7 ?_
  obtain ⟨o1, eo1, h⟩ := bnd_some h
  refine X_callVi C (n := 1) (As := [.int a0]) (c_Net_hasArc eo1) rfl gX6_cost_X2_hasArc rfl rfl (xe_2 _ _ _ _ _) rfl rfl (by decide +kernel) ⟨Nat.le_of_ble_eq_true rfl, Nat.le_of_ble_eq_true rfl⟩ ⟨Nat.zero_le _, Nat.zero_le _⟩ rfl rfl (Nat.le_of_ble_eq_true rfl) dX6_cost_8 ?_
  refine X_ifeq C (tgt := 33) (by decide) dX6_cost_11 h (fun h => ?_) (fun h => ?_)
  · refine X_loc (vs1 := []) [] rfl ?_
    exact wj_x_cost_33 C h hret
  · refine X_iload_n C 2 rfl rfl dX6_cost_14 ?_
    refine X_iconst (v := (-1)) C (by decide) dX6_cost_15 ?_
    refine X_icmpeq C (tgt := 26) (by decide) dX6_cost_16 h (fun h => ?_) (fun h => ?_)
    · exact wj_x_cost_26 C h hret
    · refine X_iload_n C 2 rfl rfl dX6_cost_19 ?_
      obtain ⟨o7, eo7, h⟩ := bnd_some h
      refine X_callSi C (n := 1) (As := [.int a1]) (c_isWeight eo7) gX6_cost_X6_isWeight rfl rfl rfl (by decide +kernel) ⟨Nat.le_of_ble_eq_true rfl, Nat.le_of_ble_eq_true rfl⟩ ⟨Nat.zero_le _, Nat.zero_le _⟩ rfl rfl (Nat.le_of_ble_eq_true rfl) dX6_cost_20 ?_
      refine X_ifeq C (tgt := 33) (by decide) dX6_cost_23 h (fun h => ?_) (fun h => ?_)
      · refine X_loc (vs1 := []) [] rfl ?_
        exact wj_x_cost_33 C h hret
      · exact wj_x_cost_26 C h hret

abbrev rm_x_packing : Room := { frames := 24, cells := 0, slots := 0, locals := 1318 }
def b_x_packing_69 (n : Nat) (v1 : Int32) (s : ST × Int32 × Int32) : Option ((ST × Int32 × Int32) ⊕ (ST)) :=
  if (s.1.1 832) ≤ s.2.2 then
    some (.inr s.1)
  else
    if s.2.1 ≤ 0 then
      some (.inr s.1)
    else
      grd (jin s.2.2 256) <|
      bnd (f_Search_mostTimes n s.1 (s.1.2 15 (jix s.2.2)) s.2.1) fun o6 =>
      grd (jin s.2.2 256) <|
      bnd (f_Search_spend n o6.2 (o6.2.2 15 (jix s.2.2)) o6.1) fun o7 =>
      grd (jin s.2.2 256) <|
      grd (jin s.2.2 256) <|
      bnd (f_Fam_change n o7 (o7.2 14 (jix s.2.2)) (o7.2 15 (jix s.2.2)) o6.1) fun o8 =>
      some (.inl (o8, s.2.1 - o6.1, s.2.2 + (1 : Int32)))
def f_x_packing (n : Nat) (σ : ST) : Option (Int32 × ST) :=
  bnd (f_x_isWhole n σ) fun o1 =>
  if o1.1 = 0 then
    some ((-1 : Int32), o1.2)
  else
    bnd (f_x_prepareSearch n o1.2) fun o2 =>
    bnd (f_Search_priceByWeight o2) fun o3 =>
    bnd (f_Search_findBelow n o3 (2147483647 : Int32)) fun o4 =>
    bnd (f_Fam_open n o4.2 (o4.2.1 128)) fun o5 =>
    bnd (lp (b_x_packing_69 n (o4.2.1 1152)) n (o5, o4.2.1 1152, (0 : Int32))) fun e9 =>
    some (o4.2.1 1152, e9)
theorem hf142_x_packing : Cond.fieldLink RX6 142 (TX5 1).1 (TX5 1).2.1 (TX5 1).2.2.1 ∈ wsX6_packing := by decide +kernel
theorem hf145_x_packing : Cond.fieldLink RX6 145 (TX5 2).1 (TX5 2).2.1 (TX5 2).2.2.1 ∈ wsX6_packing := by decide +kernel
theorem hf134_x_packing : Cond.fieldLink RX6 134 (TX5 0).1 (TX5 0).2.1 (TX5 0).2.2.1 ∈ wsX6_packing := by decide +kernel
theorem hi5_x_packing : ∀ w ∈ u_ws RX5 TX5 5, w ∈ wsX6_packing := by decide +kernel
theorem hf30_x_packing : Cond.fieldLink RX6 30 (TX6 3).1 (TX6 3).2.1 (TX6 3).2.2.1 ∈ wsX6_packing := by decide +kernel
theorem hf98_x_packing : Cond.fieldLink RX6 98 (TX2 0).1 (TX2 0).2.1 (TX2 0).2.2.1 ∈ wsX6_packing := by decide +kernel
theorem hi2_x_packing : ∀ w ∈ u_ws RX2 TX2 5, w ∈ wsX6_packing := by decide +kernel
theorem hf55_x_packing : Cond.fieldLink RX6 55 (TX0 1).1 (TX0 1).2.1 (TX0 1).2.2.1 ∈ wsX6_packing := by decide +kernel
theorem hf181_x_packing : Cond.fieldLink RX6 181 (TX4 0).1 (TX4 0).2.1 (TX4 0).2.2.1 ∈ wsX6_packing := by decide +kernel
theorem hi4_x_packing : ∀ w ∈ u_ws RX4 TX4 10, w ∈ wsX6_packing := by decide +kernel
theorem hc164_x_packing : Cond.constant RX6 164 (2147483647) ∈ wsX6_packing := by decide +kernel
theorem hf41_x_packing : Cond.fieldLink RX6 41 (TX0 0).1 (TX0 0).2.1 (TX0 0).2.2.1 ∈ wsX6_packing := by decide +kernel
theorem hi0_x_packing : ∀ w ∈ u_ws RX0 TX0 3, w ∈ wsX6_packing := by decide +kernel
theorem hf10_x_packing : Cond.fieldLink RX6 10 (TX6 0).1 (TX6 0).2.1 (TX6 0).2.2.1 ∈ wsX6_packing := by decide +kernel
theorem hf37_x_packing : Cond.fieldLink RX6 37 (TX6 4).1 (TX6 4).2.1 (TX6 4).2.2.1 ∈ wsX6_packing := by decide +kernel
theorem hi6_x_packing : ∀ w ∈ u_ws RX6 TX6 5, w ∈ wsX6_packing := by decide +kernel
set_option maxHeartbeats 4000000 in
set_option maxRecDepth 100000 in
theorem wb_x_packing_69 {l : Launch} {D : va_G} {cs : Nat → ClassId} {K : XK} {ad : Nat → Nat} {im : Nat → Option Nat} {rest : va_W} (C : XC D cs K 5 rm_x_packing cX6_packing RX6 wsX6_packing (some .int)) {n : Nat} {v1 : Int32} {e : (ST)} (kx : ∀ (t : ST), e = t → XW l D K 0 0 (wX cs ad t im rest) 162 [(1, .int v1)] []) : ∀ (q : Nat) (s : ST × Int32 × Int32), lp (b_x_packing_69 n v1) q s = some e → XW l D K 0 0 (wX cs ad s.1 im rest) 69 [(0, .ref (ad 0)), (1, .int v1), (2, .int s.2.1), (3, .int s.2.2)] [] := by
  refine lp_walk (G := fun (s : ST × Int32 × Int32) => XW l D K 0 0 (wX cs ad s.1 im rest) 69 [(0, .ref (ad 0)), (1, .int v1), (2, .int s.2.1), (3, .int s.2.2)] []) ?_
  intro s o h kin kex
  unfold b_x_packing_69 at h
  refine X_iload_n C 3 rfl rfl dX6_packing_69 ?_
  refine X_aload_n C 0 rfl rfl dX6_packing_70 ?_
  refine X_get C 0 3 hi6_x_packing hf30_x_packing (xe_0 _ _ _ _ _) rfl (by decide) rfl dX6_packing_71 ?_
  refine X_get C 13 0 hi5_x_packing hf134_x_packing (xe_13 _ _ _ _ _) rfl (by decide) rfl dX6_packing_74 ?_
  refine X_icmpge C (tgt := 162) (by decide) dX6_packing_77 h (fun h => ?_) (fun h => ?_)
  · obtain rfl := Option.some.inj h
    refine X_loc (vs1 := [(1, .int v1)]) [1] rfl ?_
    exact kx _ (kex _ rfl).symm
  · refine X_iload_n C 2 rfl rfl dX6_packing_80 ?_
    refine X_ifle C (tgt := 162) (by decide) dX6_packing_81 h (fun h => ?_) (fun h => ?_)
    · obtain rfl := Option.some.inj h
      refine X_loc (vs1 := [(1, .int v1)]) [1] rfl ?_
      exact kx _ (kex _ rfl).symm
    · refine X_aload_n C 0 rfl rfl dX6_packing_84 ?_
      refine X_get C 0 4 hi6_x_packing hf37_x_packing (xe_0 _ _ _ _ _) rfl (by decide) rfl dX6_packing_85 ?_
      refine X_aload_n C 0 rfl rfl dX6_packing_88 ?_
      refine X_get C 0 3 hi6_x_packing hf30_x_packing (xe_0 _ _ _ _ _) rfl (by decide) rfl dX6_packing_89 ?_
      refine X_get C 13 2 hi5_x_packing hf145_x_packing (xe_13 _ _ _ _ _) rfl (by decide) rfl dX6_packing_92 ?_
      refine X_iload_n C 3 rfl rfl dX6_packing_95 ?_
      refine X_iald C 15 (xe_15 _ _ _ _ _) h dX6_packing_96 (fun h => ?_)
      refine X_iload_n C 2 rfl rfl dX6_packing_97 ?_
      obtain ⟨o6, eo6, h⟩ := bnd_some h
      refine X_callVi C (n := 2) (As := [.int (s.1.2 15 (jix s.2.2)), .int s.2.1]) (c_Search_mostTimes eo6) rfl gX6_packing_X4_mostTimes rfl rfl (xe_18 _ _ _ _ _) rfl rfl (by decide +kernel) ⟨Nat.le_of_ble_eq_true rfl, Nat.le_of_ble_eq_true rfl⟩ ⟨Nat.zero_le _, Nat.zero_le _⟩ rfl rfl (Nat.le_of_ble_eq_true rfl) dX6_packing_98 ?_
      refine X_istore (vs1 := [(4, .int o6.1), (0, .ref (ad 0)), (1, .int v1), (2, .int s.2.1), (3, .int s.2.2)]) C (by decide) rfl dX6_packing_101 ?_
      refine X_aload_n C 1 rfl rfl dX6_packing_103 ?_
      refine X_get C 0 4 hi6_x_packing hf37_x_packing (xe_0 _ _ _ _ _) rfl (by decide) rfl dX6_packing_104 ?_
      refine X_aload_n C 1 rfl rfl dX6_packing_107 ?_
      refine X_get C 0 3 hi6_x_packing hf30_x_packing (xe_0 _ _ _ _ _) rfl (by decide) rfl dX6_packing_108 ?_
      refine X_get C 13 2 hi5_x_packing hf145_x_packing (xe_13 _ _ _ _ _) rfl (by decide) rfl dX6_packing_111 ?_
      refine X_iload_n C 4 rfl rfl dX6_packing_114 ?_
      refine X_iald C 15 (xe_15 _ _ _ _ _) h dX6_packing_115 (fun h => ?_)
      refine X_iload C 0 rfl dX6_packing_116 ?_
      obtain ⟨o7, eo7, h⟩ := bnd_some h
      refine X_callVv C (n := 2) (As := [.int (o6.2.2 15 (jix s.2.2)), .int o6.1]) (c_Search_spend eo7) rfl gX6_packing_X4_spend rfl rfl (xe_18 _ _ _ _ _) rfl rfl (by decide +kernel) ⟨Nat.le_of_ble_eq_true rfl, Nat.le_of_ble_eq_true rfl⟩ ⟨Nat.zero_le _, Nat.zero_le _⟩ rfl rfl (Nat.le_of_ble_eq_true rfl) dX6_packing_118 ?_
      refine X_aload_n C 1 rfl rfl dX6_packing_121 ?_
      refine X_get C 0 0 hi6_x_packing hf10_x_packing (xe_0 _ _ _ _ _) rfl (by decide) rfl dX6_packing_122 ?_
      refine X_get C 1 1 hi0_x_packing hf55_x_packing (xe_1 _ _ _ _ _) rfl (by decide) rfl dX6_packing_125 ?_
      refine X_aload_n C 1 rfl rfl dX6_packing_128 ?_
      refine X_get C 0 3 hi6_x_packing hf30_x_packing (xe_0 _ _ _ _ _) rfl (by decide) rfl dX6_packing_129 ?_
      refine X_get C 13 1 hi5_x_packing hf142_x_packing (xe_13 _ _ _ _ _) rfl (by decide) rfl dX6_packing_132 ?_
      refine X_iload_n C 4 rfl rfl dX6_packing_135 ?_
      refine X_iald C 14 (xe_14 _ _ _ _ _) h dX6_packing_136 (fun h => ?_)
      refine X_aload_n C 1 rfl rfl dX6_packing_137 ?_
      refine X_get C 0 3 hi6_x_packing hf30_x_packing (xe_0 _ _ _ _ _) rfl (by decide) rfl dX6_packing_138 ?_
      refine X_get C 13 2 hi5_x_packing hf145_x_packing (xe_13 _ _ _ _ _) rfl (by decide) rfl dX6_packing_141 ?_
      refine X_iload_n C 4 rfl rfl dX6_packing_144 ?_
      refine X_iald C 15 (xe_15 _ _ _ _ _) h dX6_packing_145 (fun h => ?_)
      refine X_iload C 0 rfl dX6_packing_146 ?_
      obtain ⟨o8, eo8, h⟩ := bnd_some h
      refine X_callVv C (n := 3) (As := [.int (o7.2 14 (jix s.2.2)), .int (o7.2 15 (jix s.2.2)), .int o6.1]) (c_Fam_change eo8) rfl gX6_packing_X1_change rfl rfl (xe_6 _ _ _ _ _) rfl rfl (by decide +kernel) ⟨Nat.le_of_ble_eq_true rfl, Nat.le_of_ble_eq_true rfl⟩ ⟨Nat.zero_le _, Nat.zero_le _⟩ rfl rfl (Nat.le_of_ble_eq_true rfl) dX6_packing_148 ?_
      refine X_iload_n C 3 rfl rfl dX6_packing_151 ?_
      refine X_iload C 0 rfl dX6_packing_152 ?_
      refine X_isub C dX6_packing_154 ?_
      refine X_istore_n (vs1 := [(2, .int (s.2.1 - o6.1)), (4, .int o6.1), (0, .ref (ad 0)), (1, .int v1), (3, .int s.2.2)]) C rfl (by decide) rfl dX6_packing_155 ?_
      refine X_iinc (v := s.2.2 + (1 : Int32)) (vs1 := [(3, .int (s.2.2 + (1 : Int32))), (2, .int (s.2.1 - o6.1)), (4, .int o6.1), (0, .ref (ad 0)), (1, .int v1)]) C 4 rfl rfl (by decide) rfl dX6_packing_156 ?_
      refine X_goto C (tgt := 69) (by decide) dX6_packing_159 ?_
      obtain rfl := Option.some.inj h
      refine X_loc (vs1 := [(0, .ref (ad 0)), (1, .int v1), (2, .int (s.2.1 - o6.1)), (3, .int (s.2.2 + (1 : Int32)))]) [3, 4, 1, 0] rfl ?_
      exact kin _ rfl
set_option maxHeartbeats 4000000 in
set_option maxRecDepth 100000 in
theorem c_x_packing {l : Launch} {D : va_G} {cs : Nat → ClassId} {ad : Nat → Nat} {im : Nat → Option Nat} {rest : va_W} {n : Nat} {σ : ST} {o : Int32 × ST} (h : f_x_packing n σ = some o) : CTi l D cs yX6_packing wsX6_packing rm_x_packing [.ref (ad 0)] (wX cs ad σ im rest) o.1 (wX cs ad o.2 im rest) := by
  refine CTi_of (cc := cX6_packing) (nL := 5) (by decide) rfl (Nat.le_of_ble_eq_true rfl) ?_
  intro K C hret
  unfold f_x_packing at h
  refine X_loc (vs1 := [(0, .ref (ad 0))]) [0] rfl ?_
  refine X_aload_n C 0 rfl rfl dX6_packing_0 ?_
  obtain ⟨o1, eo1, h⟩ := bnd_some h
  refine X_callVi C (n := 0) (As := []) (c_x_isWhole eo1) rfl gX6_packing_X6_isWhole rfl rfl (xe_0 _ _ _ _ _) rfl rfl (by decide +kernel) ⟨Nat.le_of_ble_eq_true rfl, Nat.le_of_ble_eq_true rfl⟩ ⟨Nat.zero_le _, Nat.zero_le _⟩ rfl rfl (Nat.le_of_ble_eq_true rfl) dX6_packing_1 ?_
  refine X_ifne C (tgt := 9) (by decide) dX6_packing_4 h (fun h => ?_) (fun h => ?_)
  · refine X_aload_n C 0 rfl rfl dX6_packing_9 ?_
    obtain ⟨o2, eo2, h⟩ := bnd_some h
    refine X_callVv C (n := 0) (As := []) (c_x_prepareSearch eo2) rfl gX6_packing_X6_prepareSearch rfl rfl (xe_0 _ _ _ _ _) rfl rfl (by decide +kernel) ⟨Nat.le_of_ble_eq_true rfl, Nat.le_of_ble_eq_true rfl⟩ ⟨Nat.zero_le _, Nat.zero_le _⟩ rfl rfl (Nat.le_of_ble_eq_true rfl) dX6_packing_10 ?_
    refine X_aload_n C 0 rfl rfl dX6_packing_13 ?_
    refine X_get C 0 4 hi6_x_packing hf37_x_packing (xe_0 _ _ _ _ _) rfl (by decide) rfl dX6_packing_14 ?_
    refine X_aload_n C 0 rfl rfl dX6_packing_17 ?_
    refine X_get C 0 0 hi6_x_packing hf10_x_packing (xe_0 _ _ _ _ _) rfl (by decide) rfl dX6_packing_18 ?_
    refine X_get C 1 0 hi0_x_packing hf41_x_packing (xe_1 _ _ _ _ _) rfl (by decide) rfl dX6_packing_21 ?_
    obtain ⟨o3, eo3, h⟩ := bnd_some h
    refine X_callVv C (n := 1) (As := [.ref (ad 2)]) (c_Search_priceByWeight eo3) rfl gX6_packing_X4_priceByWeight rfl rfl (xe_18 _ _ _ _ _) rfl rfl (by decide +kernel) ⟨Nat.le_of_ble_eq_true rfl, Nat.le_of_ble_eq_true rfl⟩ ⟨Nat.zero_le _, Nat.zero_le _⟩ rfl rfl (Nat.le_of_ble_eq_true rfl) dX6_packing_24 ?_
    refine X_aload_n C 0 rfl rfl dX6_packing_27 ?_
    refine X_get C 0 4 hi6_x_packing hf37_x_packing (xe_0 _ _ _ _ _) rfl (by decide) rfl dX6_packing_28 ?_
    refine X_ldc (v := 2147483647) C hc164_x_packing dX6_packing_31 ?_
    obtain ⟨o4, eo4, h⟩ := bnd_some h
    refine X_callVi C (n := 1) (As := [.int (2147483647 : Int32)]) (c_Search_findBelow eo4) rfl gX6_packing_X4_findBelow rfl rfl (xe_18 _ _ _ _ _) rfl rfl (by decide +kernel) ⟨Nat.le_of_ble_eq_true rfl, Nat.le_of_ble_eq_true rfl⟩ ⟨Nat.zero_le _, Nat.zero_le _⟩ rfl rfl (Nat.le_of_ble_eq_true rfl) dX6_packing_33 ?_
    refine X_pop C rfl dX6_packing_36 ?_
    refine X_aload_n C 0 rfl rfl dX6_packing_37 ?_
    refine X_get C 0 4 hi6_x_packing hf37_x_packing (xe_0 _ _ _ _ _) rfl (by decide) rfl dX6_packing_38 ?_
    refine X_get C 18 0 hi4_x_packing hf181_x_packing (xe_18 _ _ _ _ _) rfl (by decide) rfl dX6_packing_41 ?_
    refine X_istore_n (vs1 := [(1, .int (o4.2.1 1152)), (0, .ref (ad 0))]) C rfl (by decide) rfl dX6_packing_44 ?_
    refine X_aload_n C 1 rfl rfl dX6_packing_45 ?_
    refine X_get C 0 0 hi6_x_packing hf10_x_packing (xe_0 _ _ _ _ _) rfl (by decide) rfl dX6_packing_46 ?_
    refine X_get C 1 1 hi0_x_packing hf55_x_packing (xe_1 _ _ _ _ _) rfl (by decide) rfl dX6_packing_49 ?_
    refine X_aload_n C 1 rfl rfl dX6_packing_52 ?_
    refine X_get C 0 0 hi6_x_packing hf10_x_packing (xe_0 _ _ _ _ _) rfl (by decide) rfl dX6_packing_53 ?_
    refine X_get C 1 0 hi0_x_packing hf41_x_packing (xe_1 _ _ _ _ _) rfl (by decide) rfl dX6_packing_56 ?_
    refine X_get C 2 0 hi2_x_packing hf98_x_packing (xe_2 _ _ _ _ _) rfl (by decide) rfl dX6_packing_59 ?_
    obtain ⟨o5, eo5, h⟩ := bnd_some h
    refine X_callVv C (n := 1) (As := [.int (o4.2.1 128)]) (c_Fam_open eo5) rfl gX6_packing_X1_open rfl rfl (xe_6 _ _ _ _ _) rfl rfl (by decide +kernel) ⟨Nat.le_of_ble_eq_true rfl, Nat.le_of_ble_eq_true rfl⟩ ⟨Nat.zero_le _, Nat.zero_le _⟩ rfl rfl (Nat.le_of_ble_eq_true rfl) dX6_packing_62 ?_
    refine X_iload_n C 0 rfl rfl dX6_packing_65 ?_
    refine X_istore_n (vs1 := [(2, .int (o4.2.1 1152)), (1, .int (o4.2.1 1152)), (0, .ref (ad 0))]) C rfl (by decide) rfl dX6_packing_66 ?_
    refine X_iconst (v := 0) C (by decide) dX6_packing_67 ?_
    refine X_istore_n (vs1 := [(3, .int (0 : Int32)), (2, .int (o4.2.1 1152)), (1, .int (o4.2.1 1152)), (0, .ref (ad 0))]) C rfl (by decide) rfl dX6_packing_68 ?_
    obtain ⟨e9, he9, h⟩ := bnd_some h
    refine X_loc (vs1 := [(0, .ref (ad 0)), (1, .int (o4.2.1 1152)), (2, .int (o4.2.1 1152)), (3, .int (0 : Int32))]) [3, 2, 1, 0] rfl ?_
    refine wb_x_packing_69 C (e := e9) (fun t ht => ?_) n _ he9
    subst ht
    refine X_iload_n C 0 rfl rfl dX6_packing_162 ?_
    obtain rfl := Option.some.inj h
    exact hret _ _ dX6_packing_163
  · refine X_iconst (v := (-1)) C (by decide) dX6_packing_7 ?_
    obtain rfl := Option.some.inj h
    exact hret _ _ dX6_packing_8

abbrev rm_x_draw : Room := { frames := 4, cells := 0, slots := 0, locals := 86 }
def j_x_draw_46 (n : Nat) (σ : ST) : Option (Int32 × ST) :=
  some ((-1 : Int32), σ)
def j_x_draw_76 (n : Nat) (σ : ST) : Option (Int32 × ST) :=
  some ((-1 : Int32), σ)
def j_x_draw_99 (n : Nat) (σ : ST) (v1 : Int32) (v2 : Int32) : Option (Int32 × ST) :=
  bnd (f_Net_entering n σ v1) fun o2 =>
  bnd (f_Fam_change n σ v1 o2 v2) fun o3 =>
  grd (jin v1 256) <|
  some (o3.2 7 (jix v1), o3)
def j_x_draw_48 (n : Nat) (σ : ST) (v1 : Int32) (v2 : Int32) : Option (Int32 × ST) :=
  grd (jin v1 256) <|
  if (lg_cmp (((σ.2 7 (jix v1)).toInt64) + v2.toInt64) (0 : Int64)) < 0 then
    j_x_draw_76 n σ
  else
    if (lg_cmp (((σ.2 7 (jix v1)).toInt64) + v2.toInt64) (1000 : Int64)) ≤ 0 then
      if (σ.1 384) = 0 then
        bnd (f_Fam_open n σ (σ.1 128)) fun o4 =>
        j_x_draw_99 n o4 v1 v2
      else
        j_x_draw_99 n σ v1 v2
    else
      j_x_draw_76 n σ
def f_x_draw (n : Nat) (σ : ST) (a0 : Int32) (a1 : Int32) : Option (Int32 × ST) :=
  bnd (f_Net_isSide n σ a0) fun o1 =>
  if o1 = 0 then
    j_x_draw_46 n σ
  else
    if (σ.1 384) = 0 then
      j_x_draw_48 n σ a0 a1
    else
      if (σ.1 385) = (σ.1 128) then
        j_x_draw_48 n σ a0 a1
      else
        j_x_draw_46 n σ
theorem hf205_x_draw : Cond.fieldLink RX6 205 (TX1 1).1 (TX1 1).2.1 (TX1 1).2.2.1 ∈ wsX6_draw := by decide +kernel
theorem hf98_x_draw : Cond.fieldLink RX6 98 (TX2 0).1 (TX2 0).2.1 (TX2 0).2.2.1 ∈ wsX6_draw := by decide +kernel
theorem hi2_x_draw : ∀ w ∈ u_ws RX2 TX2 5, w ∈ wsX6_draw := by decide +kernel
theorem hc209_x_draw : Cond.constantLong RX6 209 (1000) ∈ wsX6_draw := by decide +kernel
theorem hf206_x_draw : Cond.fieldLink RX6 206 (TX1 2).1 (TX1 2).2.1 (TX1 2).2.2.1 ∈ wsX6_draw := by decide +kernel
theorem hf201_x_draw : Cond.fieldLink RX6 201 (TX1 0).1 (TX1 0).2.1 (TX1 0).2.2.1 ∈ wsX6_draw := by decide +kernel
theorem hi1_x_draw : ∀ w ∈ u_ws RX1 TX1 4, w ∈ wsX6_draw := by decide +kernel
theorem hf41_x_draw : Cond.fieldLink RX6 41 (TX0 0).1 (TX0 0).2.1 (TX0 0).2.2.1 ∈ wsX6_draw := by decide +kernel
theorem hf55_x_draw : Cond.fieldLink RX6 55 (TX0 1).1 (TX0 1).2.1 (TX0 1).2.2.1 ∈ wsX6_draw := by decide +kernel
theorem hi0_x_draw : ∀ w ∈ u_ws RX0 TX0 3, w ∈ wsX6_draw := by decide +kernel
theorem hf10_x_draw : Cond.fieldLink RX6 10 (TX6 0).1 (TX6 0).2.1 (TX6 0).2.2.1 ∈ wsX6_draw := by decide +kernel
theorem hi6_x_draw : ∀ w ∈ u_ws RX6 TX6 5, w ∈ wsX6_draw := by decide +kernel
set_option maxHeartbeats 4000000 in
set_option maxRecDepth 100000 in
theorem wj_x_draw_46 {l : Launch} {D : va_G} {cs : Nat → ClassId} {K : XK} {ad : Nat → Nat} {im : Nat → Option Nat} {rest : va_W} (C : XC D cs K 6 rm_x_draw cX6_draw RX6 wsX6_draw (some .int)) {n : Nat} {σ : ST} {o : Int32 × ST} (h : j_x_draw_46 n σ = some o) (hret : XRi l D K cX6_draw o.1 (wX cs ad o.2 im rest)) : XW l D K 0 0 (wX cs ad σ im rest) 46 [] [] := by
  unfold j_x_draw_46 at h
  refine X_iconst (v := (-1)) C (by decide) dX6_draw_46 ?_
  obtain rfl := Option.some.inj h
  exact hret _ _ dX6_draw_47
set_option maxHeartbeats 4000000 in
set_option maxRecDepth 100000 in
theorem wj_x_draw_76 {l : Launch} {D : va_G} {cs : Nat → ClassId} {K : XK} {ad : Nat → Nat} {im : Nat → Option Nat} {rest : va_W} (C : XC D cs K 6 rm_x_draw cX6_draw RX6 wsX6_draw (some .int)) {n : Nat} {σ : ST} {o : Int32 × ST} (h : j_x_draw_76 n σ = some o) (hret : XRi l D K cX6_draw o.1 (wX cs ad o.2 im rest)) : XW l D K 0 0 (wX cs ad σ im rest) 76 [] [] := by
  unfold j_x_draw_76 at h
  refine X_iconst (v := (-1)) C (by decide) dX6_draw_76 ?_
  obtain rfl := Option.some.inj h
  exact hret _ _ dX6_draw_77
set_option maxHeartbeats 4000000 in
set_option maxRecDepth 100000 in
theorem wj_x_draw_99 {l : Launch} {D : va_G} {cs : Nat → ClassId} {K : XK} {ad : Nat → Nat} {im : Nat → Option Nat} {rest : va_W} (C : XC D cs K 6 rm_x_draw cX6_draw RX6 wsX6_draw (some .int)) {n : Nat} {σ : ST} {v1 : Int32} {v2 : Int32} {o : Int32 × ST} (h : j_x_draw_99 n σ v1 v2 = some o) (hret : XRi l D K cX6_draw o.1 (wX cs ad o.2 im rest)) : XW l D K 0 0 (wX cs ad σ im rest) 99 [(0, .ref (ad 0)), (1, .int v1), (2, .int v2), (3, .ref (ad 6))] [] := by
  unfold j_x_draw_99 at h
  refine X_aload_n C 3 rfl rfl dX6_draw_99 ?_
  refine X_iload_n C 1 rfl rfl dX6_draw_100 ?_
  refine X_aload_n C 0 rfl rfl dX6_draw_101 ?_
  refine X_get C 0 0 hi6_x_draw hf10_x_draw (xe_0 _ _ _ _ _) rfl (by decide) rfl dX6_draw_102 ?_
  refine X_get C 1 0 hi0_x_draw hf41_x_draw (xe_1 _ _ _ _ _) rfl (by decide) rfl dX6_draw_105 ?_
  refine X_iload_n C 1 rfl rfl dX6_draw_108 ?_
  obtain ⟨o2, eo2, h⟩ := bnd_some h
  refine X_callVi C (n := 1) (As := [.int v1]) (c_Net_entering eo2) rfl gX6_draw_X2_entering rfl rfl (xe_2 _ _ _ _ _) rfl rfl (by decide +kernel) ⟨Nat.le_of_ble_eq_true rfl, Nat.le_of_ble_eq_true rfl⟩ ⟨Nat.zero_le _, Nat.zero_le _⟩ rfl rfl (Nat.le_of_ble_eq_true rfl) dX6_draw_109 ?_
  refine X_iload_n C 2 rfl rfl dX6_draw_112 ?_
  obtain ⟨o3, eo3, h⟩ := bnd_some h
  refine X_callVv C (n := 3) (As := [.int v1, .int o2, .int v2]) (c_Fam_change eo3) rfl gX6_draw_X1_change rfl rfl (xe_6 _ _ _ _ _) rfl rfl (by decide +kernel) ⟨Nat.le_of_ble_eq_true rfl, Nat.le_of_ble_eq_true rfl⟩ ⟨Nat.zero_le _, Nat.zero_le _⟩ rfl rfl (Nat.le_of_ble_eq_true rfl) dX6_draw_113 ?_
  refine X_aload_n C 3 rfl rfl dX6_draw_116 ?_
  refine X_get C 6 2 hi1_x_draw hf206_x_draw (xe_6 _ _ _ _ _) rfl (by decide) rfl dX6_draw_117 ?_
  refine X_iload_n C 1 rfl rfl dX6_draw_120 ?_
  refine X_iald C 7 (xe_7 _ _ _ _ _) h dX6_draw_121 (fun h => ?_)
  obtain rfl := Option.some.inj h
  exact hret _ _ dX6_draw_122
set_option maxHeartbeats 4000000 in
set_option maxRecDepth 100000 in
theorem wj_x_draw_48 {l : Launch} {D : va_G} {cs : Nat → ClassId} {K : XK} {ad : Nat → Nat} {im : Nat → Option Nat} {rest : va_W} (C : XC D cs K 6 rm_x_draw cX6_draw RX6 wsX6_draw (some .int)) {n : Nat} {σ : ST} {v1 : Int32} {v2 : Int32} {o : Int32 × ST} (h : j_x_draw_48 n σ v1 v2 = some o) (hret : XRi l D K cX6_draw o.1 (wX cs ad o.2 im rest)) : XW l D K 0 0 (wX cs ad σ im rest) 48 [(0, .ref (ad 0)), (1, .int v1), (2, .int v2), (3, .ref (ad 6))] [] := by
  unfold j_x_draw_48 at h
  refine X_aload_n C 3 rfl rfl dX6_draw_48 ?_
  refine X_get C 6 2 hi1_x_draw hf206_x_draw (xe_6 _ _ _ _ _) rfl (by decide) rfl dX6_draw_49 ?_
  refine X_iload_n C 1 rfl rfl dX6_draw_52 ?_
  refine X_iald C 7 (xe_7 _ _ _ _ _) h dX6_draw_53 (fun h => ?_)
  refine X_i2l C dX6_draw_54 ?_
  refine X_iload_n C 2 rfl rfl dX6_draw_55 ?_
  refine X_i2l C dX6_draw_56 ?_
  refine X_ladd C dX6_draw_57 ?_
  refine X_lstore (vs1 := [(4, .long (((σ.2 7 (jix v1)).toInt64) + v2.toInt64)), (0, .ref (ad 0)), (1, .int v1), (2, .int v2), (3, .ref (ad 6))]) C (by decide) rfl dX6_draw_58 ?_
  refine X_lload C 0 rfl dX6_draw_60 ?_
  refine X_lconst (v := 0) C (by decide) dX6_draw_62 ?_
  refine X_lcmp C dX6_draw_63 ?_
  refine X_iflt C (tgt := 76) (by decide) dX6_draw_64 h (fun h => ?_) (fun h => ?_)
  · refine X_loc (vs1 := []) [] rfl ?_
    exact wj_x_draw_76 C h hret
  · refine X_lload C 0 rfl dX6_draw_67 ?_
    refine X_ldc2 (v := 1000) C hc209_x_draw dX6_draw_69 ?_
    refine X_lcmp C dX6_draw_72 ?_
    refine X_ifle C (tgt := 78) (by decide) dX6_draw_73 h (fun h => ?_) (fun h => ?_)
    · refine X_aload_n C 4 rfl rfl dX6_draw_78 ?_
      refine X_get C 6 0 hi1_x_draw hf201_x_draw (xe_6 _ _ _ _ _) rfl (by decide) rfl dX6_draw_79 ?_
      refine X_ifne C (tgt := 99) (by decide) dX6_draw_82 h (fun h => ?_) (fun h => ?_)
      · refine X_loc (vs1 := [(0, .ref (ad 0)), (1, .int v1), (2, .int v2), (3, .ref (ad 6))]) [1, 2, 3, 4] rfl ?_
        exact wj_x_draw_99 C h hret
      · refine X_aload_n C 4 rfl rfl dX6_draw_85 ?_
        refine X_aload_n C 1 rfl rfl dX6_draw_86 ?_
        refine X_get C 0 0 hi6_x_draw hf10_x_draw (xe_0 _ _ _ _ _) rfl (by decide) rfl dX6_draw_87 ?_
        refine X_get C 1 0 hi0_x_draw hf41_x_draw (xe_1 _ _ _ _ _) rfl (by decide) rfl dX6_draw_90 ?_
        refine X_get C 2 0 hi2_x_draw hf98_x_draw (xe_2 _ _ _ _ _) rfl (by decide) rfl dX6_draw_93 ?_
        obtain ⟨o4, eo4, h⟩ := bnd_some h
        refine X_callVv C (n := 1) (As := [.int (σ.1 128)]) (c_Fam_open eo4) rfl gX6_draw_X1_open rfl rfl (xe_6 _ _ _ _ _) rfl rfl (by decide +kernel) ⟨Nat.le_of_ble_eq_true rfl, Nat.le_of_ble_eq_true rfl⟩ ⟨Nat.zero_le _, Nat.zero_le _⟩ rfl rfl (Nat.le_of_ble_eq_true rfl) dX6_draw_96 ?_
        refine X_loc (vs1 := [(0, .ref (ad 0)), (1, .int v1), (2, .int v2), (3, .ref (ad 6))]) [1, 2, 3, 4] rfl ?_
        exact wj_x_draw_99 C h hret
    · refine X_loc (vs1 := []) [] rfl ?_
      exact wj_x_draw_76 C h hret
set_option maxHeartbeats 4000000 in
set_option maxRecDepth 100000 in
theorem c_x_draw {l : Launch} {D : va_G} {cs : Nat → ClassId} {ad : Nat → Nat} {im : Nat → Option Nat} {rest : va_W} {n : Nat} {σ : ST} {a0 : Int32} {a1 : Int32} {o : Int32 × ST} (h : f_x_draw n σ a0 a1 = some o) : CTi l D cs yX6_draw wsX6_draw rm_x_draw [.ref (ad 0), .int a0, .int a1] (wX cs ad σ im rest) o.1 (wX cs ad o.2 im rest) := by
  refine CTi_of (cc := cX6_draw) (nL := 6) (by decide) rfl (Nat.le_of_ble_eq_true rfl) ?_
  intro K C hret
  unfold f_x_draw at h
  refine X_loc (vs1 := [(0, .ref (ad 0)), (1, .int a0), (2, .int a1)]) [0, 1, 2] rfl ?_
  refine X_aload_n C 0 rfl rfl dX6_draw_0 ?_
  refine X_get C 0 0 hi6_x_draw hf10_x_draw (xe_0 _ _ _ _ _) rfl (by decide) rfl dX6_draw_1 ?_
  refine X_get C 1 1 hi0_x_draw hf55_x_draw (xe_1 _ _ _ _ _) rfl (by decide) rfl dX6_draw_4 ?_
  refine X_astore_n (vs1 := [(3, .ref (ad 6)), (0, .ref (ad 0)), (1, .int a0), (2, .int a1)]) C rfl (by decide) rfl dX6_draw_7 ?_
  refine X_aload_n C 1 rfl rfl dX6_draw_8 ?_
  refine X_get C 0 0 hi6_x_draw hf10_x_draw (xe_0 _ _ _ _ _) rfl (by decide) rfl dX6_draw_9 ?_
  refine X_get C 1 0 hi0_x_draw hf41_x_draw (xe_1 _ _ _ _ _) rfl (by decide) rfl dX6_draw_12 ?_
  refine X_iload_n C 2 rfl rfl dX6_draw_15 ?_
  obtain ⟨o1, eo1, h⟩ := bnd_some h
  refine X_callVi C (n := 1) (As := [.int a0]) (c_Net_isSide eo1) rfl gX6_draw_X2_isSide rfl rfl (xe_2 _ _ _ _ _) rfl rfl (by decide +kernel) ⟨Nat.le_of_ble_eq_true rfl, Nat.le_of_ble_eq_true rfl⟩ ⟨Nat.zero_le _, Nat.zero_le _⟩ rfl rfl (Nat.le_of_ble_eq_true rfl) dX6_draw_16 ?_
  refine X_ifeq C (tgt := 46) (by decide) dX6_draw_19 h (fun h => ?_) (fun h => ?_)
  · refine X_loc (vs1 := []) [] rfl ?_
    exact wj_x_draw_46 C h hret
  · refine X_aload_n C 0 rfl rfl dX6_draw_22 ?_
    refine X_get C 6 0 hi1_x_draw hf201_x_draw (xe_6 _ _ _ _ _) rfl (by decide) rfl dX6_draw_23 ?_
    refine X_ifeq C (tgt := 48) (by decide) dX6_draw_26 h (fun h => ?_) (fun h => ?_)
    · refine X_loc (vs1 := [(0, .ref (ad 0)), (1, .int a0), (2, .int a1), (3, .ref (ad 6))]) [1, 2, 3, 0] rfl ?_
      exact wj_x_draw_48 C h hret
    · refine X_aload_n C 0 rfl rfl dX6_draw_29 ?_
      refine X_get C 6 1 hi1_x_draw hf205_x_draw (xe_6 _ _ _ _ _) rfl (by decide) rfl dX6_draw_30 ?_
      refine X_aload_n C 1 rfl rfl dX6_draw_33 ?_
      refine X_get C 0 0 hi6_x_draw hf10_x_draw (xe_0 _ _ _ _ _) rfl (by decide) rfl dX6_draw_34 ?_
      refine X_get C 1 0 hi0_x_draw hf41_x_draw (xe_1 _ _ _ _ _) rfl (by decide) rfl dX6_draw_37 ?_
      refine X_get C 2 0 hi2_x_draw hf98_x_draw (xe_2 _ _ _ _ _) rfl (by decide) rfl dX6_draw_40 ?_
      refine X_icmpeq C (tgt := 48) (by decide) dX6_draw_43 h (fun h => ?_) (fun h => ?_)
      · refine X_loc (vs1 := [(0, .ref (ad 0)), (1, .int a0), (2, .int a1), (3, .ref (ad 6))]) [1, 2, 3, 0] rfl ?_
        exact wj_x_draw_48 C h hret
      · refine X_loc (vs1 := []) [] rfl ?_
        exact wj_x_draw_46 C h hret

abbrev rm_x_uncross : Room := { frames := 4, cells := 0, slots := 0, locals := 92 }
def f_x_uncross (n : Nat) (σ : ST) : Option (Int32 × ST) :=
  if (σ.1 384) = 0 then
    some ((-1 : Int32), σ)
  else
    bnd (f_Fam_uncrossAll n σ) fun o1 =>
    some (o1.1, o1.2)
theorem hf201_x_uncross : Cond.fieldLink RX6 201 (TX1 0).1 (TX1 0).2.1 (TX1 0).2.2.1 ∈ wsX6_uncross := by decide +kernel
theorem hi1_x_uncross : ∀ w ∈ u_ws RX1 TX1 4, w ∈ wsX6_uncross := by decide +kernel
theorem hf55_x_uncross : Cond.fieldLink RX6 55 (TX0 1).1 (TX0 1).2.1 (TX0 1).2.2.1 ∈ wsX6_uncross := by decide +kernel
theorem hi0_x_uncross : ∀ w ∈ u_ws RX0 TX0 3, w ∈ wsX6_uncross := by decide +kernel
theorem hf10_x_uncross : Cond.fieldLink RX6 10 (TX6 0).1 (TX6 0).2.1 (TX6 0).2.2.1 ∈ wsX6_uncross := by decide +kernel
theorem hi6_x_uncross : ∀ w ∈ u_ws RX6 TX6 5, w ∈ wsX6_uncross := by decide +kernel
set_option maxHeartbeats 4000000 in
set_option maxRecDepth 100000 in
theorem c_x_uncross {l : Launch} {D : va_G} {cs : Nat → ClassId} {ad : Nat → Nat} {im : Nat → Option Nat} {rest : va_W} {n : Nat} {σ : ST} {o : Int32 × ST} (h : f_x_uncross n σ = some o) : CTi l D cs yX6_uncross wsX6_uncross rm_x_uncross [.ref (ad 0)] (wX cs ad σ im rest) o.1 (wX cs ad o.2 im rest) := by
  refine CTi_of (cc := cX6_uncross) (nL := 1) (by decide) rfl (Nat.le_of_ble_eq_true rfl) ?_
  intro K C hret
  unfold f_x_uncross at h
  refine X_loc (vs1 := [(0, .ref (ad 0))]) [0] rfl ?_
  refine X_aload_n C 0 rfl rfl dX6_uncross_0 ?_
  refine X_get C 0 0 hi6_x_uncross hf10_x_uncross (xe_0 _ _ _ _ _) rfl (by decide) rfl dX6_uncross_1 ?_
  refine X_get C 1 1 hi0_x_uncross hf55_x_uncross (xe_1 _ _ _ _ _) rfl (by decide) rfl dX6_uncross_4 ?_
  refine X_get C 6 0 hi1_x_uncross hf201_x_uncross (xe_6 _ _ _ _ _) rfl (by decide) rfl dX6_uncross_7 ?_
  refine X_ifne C (tgt := 15) (by decide) dX6_uncross_10 h (fun h => ?_) (fun h => ?_)
  · refine X_aload_n C 0 rfl rfl dX6_uncross_15 ?_
    refine X_get C 0 0 hi6_x_uncross hf10_x_uncross (xe_0 _ _ _ _ _) rfl (by decide) rfl dX6_uncross_16 ?_
    refine X_get C 1 1 hi0_x_uncross hf55_x_uncross (xe_1 _ _ _ _ _) rfl (by decide) rfl dX6_uncross_19 ?_
    obtain ⟨o1, eo1, h⟩ := bnd_some h
    refine X_callVi C (n := 0) (As := []) (c_Fam_uncrossAll eo1) rfl gX6_uncross_X1_uncrossAll rfl rfl (xe_6 _ _ _ _ _) rfl rfl (by decide +kernel) ⟨Nat.le_of_ble_eq_true rfl, Nat.le_of_ble_eq_true rfl⟩ ⟨Nat.zero_le _, Nat.zero_le _⟩ rfl rfl (Nat.le_of_ble_eq_true rfl) dX6_uncross_22 ?_
    obtain rfl := Option.some.inj h
    exact hret _ _ dX6_uncross_25
  · refine X_iconst (v := (-1)) C (by decide) dX6_uncross_13 ?_
    obtain rfl := Option.some.inj h
    exact hret _ _ dX6_uncross_14

abbrev rm_x_member : Room := { frames := 1, cells := 0, slots := 0, locals := 23 }
def f_x_member (n : Nat) (σ : ST) (a0 : Int32) (a1 : Int32) : Option (Int32) :=
  bnd (f_Fam_memberAt n σ a0) fun o1 =>
  if o1 = 0 then
    some (-1 : Int32)
  else
    if a1 = (0 : Int32) then
      some o1
    else
    if a1 = (1 : Int32) then
      grd (jin o1 256) <|
      some (σ.2 7 (jix o1))
    else
      some (-1 : Int32)
theorem hf206_x_member : Cond.fieldLink RX6 206 (TX1 2).1 (TX1 2).2.1 (TX1 2).2.2.1 ∈ wsX6_member := by decide +kernel
theorem hi1_x_member : ∀ w ∈ u_ws RX1 TX1 4, w ∈ wsX6_member := by decide +kernel
theorem hf55_x_member : Cond.fieldLink RX6 55 (TX0 1).1 (TX0 1).2.1 (TX0 1).2.2.1 ∈ wsX6_member := by decide +kernel
theorem hi0_x_member : ∀ w ∈ u_ws RX0 TX0 3, w ∈ wsX6_member := by decide +kernel
theorem hf10_x_member : Cond.fieldLink RX6 10 (TX6 0).1 (TX6 0).2.1 (TX6 0).2.2.1 ∈ wsX6_member := by decide +kernel
theorem hi6_x_member : ∀ w ∈ u_ws RX6 TX6 5, w ∈ wsX6_member := by decide +kernel
set_option maxHeartbeats 4000000 in
set_option maxRecDepth 100000 in
theorem c_x_member {l : Launch} {D : va_G} {cs : Nat → ClassId} {ad : Nat → Nat} {im : Nat → Option Nat} {rest : va_W} {n : Nat} {σ : ST} {a0 : Int32} {a1 : Int32} {o : Int32} (h : f_x_member n σ a0 a1 = some o) : CTi l D cs yX6_member wsX6_member rm_x_member [.ref (ad 0), .int a0, .int a1] (wX cs ad σ im rest) o (wX cs ad σ im rest) := by
  refine CTi_of (cc := cX6_member) (nL := 4) (by decide) rfl (Nat.le_of_ble_eq_true rfl) ?_
  intro K C hret
  unfold f_x_member at h
  refine X_loc (vs1 := [(0, .ref (ad 0)), (1, .int a0), (2, .int a1)]) [0, 1, 2] rfl ?_
  refine X_aload_n C 0 rfl rfl dX6_member_0 ?_
  refine X_get C 0 0 hi6_x_member hf10_x_member (xe_0 _ _ _ _ _) rfl (by decide) rfl dX6_member_1 ?_
  refine X_get C 1 1 hi0_x_member hf55_x_member (xe_1 _ _ _ _ _) rfl (by decide) rfl dX6_member_4 ?_
  refine X_iload_n C 1 rfl rfl dX6_member_7 ?_
  obtain ⟨o1, eo1, h⟩ := bnd_some h
  refine X_callVi C (n := 1) (As := [.int a0]) (c_Fam_memberAt eo1) rfl gX6_member_X1_memberAt rfl rfl (xe_6 _ _ _ _ _) rfl rfl (by decide +kernel) ⟨Nat.le_of_ble_eq_true rfl, Nat.le_of_ble_eq_true rfl⟩ ⟨Nat.zero_le _, Nat.zero_le _⟩ rfl rfl (Nat.le_of_ble_eq_true rfl) dX6_member_8 ?_
  refine X_istore_n (vs1 := [(3, .int o1), (0, .ref (ad 0)), (1, .int a0), (2, .int a1)]) C rfl (by decide) rfl dX6_member_11 ?_
  refine X_iload_n C 0 rfl rfl dX6_member_12 ?_
  refine X_ifne C (tgt := 18) (by decide) dX6_member_13 h (fun h => ?_) (fun h => ?_)
  · refine X_iload_n C 3 rfl rfl dX6_member_18 ?_
    refine X_case h (fun hx0 h => ?_) (fun hx0 h => ?_)
    · refine X_lkp C (off := 25) (tgt := 44) (by decide) (by rw [hx0]; decide) (by decide) dX6_member_19 ?_
      refine X_iload_n C 0 rfl rfl dX6_member_44 ?_
      obtain rfl := Option.some.inj h
      exact hret _ _ dX6_member_45
    refine X_case h (fun hx1 h => ?_) (fun hx1 h => ?_)
    · refine X_lkp C (off := 27) (tgt := 46) (by decide) (by rw [hx1]; decide) (by decide) dX6_member_19 ?_
      refine X_aload_n C 1 rfl rfl dX6_member_46 ?_
      refine X_get C 0 0 hi6_x_member hf10_x_member (xe_0 _ _ _ _ _) rfl (by decide) rfl dX6_member_47 ?_
      refine X_get C 1 1 hi0_x_member hf55_x_member (xe_1 _ _ _ _ _) rfl (by decide) rfl dX6_member_50 ?_
      refine X_get C 6 2 hi1_x_member hf206_x_member (xe_6 _ _ _ _ _) rfl (by decide) rfl dX6_member_53 ?_
      refine X_iload_n C 0 rfl rfl dX6_member_56 ?_
      refine X_iald C 7 (xe_7 _ _ _ _ _) h dX6_member_57 (fun h => ?_)
      obtain rfl := Option.some.inj h
      exact hret _ _ dX6_member_58
    refine X_lkp C (off := 40) (tgt := 59) (by decide) (((lv_osw hx0 (by decide)).trans (lv_osw hx1 (by decide))).trans rfl) (by decide) dX6_member_19 ?_
    refine X_iconst (v := (-1)) C (by decide) dX6_member_59 ?_
    obtain rfl := Option.some.inj h
    exact hret _ _ dX6_member_60
  · refine X_iconst (v := (-1)) C (by decide) dX6_member_16 ?_
    obtain rfl := Option.some.inj h
    exact hret _ _ dX6_member_17
