abbrev rm_fill_times : Room := { frames := 0, cells := 0, slots := 0, locals := 0 }
def b_fill_times_5 (n : Nat) (v1 : Int32) (v3 : Int32) (s : ST × Int32) : Option ((ST × Int32) ⊕ (ST)) :=
  if v3 ≤ s.2 then
    some (.inr s.1)
  else
    grd (jin s.2 256) <|
    nam (sA s.1 7 (upd (s.1.2 7) (jix s.2) v1)) fun σ1 =>
    some (.inl (σ1, s.2 + (1 : Int32)))
def f_fill_times (n : Nat) (σ : ST) (a0 : Int32) : Option (ST) :=
  bnd (lp (b_fill_times_5 n a0 (256 : Int32)) n (σ, (0 : Int32))) fun e2 =>
  some e2
set_option maxHeartbeats 4000000 in
set_option maxRecDepth 100000 in
theorem wb_fill_times_5 {l : Launch} {D : va_G} {cs : Nat → ClassId} {K : XK} {ad : Nat → Nat} {im : Nat → Option Nat} {rest : va_W} (C : XC D cs K 4 rm_fill_times cJ7_fill_53178 RJ7 wsJ7_fill_53178 none) {n : Nat} {v1 : Int32} {v3 : Int32} {e : (ST)} (kx : ∀ (t : ST), e = t → XW l D K 0 0 (wX cs ad t im rest) 20 [] []) : ∀ (q : Nat) (s : ST × Int32), lp (b_fill_times_5 n v1 v3) q s = some e → XW l D K 0 0 (wX cs ad s.1 im rest) 5 [(0, .ref (ad 7)), (1, .int v1), (2, .int s.2), (3, .int v3)] [] := by
  refine lp_walk (G := fun (s : ST × Int32) => XW l D K 0 0 (wX cs ad s.1 im rest) 5 [(0, .ref (ad 7)), (1, .int v1), (2, .int s.2), (3, .int v3)] []) ?_
  intro s o h kin kex
  unfold b_fill_times_5 at h
  refine X_iload_n C 2 rfl rfl dJ7_fill_53178_5 ?_
  refine X_iload_n C 3 rfl rfl dJ7_fill_53178_6 ?_
  refine X_icmpge C (tgt := 20) (by decide) dJ7_fill_53178_7 h (fun h => ?_) (fun h => ?_)
  · obtain rfl := Option.some.inj h
    refine X_loc (vs1 := []) [] rfl ?_
    exact kx _ (kex _ rfl).symm
  · refine X_aload_n C 0 rfl rfl dJ7_fill_53178_10 ?_
    refine X_iload_n C 2 rfl rfl dJ7_fill_53178_11 ?_
    refine X_iload_n C 1 rfl rfl dJ7_fill_53178_12 ?_
    refine X_iast C 7 (xe_7 _ _ _ _ _) (xa_7 _ _ _ _ _ _) h dJ7_fill_53178_13 (fun h => ?_)
    refine X_nam (G := fun σ1 => XW l D K 0 0 (wX cs ad σ1 im rest) 14 [(0, .ref (ad 7)), (1, .int v1), (2, .int s.2), (3, .int v3)] []) h (fun σ1 h => ?_)
    refine X_iinc (v := s.2 + (1 : Int32)) (vs1 := [(2, .int (s.2 + (1 : Int32))), (0, .ref (ad 7)), (1, .int v1), (3, .int v3)]) C 2 rfl rfl (by decide) rfl dJ7_fill_53178_14 ?_
    refine X_goto C (tgt := 5) (by decide) dJ7_fill_53178_17 ?_
    obtain rfl := Option.some.inj h
    refine X_loc (vs1 := [(0, .ref (ad 7)), (1, .int v1), (2, .int (s.2 + (1 : Int32))), (3, .int v3)]) [1, 2, 0, 3] rfl ?_
    exact kin _ rfl
set_option maxHeartbeats 4000000 in
set_option maxRecDepth 100000 in
theorem c_fill_times {l : Launch} {D : va_G} {cs : Nat → ClassId} {ad : Nat → Nat} {im : Nat → Option Nat} {rest : va_W} {n : Nat} {σ : ST} {a0 : Int32} {o : ST} (h : f_fill_times n σ a0 = some o) : CTv l D cs yJ7_fill_53178 wsJ7_fill_53178 rm_fill_times [.ref (ad 7), .int a0] (wX cs ad σ im rest) (wX cs ad o im rest) := by
  refine CTv_of (cc := cJ7_fill_53178) (nL := 4) (by decide) rfl (Nat.le_of_ble_eq_true rfl) ?_
  intro K C hret
  unfold f_fill_times at h
  refine X_loc (vs1 := [(0, .ref (ad 7)), (1, .int a0)]) [0, 1] rfl ?_
  refine X_iconst (v := 0) C (by decide) dJ7_fill_53178_0 ?_
  refine X_istore_n (vs1 := [(2, .int (0 : Int32)), (0, .ref (ad 7)), (1, .int a0)]) C rfl (by decide) rfl dJ7_fill_53178_1 ?_
  refine X_aload_n C 1 rfl rfl dJ7_fill_53178_2 ?_
  refine X_alen (v := 256) C 7 (xe_7 _ _ _ _ _) (by decide) dJ7_fill_53178_3 ?_
  refine X_istore_n (vs1 := [(3, .int (256 : Int32)), (2, .int (0 : Int32)), (0, .ref (ad 7)), (1, .int a0)]) C rfl (by decide) rfl dJ7_fill_53178_4 ?_
  obtain ⟨e2, he2, h⟩ := bnd_some h
  refine X_loc (vs1 := [(0, .ref (ad 7)), (1, .int a0), (2, .int (0 : Int32)), (3, .int (256 : Int32))]) [2, 3, 1, 0] rfl ?_
  refine wb_fill_times_5 C (e := e2) (fun t ht => ?_) n _ he2
  subst ht
  obtain rfl := Option.some.inj h
  exact hret _ _ dJ7_fill_53178_20

abbrev rm_fill_load : Room := { frames := 0, cells := 0, slots := 0, locals := 0 }
def b_fill_load_5 (n : Nat) (v1 : Int32) (v3 : Int32) (s : ST × Int32) : Option ((ST × Int32) ⊕ (ST)) :=
  if v3 ≤ s.2 then
    some (.inr s.1)
  else
    grd (jin s.2 16) <|
    nam (sA s.1 8 (upd (s.1.2 8) (jix s.2) v1)) fun σ1 =>
    some (.inl (σ1, s.2 + (1 : Int32)))
def f_fill_load (n : Nat) (σ : ST) (a0 : Int32) : Option (ST) :=
  bnd (lp (b_fill_load_5 n a0 (16 : Int32)) n (σ, (0 : Int32))) fun e2 =>
  some e2
set_option maxHeartbeats 4000000 in
set_option maxRecDepth 100000 in
theorem wb_fill_load_5 {l : Launch} {D : va_G} {cs : Nat → ClassId} {K : XK} {ad : Nat → Nat} {im : Nat → Option Nat} {rest : va_W} (C : XC D cs K 4 rm_fill_load cJ7_fill_53178 RJ7 wsJ7_fill_53178 none) {n : Nat} {v1 : Int32} {v3 : Int32} {e : (ST)} (kx : ∀ (t : ST), e = t → XW l D K 0 0 (wX cs ad t im rest) 20 [] []) : ∀ (q : Nat) (s : ST × Int32), lp (b_fill_load_5 n v1 v3) q s = some e → XW l D K 0 0 (wX cs ad s.1 im rest) 5 [(0, .ref (ad 8)), (1, .int v1), (2, .int s.2), (3, .int v3)] [] := by
  refine lp_walk (G := fun (s : ST × Int32) => XW l D K 0 0 (wX cs ad s.1 im rest) 5 [(0, .ref (ad 8)), (1, .int v1), (2, .int s.2), (3, .int v3)] []) ?_
  intro s o h kin kex
  unfold b_fill_load_5 at h
  refine X_iload_n C 2 rfl rfl dJ7_fill_53178_5 ?_
  refine X_iload_n C 3 rfl rfl dJ7_fill_53178_6 ?_
  refine X_icmpge C (tgt := 20) (by decide) dJ7_fill_53178_7 h (fun h => ?_) (fun h => ?_)
  · obtain rfl := Option.some.inj h
    refine X_loc (vs1 := []) [] rfl ?_
    exact kx _ (kex _ rfl).symm
  · refine X_aload_n C 0 rfl rfl dJ7_fill_53178_10 ?_
    refine X_iload_n C 2 rfl rfl dJ7_fill_53178_11 ?_
    refine X_iload_n C 1 rfl rfl dJ7_fill_53178_12 ?_
    refine X_iast C 8 (xe_8 _ _ _ _ _) (xa_8 _ _ _ _ _ _) h dJ7_fill_53178_13 (fun h => ?_)
    refine X_nam (G := fun σ1 => XW l D K 0 0 (wX cs ad σ1 im rest) 14 [(0, .ref (ad 8)), (1, .int v1), (2, .int s.2), (3, .int v3)] []) h (fun σ1 h => ?_)
    refine X_iinc (v := s.2 + (1 : Int32)) (vs1 := [(2, .int (s.2 + (1 : Int32))), (0, .ref (ad 8)), (1, .int v1), (3, .int v3)]) C 2 rfl rfl (by decide) rfl dJ7_fill_53178_14 ?_
    refine X_goto C (tgt := 5) (by decide) dJ7_fill_53178_17 ?_
    obtain rfl := Option.some.inj h
    refine X_loc (vs1 := [(0, .ref (ad 8)), (1, .int v1), (2, .int (s.2 + (1 : Int32))), (3, .int v3)]) [1, 2, 0, 3] rfl ?_
    exact kin _ rfl
set_option maxHeartbeats 4000000 in
set_option maxRecDepth 100000 in
theorem c_fill_load {l : Launch} {D : va_G} {cs : Nat → ClassId} {ad : Nat → Nat} {im : Nat → Option Nat} {rest : va_W} {n : Nat} {σ : ST} {a0 : Int32} {o : ST} (h : f_fill_load n σ a0 = some o) : CTv l D cs yJ7_fill_53178 wsJ7_fill_53178 rm_fill_load [.ref (ad 8), .int a0] (wX cs ad σ im rest) (wX cs ad o im rest) := by
  refine CTv_of (cc := cJ7_fill_53178) (nL := 4) (by decide) rfl (Nat.le_of_ble_eq_true rfl) ?_
  intro K C hret
  unfold f_fill_load at h
  refine X_loc (vs1 := [(0, .ref (ad 8)), (1, .int a0)]) [0, 1] rfl ?_
  refine X_iconst (v := 0) C (by decide) dJ7_fill_53178_0 ?_
  refine X_istore_n (vs1 := [(2, .int (0 : Int32)), (0, .ref (ad 8)), (1, .int a0)]) C rfl (by decide) rfl dJ7_fill_53178_1 ?_
  refine X_aload_n C 1 rfl rfl dJ7_fill_53178_2 ?_
  refine X_alen (v := 16) C 8 (xe_8 _ _ _ _ _) (by decide) dJ7_fill_53178_3 ?_
  refine X_istore_n (vs1 := [(3, .int (16 : Int32)), (2, .int (0 : Int32)), (0, .ref (ad 8)), (1, .int a0)]) C rfl (by decide) rfl dJ7_fill_53178_4 ?_
  obtain ⟨e2, he2, h⟩ := bnd_some h
  refine X_loc (vs1 := [(0, .ref (ad 8)), (1, .int a0), (2, .int (0 : Int32)), (3, .int (16 : Int32))]) [2, 3, 1, 0] rfl ?_
  refine wb_fill_load_5 C (e := e2) (fun t ht => ?_) n _ he2
  subst ht
  obtain rfl := Option.some.inj h
  exact hret _ _ dJ7_fill_53178_20

abbrev rm_Fam_open : Room := { frames := 1, cells := 0, slots := 0, locals := 23 }
def f_Fam_open (n : Nat) (σ : ST) (a0 : Int32) : Option (ST) :=
  nam (sS σ 384 (1 : Int32)) fun σ1 =>
  nam (sS σ1 385 a0) fun σ2 =>
  bnd (f_fill_times n σ2 (0 : Int32)) fun o3 =>
  bnd (f_fill_load n o3 (0 : Int32)) fun o4 =>
  some o4
theorem hf15_Fam_open : Cond.fieldLink RX1 15 (TX1 3).1 (TX1 3).2.1 (TX1 3).2.2.1 ∈ wsX1_open := by decide +kernel
theorem hf9_Fam_open : Cond.fieldLink RX1 9 (TX1 2).1 (TX1 2).2.1 (TX1 2).2.2.1 ∈ wsX1_open := by decide +kernel
theorem hf26_Fam_open : Cond.fieldLink RX1 26 (TX1 1).1 (TX1 1).2.1 (TX1 1).2.2.1 ∈ wsX1_open := by decide +kernel
theorem hf22_Fam_open : Cond.fieldLink RX1 22 (TX1 0).1 (TX1 0).2.1 (TX1 0).2.2.1 ∈ wsX1_open := by decide +kernel
theorem hi1_Fam_open : ∀ w ∈ u_ws RX1 TX1 4, w ∈ wsX1_open := by decide +kernel
set_option maxHeartbeats 4000000 in
set_option maxRecDepth 100000 in
theorem c_Fam_open {l : Launch} {D : va_G} {cs : Nat → ClassId} {ad : Nat → Nat} {im : Nat → Option Nat} {rest : va_W} {n : Nat} {σ : ST} {a0 : Int32} {o : ST} (h : f_Fam_open n σ a0 = some o) : CTv l D cs yX1_open wsX1_open rm_Fam_open [.ref (ad 6), .int a0] (wX cs ad σ im rest) (wX cs ad o im rest) := by
  refine CTv_of (cc := cX1_open) (nL := 2) (by decide) rfl (Nat.le_of_ble_eq_true rfl) ?_
  intro K C hret
  unfold f_Fam_open at h
  refine X_loc (vs1 := [(0, .ref (ad 6)), (1, .int a0)]) [0, 1] rfl ?_
  refine X_aload_n C 0 rfl rfl dX1_open_0 ?_
  refine X_iconst (v := 1) C (by decide) dX1_open_1 ?_
  refine X_put (ty := .boolean) C 6 0 hi1_Fam_open hf22_Fam_open tyX1 tyX1_ok nmX1 (xe_6 _ _ _ _ _) rfl (by decide) rfl (by decide +kernel) (jz_nar (by decide)) (jz_fit (by decide)) (Nat.le_of_ble_eq_true rfl) (xs_6_0 _ _ _ _ _ _) dX1_open_2 ?_
  refine X_nam (G := fun σ1 => XW l D K 0 0 (wX cs ad σ1 im rest) 5 [(0, .ref (ad 6)), (1, .int a0)] []) h (fun σ1 h => ?_)
  refine X_aload_n C 0 rfl rfl dX1_open_5 ?_
  refine X_iload_n C 1 rfl rfl dX1_open_6 ?_
  refine X_put (ty := .int) C 6 1 hi1_Fam_open hf26_Fam_open tyX1 tyX1_ok nmX1 (xe_6 _ _ _ _ _) rfl (by decide) rfl (by decide +kernel) rfl rfl (Nat.le_of_ble_eq_true rfl) (xs_6_1 _ _ _ _ _ _) dX1_open_7 ?_
  refine X_nam (G := fun σ2 => XW l D K 0 0 (wX cs ad σ2 im rest) 10 [(0, .ref (ad 6)), (1, .int a0)] []) h (fun σ2 h => ?_)
  refine X_aload_n C 0 rfl rfl dX1_open_10 ?_
  refine X_get C 6 2 hi1_Fam_open hf9_Fam_open (xe_6 _ _ _ _ _) rfl (by decide) rfl dX1_open_11 ?_
  refine X_iconst (v := 0) C (by decide) dX1_open_14 ?_
  obtain ⟨o3, eo3, h⟩ := bnd_some h
  refine X_callSv C (n := 2) (As := [.ref (ad 7), .int (0 : Int32)]) (c_fill_times eo3) gX1_open_J7_fill_53178 rfl rfl rfl (by decide +kernel) ⟨Nat.le_of_ble_eq_true rfl, Nat.le_of_ble_eq_true rfl⟩ ⟨Nat.zero_le _, Nat.zero_le _⟩ rfl rfl (Nat.le_of_ble_eq_true rfl) dX1_open_15 ?_
  refine X_aload_n C 0 rfl rfl dX1_open_18 ?_
  refine X_get C 6 3 hi1_Fam_open hf15_Fam_open (xe_6 _ _ _ _ _) rfl (by decide) rfl dX1_open_19 ?_
  refine X_iconst (v := 0) C (by decide) dX1_open_22 ?_
  obtain ⟨o4, eo4, h⟩ := bnd_some h
  refine X_callSv C (n := 2) (As := [.ref (ad 8), .int (0 : Int32)]) (c_fill_load eo4) gX1_open_J7_fill_53178 rfl rfl rfl (by decide +kernel) ⟨Nat.le_of_ble_eq_true rfl, Nat.le_of_ble_eq_true rfl⟩ ⟨Nat.zero_le _, Nat.zero_le _⟩ rfl rfl (Nat.le_of_ble_eq_true rfl) dX1_open_23 ?_
  obtain rfl := Option.some.inj h
  exact hret _ _ dX1_open_26

abbrev rm_Fam_putAway : Room := { frames := 2, cells := 0, slots := 0, locals := 44 }
def f_Fam_putAway (n : Nat) (σ : ST) : Option (ST) :=
  bnd (f_Fam_open n σ (0 : Int32)) fun o1 =>
  nam (sS o1 384 (0 : Int32)) fun σ2 =>
  some σ2
theorem hf22_Fam_putAway : Cond.fieldLink RX1 22 (TX1 0).1 (TX1 0).2.1 (TX1 0).2.2.1 ∈ wsX1_putAway := by decide +kernel
theorem hi1_Fam_putAway : ∀ w ∈ u_ws RX1 TX1 4, w ∈ wsX1_putAway := by decide +kernel
set_option maxHeartbeats 4000000 in
set_option maxRecDepth 100000 in
theorem c_Fam_putAway {l : Launch} {D : va_G} {cs : Nat → ClassId} {ad : Nat → Nat} {im : Nat → Option Nat} {rest : va_W} {n : Nat} {σ : ST} {o : ST} (h : f_Fam_putAway n σ = some o) : CTv l D cs yX1_putAway wsX1_putAway rm_Fam_putAway [.ref (ad 6)] (wX cs ad σ im rest) (wX cs ad o im rest) := by
  refine CTv_of (cc := cX1_putAway) (nL := 1) (by decide) rfl (Nat.le_of_ble_eq_true rfl) ?_
  intro K C hret
  unfold f_Fam_putAway at h
  refine X_loc (vs1 := [(0, .ref (ad 6))]) [0] rfl ?_
  refine X_aload_n C 0 rfl rfl dX1_putAway_0 ?_
  refine X_iconst (v := 0) C (by decide) dX1_putAway_1 ?_
  obtain ⟨o1, eo1, h⟩ := bnd_some h
  refine X_callVv C (n := 1) (As := [.int (0 : Int32)]) (c_Fam_open eo1) rfl gX1_putAway_X1_open rfl rfl (xe_6 _ _ _ _ _) rfl rfl (by decide +kernel) ⟨Nat.le_of_ble_eq_true rfl, Nat.le_of_ble_eq_true rfl⟩ ⟨Nat.zero_le _, Nat.zero_le _⟩ rfl rfl (Nat.le_of_ble_eq_true rfl) dX1_putAway_2 ?_
  refine X_aload_n C 0 rfl rfl dX1_putAway_5 ?_
  refine X_iconst (v := 0) C (by decide) dX1_putAway_6 ?_
  refine X_put (ty := .boolean) C 6 0 hi1_Fam_putAway hf22_Fam_putAway tyX1 tyX1_ok nmX1 (xe_6 _ _ _ _ _) rfl (by decide) rfl (by decide +kernel) (jz_nar (by decide)) (jz_fit (by decide)) (Nat.le_of_ble_eq_true rfl) (xs_6_0 _ _ _ _ _ _) dX1_putAway_7 ?_
  refine X_nam (G := fun σ2 => XW l D K 0 0 (wX cs ad σ2 im rest) 10 [(0, .ref (ad 6))] []) h (fun σ2 h => ?_)
  obtain rfl := Option.some.inj h
  exact hret _ _ dX1_putAway_10

abbrev rm_Fam_change : Room := { frames := 1, cells := 0, slots := 0, locals := 21 }
def j_Fam_change_40_13 (n : Nat) (σ : ST) (v2 : Int32) (v3 : Int32) (v4 : Int32) : Option ((ST × Int32) ⊕ (ST)) :=
  some (.inl (σ, v4 + (1 : Int32)))
def b_Fam_change_13 (n : Nat) (v2 : Int32) (v3 : Int32) (s : ST × Int32) : Option ((ST × Int32) ⊕ (ST)) :=
  if (16 : Int32) ≤ s.2 then
    some (.inr s.1)
  else
    bnd (f_contains n v2 s.2) fun o2 =>
    if o2 = 0 then
      j_Fam_change_40_13 n s.1 v2 v3 s.2
    else
      grd (jin s.2 16) <|
      grd (jin s.2 16) <|
      nam (sA s.1 8 (upd (s.1.2 8) (jix s.2) ((s.1.2 8 (jix s.2)) + v3))) fun σ3 =>
      j_Fam_change_40_13 n σ3 v2 v3 s.2
def f_Fam_change (n : Nat) (σ : ST) (a0 : Int32) (a1 : Int32) (a2 : Int32) : Option (ST) :=
  grd (jin a0 256) <|
  grd (jin a0 256) <|
  nam (sA σ 7 (upd (σ.2 7) (jix a0) ((σ.2 7 (jix a0)) + a2))) fun σ1 =>
  bnd (lp (b_Fam_change_13 n a1 a2) n (σ1, (0 : Int32))) fun e4 =>
  some e4
theorem hf15_Fam_change : Cond.fieldLink RX1 15 (TX1 3).1 (TX1 3).2.1 (TX1 3).2.2.1 ∈ wsX1_change := by decide +kernel
theorem hnsX6_contains_Fam_change : Cond.static yX6_contains ∈ wsX1_change := by decide +kernel
theorem hniX6_contains_Fam_change : Cond.initialized yX6_contains.cls ∈ wsX1_change := by decide +kernel
theorem hf9_Fam_change : Cond.fieldLink RX1 9 (TX1 2).1 (TX1 2).2.1 (TX1 2).2.2.1 ∈ wsX1_change := by decide +kernel
theorem hi1_Fam_change : ∀ w ∈ u_ws RX1 TX1 4, w ∈ wsX1_change := by decide +kernel
set_option maxHeartbeats 4000000 in
set_option maxRecDepth 100000 in
theorem wj_Fam_change_40_13 {l : Launch} {D : va_G} {cs : Nat → ClassId} {K : XK} {ad : Nat → Nat} {im : Nat → Option Nat} {rest : va_W} (C : XC D cs K 5 rm_Fam_change cX1_change RX1 wsX1_change none) {n : Nat} {σ : ST} {v2 : Int32} {v3 : Int32} {v4 : Int32} {o : (ST × Int32) ⊕ (ST)} {e : (ST)} (h : j_Fam_change_40_13 n σ v2 v3 v4 = some o) (kin : ∀ (s : ST × Int32), o = .inl s → XW l D K 0 0 (wX cs ad s.1 im rest) 13 [(0, .ref (ad 6)), (2, .int v2), (3, .int v3), (4, .int s.2)] []) (kex : ∀ e1, o = .inr e1 → e1 = e) (kx : ∀ (t : ST), e = t → XW l D K 0 0 (wX cs ad t im rest) 46 [] []) : XW l D K 0 0 (wX cs ad σ im rest) 40 [(0, .ref (ad 6)), (2, .int v2), (3, .int v3), (4, .int v4)] [] := by
  unfold j_Fam_change_40_13 at h
  refine X_iinc (v := v4 + (1 : Int32)) (vs1 := [(4, .int (v4 + (1 : Int32))), (0, .ref (ad 6)), (2, .int v2), (3, .int v3)]) C 3 rfl rfl (by decide) rfl dX1_change_40 ?_
  refine X_goto C (tgt := 13) (by decide) dX1_change_43 ?_
  obtain rfl := Option.some.inj h
  refine X_loc (vs1 := [(0, .ref (ad 6)), (2, .int v2), (3, .int v3), (4, .int (v4 + (1 : Int32)))]) [1, 2, 3, 0] rfl ?_
  exact kin _ rfl
set_option maxHeartbeats 4000000 in
set_option maxRecDepth 100000 in
theorem wb_Fam_change_13 {l : Launch} {D : va_G} {cs : Nat → ClassId} {K : XK} {ad : Nat → Nat} {im : Nat → Option Nat} {rest : va_W} (C : XC D cs K 5 rm_Fam_change cX1_change RX1 wsX1_change none) {n : Nat} {v2 : Int32} {v3 : Int32} {e : (ST)} (kx : ∀ (t : ST), e = t → XW l D K 0 0 (wX cs ad t im rest) 46 [] []) : ∀ (q : Nat) (s : ST × Int32), lp (b_Fam_change_13 n v2 v3) q s = some e → XW l D K 0 0 (wX cs ad s.1 im rest) 13 [(0, .ref (ad 6)), (2, .int v2), (3, .int v3), (4, .int s.2)] [] := by
  refine lp_walk (G := fun (s : ST × Int32) => XW l D K 0 0 (wX cs ad s.1 im rest) 13 [(0, .ref (ad 6)), (2, .int v2), (3, .int v3), (4, .int s.2)] []) ?_
  intro s o h kin kex
  unfold b_Fam_change_13 at h
  refine X_iload C 3 rfl dX1_change_13 ?_
  refine X_bipush (v := 16) C (by decide) dX1_change_15 ?_
  refine X_icmpge C (tgt := 46) (by decide) dX1_change_17 h (fun h => ?_) (fun h => ?_)
  · obtain rfl := Option.some.inj h
    refine X_loc (vs1 := []) [] rfl ?_
    exact kx _ (kex _ rfl).symm
  · refine X_iload_n C 1 rfl rfl dX1_change_20 ?_
    refine X_iload C 3 rfl dX1_change_21 ?_
    obtain ⟨o2, eo2, h⟩ := bnd_some h
    refine X_callSNi C (n := 2) (As := [.int v2, .int s.2]) (c_contains eo2) gX1_change_X6_contains_n36 (by decide +kernel) hniX6_contains_Fam_change hnsX6_contains_Fam_change rfl rfl rfl (by decide +kernel) ⟨Nat.le_of_ble_eq_true rfl, Nat.le_of_ble_eq_true rfl⟩ ⟨Nat.zero_le _, Nat.zero_le _⟩ rfl rfl (Nat.le_of_ble_eq_true rfl) dX1_change_23 ?_
    refine X_ifeq C (tgt := 40) (by decide) dX1_change_26 h (fun h => ?_) (fun h => ?_)
    · exact wj_Fam_change_40_13 C h kin kex kx
    · refine X_aload_n C 0 rfl rfl dX1_change_29 ?_
      refine X_get C 6 3 hi1_Fam_change hf15_Fam_change (xe_6 _ _ _ _ _) rfl (by decide) rfl dX1_change_30 ?_
      refine X_iload C 3 rfl dX1_change_33 ?_
      refine X_dup2 C rfl rfl dX1_change_35 ?_
      refine X_iald C 8 (xe_8 _ _ _ _ _) h dX1_change_36 (fun h => ?_)
      refine X_iload_n C 2 rfl rfl dX1_change_37 ?_
      refine X_iadd C dX1_change_38 ?_
      refine X_iast C 8 (xe_8 _ _ _ _ _) (xa_8 _ _ _ _ _ _) h dX1_change_39 (fun h => ?_)
      refine X_nam (G := fun σ3 => XW l D K 0 0 (wX cs ad σ3 im rest) 40 [(0, .ref (ad 6)), (2, .int v2), (3, .int v3), (4, .int s.2)] []) h (fun σ3 h => ?_)
      exact wj_Fam_change_40_13 C h kin kex kx
set_option maxHeartbeats 4000000 in
set_option maxRecDepth 100000 in
theorem c_Fam_change {l : Launch} {D : va_G} {cs : Nat → ClassId} {ad : Nat → Nat} {im : Nat → Option Nat} {rest : va_W} {n : Nat} {σ : ST} {a0 : Int32} {a1 : Int32} {a2 : Int32} {o : ST} (h : f_Fam_change n σ a0 a1 a2 = some o) : CTv l D cs yX1_change wsX1_change rm_Fam_change [.ref (ad 6), .int a0, .int a1, .int a2] (wX cs ad σ im rest) (wX cs ad o im rest) := by
  refine CTv_of (cc := cX1_change) (nL := 5) (by decide) rfl (Nat.le_of_ble_eq_true rfl) ?_
  intro K C hret
  unfold f_Fam_change at h
  refine X_loc (vs1 := [(0, .ref (ad 6)), (1, .int a0), (2, .int a1), (3, .int a2)]) [0, 1, 2, 3] rfl ?_
  refine X_aload_n C 0 rfl rfl dX1_change_0 ?_
  refine X_get C 6 2 hi1_Fam_change hf9_Fam_change (xe_6 _ _ _ _ _) rfl (by decide) rfl dX1_change_1 ?_
  refine X_iload_n C 1 rfl rfl dX1_change_4 ?_
  refine X_dup2 C rfl rfl dX1_change_5 ?_
  refine X_iald C 7 (xe_7 _ _ _ _ _) h dX1_change_6 (fun h => ?_)
  refine X_iload_n C 3 rfl rfl dX1_change_7 ?_
  refine X_iadd C dX1_change_8 ?_
  refine X_iast C 7 (xe_7 _ _ _ _ _) (xa_7 _ _ _ _ _ _) h dX1_change_9 (fun h => ?_)
  refine X_nam (G := fun σ1 => XW l D K 0 0 (wX cs ad σ1 im rest) 10 [(0, .ref (ad 6)), (1, .int a0), (2, .int a1), (3, .int a2)] []) h (fun σ1 h => ?_)
  refine X_iconst (v := 0) C (by decide) dX1_change_10 ?_
  refine X_istore (vs1 := [(4, .int (0 : Int32)), (0, .ref (ad 6)), (1, .int a0), (2, .int a1), (3, .int a2)]) C (by decide) rfl dX1_change_11 ?_
  obtain ⟨e4, he4, h⟩ := bnd_some h
  refine X_loc (vs1 := [(0, .ref (ad 6)), (2, .int a1), (3, .int a2), (4, .int (0 : Int32))]) [1, 3, 4, 0] rfl ?_
  refine wb_Fam_change_13 C (e := e4) (fun t ht => ?_) n _ he4
  subst ht
  obtain rfl := Option.some.inj h
  exact hret _ _ dX1_change_46

abbrev rm_Fam_size : Room := { frames := 0, cells := 0, slots := 0, locals := 0 }
def j_Fam_size_23_4 (n : Nat) (σ : ST) (v1 : Int32) (v2 : Int32) : Option ((Int32 × Int32) ⊕ (Int32)) :=
  some (.inl (v1, v2 + (1 : Int32)))
def b_Fam_size_4 (n : Nat) (σ : ST) (s : Int32 × Int32) : Option ((Int32 × Int32) ⊕ (Int32)) :=
  if (256 : Int32) ≤ s.2 then
    some (.inr s.1)
  else
    grd (jin s.2 256) <|
    if (σ.2 7 (jix s.2)) ≤ 0 then
      j_Fam_size_23_4 n σ s.1 s.2
    else
      j_Fam_size_23_4 n σ (s.1 + (1 : Int32)) s.2
def f_Fam_size (n : Nat) (σ : ST) : Option (Int32) :=
  bnd (lp (b_Fam_size_4 n σ) n ((0 : Int32), (1 : Int32))) fun e1 =>
  some e1
theorem hf9_Fam_size : Cond.fieldLink RX1 9 (TX1 2).1 (TX1 2).2.1 (TX1 2).2.2.1 ∈ wsX1_size := by decide +kernel
theorem hi1_Fam_size : ∀ w ∈ u_ws RX1 TX1 4, w ∈ wsX1_size := by decide +kernel
set_option maxHeartbeats 4000000 in
set_option maxRecDepth 100000 in
theorem wj_Fam_size_23_4 {l : Launch} {D : va_G} {cs : Nat → ClassId} {K : XK} {ad : Nat → Nat} {im : Nat → Option Nat} {rest : va_W} (C : XC D cs K 3 rm_Fam_size cX1_size RX1 wsX1_size (some .int)) {n : Nat} {σ : ST} {v1 : Int32} {v2 : Int32} {o : (Int32 × Int32) ⊕ (Int32)} {e : (Int32)} (h : j_Fam_size_23_4 n σ v1 v2 = some o) (kin : ∀ (s : Int32 × Int32), o = .inl s → XW l D K 0 0 (wX cs ad σ im rest) 4 [(0, .ref (ad 6)), (1, .int s.1), (2, .int s.2)] []) (kex : ∀ e1, o = .inr e1 → e1 = e) (kx : ∀ (t : Int32), e = t → XW l D K 0 0 (wX cs ad σ im rest) 29 [(1, .int t)] []) : XW l D K 0 0 (wX cs ad σ im rest) 23 [(0, .ref (ad 6)), (1, .int v1), (2, .int v2)] [] := by
  unfold j_Fam_size_23_4 at h
  refine X_iinc (v := v2 + (1 : Int32)) (vs1 := [(2, .int (v2 + (1 : Int32))), (0, .ref (ad 6)), (1, .int v1)]) C 2 rfl rfl (by decide) rfl dX1_size_23 ?_
  refine X_goto C (tgt := 4) (by decide) dX1_size_26 ?_
  obtain rfl := Option.some.inj h
  refine X_loc (vs1 := [(0, .ref (ad 6)), (1, .int v1), (2, .int (v2 + (1 : Int32)))]) [1, 2, 0] rfl ?_
  exact kin _ rfl
set_option maxHeartbeats 4000000 in
set_option maxRecDepth 100000 in
theorem wb_Fam_size_4 {l : Launch} {D : va_G} {cs : Nat → ClassId} {K : XK} {ad : Nat → Nat} {im : Nat → Option Nat} {rest : va_W} (C : XC D cs K 3 rm_Fam_size cX1_size RX1 wsX1_size (some .int)) {n : Nat} {σ : ST} {e : (Int32)} (kx : ∀ (t : Int32), e = t → XW l D K 0 0 (wX cs ad σ im rest) 29 [(1, .int t)] []) : ∀ (q : Nat) (s : Int32 × Int32), lp (b_Fam_size_4 n σ) q s = some e → XW l D K 0 0 (wX cs ad σ im rest) 4 [(0, .ref (ad 6)), (1, .int s.1), (2, .int s.2)] [] := by
  refine lp_walk (G := fun (s : Int32 × Int32) => XW l D K 0 0 (wX cs ad σ im rest) 4 [(0, .ref (ad 6)), (1, .int s.1), (2, .int s.2)] []) ?_
  intro s o h kin kex
  unfold b_Fam_size_4 at h
  refine X_iload_n C 2 rfl rfl dX1_size_4 ?_
  refine X_sipush (v := 256) C (by decide) dX1_size_5 ?_
  refine X_icmpge C (tgt := 29) (by decide) dX1_size_8 h (fun h => ?_) (fun h => ?_)
  · obtain rfl := Option.some.inj h
    refine X_loc (vs1 := [(1, .int s.1)]) [1] rfl ?_
    exact kx _ (kex _ rfl).symm
  · refine X_aload_n C 0 rfl rfl dX1_size_11 ?_
    refine X_get C 6 2 hi1_Fam_size hf9_Fam_size (xe_6 _ _ _ _ _) rfl (by decide) rfl dX1_size_12 ?_
    refine X_iload_n C 2 rfl rfl dX1_size_15 ?_
    refine X_iald C 7 (xe_7 _ _ _ _ _) h dX1_size_16 (fun h => ?_)
    refine X_ifle C (tgt := 23) (by decide) dX1_size_17 h (fun h => ?_) (fun h => ?_)
    · exact wj_Fam_size_23_4 C h kin kex kx
    · refine X_iinc (v := s.1 + (1 : Int32)) (vs1 := [(1, .int (s.1 + (1 : Int32))), (0, .ref (ad 6)), (2, .int s.2)]) C 1 rfl rfl (by decide) rfl dX1_size_20 ?_
      refine X_loc (vs1 := [(0, .ref (ad 6)), (1, .int (s.1 + (1 : Int32))), (2, .int s.2)]) [1, 0, 2] rfl ?_
      exact wj_Fam_size_23_4 C h kin kex kx
set_option maxHeartbeats 4000000 in
set_option maxRecDepth 100000 in
theorem c_Fam_size {l : Launch} {D : va_G} {cs : Nat → ClassId} {ad : Nat → Nat} {im : Nat → Option Nat} {rest : va_W} {n : Nat} {σ : ST} {o : Int32} (h : f_Fam_size n σ = some o) : CTi l D cs yX1_size wsX1_size rm_Fam_size [.ref (ad 6)] (wX cs ad σ im rest) o (wX cs ad σ im rest) := by
  refine CTi_of (cc := cX1_size) (nL := 3) (by decide) rfl (Nat.le_of_ble_eq_true rfl) ?_
  intro K C hret
  unfold f_Fam_size at h
  refine X_loc (vs1 := [(0, .ref (ad 6))]) [0] rfl ?_
  refine X_iconst (v := 0) C (by decide) dX1_size_0 ?_
  refine X_istore_n (vs1 := [(1, .int (0 : Int32)), (0, .ref (ad 6))]) C rfl (by decide) rfl dX1_size_1 ?_
  refine X_iconst (v := 1) C (by decide) dX1_size_2 ?_
  refine X_istore_n (vs1 := [(2, .int (1 : Int32)), (1, .int (0 : Int32)), (0, .ref (ad 6))]) C rfl (by decide) rfl dX1_size_3 ?_
  obtain ⟨e1, he1, h⟩ := bnd_some h
  refine X_loc (vs1 := [(0, .ref (ad 6)), (1, .int (0 : Int32)), (2, .int (1 : Int32))]) [2, 1, 0] rfl ?_
  refine wb_Fam_size_4 C (e := e1) (fun t ht => ?_) n _ he1
  subst ht
  refine X_iload_n C 0 rfl rfl dX1_size_29 ?_
  obtain rfl := Option.some.inj h
  exact hret _ _ dX1_size_30

abbrev rm_Fam_memberAt : Room := { frames := 0, cells := 0, slots := 0, locals := 0 }
def j_Fam_memberAt_35_4 (n : Nat) (σ : ST) (v1 : Int32) (v2 : Int32) (v3 : Int32) : Option ((Int32 × Int32) ⊕ ((Unit) ⊕ (Int32))) :=
  some (.inl (v2, v3 + (1 : Int32)))
def b_Fam_memberAt_4 (n : Nat) (σ : ST) (v1 : Int32) (s : Int32 × Int32) : Option ((Int32 × Int32) ⊕ ((Unit) ⊕ (Int32))) :=
  if (256 : Int32) ≤ s.2 then
    some (.inr (.inl ()))
  else
    if v1 < s.1 then
      some (.inr (.inl ()))
    else
      grd (jin s.2 256) <|
      if (σ.2 7 (jix s.2)) ≤ 0 then
        j_Fam_memberAt_35_4 n σ v1 s.1 s.2
      else
        if s.1 = v1 then
          some (.inr (.inr s.2))
        else
          j_Fam_memberAt_35_4 n σ v1 (s.1 + (1 : Int32)) s.2
def f_Fam_memberAt (n : Nat) (σ : ST) (a0 : Int32) : Option (Int32) :=
  bnd (lp (b_Fam_memberAt_4 n σ a0) n ((0 : Int32), (1 : Int32))) fun e1 =>
  Sum.elim (fun t2 =>
    some (0 : Int32))
    (fun r => some r) e1
theorem hf9_Fam_memberAt : Cond.fieldLink RX1 9 (TX1 2).1 (TX1 2).2.1 (TX1 2).2.2.1 ∈ wsX1_memberAt := by decide +kernel
theorem hi1_Fam_memberAt : ∀ w ∈ u_ws RX1 TX1 4, w ∈ wsX1_memberAt := by decide +kernel
set_option maxHeartbeats 4000000 in
set_option maxRecDepth 100000 in
theorem wj_Fam_memberAt_35_4 {l : Launch} {D : va_G} {cs : Nat → ClassId} {K : XK} {ad : Nat → Nat} {im : Nat → Option Nat} {rest : va_W} (C : XC D cs K 4 rm_Fam_memberAt cX1_memberAt RX1 wsX1_memberAt (some .int)) {n : Nat} {σ : ST} {v1 : Int32} {v2 : Int32} {v3 : Int32} {o : (Int32 × Int32) ⊕ ((Unit) ⊕ (Int32))} {e : ((Unit) ⊕ (Int32))} (h : j_Fam_memberAt_35_4 n σ v1 v2 v3 = some o) (kin : ∀ (s : Int32 × Int32), o = .inl s → XW l D K 0 0 (wX cs ad σ im rest) 4 [(0, .ref (ad 6)), (1, .int v1), (2, .int s.1), (3, .int s.2)] []) (kex : ∀ e1, o = .inr e1 → e1 = e) (kx : ∀ (t : Unit), e = .inl t → XW l D K 0 0 (wX cs ad σ im rest) 41 [] []) (kr : ∀ (t : Int32), e = .inr t → XRi l D K cX1_memberAt t (wX cs ad σ im rest)) : XW l D K 0 0 (wX cs ad σ im rest) 35 [(0, .ref (ad 6)), (1, .int v1), (2, .int v2), (3, .int v3)] [] := by
  unfold j_Fam_memberAt_35_4 at h
  refine X_iinc (v := v3 + (1 : Int32)) (vs1 := [(3, .int (v3 + (1 : Int32))), (0, .ref (ad 6)), (1, .int v1), (2, .int v2)]) C 3 rfl rfl (by decide) rfl dX1_memberAt_35 ?_
  refine X_goto C (tgt := 4) (by decide) dX1_memberAt_38 ?_
  obtain rfl := Option.some.inj h
  refine X_loc (vs1 := [(0, .ref (ad 6)), (1, .int v1), (2, .int v2), (3, .int (v3 + (1 : Int32)))]) [1, 2, 3, 0] rfl ?_
  exact kin _ rfl
set_option maxHeartbeats 4000000 in
set_option maxRecDepth 100000 in
theorem wb_Fam_memberAt_4 {l : Launch} {D : va_G} {cs : Nat → ClassId} {K : XK} {ad : Nat → Nat} {im : Nat → Option Nat} {rest : va_W} (C : XC D cs K 4 rm_Fam_memberAt cX1_memberAt RX1 wsX1_memberAt (some .int)) {n : Nat} {σ : ST} {v1 : Int32} {e : ((Unit) ⊕ (Int32))} (kx : ∀ (t : Unit), e = .inl t → XW l D K 0 0 (wX cs ad σ im rest) 41 [] []) (kr : ∀ (t : Int32), e = .inr t → XRi l D K cX1_memberAt t (wX cs ad σ im rest)) : ∀ (q : Nat) (s : Int32 × Int32), lp (b_Fam_memberAt_4 n σ v1) q s = some e → XW l D K 0 0 (wX cs ad σ im rest) 4 [(0, .ref (ad 6)), (1, .int v1), (2, .int s.1), (3, .int s.2)] [] := by
  refine lp_walk (G := fun (s : Int32 × Int32) => XW l D K 0 0 (wX cs ad σ im rest) 4 [(0, .ref (ad 6)), (1, .int v1), (2, .int s.1), (3, .int s.2)] []) ?_
  intro s o h kin kex
  unfold b_Fam_memberAt_4 at h
  refine X_iload_n C 3 rfl rfl dX1_memberAt_4 ?_
  refine X_sipush (v := 256) C (by decide) dX1_memberAt_5 ?_
  refine X_icmpge C (tgt := 41) (by decide) dX1_memberAt_8 h (fun h => ?_) (fun h => ?_)
  · obtain rfl := Option.some.inj h
    refine X_loc (vs1 := []) [] rfl ?_
    exact kx _ (kex _ rfl).symm
  · refine X_iload_n C 2 rfl rfl dX1_memberAt_11 ?_
    refine X_iload_n C 1 rfl rfl dX1_memberAt_12 ?_
    refine X_icmpgt C (tgt := 41) (by decide) dX1_memberAt_13 h (fun h => ?_) (fun h => ?_)
    · obtain rfl := Option.some.inj h
      refine X_loc (vs1 := []) [] rfl ?_
      exact kx _ (kex _ rfl).symm
    · refine X_aload_n C 0 rfl rfl dX1_memberAt_16 ?_
      refine X_get C 6 2 hi1_Fam_memberAt hf9_Fam_memberAt (xe_6 _ _ _ _ _) rfl (by decide) rfl dX1_memberAt_17 ?_
      refine X_iload_n C 3 rfl rfl dX1_memberAt_20 ?_
      refine X_iald C 7 (xe_7 _ _ _ _ _) h dX1_memberAt_21 (fun h => ?_)
      refine X_ifle C (tgt := 35) (by decide) dX1_memberAt_22 h (fun h => ?_) (fun h => ?_)
      · exact wj_Fam_memberAt_35_4 C h kin kex kx kr
      · refine X_iload_n C 2 rfl rfl dX1_memberAt_25 ?_
        refine X_iload_n C 1 rfl rfl dX1_memberAt_26 ?_
        refine X_icmpne C (tgt := 32) (by decide) dX1_memberAt_27 h (fun h => ?_) (fun h => ?_)
        · refine X_iinc (v := s.1 + (1 : Int32)) (vs1 := [(2, .int (s.1 + (1 : Int32))), (0, .ref (ad 6)), (1, .int v1), (3, .int s.2)]) C 2 rfl rfl (by decide) rfl dX1_memberAt_32 ?_
          refine X_loc (vs1 := [(0, .ref (ad 6)), (1, .int v1), (2, .int (s.1 + (1 : Int32))), (3, .int s.2)]) [1, 2, 0, 3] rfl ?_
          exact wj_Fam_memberAt_35_4 C h kin kex kx kr
        · refine X_iload_n C 3 rfl rfl dX1_memberAt_30 ?_
          obtain rfl := Option.some.inj h
          exact kr _ (kex _ rfl).symm _ _ dX1_memberAt_31
set_option maxHeartbeats 4000000 in
set_option maxRecDepth 100000 in
theorem c_Fam_memberAt {l : Launch} {D : va_G} {cs : Nat → ClassId} {ad : Nat → Nat} {im : Nat → Option Nat} {rest : va_W} {n : Nat} {σ : ST} {a0 : Int32} {o : Int32} (h : f_Fam_memberAt n σ a0 = some o) : CTi l D cs yX1_memberAt wsX1_memberAt rm_Fam_memberAt [.ref (ad 6), .int a0] (wX cs ad σ im rest) o (wX cs ad σ im rest) := by
  refine CTi_of (cc := cX1_memberAt) (nL := 4) (by decide) rfl (Nat.le_of_ble_eq_true rfl) ?_
  intro K C hret
  unfold f_Fam_memberAt at h
  refine X_loc (vs1 := [(0, .ref (ad 6)), (1, .int a0)]) [0, 1] rfl ?_
  refine X_iconst (v := 0) C (by decide) dX1_memberAt_0 ?_
  refine X_istore_n (vs1 := [(2, .int (0 : Int32)), (0, .ref (ad 6)), (1, .int a0)]) C rfl (by decide) rfl dX1_memberAt_1 ?_
  refine X_iconst (v := 1) C (by decide) dX1_memberAt_2 ?_
  refine X_istore_n (vs1 := [(3, .int (1 : Int32)), (2, .int (0 : Int32)), (0, .ref (ad 6)), (1, .int a0)]) C rfl (by decide) rfl dX1_memberAt_3 ?_
  obtain ⟨e1, he1, h⟩ := bnd_some h
  refine X_loc (vs1 := [(0, .ref (ad 6)), (1, .int a0), (2, .int (0 : Int32)), (3, .int (1 : Int32))]) [2, 3, 1, 0] rfl ?_
  refine wb_Fam_memberAt_4 C (e := e1) (fun t2 ht => ?_) (fun r ht => ?_) n _ he1
  · subst ht
    dsimp only [Sum.elim] at h
    refine X_iconst (v := 0) C (by decide) dX1_memberAt_41 ?_
    obtain rfl := Option.some.inj h
    exact hret _ _ dX1_memberAt_42
  · subst ht
    dsimp only [Sum.elim] at h
    obtain rfl := Option.some.inj h
    exact hret

abbrev rm_Fam_areCrossing : Room := { frames := 0, cells := 0, slots := 0, locals := 0 }
def j_Fam_areCrossing_41 (n : Nat) (σ : ST) (t0 : Int32) : Option (Int32) :=
  grd (jz t0) <|
  some t0
def j_Fam_areCrossing_40 (n : Nat) (σ : ST) : Option (Int32) :=
  j_Fam_areCrossing_41 n σ (0 : Int32)
def f_Fam_areCrossing (n : Nat) (σ : ST) (a0 : Int32) (a1 : Int32) : Option (Int32) :=
  if (a0 &&& a1) = 0 then
    j_Fam_areCrossing_40 n σ
  else
    if (a0 &&& a1) = a0 then
      j_Fam_areCrossing_40 n σ
    else
      if (a0 &&& a1) = a1 then
        j_Fam_areCrossing_40 n σ
      else
        if (a0 ||| a1) = ((jshl (1 : Int32) (σ.1 385)) - (1 : Int32)) then
          j_Fam_areCrossing_40 n σ
        else
          j_Fam_areCrossing_41 n σ (1 : Int32)
theorem hf26_Fam_areCrossing : Cond.fieldLink RX1 26 (TX1 1).1 (TX1 1).2.1 (TX1 1).2.2.1 ∈ wsX1_areCrossing := by decide +kernel
theorem hi1_Fam_areCrossing : ∀ w ∈ u_ws RX1 TX1 4, w ∈ wsX1_areCrossing := by decide +kernel
set_option maxHeartbeats 4000000 in
set_option maxRecDepth 100000 in
theorem wj_Fam_areCrossing_41 {l : Launch} {D : va_G} {cs : Nat → ClassId} {K : XK} {ad : Nat → Nat} {im : Nat → Option Nat} {rest : va_W} (C : XC D cs K 5 rm_Fam_areCrossing cX1_areCrossing RX1 wsX1_areCrossing (some .boolean)) {n : Nat} {σ : ST} {t0 : Int32} {o : Int32} (h : j_Fam_areCrossing_41 n σ t0 = some o) (hret : XRz l D K cX1_areCrossing o (wX cs ad σ im rest)) : XW l D K 0 0 (wX cs ad σ im rest) 41 [] [.int t0] := by
  unfold j_Fam_areCrossing_41 at h
  obtain ⟨hz, h⟩ := grd_some h
  obtain rfl := Option.some.inj h
  exact hret _ _ hz dX1_areCrossing_41
set_option maxHeartbeats 4000000 in
set_option maxRecDepth 100000 in
theorem wj_Fam_areCrossing_40 {l : Launch} {D : va_G} {cs : Nat → ClassId} {K : XK} {ad : Nat → Nat} {im : Nat → Option Nat} {rest : va_W} (C : XC D cs K 5 rm_Fam_areCrossing cX1_areCrossing RX1 wsX1_areCrossing (some .boolean)) {n : Nat} {σ : ST} {o : Int32} (h : j_Fam_areCrossing_40 n σ = some o) (hret : XRz l D K cX1_areCrossing o (wX cs ad σ im rest)) : XW l D K 0 0 (wX cs ad σ im rest) 40 [] [] := by
  unfold j_Fam_areCrossing_40 at h
  refine X_iconst (v := 0) C (by decide) dX1_areCrossing_40 ?_
  exact wj_Fam_areCrossing_41 C h hret
set_option maxHeartbeats 4000000 in
set_option maxRecDepth 100000 in
theorem c_Fam_areCrossing {l : Launch} {D : va_G} {cs : Nat → ClassId} {ad : Nat → Nat} {im : Nat → Option Nat} {rest : va_W} {n : Nat} {σ : ST} {a0 : Int32} {a1 : Int32} {o : Int32} (h : f_Fam_areCrossing n σ a0 a1 = some o) : CTi l D cs yX1_areCrossing wsX1_areCrossing rm_Fam_areCrossing [.ref (ad 6), .int a0, .int a1] (wX cs ad σ im rest) o (wX cs ad σ im rest) := by
  refine CTz_of (cc := cX1_areCrossing) (nL := 5) (by decide) rfl (Nat.le_of_ble_eq_true rfl) ?_
  intro K C hret
  unfold f_Fam_areCrossing at h
  refine X_loc (vs1 := [(0, .ref (ad 6)), (1, .int a0), (2, .int a1)]) [0, 1, 2] rfl ?_
  refine X_iload_n C 1 rfl rfl dX1_areCrossing_0 ?_
  refine X_iload_n C 2 rfl rfl dX1_areCrossing_1 ?_
  refine X_iand C dX1_areCrossing_2 ?_
  refine X_istore_n (vs1 := [(3, .int (a0 &&& a1)), (0, .ref (ad 6)), (1, .int a0), (2, .int a1)]) C rfl (by decide) rfl dX1_areCrossing_3 ?_
  refine X_iload_n C 2 rfl rfl dX1_areCrossing_4 ?_
  refine X_iload_n C 3 rfl rfl dX1_areCrossing_5 ?_
  refine X_ior C dX1_areCrossing_6 ?_
  refine X_istore (vs1 := [(4, .int (a0 ||| a1)), (3, .int (a0 &&& a1)), (0, .ref (ad 6)), (1, .int a0), (2, .int a1)]) C (by decide) rfl dX1_areCrossing_7 ?_
  refine X_iload_n C 1 rfl rfl dX1_areCrossing_9 ?_
  refine X_ifeq C (tgt := 40) (by decide) dX1_areCrossing_10 h (fun h => ?_) (fun h => ?_)
  · refine X_loc (vs1 := []) [] rfl ?_
    exact wj_Fam_areCrossing_40 C h hret
  · refine X_iload_n C 1 rfl rfl dX1_areCrossing_13 ?_
    refine X_iload_n C 3 rfl rfl dX1_areCrossing_14 ?_
    refine X_icmpeq C (tgt := 40) (by decide) dX1_areCrossing_15 h (fun h => ?_) (fun h => ?_)
    · refine X_loc (vs1 := []) [] rfl ?_
      exact wj_Fam_areCrossing_40 C h hret
    · refine X_iload_n C 1 rfl rfl dX1_areCrossing_18 ?_
      refine X_iload_n C 4 rfl rfl dX1_areCrossing_19 ?_
      refine X_icmpeq C (tgt := 40) (by decide) dX1_areCrossing_20 h (fun h => ?_) (fun h => ?_)
      · refine X_loc (vs1 := []) [] rfl ?_
        exact wj_Fam_areCrossing_40 C h hret
      · refine X_iload C 0 rfl dX1_areCrossing_23 ?_
        refine X_iconst (v := 1) C (by decide) dX1_areCrossing_25 ?_
        refine X_aload_n C 2 rfl rfl dX1_areCrossing_26 ?_
        refine X_get C 6 1 hi1_Fam_areCrossing hf26_Fam_areCrossing (xe_6 _ _ _ _ _) rfl (by decide) rfl dX1_areCrossing_27 ?_
        refine X_ishl C dX1_areCrossing_30 ?_
        refine X_iconst (v := 1) C (by decide) dX1_areCrossing_31 ?_
        refine X_isub C dX1_areCrossing_32 ?_
        refine X_icmpeq C (tgt := 40) (by decide) dX1_areCrossing_33 h (fun h => ?_) (fun h => ?_)
        · refine X_loc (vs1 := []) [] rfl ?_
          exact wj_Fam_areCrossing_40 C h hret
        · refine X_iconst (v := 1) C (by decide) dX1_areCrossing_36 ?_
          refine X_goto C (tgt := 41) (by decide) dX1_areCrossing_37 ?_
          refine X_loc (vs1 := []) [] rfl ?_
          exact wj_Fam_areCrossing_41 C h hret

abbrev rm_Fam_crossedBy : Room := { frames := 1, cells := 0, slots := 0, locals := 24 }
def j_Fam_crossedBy_42_15 (n : Nat) (σ : ST) (v1 : Int32) (v2 : Int32) : Option ((Int32) ⊕ ((Unit) ⊕ (Int32))) :=
  some (.inl (v2 + (1 : Int32)))
def b_Fam_crossedBy_15 (n : Nat) (σ : ST) (v1 : Int32) (s : Int32) : Option ((Int32) ⊕ ((Unit) ⊕ (Int32))) :=
  if (256 : Int32) ≤ s then
    some (.inr (.inl ()))
  else
    grd (jin s 256) <|
    if (σ.2 7 (jix s)) ≤ 0 then
      j_Fam_crossedBy_42_15 n σ v1 s
    else
      bnd (f_Fam_areCrossing n σ v1 s) fun o1 =>
      if o1 = 0 then
        j_Fam_crossedBy_42_15 n σ v1 s
      else
        some (.inr (.inr s))
def f_Fam_crossedBy (n : Nat) (σ : ST) (a0 : Int32) : Option (Int32) :=
  grd (jin a0 256) <|
  if (σ.2 7 (jix a0)) = 0 then
    some (0 : Int32)
  else
    bnd (lp (b_Fam_crossedBy_15 n σ a0) n (a0 + (1 : Int32))) fun e2 =>
    Sum.elim (fun t3 =>
      some (0 : Int32))
      (fun r => some r) e2
theorem hf9_Fam_crossedBy : Cond.fieldLink RX1 9 (TX1 2).1 (TX1 2).2.1 (TX1 2).2.2.1 ∈ wsX1_crossedBy := by decide +kernel
theorem hi1_Fam_crossedBy : ∀ w ∈ u_ws RX1 TX1 4, w ∈ wsX1_crossedBy := by decide +kernel
set_option maxHeartbeats 4000000 in
set_option maxRecDepth 100000 in
theorem wj_Fam_crossedBy_42_15 {l : Launch} {D : va_G} {cs : Nat → ClassId} {K : XK} {ad : Nat → Nat} {im : Nat → Option Nat} {rest : va_W} (C : XC D cs K 3 rm_Fam_crossedBy cX1_crossedBy RX1 wsX1_crossedBy (some .int)) {n : Nat} {σ : ST} {v1 : Int32} {v2 : Int32} {o : (Int32) ⊕ ((Unit) ⊕ (Int32))} {e : ((Unit) ⊕ (Int32))} (h : j_Fam_crossedBy_42_15 n σ v1 v2 = some o) (kin : ∀ (s : Int32), o = .inl s → XW l D K 0 0 (wX cs ad σ im rest) 15 [(0, .ref (ad 6)), (1, .int v1), (2, .int s)] []) (kex : ∀ e1, o = .inr e1 → e1 = e) (kx : ∀ (t : Unit), e = .inl t → XW l D K 0 0 (wX cs ad σ im rest) 48 [] []) (kr : ∀ (t : Int32), e = .inr t → XRi l D K cX1_crossedBy t (wX cs ad σ im rest)) : XW l D K 0 0 (wX cs ad σ im rest) 42 [(0, .ref (ad 6)), (1, .int v1), (2, .int v2)] [] := by
  unfold j_Fam_crossedBy_42_15 at h
  refine X_iinc (v := v2 + (1 : Int32)) (vs1 := [(2, .int (v2 + (1 : Int32))), (0, .ref (ad 6)), (1, .int v1)]) C 2 rfl rfl (by decide) rfl dX1_crossedBy_42 ?_
  refine X_goto C (tgt := 15) (by decide) dX1_crossedBy_45 ?_
  obtain rfl := Option.some.inj h
  refine X_loc (vs1 := [(0, .ref (ad 6)), (1, .int v1), (2, .int (v2 + (1 : Int32)))]) [1, 2, 0] rfl ?_
  exact kin _ rfl
set_option maxHeartbeats 4000000 in
set_option maxRecDepth 100000 in
theorem wb_Fam_crossedBy_15 {l : Launch} {D : va_G} {cs : Nat → ClassId} {K : XK} {ad : Nat → Nat} {im : Nat → Option Nat} {rest : va_W} (C : XC D cs K 3 rm_Fam_crossedBy cX1_crossedBy RX1 wsX1_crossedBy (some .int)) {n : Nat} {σ : ST} {v1 : Int32} {e : ((Unit) ⊕ (Int32))} (kx : ∀ (t : Unit), e = .inl t → XW l D K 0 0 (wX cs ad σ im rest) 48 [] []) (kr : ∀ (t : Int32), e = .inr t → XRi l D K cX1_crossedBy t (wX cs ad σ im rest)) : ∀ (q : Nat) (s : Int32), lp (b_Fam_crossedBy_15 n σ v1) q s = some e → XW l D K 0 0 (wX cs ad σ im rest) 15 [(0, .ref (ad 6)), (1, .int v1), (2, .int s)] [] := by
  refine lp_walk (G := fun (s : Int32) => XW l D K 0 0 (wX cs ad σ im rest) 15 [(0, .ref (ad 6)), (1, .int v1), (2, .int s)] []) ?_
  intro s o h kin kex
  unfold b_Fam_crossedBy_15 at h
  refine X_iload_n C 2 rfl rfl dX1_crossedBy_15 ?_
  refine X_sipush (v := 256) C (by decide) dX1_crossedBy_16 ?_
  refine X_icmpge C (tgt := 48) (by decide) dX1_crossedBy_19 h (fun h => ?_) (fun h => ?_)
  · obtain rfl := Option.some.inj h
    refine X_loc (vs1 := []) [] rfl ?_
    exact kx _ (kex _ rfl).symm
  · refine X_aload_n C 0 rfl rfl dX1_crossedBy_22 ?_
    refine X_get C 6 2 hi1_Fam_crossedBy hf9_Fam_crossedBy (xe_6 _ _ _ _ _) rfl (by decide) rfl dX1_crossedBy_23 ?_
    refine X_iload_n C 2 rfl rfl dX1_crossedBy_26 ?_
    refine X_iald C 7 (xe_7 _ _ _ _ _) h dX1_crossedBy_27 (fun h => ?_)
    refine X_ifle C (tgt := 42) (by decide) dX1_crossedBy_28 h (fun h => ?_) (fun h => ?_)
    · exact wj_Fam_crossedBy_42_15 C h kin kex kx kr
    · refine X_aload_n C 0 rfl rfl dX1_crossedBy_31 ?_
      refine X_iload_n C 1 rfl rfl dX1_crossedBy_32 ?_
      refine X_iload_n C 2 rfl rfl dX1_crossedBy_33 ?_
      obtain ⟨o1, eo1, h⟩ := bnd_some h
      refine X_callVi C (n := 2) (As := [.int v1, .int s]) (c_Fam_areCrossing eo1) rfl gX1_crossedBy_X1_areCrossing rfl rfl (xe_6 _ _ _ _ _) rfl rfl (by decide +kernel) ⟨Nat.le_of_ble_eq_true rfl, Nat.le_of_ble_eq_true rfl⟩ ⟨Nat.zero_le _, Nat.zero_le _⟩ rfl rfl (Nat.le_of_ble_eq_true rfl) dX1_crossedBy_34 ?_
      refine X_ifeq C (tgt := 42) (by decide) dX1_crossedBy_37 h (fun h => ?_) (fun h => ?_)
      · exact wj_Fam_crossedBy_42_15 C h kin kex kx kr
      · refine X_iload_n C 2 rfl rfl dX1_crossedBy_40 ?_
        obtain rfl := Option.some.inj h
        exact kr _ (kex _ rfl).symm _ _ dX1_crossedBy_41
set_option maxHeartbeats 4000000 in
set_option maxRecDepth 100000 in
theorem c_Fam_crossedBy {l : Launch} {D : va_G} {cs : Nat → ClassId} {ad : Nat → Nat} {im : Nat → Option Nat} {rest : va_W} {n : Nat} {σ : ST} {a0 : Int32} {o : Int32} (h : f_Fam_crossedBy n σ a0 = some o) : CTi l D cs yX1_crossedBy wsX1_crossedBy rm_Fam_crossedBy [.ref (ad 6), .int a0] (wX cs ad σ im rest) o (wX cs ad σ im rest) := by
  refine CTi_of (cc := cX1_crossedBy) (nL := 3) (by decide) rfl (Nat.le_of_ble_eq_true rfl) ?_
  intro K C hret
  unfold f_Fam_crossedBy at h
  refine X_loc (vs1 := [(0, .ref (ad 6)), (1, .int a0)]) [0, 1] rfl ?_
  refine X_aload_n C 0 rfl rfl dX1_crossedBy_0 ?_
  refine X_get C 6 2 hi1_Fam_crossedBy hf9_Fam_crossedBy (xe_6 _ _ _ _ _) rfl (by decide) rfl dX1_crossedBy_1 ?_
  refine X_iload_n C 1 rfl rfl dX1_crossedBy_4 ?_
  refine X_iald C 7 (xe_7 _ _ _ _ _) h dX1_crossedBy_5 (fun h => ?_)
  refine X_ifne C (tgt := 11) (by decide) dX1_crossedBy_6 h (fun h => ?_) (fun h => ?_)
  · refine X_iload_n C 1 rfl rfl dX1_crossedBy_11 ?_
    refine X_iconst (v := 1) C (by decide) dX1_crossedBy_12 ?_
    refine X_iadd C dX1_crossedBy_13 ?_
    refine X_istore_n (vs1 := [(2, .int (a0 + (1 : Int32))), (0, .ref (ad 6)), (1, .int a0)]) C rfl (by decide) rfl dX1_crossedBy_14 ?_
    obtain ⟨e2, he2, h⟩ := bnd_some h
    refine X_loc (vs1 := [(0, .ref (ad 6)), (1, .int a0), (2, .int (a0 + (1 : Int32)))]) [1, 2, 0] rfl ?_
    refine wb_Fam_crossedBy_15 C (e := e2) (fun t3 ht => ?_) (fun r ht => ?_) n _ he2
    · subst ht
      dsimp only [Sum.elim] at h
      refine X_iconst (v := 0) C (by decide) dX1_crossedBy_48 ?_
      obtain rfl := Option.some.inj h
      exact hret _ _ dX1_crossedBy_49
    · subst ht
      dsimp only [Sum.elim] at h
      obtain rfl := Option.some.inj h
      exact hret
  · refine X_iconst (v := 0) C (by decide) dX1_crossedBy_9 ?_
    obtain rfl := Option.some.inj h
    exact hret _ _ dX1_crossedBy_10

abbrev rm_Fam_firstCrossing : Room := { frames := 2, cells := 0, slots := 0, locals := 46 }
def b_Fam_firstCrossing_2 (n : Nat) (σ : ST) (s : Int32) : Option ((Int32) ⊕ ((Unit) ⊕ (Int32))) :=
  if (256 : Int32) ≤ s then
    some (.inr (.inl ()))
  else
    bnd (f_Fam_crossedBy n σ s) fun o1 =>
    if o1 = 0 then
      some (.inl (s + (1 : Int32)))
    else
      some (.inr (.inr s))
def f_Fam_firstCrossing (n : Nat) (σ : ST) (a0 : Int32) : Option (Int32) :=
  bnd (lp (b_Fam_firstCrossing_2 n σ) n a0) fun e2 =>
  Sum.elim (fun t3 =>
    some (0 : Int32))
    (fun r => some r) e2
set_option maxHeartbeats 4000000 in
set_option maxRecDepth 100000 in
theorem wb_Fam_firstCrossing_2 {l : Launch} {D : va_G} {cs : Nat → ClassId} {K : XK} {ad : Nat → Nat} {im : Nat → Option Nat} {rest : va_W} (C : XC D cs K 3 rm_Fam_firstCrossing cX1_firstCrossing RX1 wsX1_firstCrossing (some .int)) {n : Nat} {σ : ST} {e : ((Unit) ⊕ (Int32))} (kx : ∀ (t : Unit), e = .inl t → XW l D K 0 0 (wX cs ad σ im rest) 25 [] []) (kr : ∀ (t : Int32), e = .inr t → XRi l D K cX1_firstCrossing t (wX cs ad σ im rest)) : ∀ (q : Nat) (s : Int32), lp (b_Fam_firstCrossing_2 n σ) q s = some e → XW l D K 0 0 (wX cs ad σ im rest) 2 [(0, .ref (ad 6)), (2, .int s)] [] := by
  refine lp_walk (G := fun (s : Int32) => XW l D K 0 0 (wX cs ad σ im rest) 2 [(0, .ref (ad 6)), (2, .int s)] []) ?_
  intro s o h kin kex
  unfold b_Fam_firstCrossing_2 at h
  refine X_iload_n C 1 rfl rfl dX1_firstCrossing_2 ?_
  refine X_sipush (v := 256) C (by decide) dX1_firstCrossing_3 ?_
  refine X_icmpge C (tgt := 25) (by decide) dX1_firstCrossing_6 h (fun h => ?_) (fun h => ?_)
  · obtain rfl := Option.some.inj h
    refine X_loc (vs1 := []) [] rfl ?_
    exact kx _ (kex _ rfl).symm
  · refine X_aload_n C 0 rfl rfl dX1_firstCrossing_9 ?_
    refine X_iload_n C 1 rfl rfl dX1_firstCrossing_10 ?_
    obtain ⟨o1, eo1, h⟩ := bnd_some h
    refine X_callVi C (n := 1) (As := [.int s]) (c_Fam_crossedBy eo1) rfl gX1_firstCrossing_X1_crossedBy rfl rfl (xe_6 _ _ _ _ _) rfl rfl (by decide +kernel) ⟨Nat.le_of_ble_eq_true rfl, Nat.le_of_ble_eq_true rfl⟩ ⟨Nat.zero_le _, Nat.zero_le _⟩ rfl rfl (Nat.le_of_ble_eq_true rfl) dX1_firstCrossing_11 ?_
    refine X_ifeq C (tgt := 19) (by decide) dX1_firstCrossing_14 h (fun h => ?_) (fun h => ?_)
    · refine X_iinc (v := s + (1 : Int32)) (vs1 := [(2, .int (s + (1 : Int32))), (0, .ref (ad 6))]) C 1 rfl rfl (by decide) rfl dX1_firstCrossing_19 ?_
      refine X_goto C (tgt := 2) (by decide) dX1_firstCrossing_22 ?_
      obtain rfl := Option.some.inj h
      refine X_loc (vs1 := [(0, .ref (ad 6)), (2, .int (s + (1 : Int32)))]) [1, 0] rfl ?_
      exact kin _ rfl
    · refine X_iload_n C 1 rfl rfl dX1_firstCrossing_17 ?_
      obtain rfl := Option.some.inj h
      exact kr _ (kex _ rfl).symm _ _ dX1_firstCrossing_18
set_option maxHeartbeats 4000000 in
set_option maxRecDepth 100000 in
theorem c_Fam_firstCrossing {l : Launch} {D : va_G} {cs : Nat → ClassId} {ad : Nat → Nat} {im : Nat → Option Nat} {rest : va_W} {n : Nat} {σ : ST} {a0 : Int32} {o : Int32} (h : f_Fam_firstCrossing n σ a0 = some o) : CTi l D cs yX1_firstCrossing wsX1_firstCrossing rm_Fam_firstCrossing [.ref (ad 6), .int a0] (wX cs ad σ im rest) o (wX cs ad σ im rest) := by
  refine CTi_of (cc := cX1_firstCrossing) (nL := 3) (by decide) rfl (Nat.le_of_ble_eq_true rfl) ?_
  intro K C hret
  unfold f_Fam_firstCrossing at h
  refine X_loc (vs1 := [(0, .ref (ad 6)), (1, .int a0)]) [0, 1] rfl ?_
  refine X_iload_n C 1 rfl rfl dX1_firstCrossing_0 ?_
  refine X_istore_n (vs1 := [(2, .int a0), (0, .ref (ad 6)), (1, .int a0)]) C rfl (by decide) rfl dX1_firstCrossing_1 ?_
  obtain ⟨e2, he2, h⟩ := bnd_some h
  refine X_loc (vs1 := [(0, .ref (ad 6)), (2, .int a0)]) [1, 0] rfl ?_
  refine wb_Fam_firstCrossing_2 C (e := e2) (fun t3 ht => ?_) (fun r ht => ?_) n _ he2
  · subst ht
    dsimp only [Sum.elim] at h
    refine X_iconst (v := 0) C (by decide) dX1_firstCrossing_25 ?_
    obtain rfl := Option.some.inj h
    exact hret _ _ dX1_firstCrossing_26
  · subst ht
    dsimp only [Sum.elim] at h
    obtain rfl := Option.some.inj h
    exact hret

abbrev rm_Fam_uncrossPair : Room := { frames := 1, cells := 0, slots := 0, locals := 32 }
def f_Fam_uncrossPair (σ : ST) (a0 : Int32) (a1 : Int32) : Option (ST) :=
  grd (jin a0 256) <|
  grd (jin a1 256) <|
  nam (jmin (σ.2 7 (jix a0)) (σ.2 7 (jix a1))) fun x1 =>
  grd (jin a0 256) <|
  grd (jin a0 256) <|
  nam (sA σ 7 (upd (σ.2 7) (jix a0) ((σ.2 7 (jix a0)) - x1))) fun σ2 =>
  grd (jin a1 256) <|
  grd (jin a1 256) <|
  nam (sA σ2 7 (upd (σ2.2 7) (jix a1) ((σ2.2 7 (jix a1)) - x1))) fun σ3 =>
  grd (jin (a0 &&& a1) 256) <|
  grd (jin (a0 &&& a1) 256) <|
  nam (sA σ3 7 (upd (σ3.2 7) (jix (a0 &&& a1)) ((σ3.2 7 (jix (a0 &&& a1))) + x1))) fun σ4 =>
  grd (jin (a0 ||| a1) 256) <|
  grd (jin (a0 ||| a1) 256) <|
  nam (sA σ4 7 (upd (σ4.2 7) (jix (a0 ||| a1)) ((σ4.2 7 (jix (a0 ||| a1))) + x1))) fun σ5 =>
  some σ5
theorem hmc_Fam_uncrossPair : Cond.code Lib.Math.min.name Lib.Math.min.code 2 (some .int) ∈ wsX1_uncrossPair := by decide +kernel
theorem hmi_Fam_uncrossPair : Cond.initialized "java/lang/Math" ∈ wsX1_uncrossPair := by decide +kernel
theorem hms_Fam_uncrossPair : Cond.static Lib.Math.min.name ∈ wsX1_uncrossPair := by decide +kernel
theorem hm55_Fam_uncrossPair : Cond.methodLink RX1 55 Lib.Math.min.name ∈ wsX1_uncrossPair := by decide +kernel
theorem hf9_Fam_uncrossPair : Cond.fieldLink RX1 9 (TX1 2).1 (TX1 2).2.1 (TX1 2).2.2.1 ∈ wsX1_uncrossPair := by decide +kernel
theorem hi1_Fam_uncrossPair : ∀ w ∈ u_ws RX1 TX1 4, w ∈ wsX1_uncrossPair := by decide +kernel
set_option maxHeartbeats 4000000 in
set_option maxRecDepth 100000 in
theorem c_Fam_uncrossPair {l : Launch} {D : va_G} {cs : Nat → ClassId} {ad : Nat → Nat} {im : Nat → Option Nat} {rest : va_W} {σ : ST} {a0 : Int32} {a1 : Int32} {o : ST} (h : f_Fam_uncrossPair σ a0 a1 = some o) : CTv l D cs yX1_uncrossPair wsX1_uncrossPair rm_Fam_uncrossPair [.ref (ad 6), .int a0, .int a1] (wX cs ad σ im rest) (wX cs ad o im rest) := by
  refine CTv_of (cc := cX1_uncrossPair) (nL := 4) (by decide) rfl (Nat.le_of_ble_eq_true rfl) ?_
  intro K C hret
  unfold f_Fam_uncrossPair at h
  refine X_loc (vs1 := [(0, .ref (ad 6)), (1, .int a0), (2, .int a1)]) [0, 1, 2] rfl ?_
  refine X_aload_n C 0 rfl rfl dX1_uncrossPair_0 ?_
  refine X_get C 6 2 hi1_Fam_uncrossPair hf9_Fam_uncrossPair (xe_6 _ _ _ _ _) rfl (by decide) rfl dX1_uncrossPair_1 ?_
  refine X_iload_n C 1 rfl rfl dX1_uncrossPair_4 ?_
  refine X_iald C 7 (xe_7 _ _ _ _ _) h dX1_uncrossPair_5 (fun h => ?_)
  refine X_aload_n C 0 rfl rfl dX1_uncrossPair_6 ?_
  refine X_get C 6 2 hi1_Fam_uncrossPair hf9_Fam_uncrossPair (xe_6 _ _ _ _ _) rfl (by decide) rfl dX1_uncrossPair_7 ?_
  refine X_iload_n C 2 rfl rfl dX1_uncrossPair_10 ?_
  refine X_iald C 7 (xe_7 _ _ _ _ _) h dX1_uncrossPair_11 (fun h => ?_)
  refine X_mmin C hm55_Fam_uncrossPair hms_Fam_uncrossPair hmi_Fam_uncrossPair hmc_Fam_uncrossPair (Nat.le_of_ble_eq_true rfl) (Nat.le_of_ble_eq_true rfl) (Nat.zero_le _) (Nat.zero_le _) dX1_uncrossPair_12 ?_
  refine X_nam (G := fun x1 => XW l D K 0 0 (wX cs ad σ im rest) 15 [(0, .ref (ad 6)), (1, .int a0), (2, .int a1)] [.int x1]) h (fun x1 h => ?_)
  refine X_istore_n (vs1 := [(3, .int x1), (0, .ref (ad 6)), (1, .int a0), (2, .int a1)]) C rfl (by decide) rfl dX1_uncrossPair_15 ?_
  refine X_aload_n C 1 rfl rfl dX1_uncrossPair_16 ?_
  refine X_get C 6 2 hi1_Fam_uncrossPair hf9_Fam_uncrossPair (xe_6 _ _ _ _ _) rfl (by decide) rfl dX1_uncrossPair_17 ?_
  refine X_iload_n C 2 rfl rfl dX1_uncrossPair_20 ?_
  refine X_dup2 C rfl rfl dX1_uncrossPair_21 ?_
  refine X_iald C 7 (xe_7 _ _ _ _ _) h dX1_uncrossPair_22 (fun h => ?_)
  refine X_iload_n C 0 rfl rfl dX1_uncrossPair_23 ?_
  refine X_isub C dX1_uncrossPair_24 ?_
  refine X_iast C 7 (xe_7 _ _ _ _ _) (xa_7 _ _ _ _ _ _) h dX1_uncrossPair_25 (fun h => ?_)
  refine X_nam (G := fun σ2 => XW l D K 0 0 (wX cs ad σ2 im rest) 26 [(3, .int x1), (0, .ref (ad 6)), (1, .int a0), (2, .int a1)] []) h (fun σ2 h => ?_)
  refine X_aload_n C 1 rfl rfl dX1_uncrossPair_26 ?_
  refine X_get C 6 2 hi1_Fam_uncrossPair hf9_Fam_uncrossPair (xe_6 _ _ _ _ _) rfl (by decide) rfl dX1_uncrossPair_27 ?_
  refine X_iload_n C 3 rfl rfl dX1_uncrossPair_30 ?_
  refine X_dup2 C rfl rfl dX1_uncrossPair_31 ?_
  refine X_iald C 7 (xe_7 _ _ _ _ _) h dX1_uncrossPair_32 (fun h => ?_)
  refine X_iload_n C 0 rfl rfl dX1_uncrossPair_33 ?_
  refine X_isub C dX1_uncrossPair_34 ?_
  refine X_iast C 7 (xe_7 _ _ _ _ _) (xa_7 _ _ _ _ _ _) h dX1_uncrossPair_35 (fun h => ?_)
  refine X_nam (G := fun σ3 => XW l D K 0 0 (wX cs ad σ3 im rest) 36 [(3, .int x1), (0, .ref (ad 6)), (1, .int a0), (2, .int a1)] []) h (fun σ3 h => ?_)
  refine X_aload_n C 1 rfl rfl dX1_uncrossPair_36 ?_
  refine X_get C 6 2 hi1_Fam_uncrossPair hf9_Fam_uncrossPair (xe_6 _ _ _ _ _) rfl (by decide) rfl dX1_uncrossPair_37 ?_
  refine X_iload_n C 2 rfl rfl dX1_uncrossPair_40 ?_
  refine X_iload_n C 3 rfl rfl dX1_uncrossPair_41 ?_
  refine X_iand C dX1_uncrossPair_42 ?_
  refine X_dup2 C rfl rfl dX1_uncrossPair_43 ?_
  refine X_iald C 7 (xe_7 _ _ _ _ _) h dX1_uncrossPair_44 (fun h => ?_)
  refine X_iload_n C 0 rfl rfl dX1_uncrossPair_45 ?_
  refine X_iadd C dX1_uncrossPair_46 ?_
  refine X_iast C 7 (xe_7 _ _ _ _ _) (xa_7 _ _ _ _ _ _) h dX1_uncrossPair_47 (fun h => ?_)
  refine X_nam (G := fun σ4 => XW l D K 0 0 (wX cs ad σ4 im rest) 48 [(3, .int x1), (0, .ref (ad 6)), (1, .int a0), (2, .int a1)] []) h (fun σ4 h => ?_)
  refine X_aload_n C 1 rfl rfl dX1_uncrossPair_48 ?_
  refine X_get C 6 2 hi1_Fam_uncrossPair hf9_Fam_uncrossPair (xe_6 _ _ _ _ _) rfl (by decide) rfl dX1_uncrossPair_49 ?_
  refine X_iload_n C 2 rfl rfl dX1_uncrossPair_52 ?_
  refine X_iload_n C 3 rfl rfl dX1_uncrossPair_53 ?_
  refine X_ior C dX1_uncrossPair_54 ?_
  refine X_dup2 C rfl rfl dX1_uncrossPair_55 ?_
  refine X_iald C 7 (xe_7 _ _ _ _ _) h dX1_uncrossPair_56 (fun h => ?_)
  refine X_iload_n C 0 rfl rfl dX1_uncrossPair_57 ?_
  refine X_iadd C dX1_uncrossPair_58 ?_
  refine X_iast C 7 (xe_7 _ _ _ _ _) (xa_7 _ _ _ _ _ _) h dX1_uncrossPair_59 (fun h => ?_)
  refine X_nam (G := fun σ5 => XW l D K 0 0 (wX cs ad σ5 im rest) 60 [(3, .int x1), (0, .ref (ad 6)), (1, .int a0), (2, .int a1)] []) h (fun σ5 h => ?_)
  obtain rfl := Option.some.inj h
  exact hret _ _ dX1_uncrossPair_60

abbrev rm_Fam_uncrossAll : Room := { frames := 3, cells := 0, slots := 0, locals := 68 }
def b_Fam_uncrossAll_4 (n : Nat) (s : ST × Int32 × Int32) : Option ((ST × Int32 × Int32) ⊕ ((ST) ⊕ (Int32 × ST))) :=
  if (1000000 : Int32) ≤ s.2.2 then
    some (.inr (.inl s.1))
  else
    bnd (f_Fam_firstCrossing n s.1 s.2.1) fun o1 =>
    if o1 = 0 then
      some (.inr (.inr (s.2.2, s.1)))
    else
      bnd (f_Fam_crossedBy n s.1 o1) fun o2 =>
      bnd (f_Fam_uncrossPair s.1 o1 o2) fun o3 =>
      some (.inl (o3, o1 &&& o2, s.2.2 + (1 : Int32)))
def f_Fam_uncrossAll (n : Nat) (σ : ST) : Option (Int32 × ST) :=
  bnd (lp (b_Fam_uncrossAll_4 n) n (σ, (1 : Int32), (0 : Int32))) fun e4 =>
  Sum.elim (fun t5 =>
    some ((1000000 : Int32), t5))
    (fun r => some r) e4
theorem hc40_Fam_uncrossAll : Cond.constant RX1 40 (1000000) ∈ wsX1_uncrossAll := by decide +kernel
set_option maxHeartbeats 4000000 in
set_option maxRecDepth 100000 in
theorem wb_Fam_uncrossAll_4 {l : Launch} {D : va_G} {cs : Nat → ClassId} {K : XK} {ad : Nat → Nat} {im : Nat → Option Nat} {rest : va_W} (C : XC D cs K 5 rm_Fam_uncrossAll cX1_uncrossAll RX1 wsX1_uncrossAll (some .int)) {n : Nat} {e : ((ST) ⊕ (Int32 × ST))} (kx : ∀ (t : ST), e = .inl t → XW l D K 0 0 (wX cs ad t im rest) 47 [] []) (kr : ∀ (t : Int32 × ST), e = .inr t → XRi l D K cX1_uncrossAll t.1 (wX cs ad t.2 im rest)) : ∀ (q : Nat) (s : ST × Int32 × Int32), lp (b_Fam_uncrossAll_4 n) q s = some e → XW l D K 0 0 (wX cs ad s.1 im rest) 4 [(0, .ref (ad 6)), (1, .int s.2.1), (2, .int s.2.2)] [] := by
  refine lp_walk (G := fun (s : ST × Int32 × Int32) => XW l D K 0 0 (wX cs ad s.1 im rest) 4 [(0, .ref (ad 6)), (1, .int s.2.1), (2, .int s.2.2)] []) ?_
  intro s o h kin kex
  unfold b_Fam_uncrossAll_4 at h
  refine X_iload_n C 2 rfl rfl dX1_uncrossAll_4 ?_
  refine X_ldc (v := 1000000) C hc40_Fam_uncrossAll dX1_uncrossAll_5 ?_
  refine X_icmpge C (tgt := 47) (by decide) dX1_uncrossAll_7 h (fun h => ?_) (fun h => ?_)
  · obtain rfl := Option.some.inj h
    refine X_loc (vs1 := []) [] rfl ?_
    exact kx _ (kex _ rfl).symm
  · refine X_aload_n C 0 rfl rfl dX1_uncrossAll_10 ?_
    refine X_iload_n C 1 rfl rfl dX1_uncrossAll_11 ?_
    obtain ⟨o1, eo1, h⟩ := bnd_some h
    refine X_callVi C (n := 1) (As := [.int s.2.1]) (c_Fam_firstCrossing eo1) rfl gX1_uncrossAll_X1_firstCrossing rfl rfl (xe_6 _ _ _ _ _) rfl rfl (by decide +kernel) ⟨Nat.le_of_ble_eq_true rfl, Nat.le_of_ble_eq_true rfl⟩ ⟨Nat.zero_le _, Nat.zero_le _⟩ rfl rfl (Nat.le_of_ble_eq_true rfl) dX1_uncrossAll_12 ?_
    refine X_istore_n (vs1 := [(3, .int o1), (0, .ref (ad 6)), (1, .int s.2.1), (2, .int s.2.2)]) C rfl (by decide) rfl dX1_uncrossAll_15 ?_
    refine X_iload_n C 0 rfl rfl dX1_uncrossAll_16 ?_
    refine X_ifne C (tgt := 22) (by decide) dX1_uncrossAll_17 h (fun h => ?_) (fun h => ?_)
    · refine X_aload_n C 1 rfl rfl dX1_uncrossAll_22 ?_
      refine X_iload_n C 0 rfl rfl dX1_uncrossAll_23 ?_
      obtain ⟨o2, eo2, h⟩ := bnd_some h
      refine X_callVi C (n := 1) (As := [.int o1]) (c_Fam_crossedBy eo2) rfl gX1_uncrossAll_X1_crossedBy rfl rfl (xe_6 _ _ _ _ _) rfl rfl (by decide +kernel) ⟨Nat.le_of_ble_eq_true rfl, Nat.le_of_ble_eq_true rfl⟩ ⟨Nat.zero_le _, Nat.zero_le _⟩ rfl rfl (Nat.le_of_ble_eq_true rfl) dX1_uncrossAll_24 ?_
      refine X_istore (vs1 := [(4, .int o2), (3, .int o1), (0, .ref (ad 6)), (1, .int s.2.1), (2, .int s.2.2)]) C (by decide) rfl dX1_uncrossAll_27 ?_
      refine X_aload_n C 2 rfl rfl dX1_uncrossAll_29 ?_
      refine X_iload_n C 1 rfl rfl dX1_uncrossAll_30 ?_
      refine X_iload C 0 rfl dX1_uncrossAll_31 ?_
      obtain ⟨o3, eo3, h⟩ := bnd_some h
      refine X_callVv C (n := 2) (As := [.int o1, .int o2]) (c_Fam_uncrossPair eo3) rfl gX1_uncrossAll_X1_uncrossPair rfl rfl (xe_6 _ _ _ _ _) rfl rfl (by decide +kernel) ⟨Nat.le_of_ble_eq_true rfl, Nat.le_of_ble_eq_true rfl⟩ ⟨Nat.zero_le _, Nat.zero_le _⟩ rfl rfl (Nat.le_of_ble_eq_true rfl) dX1_uncrossAll_33 ?_
      refine X_iload_n C 1 rfl rfl dX1_uncrossAll_36 ?_
      refine X_iload C 0 rfl dX1_uncrossAll_37 ?_
      refine X_iand C dX1_uncrossAll_39 ?_
      refine X_istore_n (vs1 := [(1, .int (o1 &&& o2)), (4, .int o2), (3, .int o1), (0, .ref (ad 6)), (2, .int s.2.2)]) C rfl (by decide) rfl dX1_uncrossAll_40 ?_
      refine X_iinc (v := s.2.2 + (1 : Int32)) (vs1 := [(2, .int (s.2.2 + (1 : Int32))), (1, .int (o1 &&& o2)), (4, .int o2), (3, .int o1), (0, .ref (ad 6))]) C 4 rfl rfl (by decide) rfl dX1_uncrossAll_41 ?_
      refine X_goto C (tgt := 4) (by decide) dX1_uncrossAll_44 ?_
      obtain rfl := Option.some.inj h
      refine X_loc (vs1 := [(0, .ref (ad 6)), (1, .int (o1 &&& o2)), (2, .int (s.2.2 + (1 : Int32)))]) [4, 1, 0] rfl ?_
      exact kin _ rfl
    · refine X_iload_n C 3 rfl rfl dX1_uncrossAll_20 ?_
      obtain rfl := Option.some.inj h
      exact kr _ (kex _ rfl).symm _ _ dX1_uncrossAll_21
set_option maxHeartbeats 4000000 in
set_option maxRecDepth 100000 in
theorem c_Fam_uncrossAll {l : Launch} {D : va_G} {cs : Nat → ClassId} {ad : Nat → Nat} {im : Nat → Option Nat} {rest : va_W} {n : Nat} {σ : ST} {o : Int32 × ST} (h : f_Fam_uncrossAll n σ = some o) : CTi l D cs yX1_uncrossAll wsX1_uncrossAll rm_Fam_uncrossAll [.ref (ad 6)] (wX cs ad σ im rest) o.1 (wX cs ad o.2 im rest) := by
  refine CTi_of (cc := cX1_uncrossAll) (nL := 5) (by decide) rfl (Nat.le_of_ble_eq_true rfl) ?_
  intro K C hret
  unfold f_Fam_uncrossAll at h
  refine X_loc (vs1 := [(0, .ref (ad 6))]) [0] rfl ?_
  refine X_iconst (v := 1) C (by decide) dX1_uncrossAll_0 ?_
  refine X_istore_n (vs1 := [(1, .int (1 : Int32)), (0, .ref (ad 6))]) C rfl (by decide) rfl dX1_uncrossAll_1 ?_
  refine X_iconst (v := 0) C (by decide) dX1_uncrossAll_2 ?_
  refine X_istore_n (vs1 := [(2, .int (0 : Int32)), (1, .int (1 : Int32)), (0, .ref (ad 6))]) C rfl (by decide) rfl dX1_uncrossAll_3 ?_
  obtain ⟨e4, he4, h⟩ := bnd_some h
  refine X_loc (vs1 := [(0, .ref (ad 6)), (1, .int (1 : Int32)), (2, .int (0 : Int32))]) [2, 1, 0] rfl ?_
  refine wb_Fam_uncrossAll_4 C (e := e4) (fun t5 ht => ?_) (fun r ht => ?_) n _ he4
  · subst ht
    dsimp only [Sum.elim] at h
    refine X_ldc (v := 1000000) C hc40_Fam_uncrossAll dX1_uncrossAll_47 ?_
    obtain rfl := Option.some.inj h
    exact hret _ _ dX1_uncrossAll_49
  · subst ht
    dsimp only [Sum.elim] at h
    obtain rfl := Option.some.inj h
    exact hret
