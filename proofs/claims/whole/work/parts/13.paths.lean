abbrev rm_Paths_closeOnward : Room := { frames := 1, cells := 0, slots := 0, locals := 21 }
def j_Paths_closeOnward_48_12 (n : Nat) (σ : ST) (v1 : Int32) (v2 : Int32) : Option ((ST × Int32) ⊕ (ST)) :=
  some (.inl (σ, v2 + (1 : Int32)))
def b_Paths_closeOnward_12 (n : Nat) (v1 : Int32) (s : ST × Int32) : Option ((ST × Int32) ⊕ (ST)) :=
  if (s.1.1 642) ≤ s.2 then
    some (.inr s.1)
  else
    grd (jin s.2 8) <|
    bnd (f_contains n (s.1.2 11 (jix s.2)) v1) fun o1 =>
    if o1 = 0 then
      j_Paths_closeOnward_48_12 n s.1 v1 s.2
    else
      grd (jin s.2 8) <|
      grd (jin v1 8) <|
      grd (jin s.2 8) <|
      nam (sA s.1 11 (upd (s.1.2 11) (jix s.2) ((s.1.2 11 (jix s.2)) ||| (s.1.2 11 (jix v1))))) fun σ2 =>
      j_Paths_closeOnward_48_12 n σ2 v1 s.2
def b_Paths_closeOnward_2 (n : Nat) (s : ST × Int32) : Option ((ST × Int32) ⊕ (ST)) :=
  if (s.1.1 642) ≤ s.2 then
    some (.inr s.1)
  else
    bnd (lp (b_Paths_closeOnward_12 n s.2) n (s.1, (0 : Int32))) fun e3 =>
    some (.inl (e3, s.2 + (1 : Int32)))
def f_Paths_closeOnward (n : Nat) (σ : ST) : Option (ST) :=
  bnd (lp (b_Paths_closeOnward_2 n) n (σ, (0 : Int32))) fun e4 =>
  some e4
theorem hnsX6_contains_Paths_closeOnward : Cond.static yX6_contains ∈ wsX3_closeOnward := by decide +kernel
theorem hniX6_contains_Paths_closeOnward : Cond.initialized yX6_contains.cls ∈ wsX3_closeOnward := by decide +kernel
theorem hf9_Paths_closeOnward : Cond.fieldLink RX3 9 (TX3 0).1 (TX3 0).2.1 (TX3 0).2.2.1 ∈ wsX3_closeOnward := by decide +kernel
theorem hf24_Paths_closeOnward : Cond.fieldLink RX3 24 (TX3 2).1 (TX3 2).2.1 (TX3 2).2.2.1 ∈ wsX3_closeOnward := by decide +kernel
theorem hi3_Paths_closeOnward : ∀ w ∈ u_ws RX3 TX3 3, w ∈ wsX3_closeOnward := by decide +kernel
set_option maxHeartbeats 4000000 in
set_option maxRecDepth 100000 in
theorem wj_Paths_closeOnward_48_12 {l : Launch} {D : va_G} {cs : Nat → ClassId} {K : XK} {ad : Nat → Nat} {im : Nat → Option Nat} {rest : va_W} (C : XC D cs K 3 rm_Paths_closeOnward cX3_closeOnward RX3 wsX3_closeOnward none) {n : Nat} {σ : ST} {v1 : Int32} {v2 : Int32} {o : (ST × Int32) ⊕ (ST)} {e : (ST)} (h : j_Paths_closeOnward_48_12 n σ v1 v2 = some o) (kin : ∀ (s : ST × Int32), o = .inl s → XW l D K 0 0 (wX cs ad s.1 im rest) 12 [(0, .ref (ad 10)), (1, .int v1), (2, .int s.2)] []) (kex : ∀ e1, o = .inr e1 → e1 = e) (kx : ∀ (t : ST), e = t → XW l D K 0 0 (wX cs ad t im rest) 54 [(0, .ref (ad 10)), (1, .int v1)] []) : XW l D K 0 0 (wX cs ad σ im rest) 48 [(0, .ref (ad 10)), (1, .int v1), (2, .int v2)] [] := by
  unfold j_Paths_closeOnward_48_12 at h
  refine X_iinc (v := v2 + (1 : Int32)) (vs1 := [(2, .int (v2 + (1 : Int32))), (0, .ref (ad 10)), (1, .int v1)]) C 2 rfl rfl (by decide) rfl dX3_closeOnward_48 ?_
  refine X_goto C (tgt := 12) (by decide) dX3_closeOnward_51 ?_
  obtain rfl := Option.some.inj h
  refine X_loc (vs1 := [(0, .ref (ad 10)), (1, .int v1), (2, .int (v2 + (1 : Int32)))]) [1, 2, 0] rfl ?_
  exact kin _ rfl
set_option maxHeartbeats 4000000 in
set_option maxRecDepth 100000 in
theorem wb_Paths_closeOnward_12 {l : Launch} {D : va_G} {cs : Nat → ClassId} {K : XK} {ad : Nat → Nat} {im : Nat → Option Nat} {rest : va_W} (C : XC D cs K 3 rm_Paths_closeOnward cX3_closeOnward RX3 wsX3_closeOnward none) {n : Nat} {v1 : Int32} {e : (ST)} (kx : ∀ (t : ST), e = t → XW l D K 0 0 (wX cs ad t im rest) 54 [(0, .ref (ad 10)), (1, .int v1)] []) : ∀ (q : Nat) (s : ST × Int32), lp (b_Paths_closeOnward_12 n v1) q s = some e → XW l D K 0 0 (wX cs ad s.1 im rest) 12 [(0, .ref (ad 10)), (1, .int v1), (2, .int s.2)] [] := by
  refine lp_walk (G := fun (s : ST × Int32) => XW l D K 0 0 (wX cs ad s.1 im rest) 12 [(0, .ref (ad 10)), (1, .int v1), (2, .int s.2)] []) ?_
  intro s o h kin kex
  unfold b_Paths_closeOnward_12 at h
  refine X_iload_n C 2 rfl rfl dX3_closeOnward_12 ?_
  refine X_aload_n C 0 rfl rfl dX3_closeOnward_13 ?_
  refine X_get C 10 2 hi3_Paths_closeOnward hf24_Paths_closeOnward (xe_10 _ _ _ _ _) rfl (by decide) rfl dX3_closeOnward_14 ?_
  refine X_icmpge C (tgt := 54) (by decide) dX3_closeOnward_17 h (fun h => ?_) (fun h => ?_)
  · obtain rfl := Option.some.inj h
    refine X_loc (vs1 := [(0, .ref (ad 10)), (1, .int v1)]) [0, 1] rfl ?_
    exact kx _ (kex _ rfl).symm
  · refine X_aload_n C 0 rfl rfl dX3_closeOnward_20 ?_
    refine X_get C 10 0 hi3_Paths_closeOnward hf9_Paths_closeOnward (xe_10 _ _ _ _ _) rfl (by decide) rfl dX3_closeOnward_21 ?_
    refine X_iload_n C 2 rfl rfl dX3_closeOnward_24 ?_
    refine X_iald C 11 (xe_11 _ _ _ _ _) h dX3_closeOnward_25 (fun h => ?_)
    refine X_iload_n C 1 rfl rfl dX3_closeOnward_26 ?_
    obtain ⟨o1, eo1, h⟩ := bnd_some h
    refine X_callSNi C (n := 2) (As := [.int (s.1.2 11 (jix s.2)), .int v1]) (c_contains eo1) gX3_closeOnward_X6_contains_n34 (by decide +kernel) hniX6_contains_Paths_closeOnward hnsX6_contains_Paths_closeOnward rfl rfl rfl (by decide +kernel) ⟨Nat.le_of_ble_eq_true rfl, Nat.le_of_ble_eq_true rfl⟩ ⟨Nat.zero_le _, Nat.zero_le _⟩ rfl rfl (Nat.le_of_ble_eq_true rfl) dX3_closeOnward_27 ?_
    refine X_ifeq C (tgt := 48) (by decide) dX3_closeOnward_30 h (fun h => ?_) (fun h => ?_)
    · exact wj_Paths_closeOnward_48_12 C h kin kex kx
    · refine X_aload_n C 0 rfl rfl dX3_closeOnward_33 ?_
      refine X_get C 10 0 hi3_Paths_closeOnward hf9_Paths_closeOnward (xe_10 _ _ _ _ _) rfl (by decide) rfl dX3_closeOnward_34 ?_
      refine X_iload_n C 2 rfl rfl dX3_closeOnward_37 ?_
      refine X_dup2 C rfl rfl dX3_closeOnward_38 ?_
      refine X_iald C 11 (xe_11 _ _ _ _ _) h dX3_closeOnward_39 (fun h => ?_)
      refine X_aload_n C 0 rfl rfl dX3_closeOnward_40 ?_
      refine X_get C 10 0 hi3_Paths_closeOnward hf9_Paths_closeOnward (xe_10 _ _ _ _ _) rfl (by decide) rfl dX3_closeOnward_41 ?_
      refine X_iload_n C 1 rfl rfl dX3_closeOnward_44 ?_
      refine X_iald C 11 (xe_11 _ _ _ _ _) h dX3_closeOnward_45 (fun h => ?_)
      refine X_ior C dX3_closeOnward_46 ?_
      refine X_iast C 11 (xe_11 _ _ _ _ _) (xa_11 _ _ _ _ _ _) h dX3_closeOnward_47 (fun h => ?_)
      refine X_nam (G := fun σ2 => XW l D K 0 0 (wX cs ad σ2 im rest) 48 [(0, .ref (ad 10)), (1, .int v1), (2, .int s.2)] []) h (fun σ2 h => ?_)
      exact wj_Paths_closeOnward_48_12 C h kin kex kx
set_option maxHeartbeats 4000000 in
set_option maxRecDepth 100000 in
theorem wb_Paths_closeOnward_2 {l : Launch} {D : va_G} {cs : Nat → ClassId} {K : XK} {ad : Nat → Nat} {im : Nat → Option Nat} {rest : va_W} (C : XC D cs K 3 rm_Paths_closeOnward cX3_closeOnward RX3 wsX3_closeOnward none) {n : Nat} {e : (ST)} (kx : ∀ (t : ST), e = t → XW l D K 0 0 (wX cs ad t im rest) 60 [] []) : ∀ (q : Nat) (s : ST × Int32), lp (b_Paths_closeOnward_2 n) q s = some e → XW l D K 0 0 (wX cs ad s.1 im rest) 2 [(0, .ref (ad 10)), (1, .int s.2)] [] := by
  refine lp_walk (G := fun (s : ST × Int32) => XW l D K 0 0 (wX cs ad s.1 im rest) 2 [(0, .ref (ad 10)), (1, .int s.2)] []) ?_
  intro s o h kin kex
  unfold b_Paths_closeOnward_2 at h
  refine X_iload_n C 1 rfl rfl dX3_closeOnward_2 ?_
  refine X_aload_n C 0 rfl rfl dX3_closeOnward_3 ?_
  refine X_get C 10 2 hi3_Paths_closeOnward hf24_Paths_closeOnward (xe_10 _ _ _ _ _) rfl (by decide) rfl dX3_closeOnward_4 ?_
  refine X_icmpge C (tgt := 60) (by decide) dX3_closeOnward_7 h (fun h => ?_) (fun h => ?_)
  · obtain rfl := Option.some.inj h
    refine X_loc (vs1 := []) [] rfl ?_
    exact kx _ (kex _ rfl).symm
  · refine X_iconst (v := 0) C (by decide) dX3_closeOnward_10 ?_
    refine X_istore_n (vs1 := [(2, .int (0 : Int32)), (0, .ref (ad 10)), (1, .int s.2)]) C rfl (by decide) rfl dX3_closeOnward_11 ?_
    obtain ⟨e3, he3, h⟩ := bnd_some h
    refine X_loc (vs1 := [(0, .ref (ad 10)), (1, .int s.2), (2, .int (0 : Int32))]) [1, 2, 0] rfl ?_
    refine wb_Paths_closeOnward_12 C (e := e3) (fun t ht => ?_) n _ he3
    subst ht
    refine X_iinc (v := s.2 + (1 : Int32)) (vs1 := [(1, .int (s.2 + (1 : Int32))), (0, .ref (ad 10))]) C 1 rfl rfl (by decide) rfl dX3_closeOnward_54 ?_
    refine X_goto C (tgt := 2) (by decide) dX3_closeOnward_57 ?_
    obtain rfl := Option.some.inj h
    refine X_loc (vs1 := [(0, .ref (ad 10)), (1, .int (s.2 + (1 : Int32)))]) [1, 0] rfl ?_
    exact kin _ rfl
set_option maxHeartbeats 4000000 in
set_option maxRecDepth 100000 in
theorem c_Paths_closeOnward {l : Launch} {D : va_G} {cs : Nat → ClassId} {ad : Nat → Nat} {im : Nat → Option Nat} {rest : va_W} {n : Nat} {σ : ST} {o : ST} (h : f_Paths_closeOnward n σ = some o) : CTv l D cs yX3_closeOnward wsX3_closeOnward rm_Paths_closeOnward [.ref (ad 10)] (wX cs ad σ im rest) (wX cs ad o im rest) := by
  refine CTv_of (cc := cX3_closeOnward) (nL := 3) (by decide) rfl (Nat.le_of_ble_eq_true rfl) ?_
  intro K C hret
  unfold f_Paths_closeOnward at h
  refine X_loc (vs1 := [(0, .ref (ad 10))]) [0] rfl ?_
  refine X_iconst (v := 0) C (by decide) dX3_closeOnward_0 ?_
  refine X_istore_n (vs1 := [(1, .int (0 : Int32)), (0, .ref (ad 10))]) C rfl (by decide) rfl dX3_closeOnward_1 ?_
  obtain ⟨e4, he4, h⟩ := bnd_some h
  refine X_loc (vs1 := [(0, .ref (ad 10)), (1, .int (0 : Int32))]) [1, 0] rfl ?_
  refine wb_Paths_closeOnward_2 C (e := e4) (fun t ht => ?_) n _ he4
  subst ht
  obtain rfl := Option.some.inj h
  exact hret _ _ dX3_closeOnward_60

abbrev rm_Paths_turnToBack : Room := { frames := 0, cells := 0, slots := 0, locals := 0 }
def b_Paths_turnToBack_19 (n : Nat) (v1 : Int32) (s : ST × Int32) : Option ((ST × Int32) ⊕ (ST)) :=
  if (s.1.1 642) ≤ s.2 then
    some (.inr s.1)
  else
    grd (jin v1 8) <|
    grd (jin s.2 8) <|
    grd (jin v1 8) <|
    nam (sA s.1 12 (upd (s.1.2 12) (jix v1) ((s.1.2 12 (jix v1)) ||| (jshl ((jshr (s.1.2 11 (jix s.2)) v1) &&& (1 : Int32)) s.2)))) fun σ2 =>
    some (.inl (σ2, s.2 + (1 : Int32)))
def b_Paths_turnToBack_2 (n : Nat) (s : ST × Int32) : Option ((ST × Int32) ⊕ (ST)) :=
  if (s.1.1 642) ≤ s.2 then
    some (.inr s.1)
  else
    grd (jin s.2 8) <|
    nam (sA s.1 12 (upd (s.1.2 12) (jix s.2) (0 : Int32))) fun σ1 =>
    bnd (lp (b_Paths_turnToBack_19 n s.2) n (σ1, (0 : Int32))) fun e3 =>
    some (.inl (e3, s.2 + (1 : Int32)))
def f_Paths_turnToBack (n : Nat) (σ : ST) : Option (ST) :=
  bnd (lp (b_Paths_turnToBack_2 n) n (σ, (0 : Int32))) fun e4 =>
  some e4
theorem hf9_Paths_turnToBack : Cond.fieldLink RX3 9 (TX3 0).1 (TX3 0).2.1 (TX3 0).2.2.1 ∈ wsX3_turnToBack := by decide +kernel
theorem hf15_Paths_turnToBack : Cond.fieldLink RX3 15 (TX3 1).1 (TX3 1).2.1 (TX3 1).2.2.1 ∈ wsX3_turnToBack := by decide +kernel
theorem hf24_Paths_turnToBack : Cond.fieldLink RX3 24 (TX3 2).1 (TX3 2).2.1 (TX3 2).2.2.1 ∈ wsX3_turnToBack := by decide +kernel
theorem hi3_Paths_turnToBack : ∀ w ∈ u_ws RX3 TX3 3, w ∈ wsX3_turnToBack := by decide +kernel
set_option maxHeartbeats 4000000 in
set_option maxRecDepth 100000 in
theorem wb_Paths_turnToBack_19 {l : Launch} {D : va_G} {cs : Nat → ClassId} {K : XK} {ad : Nat → Nat} {im : Nat → Option Nat} {rest : va_W} (C : XC D cs K 3 rm_Paths_turnToBack cX3_turnToBack RX3 wsX3_turnToBack none) {n : Nat} {v1 : Int32} {e : (ST)} (kx : ∀ (t : ST), e = t → XW l D K 0 0 (wX cs ad t im rest) 54 [(0, .ref (ad 10)), (1, .int v1)] []) : ∀ (q : Nat) (s : ST × Int32), lp (b_Paths_turnToBack_19 n v1) q s = some e → XW l D K 0 0 (wX cs ad s.1 im rest) 19 [(0, .ref (ad 10)), (1, .int v1), (2, .int s.2)] [] := by
  refine lp_walk (G := fun (s : ST × Int32) => XW l D K 0 0 (wX cs ad s.1 im rest) 19 [(0, .ref (ad 10)), (1, .int v1), (2, .int s.2)] []) ?_
  intro s o h kin kex
  unfold b_Paths_turnToBack_19 at h
  refine X_iload_n C 2 rfl rfl dX3_turnToBack_19 ?_
  refine X_aload_n C 0 rfl rfl dX3_turnToBack_20 ?_
  refine X_get C 10 2 hi3_Paths_turnToBack hf24_Paths_turnToBack (xe_10 _ _ _ _ _) rfl (by decide) rfl dX3_turnToBack_21 ?_
  refine X_icmpge C (tgt := 54) (by decide) dX3_turnToBack_24 h (fun h => ?_) (fun h => ?_)
  · obtain rfl := Option.some.inj h
    refine X_loc (vs1 := [(0, .ref (ad 10)), (1, .int v1)]) [0, 1] rfl ?_
    exact kx _ (kex _ rfl).symm
  · refine X_aload_n C 0 rfl rfl dX3_turnToBack_27 ?_
    refine X_get C 10 1 hi3_Paths_turnToBack hf15_Paths_turnToBack (xe_10 _ _ _ _ _) rfl (by decide) rfl dX3_turnToBack_28 ?_
    refine X_iload_n C 1 rfl rfl dX3_turnToBack_31 ?_
    refine X_dup2 C rfl rfl dX3_turnToBack_32 ?_
    refine X_iald C 12 (xe_12 _ _ _ _ _) h dX3_turnToBack_33 (fun h => ?_)
    refine X_aload_n C 0 rfl rfl dX3_turnToBack_34 ?_
    refine X_get C 10 0 hi3_Paths_turnToBack hf9_Paths_turnToBack (xe_10 _ _ _ _ _) rfl (by decide) rfl dX3_turnToBack_35 ?_
    refine X_iload_n C 2 rfl rfl dX3_turnToBack_38 ?_
    refine X_iald C 11 (xe_11 _ _ _ _ _) h dX3_turnToBack_39 (fun h => ?_)
    refine X_iload_n C 1 rfl rfl dX3_turnToBack_40 ?_
    refine X_ishr C dX3_turnToBack_41 ?_
    refine X_iconst (v := 1) C (by decide) dX3_turnToBack_42 ?_
    refine X_iand C dX3_turnToBack_43 ?_
    refine X_iload_n C 2 rfl rfl dX3_turnToBack_44 ?_
    refine X_ishl C dX3_turnToBack_45 ?_
    refine X_ior C dX3_turnToBack_46 ?_
    refine X_iast C 12 (xe_12 _ _ _ _ _) (xa_12 _ _ _ _ _ _) h dX3_turnToBack_47 (fun h => ?_)
    refine X_nam (G := fun σ2 => XW l D K 0 0 (wX cs ad σ2 im rest) 48 [(0, .ref (ad 10)), (1, .int v1), (2, .int s.2)] []) h (fun σ2 h => ?_)
    refine X_iinc (v := s.2 + (1 : Int32)) (vs1 := [(2, .int (s.2 + (1 : Int32))), (0, .ref (ad 10)), (1, .int v1)]) C 2 rfl rfl (by decide) rfl dX3_turnToBack_48 ?_
    refine X_goto C (tgt := 19) (by decide) dX3_turnToBack_51 ?_
    obtain rfl := Option.some.inj h
    refine X_loc (vs1 := [(0, .ref (ad 10)), (1, .int v1), (2, .int (s.2 + (1 : Int32)))]) [1, 2, 0] rfl ?_
    exact kin _ rfl
set_option maxHeartbeats 4000000 in
set_option maxRecDepth 100000 in
theorem wb_Paths_turnToBack_2 {l : Launch} {D : va_G} {cs : Nat → ClassId} {K : XK} {ad : Nat → Nat} {im : Nat → Option Nat} {rest : va_W} (C : XC D cs K 3 rm_Paths_turnToBack cX3_turnToBack RX3 wsX3_turnToBack none) {n : Nat} {e : (ST)} (kx : ∀ (t : ST), e = t → XW l D K 0 0 (wX cs ad t im rest) 60 [] []) : ∀ (q : Nat) (s : ST × Int32), lp (b_Paths_turnToBack_2 n) q s = some e → XW l D K 0 0 (wX cs ad s.1 im rest) 2 [(0, .ref (ad 10)), (1, .int s.2)] [] := by
  refine lp_walk (G := fun (s : ST × Int32) => XW l D K 0 0 (wX cs ad s.1 im rest) 2 [(0, .ref (ad 10)), (1, .int s.2)] []) ?_
  intro s o h kin kex
  unfold b_Paths_turnToBack_2 at h
  refine X_iload_n C 1 rfl rfl dX3_turnToBack_2 ?_
  refine X_aload_n C 0 rfl rfl dX3_turnToBack_3 ?_
  refine X_get C 10 2 hi3_Paths_turnToBack hf24_Paths_turnToBack (xe_10 _ _ _ _ _) rfl (by decide) rfl dX3_turnToBack_4 ?_
  refine X_icmpge C (tgt := 60) (by decide) dX3_turnToBack_7 h (fun h => ?_) (fun h => ?_)
  · obtain rfl := Option.some.inj h
    refine X_loc (vs1 := []) [] rfl ?_
    exact kx _ (kex _ rfl).symm
  · refine X_aload_n C 0 rfl rfl dX3_turnToBack_10 ?_
    refine X_get C 10 1 hi3_Paths_turnToBack hf15_Paths_turnToBack (xe_10 _ _ _ _ _) rfl (by decide) rfl dX3_turnToBack_11 ?_
    refine X_iload_n C 1 rfl rfl dX3_turnToBack_14 ?_
    refine X_iconst (v := 0) C (by decide) dX3_turnToBack_15 ?_
    refine X_iast C 12 (xe_12 _ _ _ _ _) (xa_12 _ _ _ _ _ _) h dX3_turnToBack_16 (fun h => ?_)
    refine X_nam (G := fun σ1 => XW l D K 0 0 (wX cs ad σ1 im rest) 17 [(0, .ref (ad 10)), (1, .int s.2)] []) h (fun σ1 h => ?_)
    refine X_iconst (v := 0) C (by decide) dX3_turnToBack_17 ?_
    refine X_istore_n (vs1 := [(2, .int (0 : Int32)), (0, .ref (ad 10)), (1, .int s.2)]) C rfl (by decide) rfl dX3_turnToBack_18 ?_
    obtain ⟨e3, he3, h⟩ := bnd_some h
    refine X_loc (vs1 := [(0, .ref (ad 10)), (1, .int s.2), (2, .int (0 : Int32))]) [1, 2, 0] rfl ?_
    refine wb_Paths_turnToBack_19 C (e := e3) (fun t ht => ?_) n _ he3
    subst ht
    refine X_iinc (v := s.2 + (1 : Int32)) (vs1 := [(1, .int (s.2 + (1 : Int32))), (0, .ref (ad 10))]) C 1 rfl rfl (by decide) rfl dX3_turnToBack_54 ?_
    refine X_goto C (tgt := 2) (by decide) dX3_turnToBack_57 ?_
    obtain rfl := Option.some.inj h
    refine X_loc (vs1 := [(0, .ref (ad 10)), (1, .int (s.2 + (1 : Int32)))]) [1, 0] rfl ?_
    exact kin _ rfl
set_option maxHeartbeats 4000000 in
set_option maxRecDepth 100000 in
theorem c_Paths_turnToBack {l : Launch} {D : va_G} {cs : Nat → ClassId} {ad : Nat → Nat} {im : Nat → Option Nat} {rest : va_W} {n : Nat} {σ : ST} {o : ST} (h : f_Paths_turnToBack n σ = some o) : CTv l D cs yX3_turnToBack wsX3_turnToBack rm_Paths_turnToBack [.ref (ad 10)] (wX cs ad σ im rest) (wX cs ad o im rest) := by
  refine CTv_of (cc := cX3_turnToBack) (nL := 3) (by decide) rfl (Nat.le_of_ble_eq_true rfl) ?_
  intro K C hret
  unfold f_Paths_turnToBack at h
  refine X_loc (vs1 := [(0, .ref (ad 10))]) [0] rfl ?_
  refine X_iconst (v := 0) C (by decide) dX3_turnToBack_0 ?_
  refine X_istore_n (vs1 := [(1, .int (0 : Int32)), (0, .ref (ad 10))]) C rfl (by decide) rfl dX3_turnToBack_1 ?_
  obtain ⟨e4, he4, h⟩ := bnd_some h
  refine X_loc (vs1 := [(0, .ref (ad 10)), (1, .int (0 : Int32))]) [1, 0] rfl ?_
  refine wb_Paths_turnToBack_2 C (e := e4) (fun t ht => ?_) n _ he4
  subst ht
  obtain rfl := Option.some.inj h
  exact hret _ _ dX3_turnToBack_60

abbrev rm_Paths_follow : Room := { frames := 2, cells := 0, slots := 0, locals := 43 }
def b_Paths_follow_10 (n : Nat) (v2 : Int32) (s : ST × Int32) : Option ((ST × Int32) ⊕ (ST)) :=
  if (s.1.1 642) ≤ s.2 then
    some (.inr s.1)
  else
    grd (jin s.2 8) <|
    nam (sA s.1 11 (upd (s.1.2 11) (jix s.2) (jshl (1 : Int32) s.2))) fun σ2 =>
    some (.inl (σ2, s.2 + (1 : Int32)))
def j_Paths_follow_95_35 (n : Nat) (σ : ST) (v2 : Int32) (v3 : Int32) : Option ((ST × Int32) ⊕ (ST)) :=
  some (.inl (σ, v3 + (1 : Int32)))
def b_Paths_follow_35 (n : Nat) (v2 : Int32) (s : ST × Int32) : Option ((ST × Int32) ⊕ (ST)) :=
  if (s.1.1 129) ≤ s.2 then
    some (.inr s.1)
  else
    grd (jin s.2 16) <|
    grd (jin (s.1.2 3 (jix s.2)) 8) <|
    grd (jin s.2 16) <|
    grd (jin (s.1.2 3 (jix s.2)) 8) <|
    nam (sA s.1 11 (upd (s.1.2 11) (jix (s.1.2 3 (jix s.2))) ((s.1.2 11 (jix (s.1.2 3 (jix s.2)))) ||| (jshl (1 : Int32) (s.1.2 4 (jix s.2)))))) fun σ4 =>
    bnd (f_contains n v2 s.2) fun o5 =>
    if o5 = 0 then
      j_Paths_follow_95_35 n σ4 v2 s.2
    else
      grd (jin s.2 16) <|
      grd (jin (σ4.2 4 (jix s.2)) 8) <|
      grd (jin s.2 16) <|
      grd (jin (σ4.2 4 (jix s.2)) 8) <|
      nam (sA σ4 11 (upd (σ4.2 11) (jix (σ4.2 4 (jix s.2))) ((σ4.2 11 (jix (σ4.2 4 (jix s.2)))) ||| (jshl (1 : Int32) (σ4.2 3 (jix s.2)))))) fun σ6 =>
      j_Paths_follow_95_35 n σ6 v2 s.2
def f_Paths_follow (n : Nat) (σ : ST) (a0 : Int32) : Option (ST) :=
  nam (sS σ 642 (σ.1 128)) fun σ1 =>
  bnd (lp (b_Paths_follow_10 n a0) n (σ1, (0 : Int32))) fun e3 =>
  bnd (lp (b_Paths_follow_35 n a0) n (e3, (0 : Int32))) fun e7 =>
  bnd (f_Paths_closeOnward n e7) fun o8 =>
  bnd (f_Paths_turnToBack n o8) fun o9 =>
  some o9
theorem hnsX6_contains_Paths_follow : Cond.static yX6_contains ∈ wsX3_follow := by decide +kernel
theorem hniX6_contains_Paths_follow : Cond.initialized yX6_contains.cls ∈ wsX3_follow := by decide +kernel
theorem hf31_Paths_follow : Cond.fieldLink RX3 31 (TX2 3).1 (TX2 3).2.1 (TX2 3).2.2.1 ∈ wsX3_follow := by decide +kernel
theorem hf28_Paths_follow : Cond.fieldLink RX3 28 (TX2 2).1 (TX2 2).2.1 (TX2 2).2.2.1 ∈ wsX3_follow := by decide +kernel
theorem hf25_Paths_follow : Cond.fieldLink RX3 25 (TX2 1).1 (TX2 1).2.1 (TX2 1).2.2.1 ∈ wsX3_follow := by decide +kernel
theorem hf9_Paths_follow : Cond.fieldLink RX3 9 (TX3 0).1 (TX3 0).2.1 (TX3 0).2.2.1 ∈ wsX3_follow := by decide +kernel
theorem hf24_Paths_follow : Cond.fieldLink RX3 24 (TX3 2).1 (TX3 2).2.1 (TX3 2).2.2.1 ∈ wsX3_follow := by decide +kernel
theorem hi3_Paths_follow : ∀ w ∈ u_ws RX3 TX3 3, w ∈ wsX3_follow := by decide +kernel
theorem hf18_Paths_follow : Cond.fieldLink RX3 18 (TX2 0).1 (TX2 0).2.1 (TX2 0).2.2.1 ∈ wsX3_follow := by decide +kernel
theorem hi2_Paths_follow : ∀ w ∈ u_ws RX2 TX2 5, w ∈ wsX3_follow := by decide +kernel
set_option maxHeartbeats 4000000 in
set_option maxRecDepth 100000 in
theorem wb_Paths_follow_10 {l : Launch} {D : va_G} {cs : Nat → ClassId} {K : XK} {ad : Nat → Nat} {im : Nat → Option Nat} {rest : va_W} (C : XC D cs K 4 rm_Paths_follow cX3_follow RX3 wsX3_follow none) {n : Nat} {v2 : Int32} {e : (ST)} (kx : ∀ (t : ST), e = t → XW l D K 0 0 (wX cs ad t im rest) 33 [(0, .ref (ad 10)), (1, .ref (ad 2)), (2, .int v2)] []) : ∀ (q : Nat) (s : ST × Int32), lp (b_Paths_follow_10 n v2) q s = some e → XW l D K 0 0 (wX cs ad s.1 im rest) 10 [(0, .ref (ad 10)), (1, .ref (ad 2)), (2, .int v2), (3, .int s.2)] [] := by
  refine lp_walk (G := fun (s : ST × Int32) => XW l D K 0 0 (wX cs ad s.1 im rest) 10 [(0, .ref (ad 10)), (1, .ref (ad 2)), (2, .int v2), (3, .int s.2)] []) ?_
  intro s o h kin kex
  unfold b_Paths_follow_10 at h
  refine X_iload_n C 3 rfl rfl dX3_follow_10 ?_
  refine X_aload_n C 0 rfl rfl dX3_follow_11 ?_
  refine X_get C 10 2 hi3_Paths_follow hf24_Paths_follow (xe_10 _ _ _ _ _) rfl (by decide) rfl dX3_follow_12 ?_
  refine X_icmpge C (tgt := 33) (by decide) dX3_follow_15 h (fun h => ?_) (fun h => ?_)
  · obtain rfl := Option.some.inj h
    refine X_loc (vs1 := [(0, .ref (ad 10)), (1, .ref (ad 2)), (2, .int v2)]) [0, 1, 2] rfl ?_
    exact kx _ (kex _ rfl).symm
  · refine X_aload_n C 0 rfl rfl dX3_follow_18 ?_
    refine X_get C 10 0 hi3_Paths_follow hf9_Paths_follow (xe_10 _ _ _ _ _) rfl (by decide) rfl dX3_follow_19 ?_
    refine X_iload_n C 3 rfl rfl dX3_follow_22 ?_
    refine X_iconst (v := 1) C (by decide) dX3_follow_23 ?_
    refine X_iload_n C 3 rfl rfl dX3_follow_24 ?_
    refine X_ishl C dX3_follow_25 ?_
    refine X_iast C 11 (xe_11 _ _ _ _ _) (xa_11 _ _ _ _ _ _) h dX3_follow_26 (fun h => ?_)
    refine X_nam (G := fun σ2 => XW l D K 0 0 (wX cs ad σ2 im rest) 27 [(0, .ref (ad 10)), (1, .ref (ad 2)), (2, .int v2), (3, .int s.2)] []) h (fun σ2 h => ?_)
    refine X_iinc (v := s.2 + (1 : Int32)) (vs1 := [(3, .int (s.2 + (1 : Int32))), (0, .ref (ad 10)), (1, .ref (ad 2)), (2, .int v2)]) C 3 rfl rfl (by decide) rfl dX3_follow_27 ?_
    refine X_goto C (tgt := 10) (by decide) dX3_follow_30 ?_
    obtain rfl := Option.some.inj h
    refine X_loc (vs1 := [(0, .ref (ad 10)), (1, .ref (ad 2)), (2, .int v2), (3, .int (s.2 + (1 : Int32)))]) [1, 2, 3, 0] rfl ?_
    exact kin _ rfl
set_option maxHeartbeats 4000000 in
set_option maxRecDepth 100000 in
theorem wj_Paths_follow_95_35 {l : Launch} {D : va_G} {cs : Nat → ClassId} {K : XK} {ad : Nat → Nat} {im : Nat → Option Nat} {rest : va_W} (C : XC D cs K 4 rm_Paths_follow cX3_follow RX3 wsX3_follow none) {n : Nat} {σ : ST} {v2 : Int32} {v3 : Int32} {o : (ST × Int32) ⊕ (ST)} {e : (ST)} (h : j_Paths_follow_95_35 n σ v2 v3 = some o) (kin : ∀ (s : ST × Int32), o = .inl s → XW l D K 0 0 (wX cs ad s.1 im rest) 35 [(0, .ref (ad 10)), (1, .ref (ad 2)), (2, .int v2), (3, .int s.2)] []) (kex : ∀ e1, o = .inr e1 → e1 = e) (kx : ∀ (t : ST), e = t → XW l D K 0 0 (wX cs ad t im rest) 101 [(0, .ref (ad 10))] []) : XW l D K 0 0 (wX cs ad σ im rest) 95 [(0, .ref (ad 10)), (1, .ref (ad 2)), (2, .int v2), (3, .int v3)] [] := by
  unfold j_Paths_follow_95_35 at h
  refine X_iinc (v := v3 + (1 : Int32)) (vs1 := [(3, .int (v3 + (1 : Int32))), (0, .ref (ad 10)), (1, .ref (ad 2)), (2, .int v2)]) C 3 rfl rfl (by decide) rfl dX3_follow_95 ?_
  refine X_goto C (tgt := 35) (by decide) dX3_follow_98 ?_
  obtain rfl := Option.some.inj h
  refine X_loc (vs1 := [(0, .ref (ad 10)), (1, .ref (ad 2)), (2, .int v2), (3, .int (v3 + (1 : Int32)))]) [1, 2, 3, 0] rfl ?_
  exact kin _ rfl
set_option maxHeartbeats 4000000 in
set_option maxRecDepth 100000 in
theorem wb_Paths_follow_35 {l : Launch} {D : va_G} {cs : Nat → ClassId} {K : XK} {ad : Nat → Nat} {im : Nat → Option Nat} {rest : va_W} (C : XC D cs K 4 rm_Paths_follow cX3_follow RX3 wsX3_follow none) {n : Nat} {v2 : Int32} {e : (ST)} (kx : ∀ (t : ST), e = t → XW l D K 0 0 (wX cs ad t im rest) 101 [(0, .ref (ad 10))] []) : ∀ (q : Nat) (s : ST × Int32), lp (b_Paths_follow_35 n v2) q s = some e → XW l D K 0 0 (wX cs ad s.1 im rest) 35 [(0, .ref (ad 10)), (1, .ref (ad 2)), (2, .int v2), (3, .int s.2)] [] := by
  refine lp_walk (G := fun (s : ST × Int32) => XW l D K 0 0 (wX cs ad s.1 im rest) 35 [(0, .ref (ad 10)), (1, .ref (ad 2)), (2, .int v2), (3, .int s.2)] []) ?_
  intro s o h kin kex
  unfold b_Paths_follow_35 at h
  refine X_iload_n C 3 rfl rfl dX3_follow_35 ?_
  refine X_aload_n C 1 rfl rfl dX3_follow_36 ?_
  refine X_get C 2 1 hi2_Paths_follow hf25_Paths_follow (xe_2 _ _ _ _ _) rfl (by decide) rfl dX3_follow_37 ?_
  refine X_icmpge C (tgt := 101) (by decide) dX3_follow_40 h (fun h => ?_) (fun h => ?_)
  · obtain rfl := Option.some.inj h
    refine X_loc (vs1 := [(0, .ref (ad 10))]) [0] rfl ?_
    exact kx _ (kex _ rfl).symm
  · refine X_aload_n C 0 rfl rfl dX3_follow_43 ?_
    refine X_get C 10 0 hi3_Paths_follow hf9_Paths_follow (xe_10 _ _ _ _ _) rfl (by decide) rfl dX3_follow_44 ?_
    refine X_aload_n C 1 rfl rfl dX3_follow_47 ?_
    refine X_get C 2 2 hi2_Paths_follow hf28_Paths_follow (xe_2 _ _ _ _ _) rfl (by decide) rfl dX3_follow_48 ?_
    refine X_iload_n C 3 rfl rfl dX3_follow_51 ?_
    refine X_iald C 3 (xe_3 _ _ _ _ _) h dX3_follow_52 (fun h => ?_)
    refine X_dup2 C rfl rfl dX3_follow_53 ?_
    refine X_iald C 11 (xe_11 _ _ _ _ _) h dX3_follow_54 (fun h => ?_)
    refine X_iconst (v := 1) C (by decide) dX3_follow_55 ?_
    refine X_aload_n C 1 rfl rfl dX3_follow_56 ?_
    refine X_get C 2 3 hi2_Paths_follow hf31_Paths_follow (xe_2 _ _ _ _ _) rfl (by decide) rfl dX3_follow_57 ?_
    refine X_iload_n C 3 rfl rfl dX3_follow_60 ?_
    refine X_iald C 4 (xe_4 _ _ _ _ _) h dX3_follow_61 (fun h => ?_)
    refine X_ishl C dX3_follow_62 ?_
    refine X_ior C dX3_follow_63 ?_
    refine X_iast C 11 (xe_11 _ _ _ _ _) (xa_11 _ _ _ _ _ _) h dX3_follow_64 (fun h => ?_)
    refine X_nam (G := fun σ4 => XW l D K 0 0 (wX cs ad σ4 im rest) 65 [(0, .ref (ad 10)), (1, .ref (ad 2)), (2, .int v2), (3, .int s.2)] []) h (fun σ4 h => ?_)
    refine X_iload_n C 2 rfl rfl dX3_follow_65 ?_
    refine X_iload_n C 3 rfl rfl dX3_follow_66 ?_
    obtain ⟨o5, eo5, h⟩ := bnd_some h
    refine X_callSNi C (n := 2) (As := [.int v2, .int s.2]) (c_contains eo5) gX3_follow_X6_contains_n34 (by decide +kernel) hniX6_contains_Paths_follow hnsX6_contains_Paths_follow rfl rfl rfl (by decide +kernel) ⟨Nat.le_of_ble_eq_true rfl, Nat.le_of_ble_eq_true rfl⟩ ⟨Nat.zero_le _, Nat.zero_le _⟩ rfl rfl (Nat.le_of_ble_eq_true rfl) dX3_follow_67 ?_
    refine X_ifeq C (tgt := 95) (by decide) dX3_follow_70 h (fun h => ?_) (fun h => ?_)
    · exact wj_Paths_follow_95_35 C h kin kex kx
    · refine X_aload_n C 0 rfl rfl dX3_follow_73 ?_
      refine X_get C 10 0 hi3_Paths_follow hf9_Paths_follow (xe_10 _ _ _ _ _) rfl (by decide) rfl dX3_follow_74 ?_
      refine X_aload_n C 1 rfl rfl dX3_follow_77 ?_
      refine X_get C 2 3 hi2_Paths_follow hf31_Paths_follow (xe_2 _ _ _ _ _) rfl (by decide) rfl dX3_follow_78 ?_
      refine X_iload_n C 3 rfl rfl dX3_follow_81 ?_
      refine X_iald C 4 (xe_4 _ _ _ _ _) h dX3_follow_82 (fun h => ?_)
      refine X_dup2 C rfl rfl dX3_follow_83 ?_
      refine X_iald C 11 (xe_11 _ _ _ _ _) h dX3_follow_84 (fun h => ?_)
      refine X_iconst (v := 1) C (by decide) dX3_follow_85 ?_
      refine X_aload_n C 1 rfl rfl dX3_follow_86 ?_
      refine X_get C 2 2 hi2_Paths_follow hf28_Paths_follow (xe_2 _ _ _ _ _) rfl (by decide) rfl dX3_follow_87 ?_
      refine X_iload_n C 3 rfl rfl dX3_follow_90 ?_
      refine X_iald C 3 (xe_3 _ _ _ _ _) h dX3_follow_91 (fun h => ?_)
      refine X_ishl C dX3_follow_92 ?_
      refine X_ior C dX3_follow_93 ?_
      refine X_iast C 11 (xe_11 _ _ _ _ _) (xa_11 _ _ _ _ _ _) h dX3_follow_94 (fun h => ?_)
      refine X_nam (G := fun σ6 => XW l D K 0 0 (wX cs ad σ6 im rest) 95 [(0, .ref (ad 10)), (1, .ref (ad 2)), (2, .int v2), (3, .int s.2)] []) h (fun σ6 h => ?_)
      exact wj_Paths_follow_95_35 C h kin kex kx
set_option maxHeartbeats 4000000 in
set_option maxRecDepth 100000 in
theorem c_Paths_follow {l : Launch} {D : va_G} {cs : Nat → ClassId} {ad : Nat → Nat} {im : Nat → Option Nat} {rest : va_W} {n : Nat} {σ : ST} {a0 : Int32} {o : ST} (h : f_Paths_follow n σ a0 = some o) : CTv l D cs yX3_follow wsX3_follow rm_Paths_follow [.ref (ad 10), .ref (ad 2), .int a0] (wX cs ad σ im rest) (wX cs ad o im rest) := by
  refine CTv_of (cc := cX3_follow) (nL := 4) (by decide) rfl (Nat.le_of_ble_eq_true rfl) ?_
  intro K C hret
  unfold f_Paths_follow at h
  refine X_loc (vs1 := [(0, .ref (ad 10)), (1, .ref (ad 2)), (2, .int a0)]) [0, 1, 2] rfl ?_
  refine X_aload_n C 0 rfl rfl dX3_follow_0 ?_
  refine X_aload_n C 1 rfl rfl dX3_follow_1 ?_
  refine X_get C 2 0 hi2_Paths_follow hf18_Paths_follow (xe_2 _ _ _ _ _) rfl (by decide) rfl dX3_follow_2 ?_
  refine X_put (ty := .int) C 10 2 hi3_Paths_follow hf24_Paths_follow tyX3 tyX3_ok nmX3 (xe_10 _ _ _ _ _) rfl (by decide) rfl (by decide +kernel) rfl rfl (Nat.le_of_ble_eq_true rfl) (xs_10_2 _ _ _ _ _ _) dX3_follow_5 ?_
  refine X_nam (G := fun σ1 => XW l D K 0 0 (wX cs ad σ1 im rest) 8 [(0, .ref (ad 10)), (1, .ref (ad 2)), (2, .int a0)] []) h (fun σ1 h => ?_)
  refine X_iconst (v := 0) C (by decide) dX3_follow_8 ?_
  refine X_istore_n (vs1 := [(3, .int (0 : Int32)), (0, .ref (ad 10)), (1, .ref (ad 2)), (2, .int a0)]) C rfl (by decide) rfl dX3_follow_9 ?_
  obtain ⟨e3, he3, h⟩ := bnd_some h
  refine X_loc (vs1 := [(0, .ref (ad 10)), (1, .ref (ad 2)), (2, .int a0), (3, .int (0 : Int32))]) [1, 2, 3, 0] rfl ?_
  refine wb_Paths_follow_10 C (e := e3) (fun t ht => ?_) n _ he3
  subst ht
  refine X_iconst (v := 0) C (by decide) dX3_follow_33 ?_
  refine X_istore_n (vs1 := [(3, .int (0 : Int32)), (0, .ref (ad 10)), (1, .ref (ad 2)), (2, .int a0)]) C rfl (by decide) rfl dX3_follow_34 ?_
  obtain ⟨e7, he7, h⟩ := bnd_some h
  refine X_loc (vs1 := [(0, .ref (ad 10)), (1, .ref (ad 2)), (2, .int a0), (3, .int (0 : Int32))]) [1, 2, 3, 0] rfl ?_
  refine wb_Paths_follow_35 C (e := e7) (fun t ht => ?_) n _ he7
  subst ht
  refine X_aload_n C 0 rfl rfl dX3_follow_101 ?_
  obtain ⟨o8, eo8, h⟩ := bnd_some h
  refine X_callVv C (n := 0) (As := []) (c_Paths_closeOnward eo8) rfl gX3_follow_X3_closeOnward rfl rfl (xe_10 _ _ _ _ _) rfl rfl (by decide +kernel) ⟨Nat.le_of_ble_eq_true rfl, Nat.le_of_ble_eq_true rfl⟩ ⟨Nat.zero_le _, Nat.zero_le _⟩ rfl rfl (Nat.le_of_ble_eq_true rfl) dX3_follow_102 ?_
  refine X_aload_n C 0 rfl rfl dX3_follow_105 ?_
  obtain ⟨o9, eo9, h⟩ := bnd_some h
  refine X_callVv C (n := 0) (As := []) (c_Paths_turnToBack eo9) rfl gX3_follow_X3_turnToBack rfl rfl (xe_10 _ _ _ _ _) rfl rfl (by decide +kernel) ⟨Nat.le_of_ble_eq_true rfl, Nat.le_of_ble_eq_true rfl⟩ ⟨Nat.zero_le _, Nat.zero_le _⟩ rfl rfl (Nat.le_of_ble_eq_true rfl) dX3_follow_106 ?_
  obtain rfl := Option.some.inj h
  exact hret _ _ dX3_follow_109

abbrev rm_Paths_areStrong : Room := { frames := 0, cells := 0, slots := 0, locals := 0 }
def j_Paths_areStrong_34 (n : Nat) (σ : ST) (t0 : Int32) : Option (Int32) :=
  grd (jz t0) <|
  some t0
def j_Paths_areStrong_33 (n : Nat) (σ : ST) : Option (Int32) :=
  j_Paths_areStrong_34 n σ (0 : Int32)
def f_Paths_areStrong (n : Nat) (σ : ST) : Option (Int32) :=
  nam ((jshl (1 : Int32) (σ.1 642)) - (1 : Int32)) fun x1 =>
  grd (jin (0 : Int32) 8) <|
  if (σ.2 11 (jix (0 : Int32))) = x1 then
    grd (jin (0 : Int32) 8) <|
    if (σ.2 12 (jix (0 : Int32))) = x1 then
      j_Paths_areStrong_34 n σ (1 : Int32)
    else
      j_Paths_areStrong_33 n σ
  else
    j_Paths_areStrong_33 n σ
theorem hf15_Paths_areStrong : Cond.fieldLink RX3 15 (TX3 1).1 (TX3 1).2.1 (TX3 1).2.2.1 ∈ wsX3_areStrong := by decide +kernel
theorem hf9_Paths_areStrong : Cond.fieldLink RX3 9 (TX3 0).1 (TX3 0).2.1 (TX3 0).2.2.1 ∈ wsX3_areStrong := by decide +kernel
theorem hf24_Paths_areStrong : Cond.fieldLink RX3 24 (TX3 2).1 (TX3 2).2.1 (TX3 2).2.2.1 ∈ wsX3_areStrong := by decide +kernel
theorem hi3_Paths_areStrong : ∀ w ∈ u_ws RX3 TX3 3, w ∈ wsX3_areStrong := by decide +kernel
set_option maxHeartbeats 4000000 in
set_option maxRecDepth 100000 in
theorem wj_Paths_areStrong_34 {l : Launch} {D : va_G} {cs : Nat → ClassId} {K : XK} {ad : Nat → Nat} {im : Nat → Option Nat} {rest : va_W} (C : XC D cs K 2 rm_Paths_areStrong cX3_areStrong RX3 wsX3_areStrong (some .boolean)) {n : Nat} {σ : ST} {t0 : Int32} {o : Int32} (h : j_Paths_areStrong_34 n σ t0 = some o) (hret : XRz l D K cX3_areStrong o (wX cs ad σ im rest)) : XW l D K 0 0 (wX cs ad σ im rest) 34 [] [.int t0] := by
  unfold j_Paths_areStrong_34 at h
  obtain ⟨hz, h⟩ := grd_some h
  obtain rfl := Option.some.inj h
  exact hret _ _ hz dX3_areStrong_34
set_option maxHeartbeats 4000000 in
set_option maxRecDepth 100000 in
theorem wj_Paths_areStrong_33 {l : Launch} {D : va_G} {cs : Nat → ClassId} {K : XK} {ad : Nat → Nat} {im : Nat → Option Nat} {rest : va_W} (C : XC D cs K 2 rm_Paths_areStrong cX3_areStrong RX3 wsX3_areStrong (some .boolean)) {n : Nat} {σ : ST} {o : Int32} (h : j_Paths_areStrong_33 n σ = some o) (hret : XRz l D K cX3_areStrong o (wX cs ad σ im rest)) : XW l D K 0 0 (wX cs ad σ im rest) 33 [] [] := by
  unfold j_Paths_areStrong_33 at h
  refine X_iconst (v := 0) C (by decide) dX3_areStrong_33 ?_
  exact wj_Paths_areStrong_34 C h hret
set_option maxHeartbeats 4000000 in
set_option maxRecDepth 100000 in
theorem c_Paths_areStrong {l : Launch} {D : va_G} {cs : Nat → ClassId} {ad : Nat → Nat} {im : Nat → Option Nat} {rest : va_W} {n : Nat} {σ : ST} {o : Int32} (h : f_Paths_areStrong n σ = some o) : CTi l D cs yX3_areStrong wsX3_areStrong rm_Paths_areStrong [.ref (ad 10)] (wX cs ad σ im rest) o (wX cs ad σ im rest) := by
  refine CTz_of (cc := cX3_areStrong) (nL := 2) (by decide) rfl (Nat.le_of_ble_eq_true rfl) ?_
  intro K C hret
  unfold f_Paths_areStrong at h
  refine X_loc (vs1 := [(0, .ref (ad 10))]) [0] rfl ?_
  refine X_iconst (v := 1) C (by decide) dX3_areStrong_0 ?_
  refine X_aload_n C 0 rfl rfl dX3_areStrong_1 ?_
  refine X_get C 10 2 hi3_Paths_areStrong hf24_Paths_areStrong (xe_10 _ _ _ _ _) rfl (by decide) rfl dX3_areStrong_2 ?_
  refine X_ishl C dX3_areStrong_5 ?_
  refine X_iconst (v := 1) C (by decide) dX3_areStrong_6 ?_
  refine X_isub C dX3_areStrong_7 ?_
  refine X_nam (G := fun x1 => XW l D K 0 0 (wX cs ad σ im rest) 8 [(0, .ref (ad 10))] [.int x1]) h (fun x1 h => ?_)
  refine X_istore_n (vs1 := [(1, .int x1), (0, .ref (ad 10))]) C rfl (by decide) rfl dX3_areStrong_8 ?_
  refine X_aload_n C 1 rfl rfl dX3_areStrong_9 ?_
  refine X_get C 10 0 hi3_Paths_areStrong hf9_Paths_areStrong (xe_10 _ _ _ _ _) rfl (by decide) rfl dX3_areStrong_10 ?_
  refine X_iconst (v := 0) C (by decide) dX3_areStrong_13 ?_
  refine X_iald C 11 (xe_11 _ _ _ _ _) h dX3_areStrong_14 (fun h => ?_)
  refine X_iload_n C 0 rfl rfl dX3_areStrong_15 ?_
  refine X_icmpne C (tgt := 33) (by decide) dX3_areStrong_16 h (fun h => ?_) (fun h => ?_)
  · refine X_loc (vs1 := []) [] rfl ?_
    exact wj_Paths_areStrong_33 C h hret
  · refine X_aload_n C 1 rfl rfl dX3_areStrong_19 ?_
    refine X_get C 10 1 hi3_Paths_areStrong hf15_Paths_areStrong (xe_10 _ _ _ _ _) rfl (by decide) rfl dX3_areStrong_20 ?_
    refine X_iconst (v := 0) C (by decide) dX3_areStrong_23 ?_
    refine X_iald C 12 (xe_12 _ _ _ _ _) h dX3_areStrong_24 (fun h => ?_)
    refine X_iload_n C 0 rfl rfl dX3_areStrong_25 ?_
    refine X_icmpne C (tgt := 33) (by decide) dX3_areStrong_26 h (fun h => ?_) (fun h => ?_)
    · refine X_loc (vs1 := []) [] rfl ?_
      exact wj_Paths_areStrong_33 C h hret
    · refine X_iconst (v := 1) C (by decide) dX3_areStrong_29 ?_
      refine X_goto C (tgt := 34) (by decide) dX3_areStrong_30 ?_
      refine X_loc (vs1 := []) [] rfl ?_
      exact wj_Paths_areStrong_34 C h hret

abbrev rm_Paths_part : Room := { frames := 1, cells := 0, slots := 0, locals := 21 }
def b_Paths_part_16 (n : Nat) (σ : ST) (v1 : Int32) (v2 : Int32) (s : Int32) : Option ((Int32) ⊕ ((Unit) ⊕ (Int32))) :=
  if v1 ≤ s then
    some (.inr (.inl ()))
  else
    bnd (f_contains n v2 s) fun o2 =>
    if o2 = 0 then
      some (.inl (s + (1 : Int32)))
    else
      some (.inr (.inr s))
def f_Paths_part (n : Nat) (σ : ST) (a0 : Int32) : Option (Int32) :=
  grd (jin a0 8) <|
  grd (jin a0 8) <|
  nam ((σ.2 11 (jix a0)) &&& (σ.2 12 (jix a0))) fun x1 =>
  bnd (lp (b_Paths_part_16 n σ a0 x1) n (0 : Int32)) fun e3 =>
  Sum.elim (fun t4 =>
    some a0)
    (fun r => some r) e3
theorem hnsX6_contains_Paths_part : Cond.static yX6_contains ∈ wsX3_part := by decide +kernel
theorem hniX6_contains_Paths_part : Cond.initialized yX6_contains.cls ∈ wsX3_part := by decide +kernel
theorem hf15_Paths_part : Cond.fieldLink RX3 15 (TX3 1).1 (TX3 1).2.1 (TX3 1).2.2.1 ∈ wsX3_part := by decide +kernel
theorem hf9_Paths_part : Cond.fieldLink RX3 9 (TX3 0).1 (TX3 0).2.1 (TX3 0).2.2.1 ∈ wsX3_part := by decide +kernel
theorem hi3_Paths_part : ∀ w ∈ u_ws RX3 TX3 3, w ∈ wsX3_part := by decide +kernel
set_option maxHeartbeats 4000000 in
set_option maxRecDepth 100000 in
theorem wb_Paths_part_16 {l : Launch} {D : va_G} {cs : Nat → ClassId} {K : XK} {ad : Nat → Nat} {im : Nat → Option Nat} {rest : va_W} (C : XC D cs K 4 rm_Paths_part cX3_part RX3 wsX3_part (some .int)) {n : Nat} {σ : ST} {v1 : Int32} {v2 : Int32} {e : ((Unit) ⊕ (Int32))} (kx : ∀ (t : Unit), e = .inl t → XW l D K 0 0 (wX cs ad σ im rest) 37 [(1, .int v1)] []) (kr : ∀ (t : Int32), e = .inr t → XRi l D K cX3_part t (wX cs ad σ im rest)) : ∀ (q : Nat) (s : Int32), lp (b_Paths_part_16 n σ v1 v2) q s = some e → XW l D K 0 0 (wX cs ad σ im rest) 16 [(1, .int v1), (2, .int v2), (3, .int s)] [] := by
  refine lp_walk (G := fun (s : Int32) => XW l D K 0 0 (wX cs ad σ im rest) 16 [(1, .int v1), (2, .int v2), (3, .int s)] []) ?_
  intro s o h kin kex
  unfold b_Paths_part_16 at h
  refine X_iload_n C 2 rfl rfl dX3_part_16 ?_
  refine X_iload_n C 0 rfl rfl dX3_part_17 ?_
  refine X_icmpge C (tgt := 37) (by decide) dX3_part_18 h (fun h => ?_) (fun h => ?_)
  · obtain rfl := Option.some.inj h
    refine X_loc (vs1 := [(1, .int v1)]) [0] rfl ?_
    exact kx _ (kex _ rfl).symm
  · refine X_iload_n C 1 rfl rfl dX3_part_21 ?_
    refine X_iload_n C 2 rfl rfl dX3_part_22 ?_
    obtain ⟨o2, eo2, h⟩ := bnd_some h
    refine X_callSNi C (n := 2) (As := [.int v2, .int s]) (c_contains eo2) gX3_part_X6_contains_n34 (by decide +kernel) hniX6_contains_Paths_part hnsX6_contains_Paths_part rfl rfl rfl (by decide +kernel) ⟨Nat.le_of_ble_eq_true rfl, Nat.le_of_ble_eq_true rfl⟩ ⟨Nat.zero_le _, Nat.zero_le _⟩ rfl rfl (Nat.le_of_ble_eq_true rfl) dX3_part_23 ?_
    refine X_ifeq C (tgt := 31) (by decide) dX3_part_26 h (fun h => ?_) (fun h => ?_)
    · refine X_iinc (v := s + (1 : Int32)) (vs1 := [(3, .int (s + (1 : Int32))), (1, .int v1), (2, .int v2)]) C 2 rfl rfl (by decide) rfl dX3_part_31 ?_
      refine X_goto C (tgt := 16) (by decide) dX3_part_34 ?_
      obtain rfl := Option.some.inj h
      refine X_loc (vs1 := [(1, .int v1), (2, .int v2), (3, .int (s + (1 : Int32)))]) [1, 2, 0] rfl ?_
      exact kin _ rfl
    · refine X_iload_n C 2 rfl rfl dX3_part_29 ?_
      obtain rfl := Option.some.inj h
      exact kr _ (kex _ rfl).symm _ _ dX3_part_30
set_option maxHeartbeats 4000000 in
set_option maxRecDepth 100000 in
theorem c_Paths_part {l : Launch} {D : va_G} {cs : Nat → ClassId} {ad : Nat → Nat} {im : Nat → Option Nat} {rest : va_W} {n : Nat} {σ : ST} {a0 : Int32} {o : Int32} (h : f_Paths_part n σ a0 = some o) : CTi l D cs yX3_part wsX3_part rm_Paths_part [.ref (ad 10), .int a0] (wX cs ad σ im rest) o (wX cs ad σ im rest) := by
  refine CTi_of (cc := cX3_part) (nL := 4) (by decide) rfl (Nat.le_of_ble_eq_true rfl) ?_
  intro K C hret
  unfold f_Paths_part at h
  refine X_loc (vs1 := [(0, .ref (ad 10)), (1, .int a0)]) [0, 1] rfl ?_
  refine X_aload_n C 0 rfl rfl dX3_part_0 ?_
  refine X_get C 10 0 hi3_Paths_part hf9_Paths_part (xe_10 _ _ _ _ _) rfl (by decide) rfl dX3_part_1 ?_
  refine X_iload_n C 1 rfl rfl dX3_part_4 ?_
  refine X_iald C 11 (xe_11 _ _ _ _ _) h dX3_part_5 (fun h => ?_)
  refine X_aload_n C 0 rfl rfl dX3_part_6 ?_
  refine X_get C 10 1 hi3_Paths_part hf15_Paths_part (xe_10 _ _ _ _ _) rfl (by decide) rfl dX3_part_7 ?_
  refine X_iload_n C 1 rfl rfl dX3_part_10 ?_
  refine X_iald C 12 (xe_12 _ _ _ _ _) h dX3_part_11 (fun h => ?_)
  refine X_iand C dX3_part_12 ?_
  refine X_nam (G := fun x1 => XW l D K 0 0 (wX cs ad σ im rest) 13 [(0, .ref (ad 10)), (1, .int a0)] [.int x1]) h (fun x1 h => ?_)
  refine X_istore_n (vs1 := [(2, .int x1), (0, .ref (ad 10)), (1, .int a0)]) C rfl (by decide) rfl dX3_part_13 ?_
  refine X_iconst (v := 0) C (by decide) dX3_part_14 ?_
  refine X_istore_n (vs1 := [(3, .int (0 : Int32)), (2, .int x1), (0, .ref (ad 10)), (1, .int a0)]) C rfl (by decide) rfl dX3_part_15 ?_
  obtain ⟨e3, he3, h⟩ := bnd_some h
  refine X_loc (vs1 := [(1, .int a0), (2, .int x1), (3, .int (0 : Int32))]) [3, 1, 0] rfl ?_
  refine wb_Paths_part_16 C (e := e3) (fun t4 ht => ?_) (fun r ht => ?_) n _ he3
  · subst ht
    dsimp only [Sum.elim] at h
    refine X_iload_n C 0 rfl rfl dX3_part_37 ?_
    obtain rfl := Option.some.inj h
    exact hret _ _ dX3_part_38
  · subst ht
    dsimp only [Sum.elim] at h
    obtain rfl := Option.some.inj h
    exact hret

abbrev rm_Paths_parts : Room := { frames := 2, cells := 0, slots := 0, locals := 44 }
def j_Paths_parts_24_4 (n : Nat) (σ : ST) (v1 : Int32) (v2 : Int32) : Option ((Int32 × Int32) ⊕ (Int32)) :=
  some (.inl (v1, v2 + (1 : Int32)))
def b_Paths_parts_4 (n : Nat) (σ : ST) (s : Int32 × Int32) : Option ((Int32 × Int32) ⊕ (Int32)) :=
  if (σ.1 642) ≤ s.2 then
    some (.inr s.1)
  else
    bnd (f_Paths_part n σ s.2) fun o1 =>
    if o1 = s.2 then
      j_Paths_parts_24_4 n σ (s.1 + (1 : Int32)) s.2
    else
      j_Paths_parts_24_4 n σ s.1 s.2
def f_Paths_parts (n : Nat) (σ : ST) : Option (Int32) :=
  bnd (lp (b_Paths_parts_4 n σ) n ((0 : Int32), (0 : Int32))) fun e2 =>
  some e2
theorem hf24_Paths_parts : Cond.fieldLink RX3 24 (TX3 2).1 (TX3 2).2.1 (TX3 2).2.2.1 ∈ wsX3_parts := by decide +kernel
theorem hi3_Paths_parts : ∀ w ∈ u_ws RX3 TX3 3, w ∈ wsX3_parts := by decide +kernel
set_option maxHeartbeats 4000000 in
set_option maxRecDepth 100000 in
theorem wj_Paths_parts_24_4 {l : Launch} {D : va_G} {cs : Nat → ClassId} {K : XK} {ad : Nat → Nat} {im : Nat → Option Nat} {rest : va_W} (C : XC D cs K 3 rm_Paths_parts cX3_parts RX3 wsX3_parts (some .int)) {n : Nat} {σ : ST} {v1 : Int32} {v2 : Int32} {o : (Int32 × Int32) ⊕ (Int32)} {e : (Int32)} (h : j_Paths_parts_24_4 n σ v1 v2 = some o) (kin : ∀ (s : Int32 × Int32), o = .inl s → XW l D K 0 0 (wX cs ad σ im rest) 4 [(0, .ref (ad 10)), (1, .int s.1), (2, .int s.2)] []) (kex : ∀ e1, o = .inr e1 → e1 = e) (kx : ∀ (t : Int32), e = t → XW l D K 0 0 (wX cs ad σ im rest) 30 [(1, .int t)] []) : XW l D K 0 0 (wX cs ad σ im rest) 24 [(0, .ref (ad 10)), (1, .int v1), (2, .int v2)] [] := by
  unfold j_Paths_parts_24_4 at h
  refine X_iinc (v := v2 + (1 : Int32)) (vs1 := [(2, .int (v2 + (1 : Int32))), (0, .ref (ad 10)), (1, .int v1)]) C 2 rfl rfl (by decide) rfl dX3_parts_24 ?_
  refine X_goto C (tgt := 4) (by decide) dX3_parts_27 ?_
  obtain rfl := Option.some.inj h
  refine X_loc (vs1 := [(0, .ref (ad 10)), (1, .int v1), (2, .int (v2 + (1 : Int32)))]) [1, 2, 0] rfl ?_
  exact kin _ rfl
set_option maxHeartbeats 4000000 in
set_option maxRecDepth 100000 in
theorem wb_Paths_parts_4 {l : Launch} {D : va_G} {cs : Nat → ClassId} {K : XK} {ad : Nat → Nat} {im : Nat → Option Nat} {rest : va_W} (C : XC D cs K 3 rm_Paths_parts cX3_parts RX3 wsX3_parts (some .int)) {n : Nat} {σ : ST} {e : (Int32)} (kx : ∀ (t : Int32), e = t → XW l D K 0 0 (wX cs ad σ im rest) 30 [(1, .int t)] []) : ∀ (q : Nat) (s : Int32 × Int32), lp (b_Paths_parts_4 n σ) q s = some e → XW l D K 0 0 (wX cs ad σ im rest) 4 [(0, .ref (ad 10)), (1, .int s.1), (2, .int s.2)] [] := by
  refine lp_walk (G := fun (s : Int32 × Int32) => XW l D K 0 0 (wX cs ad σ im rest) 4 [(0, .ref (ad 10)), (1, .int s.1), (2, .int s.2)] []) ?_
  intro s o h kin kex
  unfold b_Paths_parts_4 at h
  refine X_iload_n C 2 rfl rfl dX3_parts_4 ?_
  refine X_aload_n C 0 rfl rfl dX3_parts_5 ?_
  refine X_get C 10 2 hi3_Paths_parts hf24_Paths_parts (xe_10 _ _ _ _ _) rfl (by decide) rfl dX3_parts_6 ?_
  refine X_icmpge C (tgt := 30) (by decide) dX3_parts_9 h (fun h => ?_) (fun h => ?_)
  · obtain rfl := Option.some.inj h
    refine X_loc (vs1 := [(1, .int s.1)]) [1] rfl ?_
    exact kx _ (kex _ rfl).symm
  · refine X_aload_n C 0 rfl rfl dX3_parts_12 ?_
    refine X_iload_n C 2 rfl rfl dX3_parts_13 ?_
    obtain ⟨o1, eo1, h⟩ := bnd_some h
    refine X_callVi C (n := 1) (As := [.int s.2]) (c_Paths_part eo1) rfl gX3_parts_X3_part rfl rfl (xe_10 _ _ _ _ _) rfl rfl (by decide +kernel) ⟨Nat.le_of_ble_eq_true rfl, Nat.le_of_ble_eq_true rfl⟩ ⟨Nat.zero_le _, Nat.zero_le _⟩ rfl rfl (Nat.le_of_ble_eq_true rfl) dX3_parts_14 ?_
    refine X_iload_n C 2 rfl rfl dX3_parts_17 ?_
    refine X_icmpne C (tgt := 24) (by decide) dX3_parts_18 h (fun h => ?_) (fun h => ?_)
    · exact wj_Paths_parts_24_4 C h kin kex kx
    · refine X_iinc (v := s.1 + (1 : Int32)) (vs1 := [(1, .int (s.1 + (1 : Int32))), (0, .ref (ad 10)), (2, .int s.2)]) C 1 rfl rfl (by decide) rfl dX3_parts_21 ?_
      refine X_loc (vs1 := [(0, .ref (ad 10)), (1, .int (s.1 + (1 : Int32))), (2, .int s.2)]) [1, 0, 2] rfl ?_
      exact wj_Paths_parts_24_4 C h kin kex kx
set_option maxHeartbeats 4000000 in
set_option maxRecDepth 100000 in
theorem c_Paths_parts {l : Launch} {D : va_G} {cs : Nat → ClassId} {ad : Nat → Nat} {im : Nat → Option Nat} {rest : va_W} {n : Nat} {σ : ST} {o : Int32} (h : f_Paths_parts n σ = some o) : CTi l D cs yX3_parts wsX3_parts rm_Paths_parts [.ref (ad 10)] (wX cs ad σ im rest) o (wX cs ad σ im rest) := by
  refine CTi_of (cc := cX3_parts) (nL := 3) (by decide) rfl (Nat.le_of_ble_eq_true rfl) ?_
  intro K C hret
  unfold f_Paths_parts at h
  refine X_loc (vs1 := [(0, .ref (ad 10))]) [0] rfl ?_
  refine X_iconst (v := 0) C (by decide) dX3_parts_0 ?_
  refine X_istore_n (vs1 := [(1, .int (0 : Int32)), (0, .ref (ad 10))]) C rfl (by decide) rfl dX3_parts_1 ?_
  refine X_iconst (v := 0) C (by decide) dX3_parts_2 ?_
  refine X_istore_n (vs1 := [(2, .int (0 : Int32)), (1, .int (0 : Int32)), (0, .ref (ad 10))]) C rfl (by decide) rfl dX3_parts_3 ?_
  obtain ⟨e2, he2, h⟩ := bnd_some h
  refine X_loc (vs1 := [(0, .ref (ad 10)), (1, .int (0 : Int32)), (2, .int (0 : Int32))]) [2, 1, 0] rfl ?_
  refine wb_Paths_parts_4 C (e := e2) (fun t ht => ?_) n _ he2
  subst ht
  refine X_iload_n C 0 rfl rfl dX3_parts_30 ?_
  obtain rfl := Option.some.inj h
  exact hret _ _ dX3_parts_31
