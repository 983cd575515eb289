abbrev rm_Sides_gatherArcs : Room := { frames := 2, cells := 0, slots := 0, locals := 45 }
def b_Sides_gatherArcs_31 (n : Nat) (v2 : Int32) (v3 : Int32) (v4 : Int32) (v5 : Int32) (s : ST × Int32) : Option ((ST × Int32) ⊕ (ST)) :=
  if v5 ≤ s.2 then
    some (.inr s.1)
  else
    grd (jin s.2 256) <|
    grd (jin (v5 + s.2) 256) <|
    nam (sA s.1 16 (upd (s.1.2 16) (jix (v5 + s.2)) ((s.1.2 16 (jix s.2)) ||| v3))) fun σ3 =>
    grd (jin s.2 256) <|
    grd (jin (v5 + s.2) 256) <|
    nam (sA σ3 17 (upd (σ3.2 17) (jix (v5 + s.2)) ((σ3.2 17 (jix s.2)) ||| v4))) fun σ4 =>
    some (.inl (σ4, s.2 + (1 : Int32)))
def b_Sides_gatherArcs_2 (n : Nat) (s : ST × Int32) : Option ((ST × Int32) ⊕ (ST)) :=
  if (s.1.1 128) ≤ s.2 then
    some (.inr s.1)
  else
    bnd (f_Net_arcsFrom n s.1 s.2) fun o1 =>
    bnd (f_Net_arcsTo n s.1 s.2) fun o2 =>
    bnd (lp (b_Sides_gatherArcs_31 n s.2 o1 o2 (jshl (1 : Int32) s.2)) n (s.1, (0 : Int32))) fun e5 =>
    some (.inl (e5, s.2 + (1 : Int32)))
def f_Sides_gatherArcs (n : Nat) (σ : ST) : Option (ST) :=
  bnd (lp (b_Sides_gatherArcs_2 n) n (σ, (0 : Int32))) fun e6 =>
  some e6
theorem hf21_Sides_gatherArcs : Cond.fieldLink RX5 21 (TX5 4).1 (TX5 4).2.1 (TX5 4).2.2.1 ∈ wsX5_gatherArcs := by decide +kernel
theorem hf18_Sides_gatherArcs : Cond.fieldLink RX5 18 (TX5 3).1 (TX5 3).2.1 (TX5 3).2.2.1 ∈ wsX5_gatherArcs := by decide +kernel
theorem hi5_Sides_gatherArcs : ∀ w ∈ u_ws RX5 TX5 5, w ∈ wsX5_gatherArcs := by decide +kernel
theorem hf38_Sides_gatherArcs : Cond.fieldLink RX5 38 (TX2 0).1 (TX2 0).2.1 (TX2 0).2.2.1 ∈ wsX5_gatherArcs := by decide +kernel
theorem hi2_Sides_gatherArcs : ∀ w ∈ u_ws RX2 TX2 5, w ∈ wsX5_gatherArcs := by decide +kernel
set_option maxHeartbeats 4000000 in
set_option maxRecDepth 100000 in
theorem wb_Sides_gatherArcs_31 {l : Launch} {D : va_G} {cs : Nat → ClassId} {K : XK} {ad : Nat → Nat} {im : Nat → Option Nat} {rest : va_W} (C : XC D cs K 7 rm_Sides_gatherArcs cX5_gatherArcs RX5 wsX5_gatherArcs none) {n : Nat} {v2 : Int32} {v3 : Int32} {v4 : Int32} {v5 : Int32} {e : (ST)} (kx : ∀ (t : ST), e = t → XW l D K 0 0 (wX cs ad t im rest) 83 [(0, .ref (ad 13)), (1, .ref (ad 2)), (2, .int v2)] []) : ∀ (q : Nat) (s : ST × Int32), lp (b_Sides_gatherArcs_31 n v2 v3 v4 v5) q s = some e → XW l D K 0 0 (wX cs ad s.1 im rest) 31 [(0, .ref (ad 13)), (1, .ref (ad 2)), (2, .int v2), (3, .int v3), (4, .int v4), (5, .int v5), (6, .int s.2)] [] := by
  refine lp_walk (G := fun (s : ST × Int32) => XW l D K 0 0 (wX cs ad s.1 im rest) 31 [(0, .ref (ad 13)), (1, .ref (ad 2)), (2, .int v2), (3, .int v3), (4, .int v4), (5, .int v5), (6, .int s.2)] []) ?_
  intro s o h kin kex
  unfold b_Sides_gatherArcs_31 at h
  refine X_iload C 6 rfl dX5_gatherArcs_31 ?_
  refine X_iload C 5 rfl dX5_gatherArcs_33 ?_
  refine X_icmpge C (tgt := 83) (by decide) dX5_gatherArcs_35 h (fun h => ?_) (fun h => ?_)
  · obtain rfl := Option.some.inj h
    refine X_loc (vs1 := [(0, .ref (ad 13)), (1, .ref (ad 2)), (2, .int v2)]) [0, 1, 2] rfl ?_
    exact kx _ (kex _ rfl).symm
  · refine X_aload_n C 0 rfl rfl dX5_gatherArcs_38 ?_
    refine X_get C 13 3 hi5_Sides_gatherArcs hf18_Sides_gatherArcs (xe_13 _ _ _ _ _) rfl (by decide) rfl dX5_gatherArcs_39 ?_
    refine X_iload C 5 rfl dX5_gatherArcs_42 ?_
    refine X_iload C 6 rfl dX5_gatherArcs_44 ?_
    refine X_iadd C dX5_gatherArcs_46 ?_
    refine X_aload_n C 0 rfl rfl dX5_gatherArcs_47 ?_
    refine X_get C 13 3 hi5_Sides_gatherArcs hf18_Sides_gatherArcs (xe_13 _ _ _ _ _) rfl (by decide) rfl dX5_gatherArcs_48 ?_
    refine X_iload C 6 rfl dX5_gatherArcs_51 ?_
    refine X_iald C 16 (xe_16 _ _ _ _ _) h dX5_gatherArcs_53 (fun h => ?_)
    refine X_iload_n C 3 rfl rfl dX5_gatherArcs_54 ?_
    refine X_ior C dX5_gatherArcs_55 ?_
    refine X_iast C 16 (xe_16 _ _ _ _ _) (xa_16 _ _ _ _ _ _) h dX5_gatherArcs_56 (fun h => ?_)
    refine X_nam (G := fun σ3 => XW l D K 0 0 (wX cs ad σ3 im rest) 57 [(0, .ref (ad 13)), (1, .ref (ad 2)), (2, .int v2), (3, .int v3), (4, .int v4), (5, .int v5), (6, .int s.2)] []) h (fun σ3 h => ?_)
    refine X_aload_n C 0 rfl rfl dX5_gatherArcs_57 ?_
    refine X_get C 13 4 hi5_Sides_gatherArcs hf21_Sides_gatherArcs (xe_13 _ _ _ _ _) rfl (by decide) rfl dX5_gatherArcs_58 ?_
    refine X_iload C 5 rfl dX5_gatherArcs_61 ?_
    refine X_iload C 6 rfl dX5_gatherArcs_63 ?_
    refine X_iadd C dX5_gatherArcs_65 ?_
    refine X_aload_n C 0 rfl rfl dX5_gatherArcs_66 ?_
    refine X_get C 13 4 hi5_Sides_gatherArcs hf21_Sides_gatherArcs (xe_13 _ _ _ _ _) rfl (by decide) rfl dX5_gatherArcs_67 ?_
    refine X_iload C 6 rfl dX5_gatherArcs_70 ?_
    refine X_iald C 17 (xe_17 _ _ _ _ _) h dX5_gatherArcs_72 (fun h => ?_)
    refine X_iload C 4 rfl dX5_gatherArcs_73 ?_
    refine X_ior C dX5_gatherArcs_75 ?_
    refine X_iast C 17 (xe_17 _ _ _ _ _) (xa_17 _ _ _ _ _ _) h dX5_gatherArcs_76 (fun h => ?_)
    refine X_nam (G := fun σ4 => XW l D K 0 0 (wX cs ad σ4 im rest) 77 [(0, .ref (ad 13)), (1, .ref (ad 2)), (2, .int v2), (3, .int v3), (4, .int v4), (5, .int v5), (6, .int s.2)] []) h (fun σ4 h => ?_)
    refine X_iinc (v := s.2 + (1 : Int32)) (vs1 := [(6, .int (s.2 + (1 : Int32))), (0, .ref (ad 13)), (1, .ref (ad 2)), (2, .int v2), (3, .int v3), (4, .int v4), (5, .int v5)]) C 6 rfl rfl (by decide) rfl dX5_gatherArcs_77 ?_
    refine X_goto C (tgt := 31) (by decide) dX5_gatherArcs_80 ?_
    obtain rfl := Option.some.inj h
    refine X_loc (vs1 := [(0, .ref (ad 13)), (1, .ref (ad 2)), (2, .int v2), (3, .int v3), (4, .int v4), (5, .int v5), (6, .int (s.2 + (1 : Int32)))]) [1, 2, 3, 4, 5, 6, 0] rfl ?_
    exact kin _ rfl
set_option maxHeartbeats 4000000 in
set_option maxRecDepth 100000 in
theorem wb_Sides_gatherArcs_2 {l : Launch} {D : va_G} {cs : Nat → ClassId} {K : XK} {ad : Nat → Nat} {im : Nat → Option Nat} {rest : va_W} (C : XC D cs K 7 rm_Sides_gatherArcs cX5_gatherArcs RX5 wsX5_gatherArcs none) {n : Nat} {e : (ST)} (kx : ∀ (t : ST), e = t → XW l D K 0 0 (wX cs ad t im rest) 89 [] []) : ∀ (q : Nat) (s : ST × Int32), lp (b_Sides_gatherArcs_2 n) q s = some e → XW l D K 0 0 (wX cs ad s.1 im rest) 2 [(0, .ref (ad 13)), (1, .ref (ad 2)), (2, .int s.2)] [] := by
  refine lp_walk (G := fun (s : ST × Int32) => XW l D K 0 0 (wX cs ad s.1 im rest) 2 [(0, .ref (ad 13)), (1, .ref (ad 2)), (2, .int s.2)] []) ?_
  intro s o h kin kex
  unfold b_Sides_gatherArcs_2 at h
  refine X_iload_n C 2 rfl rfl dX5_gatherArcs_2 ?_
  refine X_aload_n C 1 rfl rfl dX5_gatherArcs_3 ?_
  refine X_get C 2 0 hi2_Sides_gatherArcs hf38_Sides_gatherArcs (xe_2 _ _ _ _ _) rfl (by decide) rfl dX5_gatherArcs_4 ?_
  refine X_icmpge C (tgt := 89) (by decide) dX5_gatherArcs_7 h (fun h => ?_) (fun h => ?_)
  · obtain rfl := Option.some.inj h
    refine X_loc (vs1 := []) [] rfl ?_
    exact kx _ (kex _ rfl).symm
  · refine X_aload_n C 1 rfl rfl dX5_gatherArcs_10 ?_
    refine X_iload_n C 2 rfl rfl dX5_gatherArcs_11 ?_
    obtain ⟨o1, eo1, h⟩ := bnd_some h
    refine X_callVi C (n := 1) (As := [.int s.2]) (c_Net_arcsFrom eo1) rfl gX5_gatherArcs_X2_arcsFrom rfl rfl (xe_2 _ _ _ _ _) rfl rfl (by decide +kernel) ⟨Nat.le_of_ble_eq_true rfl, Nat.le_of_ble_eq_true rfl⟩ ⟨Nat.zero_le _, Nat.zero_le _⟩ rfl rfl (Nat.le_of_ble_eq_true rfl) dX5_gatherArcs_12 ?_
    refine X_istore_n (vs1 := [(3, .int o1), (0, .ref (ad 13)), (1, .ref (ad 2)), (2, .int s.2)]) C rfl (by decide) rfl dX5_gatherArcs_15 ?_
    refine X_aload_n C 2 rfl rfl dX5_gatherArcs_16 ?_
    refine X_iload_n C 3 rfl rfl dX5_gatherArcs_17 ?_
    obtain ⟨o2, eo2, h⟩ := bnd_some h
    refine X_callVi C (n := 1) (As := [.int s.2]) (c_Net_arcsTo eo2) rfl gX5_gatherArcs_X2_arcsTo rfl rfl (xe_2 _ _ _ _ _) rfl rfl (by decide +kernel) ⟨Nat.le_of_ble_eq_true rfl, Nat.le_of_ble_eq_true rfl⟩ ⟨Nat.zero_le _, Nat.zero_le _⟩ rfl rfl (Nat.le_of_ble_eq_true rfl) dX5_gatherArcs_18 ?_
    refine X_istore (vs1 := [(4, .int o2), (3, .int o1), (0, .ref (ad 13)), (1, .ref (ad 2)), (2, .int s.2)]) C (by decide) rfl dX5_gatherArcs_21 ?_
    refine X_iconst (v := 1) C (by decide) dX5_gatherArcs_23 ?_
    refine X_iload_n C 4 rfl rfl dX5_gatherArcs_24 ?_
    refine X_ishl C dX5_gatherArcs_25 ?_
    refine X_istore (vs1 := [(5, .int (jshl (1 : Int32) s.2)), (4, .int o2), (3, .int o1), (0, .ref (ad 13)), (1, .ref (ad 2)), (2, .int s.2)]) C (by decide) rfl dX5_gatherArcs_26 ?_
    refine X_iconst (v := 0) C (by decide) dX5_gatherArcs_28 ?_
    refine X_istore (vs1 := [(6, .int (0 : Int32)), (5, .int (jshl (1 : Int32) s.2)), (4, .int o2), (3, .int o1), (0, .ref (ad 13)), (1, .ref (ad 2)), (2, .int s.2)]) C (by decide) rfl dX5_gatherArcs_29 ?_
    obtain ⟨e5, he5, h⟩ := bnd_some h
    refine X_loc (vs1 := [(0, .ref (ad 13)), (1, .ref (ad 2)), (2, .int s.2), (3, .int o1), (4, .int o2), (5, .int (jshl (1 : Int32) s.2)), (6, .int (0 : Int32))]) [4, 5, 6, 3, 2, 1, 0] rfl ?_
    refine wb_Sides_gatherArcs_31 C (e := e5) (fun t ht => ?_) n _ he5
    subst ht
    refine X_iinc (v := s.2 + (1 : Int32)) (vs1 := [(2, .int (s.2 + (1 : Int32))), (0, .ref (ad 13)), (1, .ref (ad 2))]) C 2 rfl rfl (by decide) rfl dX5_gatherArcs_83 ?_
    refine X_goto C (tgt := 2) (by decide) dX5_gatherArcs_86 ?_
    obtain rfl := Option.some.inj h
    refine X_loc (vs1 := [(0, .ref (ad 13)), (1, .ref (ad 2)), (2, .int (s.2 + (1 : Int32)))]) [1, 2, 0] rfl ?_
    exact kin _ rfl
set_option maxHeartbeats 4000000 in
set_option maxRecDepth 100000 in
theorem c_Sides_gatherArcs {l : Launch} {D : va_G} {cs : Nat → ClassId} {ad : Nat → Nat} {im : Nat → Option Nat} {rest : va_W} {n : Nat} {σ : ST} {o : ST} (h : f_Sides_gatherArcs n σ = some o) : CTv l D cs yX5_gatherArcs wsX5_gatherArcs rm_Sides_gatherArcs [.ref (ad 13), .ref (ad 2)] (wX cs ad σ im rest) (wX cs ad o im rest) := by
  refine CTv_of (cc := cX5_gatherArcs) (nL := 7) (by decide) rfl (Nat.le_of_ble_eq_true rfl) ?_
  intro K C hret
  unfold f_Sides_gatherArcs at h
  refine X_loc (vs1 := [(0, .ref (ad 13)), (1, .ref (ad 2))]) [0, 1] rfl ?_
  refine X_iconst (v := 0) C (by decide) dX5_gatherArcs_0 ?_
  refine X_istore_n (vs1 := [(2, .int (0 : Int32)), (0, .ref (ad 13)), (1, .ref (ad 2))]) C rfl (by decide) rfl dX5_gatherArcs_1 ?_
  obtain ⟨e6, he6, h⟩ := bnd_some h
  refine X_loc (vs1 := [(0, .ref (ad 13)), (1, .ref (ad 2)), (2, .int (0 : Int32))]) [1, 2, 0] rfl ?_
  refine wb_Sides_gatherArcs_2 C (e := e6) (fun t ht => ?_) n _ he6
  subst ht
  obtain rfl := Option.some.inj h
  exact hret _ _ dX5_gatherArcs_89

abbrev rm_Sides_find : Room := { frames := 3, cells := 0, slots := 0, locals := 71 }
def j_Sides_find_84_17 (n : Nat) (σ : ST) (v2 : Int32) (v3 : Int32) : Option ((ST × Int32) ⊕ (ST)) :=
  some (.inl (σ, v3 + (1 : Int32)))
def b_Sides_find_17 (n : Nat) (v2 : Int32) (s : ST × Int32) : Option ((ST × Int32) ⊕ (ST)) :=
  if v2 ≤ s.2 then
    some (.inr s.1)
  else
    grd (jin s.2 256) <|
    grd (jin s.2 256) <|
    if ((s.1.2 16 (jix s.2)) &&& ((s.1.2 17 (jix s.2)) ^^^ (-1 : Int32))) = 0 then
      grd (jin (s.1.1 832) 256) <|
      nam (sA s.1 14 (upd (s.1.2 14) (jix (s.1.1 832)) s.2)) fun σ4 =>
      grd (jin s.2 256) <|
      grd (jin s.2 256) <|
      grd (jin (σ4.1 832) 256) <|
      nam (sA σ4 15 (upd (σ4.2 15) (jix (σ4.1 832)) ((σ4.2 17 (jix s.2)) &&& ((σ4.2 16 (jix s.2)) ^^^ (-1 : Int32))))) fun σ5 =>
      nam (sS σ5 832 ((σ5.1 832) + (1 : Int32))) fun σ6 =>
      j_Sides_find_84_17 n σ6 v2 s.2
    else
      j_Sides_find_84_17 n s.1 v2 s.2
def f_Sides_find (n : Nat) (σ : ST) : Option (ST) :=
  bnd (f_Sides_gatherArcs n σ) fun o1 =>
  nam (sS o1 832 (0 : Int32)) fun σ2 =>
  bnd (f_Net_allNodes σ2) fun o3 =>
  bnd (lp (b_Sides_find_17 n o3) n (σ2, (1 : Int32))) fun e7 =>
  some e7
theorem hf15_Sides_find : Cond.fieldLink RX5 15 (TX5 2).1 (TX5 2).2.1 (TX5 2).2.2.1 ∈ wsX5_find := by decide +kernel
theorem hf9_Sides_find : Cond.fieldLink RX5 9 (TX5 1).1 (TX5 1).2.1 (TX5 1).2.2.1 ∈ wsX5_find := by decide +kernel
theorem hf21_Sides_find : Cond.fieldLink RX5 21 (TX5 4).1 (TX5 4).2.1 (TX5 4).2.2.1 ∈ wsX5_find := by decide +kernel
theorem hf18_Sides_find : Cond.fieldLink RX5 18 (TX5 3).1 (TX5 3).2.1 (TX5 3).2.2.1 ∈ wsX5_find := by decide +kernel
theorem hf28_Sides_find : Cond.fieldLink RX5 28 (TX5 0).1 (TX5 0).2.1 (TX5 0).2.2.1 ∈ wsX5_find := by decide +kernel
theorem hi5_Sides_find : ∀ w ∈ u_ws RX5 TX5 5, w ∈ wsX5_find := by decide +kernel
set_option maxHeartbeats 4000000 in
set_option maxRecDepth 100000 in
theorem wj_Sides_find_84_17 {l : Launch} {D : va_G} {cs : Nat → ClassId} {K : XK} {ad : Nat → Nat} {im : Nat → Option Nat} {rest : va_W} (C : XC D cs K 4 rm_Sides_find cX5_find RX5 wsX5_find none) {n : Nat} {σ : ST} {v2 : Int32} {v3 : Int32} {o : (ST × Int32) ⊕ (ST)} {e : (ST)} (h : j_Sides_find_84_17 n σ v2 v3 = some o) (kin : ∀ (s : ST × Int32), o = .inl s → XW l D K 0 0 (wX cs ad s.1 im rest) 17 [(0, .ref (ad 13)), (2, .int v2), (3, .int s.2)] []) (kex : ∀ e1, o = .inr e1 → e1 = e) (kx : ∀ (t : ST), e = t → XW l D K 0 0 (wX cs ad t im rest) 90 [] []) : XW l D K 0 0 (wX cs ad σ im rest) 84 [(0, .ref (ad 13)), (2, .int v2), (3, .int v3)] [] := by
  unfold j_Sides_find_84_17 at h
  refine X_iinc (v := v3 + (1 : Int32)) (vs1 := [(3, .int (v3 + (1 : Int32))), (0, .ref (ad 13)), (2, .int v2)]) C 2 rfl rfl (by decide) rfl dX5_find_84 ?_
  refine X_goto C (tgt := 17) (by decide) dX5_find_87 ?_
  obtain rfl := Option.some.inj h
  refine X_loc (vs1 := [(0, .ref (ad 13)), (2, .int v2), (3, .int (v3 + (1 : Int32)))]) [1, 2, 0] rfl ?_
  exact kin _ rfl
set_option maxHeartbeats 4000000 in
set_option maxRecDepth 100000 in
theorem wb_Sides_find_17 {l : Launch} {D : va_G} {cs : Nat → ClassId} {K : XK} {ad : Nat → Nat} {im : Nat → Option Nat} {rest : va_W} (C : XC D cs K 4 rm_Sides_find cX5_find RX5 wsX5_find none) {n : Nat} {v2 : Int32} {e : (ST)} (kx : ∀ (t : ST), e = t → XW l D K 0 0 (wX cs ad t im rest) 90 [] []) : ∀ (q : Nat) (s : ST × Int32), lp (b_Sides_find_17 n v2) q s = some e → XW l D K 0 0 (wX cs ad s.1 im rest) 17 [(0, .ref (ad 13)), (2, .int v2), (3, .int s.2)] [] := by
  refine lp_walk (G := fun (s : ST × Int32) => XW l D K 0 0 (wX cs ad s.1 im rest) 17 [(0, .ref (ad 13)), (2, .int v2), (3, .int s.2)] []) ?_
  intro s o h kin kex
  unfold b_Sides_find_17 at h
  refine X_iload_n C 2 rfl rfl dX5_find_17 ?_
  refine X_iload_n C 1 rfl rfl dX5_find_18 ?_
  refine X_icmpge C (tgt := 90) (by decide) dX5_find_19 h (fun h => ?_) (fun h => ?_)
  · obtain rfl := Option.some.inj h
    refine X_loc (vs1 := []) [] rfl ?_
    exact kx _ (kex _ rfl).symm
  · refine X_aload_n C 0 rfl rfl dX5_find_22 ?_
    refine X_get C 13 3 hi5_Sides_find hf18_Sides_find (xe_13 _ _ _ _ _) rfl (by decide) rfl dX5_find_23 ?_
    refine X_iload_n C 2 rfl rfl dX5_find_26 ?_
    refine X_iald C 16 (xe_16 _ _ _ _ _) h dX5_find_27 (fun h => ?_)
    refine X_aload_n C 0 rfl rfl dX5_find_28 ?_
    refine X_get C 13 4 hi5_Sides_find hf21_Sides_find (xe_13 _ _ _ _ _) rfl (by decide) rfl dX5_find_29 ?_
    refine X_iload_n C 2 rfl rfl dX5_find_32 ?_
    refine X_iald C 17 (xe_17 _ _ _ _ _) h dX5_find_33 (fun h => ?_)
    refine X_iconst (v := (-1)) C (by decide) dX5_find_34 ?_
    refine X_ixor C dX5_find_35 ?_
    refine X_iand C dX5_find_36 ?_
    refine X_ifne C (tgt := 84) (by decide) dX5_find_37 h (fun h => ?_) (fun h => ?_)
    · exact wj_Sides_find_84_17 C h kin kex kx
    · refine X_aload_n C 0 rfl rfl dX5_find_40 ?_
      refine X_get C 13 1 hi5_Sides_find hf9_Sides_find (xe_13 _ _ _ _ _) rfl (by decide) rfl dX5_find_41 ?_
      refine X_aload_n C 0 rfl rfl dX5_find_44 ?_
      refine X_get C 13 0 hi5_Sides_find hf28_Sides_find (xe_13 _ _ _ _ _) rfl (by decide) rfl dX5_find_45 ?_
      refine X_iload_n C 2 rfl rfl dX5_find_48 ?_
      refine X_iast C 14 (xe_14 _ _ _ _ _) (xa_14 _ _ _ _ _ _) h dX5_find_49 (fun h => ?_)
      refine X_nam (G := fun σ4 => XW l D K 0 0 (wX cs ad σ4 im rest) 50 [(0, .ref (ad 13)), (2, .int v2), (3, .int s.2)] []) h (fun σ4 h => ?_)
      refine X_aload_n C 0 rfl rfl dX5_find_50 ?_
      refine X_get C 13 2 hi5_Sides_find hf15_Sides_find (xe_13 _ _ _ _ _) rfl (by decide) rfl dX5_find_51 ?_
      refine X_aload_n C 0 rfl rfl dX5_find_54 ?_
      refine X_get C 13 0 hi5_Sides_find hf28_Sides_find (xe_13 _ _ _ _ _) rfl (by decide) rfl dX5_find_55 ?_
      refine X_aload_n C 0 rfl rfl dX5_find_58 ?_
      refine X_get C 13 4 hi5_Sides_find hf21_Sides_find (xe_13 _ _ _ _ _) rfl (by decide) rfl dX5_find_59 ?_
      refine X_iload_n C 2 rfl rfl dX5_find_62 ?_
      refine X_iald C 17 (xe_17 _ _ _ _ _) h dX5_find_63 (fun h => ?_)
      refine X_aload_n C 0 rfl rfl dX5_find_64 ?_
      refine X_get C 13 3 hi5_Sides_find hf18_Sides_find (xe_13 _ _ _ _ _) rfl (by decide) rfl dX5_find_65 ?_
      refine X_iload_n C 2 rfl rfl dX5_find_68 ?_
      refine X_iald C 16 (xe_16 _ _ _ _ _) h dX5_find_69 (fun h => ?_)
      refine X_iconst (v := (-1)) C (by decide) dX5_find_70 ?_
      refine X_ixor C dX5_find_71 ?_
      refine X_iand C dX5_find_72 ?_
      refine X_iast C 15 (xe_15 _ _ _ _ _) (xa_15 _ _ _ _ _ _) h dX5_find_73 (fun h => ?_)
      refine X_nam (G := fun σ5 => XW l D K 0 0 (wX cs ad σ5 im rest) 74 [(0, .ref (ad 13)), (2, .int v2), (3, .int s.2)] []) h (fun σ5 h => ?_)
      refine X_aload_n C 0 rfl rfl dX5_find_74 ?_
      refine X_dup C rfl dX5_find_75 ?_
      refine X_get C 13 0 hi5_Sides_find hf28_Sides_find (xe_13 _ _ _ _ _) rfl (by decide) rfl dX5_find_76 ?_
      refine X_iconst (v := 1) C (by decide) dX5_find_79 ?_
      refine X_iadd C dX5_find_80 ?_
      refine X_put (ty := .int) C 13 0 hi5_Sides_find hf28_Sides_find tyX5 tyX5_ok nmX5 (xe_13 _ _ _ _ _) rfl (by decide) rfl (by decide +kernel) rfl rfl (Nat.le_of_ble_eq_true rfl) (xs_13_0 _ _ _ _ _ _) dX5_find_81 ?_
      refine X_nam (G := fun σ6 => XW l D K 0 0 (wX cs ad σ6 im rest) 84 [(0, .ref (ad 13)), (2, .int v2), (3, .int s.2)] []) h (fun σ6 h => ?_)
      exact wj_Sides_find_84_17 C h kin kex kx
set_option maxHeartbeats 4000000 in
set_option maxRecDepth 100000 in
theorem c_Sides_find {l : Launch} {D : va_G} {cs : Nat → ClassId} {ad : Nat → Nat} {im : Nat → Option Nat} {rest : va_W} {n : Nat} {σ : ST} {o : ST} (h : f_Sides_find n σ = some o) : CTv l D cs yX5_find wsX5_find rm_Sides_find [.ref (ad 13), .ref (ad 2)] (wX cs ad σ im rest) (wX cs ad o im rest) := by
  refine CTv_of (cc := cX5_find) (nL := 4) (by decide) rfl (Nat.le_of_ble_eq_true rfl) ?_
  intro K C hret
  unfold f_Sides_find at h
  refine X_loc (vs1 := [(0, .ref (ad 13)), (1, .ref (ad 2))]) [0, 1] rfl ?_
  refine X_aload_n C 0 rfl rfl dX5_find_0 ?_
  refine X_aload_n C 1 rfl rfl dX5_find_1 ?_
  obtain ⟨o1, eo1, h⟩ := bnd_some h
  refine X_callVv C (n := 1) (As := [.ref (ad 2)]) (c_Sides_gatherArcs eo1) rfl gX5_find_X5_gatherArcs rfl rfl (xe_13 _ _ _ _ _) rfl rfl (by decide +kernel) ⟨Nat.le_of_ble_eq_true rfl, Nat.le_of_ble_eq_true rfl⟩ ⟨Nat.zero_le _, Nat.zero_le _⟩ rfl rfl (Nat.le_of_ble_eq_true rfl) dX5_find_2 ?_
  refine X_aload_n C 0 rfl rfl dX5_find_5 ?_
  refine X_iconst (v := 0) C (by decide) dX5_find_6 ?_
  refine X_put (ty := .int) C 13 0 hi5_Sides_find hf28_Sides_find tyX5 tyX5_ok nmX5 (xe_13 _ _ _ _ _) rfl (by decide) rfl (by decide +kernel) rfl rfl (Nat.le_of_ble_eq_true rfl) (xs_13_0 _ _ _ _ _ _) dX5_find_7 ?_
  refine X_nam (G := fun σ2 => XW l D K 0 0 (wX cs ad σ2 im rest) 10 [(0, .ref (ad 13)), (1, .ref (ad 2))] []) h (fun σ2 h => ?_)
  refine X_aload_n C 1 rfl rfl dX5_find_10 ?_
  obtain ⟨o3, eo3, h⟩ := bnd_some h
  refine X_callVi C (n := 0) (As := []) (c_Net_allNodes eo3) rfl gX5_find_X2_allNodes rfl rfl (xe_2 _ _ _ _ _) rfl rfl (by decide +kernel) ⟨Nat.le_of_ble_eq_true rfl, Nat.le_of_ble_eq_true rfl⟩ ⟨Nat.zero_le _, Nat.zero_le _⟩ rfl rfl (Nat.le_of_ble_eq_true rfl) dX5_find_11 ?_
  refine X_istore_n (vs1 := [(2, .int o3), (0, .ref (ad 13)), (1, .ref (ad 2))]) C rfl (by decide) rfl dX5_find_14 ?_
  refine X_iconst (v := 1) C (by decide) dX5_find_15 ?_
  refine X_istore_n (vs1 := [(3, .int (1 : Int32)), (2, .int o3), (0, .ref (ad 13)), (1, .ref (ad 2))]) C rfl (by decide) rfl dX5_find_16 ?_
  obtain ⟨e7, he7, h⟩ := bnd_some h
  refine X_loc (vs1 := [(0, .ref (ad 13)), (2, .int o3), (3, .int (1 : Int32))]) [2, 1, 0] rfl ?_
  refine wb_Sides_find_17 C (e := e7) (fun t ht => ?_) n _ he7
  subst ht
  obtain rfl := Option.some.inj h
  exact hret _ _ dX5_find_90
