abbrev rm_Search_takeBorder : Room := { frames := 0, cells := 0, slots := 0, locals := 0 }
def b_Search_takeBorder_4 (n : Nat) (σ : ST) (v1 : Int32) (v2 : Int32) (s : Int32) : Option ((Int32) ⊕ ((Unit) ⊕ (ST))) :=
  if (σ.1 1154) ≤ s then
    some (.inr (.inl ()))
  else
    grd (jin s 256) <|
    if ((σ.2 19 (jix s)) &&& (v1 ^^^ (-1 : Int32))) = 0 then
      some (.inr (.inr σ))
    else
      some (.inl (s + (1 : Int32)))
def j_Search_takeBorder_70_34 (n : Nat) (σ : ST) (v1 : Int32) (v2 : Int32) (v3 : Int32) : Option ((ST × Int32 × Int32) ⊕ (ST × Int32)) :=
  some (.inl (σ, v2, v3 + (1 : Int32)))
def b_Search_takeBorder_34 (n : Nat) (v1 : Int32) (s : ST × Int32 × Int32) : Option ((ST × Int32 × Int32) ⊕ (ST × Int32)) :=
  if (s.1.1 1154) ≤ s.2.2 then
    some (.inr (s.1, s.2.1))
  else
    grd (jin s.2.2 256) <|
    if (v1 &&& ((s.1.2 19 (jix s.2.2)) ^^^ (-1 : Int32))) = 0 then
      j_Search_takeBorder_70_34 n s.1 v1 s.2.1 s.2.2
    else
      grd (jin s.2.2 256) <|
      grd (jin s.2.1 256) <|
      nam (sA s.1 19 (upd (s.1.2 19) (jix s.2.1) (s.1.2 19 (jix s.2.2)))) fun σ3 =>
      j_Search_takeBorder_70_34 n σ3 v1 (s.2.1 + (1 : Int32)) s.2.2
def j_Search_takeBorder_97 (n : Nat) (σ : ST) : Option (ST) :=
  some σ
def f_Search_takeBorder (n : Nat) (σ : ST) (a0 : Int32) : Option (ST) :=
  bnd (lp (b_Search_takeBorder_4 n σ a0 (0 : Int32)) n (0 : Int32)) fun e1 =>
  Sum.elim (fun t2 =>
    bnd (lp (b_Search_takeBorder_34 n a0) n (σ, (0 : Int32), (0 : Int32))) fun e4 =>
    if (256 : Int32) ≤ e4.2 then
      j_Search_takeBorder_97 n e4.1
    else
      grd (jin e4.2 256) <|
      nam (sA e4.1 19 (upd (e4.1.2 19) (jix e4.2) a0)) fun σ5 =>
      nam (sS σ5 1154 (e4.2 + (1 : Int32))) fun σ6 =>
      j_Search_takeBorder_97 n σ6)
    (fun r => some r) e1
theorem hf9_Search_takeBorder : Cond.fieldLink RX4 9 (TX4 7).1 (TX4 7).2.1 (TX4 7).2.2.1 ∈ wsX4_takeBorder := by decide +kernel
theorem hf21_Search_takeBorder : Cond.fieldLink RX4 21 (TX4 2).1 (TX4 2).2.1 (TX4 2).2.2.1 ∈ wsX4_takeBorder := by decide +kernel
theorem hi4_Search_takeBorder : ∀ w ∈ u_ws RX4 TX4 10, w ∈ wsX4_takeBorder := by decide +kernel
set_option maxHeartbeats 4000000 in
set_option maxRecDepth 100000 in
theorem wb_Search_takeBorder_4 {l : Launch} {D : va_G} {cs : Nat → ClassId} {K : XK} {ad : Nat → Nat} {im : Nat → Option Nat} {rest : va_W} (C : XC D cs K 4 rm_Search_takeBorder cX4_takeBorder RX4 wsX4_takeBorder none) {n : Nat} {σ : ST} {v1 : Int32} {v2 : Int32} {e : ((Unit) ⊕ (ST))} (kx : ∀ (t : Unit), e = .inl t → XW l D K 0 0 (wX cs ad σ im rest) 32 [(0, .ref (ad 18)), (1, .int v1), (2, .int v2)] []) (kr : ∀ (t : ST), e = .inr t → XRv l D K cX4_takeBorder (wX cs ad t im rest)) : ∀ (q : Nat) (s : Int32), lp (b_Search_takeBorder_4 n σ v1 v2) q s = some e → XW l D K 0 0 (wX cs ad σ im rest) 4 [(0, .ref (ad 18)), (1, .int v1), (2, .int v2), (3, .int s)] [] := by
  refine lp_walk (G := fun (s : Int32) => XW l D K 0 0 (wX cs ad σ im rest) 4 [(0, .ref (ad 18)), (1, .int v1), (2, .int v2), (3, .int s)] []) ?_
  intro s o h kin kex
  unfold b_Search_takeBorder_4 at h
  refine X_iload_n C 3 rfl rfl dX4_takeBorder_4 ?_
  refine X_aload_n C 0 rfl rfl dX4_takeBorder_5 ?_
  refine X_get C 18 2 hi4_Search_takeBorder hf21_Search_takeBorder (xe_18 _ _ _ _ _) rfl (by decide) rfl dX4_takeBorder_6 ?_
  refine X_icmpge C (tgt := 32) (by decide) dX4_takeBorder_9 h (fun h => ?_) (fun h => ?_)
  · obtain rfl := Option.some.inj h
    refine X_loc (vs1 := [(0, .ref (ad 18)), (1, .int v1), (2, .int v2)]) [0, 1, 2] rfl ?_
    exact kx _ (kex _ rfl).symm
  · refine X_aload_n C 0 rfl rfl dX4_takeBorder_12 ?_
    refine X_get C 18 7 hi4_Search_takeBorder hf9_Search_takeBorder (xe_18 _ _ _ _ _) rfl (by decide) rfl dX4_takeBorder_13 ?_
    refine X_iload_n C 3 rfl rfl dX4_takeBorder_16 ?_
    refine X_iald C 19 (xe_19 _ _ _ _ _) h dX4_takeBorder_17 (fun h => ?_)
    refine X_iload_n C 1 rfl rfl dX4_takeBorder_18 ?_
    refine X_iconst (v := (-1)) C (by decide) dX4_takeBorder_19 ?_
    refine X_ixor C dX4_takeBorder_20 ?_
    refine X_iand C dX4_takeBorder_21 ?_
    refine X_ifne C (tgt := 26) (by decide) dX4_takeBorder_22 h (fun h => ?_) (fun h => ?_)
    · refine X_iinc (v := s + (1 : Int32)) (vs1 := [(3, .int (s + (1 : Int32))), (0, .ref (ad 18)), (1, .int v1), (2, .int v2)]) C 3 rfl rfl (by decide) rfl dX4_takeBorder_26 ?_
      refine X_goto C (tgt := 4) (by decide) dX4_takeBorder_29 ?_
      obtain rfl := Option.some.inj h
      refine X_loc (vs1 := [(0, .ref (ad 18)), (1, .int v1), (2, .int v2), (3, .int (s + (1 : Int32)))]) [1, 2, 3, 0] rfl ?_
      exact kin _ rfl
    · obtain rfl := Option.some.inj h
      exact kr _ (kex _ rfl).symm _ _ dX4_takeBorder_25
set_option maxHeartbeats 4000000 in
set_option maxRecDepth 100000 in
theorem wj_Search_takeBorder_70_34 {l : Launch} {D : va_G} {cs : Nat → ClassId} {K : XK} {ad : Nat → Nat} {im : Nat → Option Nat} {rest : va_W} (C : XC D cs K 4 rm_Search_takeBorder cX4_takeBorder RX4 wsX4_takeBorder none) {n : Nat} {σ : ST} {v1 : Int32} {v2 : Int32} {v3 : Int32} {o : (ST × Int32 × Int32) ⊕ (ST × Int32)} {e : (ST × Int32)} (h : j_Search_takeBorder_70_34 n σ v1 v2 v3 = some o) (kin : ∀ (s : ST × Int32 × Int32), o = .inl s → XW l D K 0 0 (wX cs ad s.1 im rest) 34 [(0, .ref (ad 18)), (1, .int v1), (2, .int s.2.1), (3, .int s.2.2)] []) (kex : ∀ e1, o = .inr e1 → e1 = e) (kx : ∀ (t : ST × Int32), e = t → XW l D K 0 0 (wX cs ad t.1 im rest) 76 [(0, .ref (ad 18)), (1, .int v1), (2, .int t.2)] []) : XW l D K 0 0 (wX cs ad σ im rest) 70 [(0, .ref (ad 18)), (1, .int v1), (2, .int v2), (3, .int v3)] [] := by
  unfold j_Search_takeBorder_70_34 at h
  refine X_iinc (v := v3 + (1 : Int32)) (vs1 := [(3, .int (v3 + (1 : Int32))), (0, .ref (ad 18)), (1, .int v1), (2, .int v2)]) C 3 rfl rfl (by decide) rfl dX4_takeBorder_70 ?_
  refine X_goto C (tgt := 34) (by decide) dX4_takeBorder_73 ?_
  obtain rfl := Option.some.inj h
  refine X_loc (vs1 := [(0, .ref (ad 18)), (1, .int v1), (2, .int v2), (3, .int (v3 + (1 : Int32)))]) [1, 2, 3, 0] rfl ?_
  exact kin _ rfl
set_option maxHeartbeats 4000000 in
set_option maxRecDepth 100000 in
theorem wb_Search_takeBorder_34 {l : Launch} {D : va_G} {cs : Nat → ClassId} {K : XK} {ad : Nat → Nat} {im : Nat → Option Nat} {rest : va_W} (C : XC D cs K 4 rm_Search_takeBorder cX4_takeBorder RX4 wsX4_takeBorder none) {n : Nat} {v1 : Int32} {e : (ST × Int32)} (kx : ∀ (t : ST × Int32), e = t → XW l D K 0 0 (wX cs ad t.1 im rest) 76 [(0, .ref (ad 18)), (1, .int v1), (2, .int t.2)] []) : ∀ (q : Nat) (s : ST × Int32 × Int32), lp (b_Search_takeBorder_34 n v1) q s = some e → XW l D K 0 0 (wX cs ad s.1 im rest) 34 [(0, .ref (ad 18)), (1, .int v1), (2, .int s.2.1), (3, .int s.2.2)] [] := by
  refine lp_walk (G := fun (s : ST × Int32 × Int32) => XW l D K 0 0 (wX cs ad s.1 im rest) 34 [(0, .ref (ad 18)), (1, .int v1), (2, .int s.2.1), (3, .int s.2.2)] []) ?_
  intro s o h kin kex
  unfold b_Search_takeBorder_34 at h
  refine X_iload_n C 3 rfl rfl dX4_takeBorder_34 ?_
  refine X_aload_n C 0 rfl rfl dX4_takeBorder_35 ?_
  refine X_get C 18 2 hi4_Search_takeBorder hf21_Search_takeBorder (xe_18 _ _ _ _ _) rfl (by decide) rfl dX4_takeBorder_36 ?_
  refine X_icmpge C (tgt := 76) (by decide) dX4_takeBorder_39 h (fun h => ?_) (fun h => ?_)
  · obtain rfl := Option.some.inj h
    refine X_loc (vs1 := [(0, .ref (ad 18)), (1, .int v1), (2, .int s.2.1)]) [0, 1, 2] rfl ?_
    exact kx _ (kex _ rfl).symm
  · refine X_iload_n C 1 rfl rfl dX4_takeBorder_42 ?_
    refine X_aload_n C 0 rfl rfl dX4_takeBorder_43 ?_
    refine X_get C 18 7 hi4_Search_takeBorder hf9_Search_takeBorder (xe_18 _ _ _ _ _) rfl (by decide) rfl dX4_takeBorder_44 ?_
    refine X_iload_n C 3 rfl rfl dX4_takeBorder_47 ?_
    refine X_iald C 19 (xe_19 _ _ _ _ _) h dX4_takeBorder_48 (fun h => ?_)
    refine X_iconst (v := (-1)) C (by decide) dX4_takeBorder_49 ?_
    refine X_ixor C dX4_takeBorder_50 ?_
    refine X_iand C dX4_takeBorder_51 ?_
    refine X_ifeq C (tgt := 70) (by decide) dX4_takeBorder_52 h (fun h => ?_) (fun h => ?_)
    · exact wj_Search_takeBorder_70_34 C h kin kex kx
    · refine X_aload_n C 0 rfl rfl dX4_takeBorder_55 ?_
      refine X_get C 18 7 hi4_Search_takeBorder hf9_Search_takeBorder (xe_18 _ _ _ _ _) rfl (by decide) rfl dX4_takeBorder_56 ?_
      refine X_iload_n C 2 rfl rfl dX4_takeBorder_59 ?_
      refine X_aload_n C 0 rfl rfl dX4_takeBorder_60 ?_
      refine X_get C 18 7 hi4_Search_takeBorder hf9_Search_takeBorder (xe_18 _ _ _ _ _) rfl (by decide) rfl dX4_takeBorder_61 ?_
      refine X_iload_n C 3 rfl rfl dX4_takeBorder_64 ?_
      refine X_iald C 19 (xe_19 _ _ _ _ _) h dX4_takeBorder_65 (fun h => ?_)
      refine X_iast C 19 (xe_19 _ _ _ _ _) (xa_19 _ _ _ _ _ _) h dX4_takeBorder_66 (fun h => ?_)
      refine X_nam (G := fun σ3 => XW l D K 0 0 (wX cs ad σ3 im rest) 67 [(0, .ref (ad 18)), (1, .int v1), (2, .int s.2.1), (3, .int s.2.2)] []) h (fun σ3 h => ?_)
      refine X_iinc (v := s.2.1 + (1 : Int32)) (vs1 := [(2, .int (s.2.1 + (1 : Int32))), (0, .ref (ad 18)), (1, .int v1), (3, .int s.2.2)]) C 2 rfl rfl (by decide) rfl dX4_takeBorder_67 ?_
      refine X_loc (vs1 := [(0, .ref (ad 18)), (1, .int v1), (2, .int (s.2.1 + (1 : Int32))), (3, .int s.2.2)]) [1, 2, 0, 3] rfl ?_
      exact wj_Search_takeBorder_70_34 C h kin kex kx
set_option maxHeartbeats 4000000 in
set_option maxRecDepth 100000 in
theorem wj_Search_takeBorder_97 {l : Launch} {D : va_G} {cs : Nat → ClassId} {K : XK} {ad : Nat → Nat} {im : Nat → Option Nat} {rest : va_W} (C : XC D cs K 4 rm_Search_takeBorder cX4_takeBorder RX4 wsX4_takeBorder none) {n : Nat} {σ : ST} {o : ST} (h : j_Search_takeBorder_97 n σ = some o) (hret : XRv l D K cX4_takeBorder (wX cs ad o im rest)) : XW l D K 0 0 (wX cs ad σ im rest) 97 [] [] := by
  unfold j_Search_takeBorder_97 at h
  obtain rfl := Option.some.inj h
  exact hret _ _ dX4_takeBorder_97
set_option maxHeartbeats 4000000 in
set_option maxRecDepth 100000 in
theorem c_Search_takeBorder {l : Launch} {D : va_G} {cs : Nat → ClassId} {ad : Nat → Nat} {im : Nat → Option Nat} {rest : va_W} {n : Nat} {σ : ST} {a0 : Int32} {o : ST} (h : f_Search_takeBorder n σ a0 = some o) : CTv l D cs yX4_takeBorder wsX4_takeBorder rm_Search_takeBorder [.ref (ad 18), .int a0] (wX cs ad σ im rest) (wX cs ad o im rest) := by
  refine CTv_of (cc := cX4_takeBorder) (nL := 4) (by decide) rfl (Nat.le_of_ble_eq_true rfl) ?_
  intro K C hret
  unfold f_Search_takeBorder at h
  refine X_loc (vs1 := [(0, .ref (ad 18)), (1, .int a0)]) [0, 1] rfl ?_
  refine X_iconst (v := 0) C (by decide) dX4_takeBorder_0 ?_
  refine X_istore_n (vs1 := [(2, .int (0 : Int32)), (0, .ref (ad 18)), (1, .int a0)]) C rfl (by decide) rfl dX4_takeBorder_1 ?_
  refine X_iconst (v := 0) C (by decide) dX4_takeBorder_2 ?_
  refine X_istore_n (vs1 := [(3, .int (0 : Int32)), (2, .int (0 : Int32)), (0, .ref (ad 18)), (1, .int a0)]) C rfl (by decide) rfl dX4_takeBorder_3 ?_
  obtain ⟨e1, he1, h⟩ := bnd_some h
  refine X_loc (vs1 := [(0, .ref (ad 18)), (1, .int a0), (2, .int (0 : Int32)), (3, .int (0 : Int32))]) [2, 3, 1, 0] rfl ?_
  refine wb_Search_takeBorder_4 C (e := e1) (fun t2 ht => ?_) (fun r ht => ?_) n _ he1
  · subst ht
    dsimp only [Sum.elim] at h
    refine X_iconst (v := 0) C (by decide) dX4_takeBorder_32 ?_
    refine X_istore_n (vs1 := [(3, .int (0 : Int32)), (0, .ref (ad 18)), (1, .int a0), (2, .int (0 : Int32))]) C rfl (by decide) rfl dX4_takeBorder_33 ?_
    obtain ⟨e4, he4, h⟩ := bnd_some h
    refine X_loc (vs1 := [(0, .ref (ad 18)), (1, .int a0), (2, .int (0 : Int32)), (3, .int (0 : Int32))]) [1, 2, 3, 0] rfl ?_
    refine wb_Search_takeBorder_34 C (e := e4) (fun t ht => ?_) n _ he4
    subst ht
    refine X_iload_n C 2 rfl rfl dX4_takeBorder_76 ?_
    refine X_sipush (v := 256) C (by decide) dX4_takeBorder_77 ?_
    refine X_icmpge C (tgt := 97) (by decide) dX4_takeBorder_80 h (fun h => ?_) (fun h => ?_)
    · refine X_loc (vs1 := []) [] rfl ?_
      exact wj_Search_takeBorder_97 C h hret
    · refine X_aload_n C 0 rfl rfl dX4_takeBorder_83 ?_
      refine X_get C 18 7 hi4_Search_takeBorder hf9_Search_takeBorder (xe_18 _ _ _ _ _) rfl (by decide) rfl dX4_takeBorder_84 ?_
      refine X_iload_n C 2 rfl rfl dX4_takeBorder_87 ?_
      refine X_iload_n C 1 rfl rfl dX4_takeBorder_88 ?_
      refine X_iast C 19 (xe_19 _ _ _ _ _) (xa_19 _ _ _ _ _ _) h dX4_takeBorder_89 (fun h => ?_)
      refine X_nam (G := fun σ5 => XW l D K 0 0 (wX cs ad σ5 im rest) 90 [(0, .ref (ad 18)), (1, .int a0), (2, .int e4.2)] []) h (fun σ5 h => ?_)
      refine X_aload_n C 0 rfl rfl dX4_takeBorder_90 ?_
      refine X_iload_n C 2 rfl rfl dX4_takeBorder_91 ?_
      refine X_iconst (v := 1) C (by decide) dX4_takeBorder_92 ?_
      refine X_iadd C dX4_takeBorder_93 ?_
      refine X_put (ty := .int) C 18 2 hi4_Search_takeBorder hf21_Search_takeBorder tyX4 tyX4_ok nmX4 (xe_18 _ _ _ _ _) rfl (by decide) rfl (by decide +kernel) rfl rfl (Nat.le_of_ble_eq_true rfl) (xs_18_2 _ _ _ _ _ _) dX4_takeBorder_94 ?_
      refine X_nam (G := fun σ6 => XW l D K 0 0 (wX cs ad σ6 im rest) 97 [(0, .ref (ad 18)), (1, .int a0), (2, .int e4.2)] []) h (fun σ6 h => ?_)
      refine X_loc (vs1 := []) [] rfl ?_
      exact wj_Search_takeBorder_97 C h hret
  · subst ht
    dsimp only [Sum.elim] at h
    obtain rfl := Option.some.inj h
    exact hret

abbrev rm_Search_takeBorders : Room := { frames := 1, cells := 0, slots := 0, locals := 23 }
def b_Search_takeBorders_7 (n : Nat) (s : ST × Int32) : Option ((ST × Int32) ⊕ (ST)) :=
  if (s.1.1 832) ≤ s.2 then
    some (.inr s.1)
  else
    grd (jin s.2 256) <|
    bnd (f_Search_takeBorder n s.1 (s.1.2 15 (jix s.2))) fun o2 =>
    some (.inl (o2, s.2 + (1 : Int32)))
def f_Search_takeBorders (n : Nat) (σ : ST) : Option (ST) :=
  nam (sS σ 1154 (0 : Int32)) fun σ1 =>
  bnd (lp (b_Search_takeBorders_7 n) n (σ1, (0 : Int32))) fun e3 =>
  some e3
theorem hf28_Search_takeBorders : Cond.fieldLink RX4 28 (TX5 2).1 (TX5 2).2.1 (TX5 2).2.2.1 ∈ wsX4_takeBorders := by decide +kernel
theorem hf25_Search_takeBorders : Cond.fieldLink RX4 25 (TX5 0).1 (TX5 0).2.1 (TX5 0).2.2.1 ∈ wsX4_takeBorders := by decide +kernel
theorem hi5_Search_takeBorders : ∀ w ∈ u_ws RX5 TX5 5, w ∈ wsX4_takeBorders := by decide +kernel
theorem hf21_Search_takeBorders : Cond.fieldLink RX4 21 (TX4 2).1 (TX4 2).2.1 (TX4 2).2.2.1 ∈ wsX4_takeBorders := by decide +kernel
theorem hi4_Search_takeBorders : ∀ w ∈ u_ws RX4 TX4 10, w ∈ wsX4_takeBorders := by decide +kernel
set_option maxHeartbeats 4000000 in
set_option maxRecDepth 100000 in
theorem wb_Search_takeBorders_7 {l : Launch} {D : va_G} {cs : Nat → ClassId} {K : XK} {ad : Nat → Nat} {im : Nat → Option Nat} {rest : va_W} (C : XC D cs K 3 rm_Search_takeBorders cX4_takeBorders RX4 wsX4_takeBorders none) {n : Nat} {e : (ST)} (kx : ∀ (t : ST), e = t → XW l D K 0 0 (wX cs ad t im rest) 31 [] []) : ∀ (q : Nat) (s : ST × Int32), lp (b_Search_takeBorders_7 n) q s = some e → XW l D K 0 0 (wX cs ad s.1 im rest) 7 [(0, .ref (ad 18)), (1, .ref (ad 13)), (2, .int s.2)] [] := by
  refine lp_walk (G := fun (s : ST × Int32) => XW l D K 0 0 (wX cs ad s.1 im rest) 7 [(0, .ref (ad 18)), (1, .ref (ad 13)), (2, .int s.2)] []) ?_
  intro s o h kin kex
  unfold b_Search_takeBorders_7 at h
  refine X_iload_n C 2 rfl rfl dX4_takeBorders_7 ?_
  refine X_aload_n C 1 rfl rfl dX4_takeBorders_8 ?_
  refine X_get C 13 0 hi5_Search_takeBorders hf25_Search_takeBorders (xe_13 _ _ _ _ _) rfl (by decide) rfl dX4_takeBorders_9 ?_
  refine X_icmpge C (tgt := 31) (by decide) dX4_takeBorders_12 h (fun h => ?_) (fun h => ?_)
  · obtain rfl := Option.some.inj h
    refine X_loc (vs1 := []) [] rfl ?_
    exact kx _ (kex _ rfl).symm
  · refine X_aload_n C 0 rfl rfl dX4_takeBorders_15 ?_
    refine X_aload_n C 1 rfl rfl dX4_takeBorders_16 ?_
    refine X_get C 13 2 hi5_Search_takeBorders hf28_Search_takeBorders (xe_13 _ _ _ _ _) rfl (by decide) rfl dX4_takeBorders_17 ?_
    refine X_iload_n C 2 rfl rfl dX4_takeBorders_20 ?_
    refine X_iald C 15 (xe_15 _ _ _ _ _) h dX4_takeBorders_21 (fun h => ?_)
    obtain ⟨o2, eo2, h⟩ := bnd_some h
    refine X_callVv C (n := 1) (As := [.int (s.1.2 15 (jix s.2))]) (c_Search_takeBorder eo2) rfl gX4_takeBorders_X4_takeBorder rfl rfl (xe_18 _ _ _ _ _) rfl rfl (by decide +kernel) ⟨Nat.le_of_ble_eq_true rfl, Nat.le_of_ble_eq_true rfl⟩ ⟨Nat.zero_le _, Nat.zero_le _⟩ rfl rfl (Nat.le_of_ble_eq_true rfl) dX4_takeBorders_22 ?_
    refine X_iinc (v := s.2 + (1 : Int32)) (vs1 := [(2, .int (s.2 + (1 : Int32))), (0, .ref (ad 18)), (1, .ref (ad 13))]) C 2 rfl rfl (by decide) rfl dX4_takeBorders_25 ?_
    refine X_goto C (tgt := 7) (by decide) dX4_takeBorders_28 ?_
    obtain rfl := Option.some.inj h
    refine X_loc (vs1 := [(0, .ref (ad 18)), (1, .ref (ad 13)), (2, .int (s.2 + (1 : Int32)))]) [1, 2, 0] rfl ?_
    exact kin _ rfl
set_option maxHeartbeats 4000000 in
set_option maxRecDepth 100000 in
theorem c_Search_takeBorders {l : Launch} {D : va_G} {cs : Nat → ClassId} {ad : Nat → Nat} {im : Nat → Option Nat} {rest : va_W} {n : Nat} {σ : ST} {o : ST} (h : f_Search_takeBorders n σ = some o) : CTv l D cs yX4_takeBorders wsX4_takeBorders rm_Search_takeBorders [.ref (ad 18), .ref (ad 13)] (wX cs ad σ im rest) (wX cs ad o im rest) := by
  refine CTv_of (cc := cX4_takeBorders) (nL := 3) (by decide) rfl (Nat.le_of_ble_eq_true rfl) ?_
  intro K C hret
  unfold f_Search_takeBorders at h
  refine X_loc (vs1 := [(0, .ref (ad 18)), (1, .ref (ad 13))]) [0, 1] rfl ?_
  refine X_aload_n C 0 rfl rfl dX4_takeBorders_0 ?_
  refine X_iconst (v := 0) C (by decide) dX4_takeBorders_1 ?_
  refine X_put (ty := .int) C 18 2 hi4_Search_takeBorders hf21_Search_takeBorders tyX4 tyX4_ok nmX4 (xe_18 _ _ _ _ _) rfl (by decide) rfl (by decide +kernel) rfl rfl (Nat.le_of_ble_eq_true rfl) (xs_18_2 _ _ _ _ _ _) dX4_takeBorders_2 ?_
  refine X_nam (G := fun σ1 => XW l D K 0 0 (wX cs ad σ1 im rest) 5 [(0, .ref (ad 18)), (1, .ref (ad 13))] []) h (fun σ1 h => ?_)
  refine X_iconst (v := 0) C (by decide) dX4_takeBorders_5 ?_
  refine X_istore_n (vs1 := [(2, .int (0 : Int32)), (0, .ref (ad 18)), (1, .ref (ad 13))]) C rfl (by decide) rfl dX4_takeBorders_6 ?_
  obtain ⟨e3, he3, h⟩ := bnd_some h
  refine X_loc (vs1 := [(0, .ref (ad 18)), (1, .ref (ad 13)), (2, .int (0 : Int32))]) [1, 2, 0] rfl ?_
  refine wb_Search_takeBorders_7 C (e := e3) (fun t ht => ?_) n _ he3
  subst ht
  obtain rfl := Option.some.inj h
  exact hret _ _ dX4_takeBorders_31

abbrev rm_Search_priceByWeight : Room := { frames := 1, cells := 0, slots := 0, locals := 64 }
def f_Search_priceByWeight (σ : ST) : Option (ST) :=
  nam (sS σ 1158 (σ.1 129)) fun σ1 =>
  nam (sS σ1 1157 (0 : Int32)) fun σ2 =>
  nam (sA σ2 20 (va_cpy (σ2.2 5) (σ2.2 20) 0 0 16)) fun σ3 =>
  some σ3
theorem hyi_Search_priceByWeight : Cond.initialized "java/lang/System" ∈ wsX4_priceByWeight := by decide +kernel
theorem hys_Search_priceByWeight : Cond.static arraycopyName ∈ wsX4_priceByWeight := by decide +kernel
theorem hyn_Search_priceByWeight : Cond.native arraycopyName ∈ wsX4_priceByWeight := by decide +kernel
theorem hy45_Search_priceByWeight : Cond.methodLink RX4 45 arraycopyName ∈ wsX4_priceByWeight := by decide +kernel
theorem hf15_Search_priceByWeight : Cond.fieldLink RX4 15 (TX4 8).1 (TX4 8).2.1 (TX4 8).2.2.1 ∈ wsX4_priceByWeight := by decide +kernel
theorem hf42_Search_priceByWeight : Cond.fieldLink RX4 42 (TX2 4).1 (TX2 4).2.1 (TX2 4).2.2.1 ∈ wsX4_priceByWeight := by decide +kernel
theorem hf39_Search_priceByWeight : Cond.fieldLink RX4 39 (TX4 5).1 (TX4 5).2.1 (TX4 5).2.2.1 ∈ wsX4_priceByWeight := by decide +kernel
theorem hf38_Search_priceByWeight : Cond.fieldLink RX4 38 (TX4 6).1 (TX4 6).2.1 (TX4 6).2.2.1 ∈ wsX4_priceByWeight := by decide +kernel
theorem hi4_Search_priceByWeight : ∀ w ∈ u_ws RX4 TX4 10, w ∈ wsX4_priceByWeight := by decide +kernel
theorem hf33_Search_priceByWeight : Cond.fieldLink RX4 33 (TX2 1).1 (TX2 1).2.1 (TX2 1).2.2.1 ∈ wsX4_priceByWeight := by decide +kernel
theorem hi2_Search_priceByWeight : ∀ w ∈ u_ws RX2 TX2 5, w ∈ wsX4_priceByWeight := by decide +kernel
set_option maxHeartbeats 4000000 in
set_option maxRecDepth 100000 in
theorem c_Search_priceByWeight {l : Launch} {D : va_G} {cs : Nat → ClassId} {ad : Nat → Nat} {im : Nat → Option Nat} {rest : va_W} {σ : ST} {o : ST} (h : f_Search_priceByWeight σ = some o) : CTv l D cs yX4_priceByWeight wsX4_priceByWeight rm_Search_priceByWeight [.ref (ad 18), .ref (ad 2)] (wX cs ad σ im rest) (wX cs ad o im rest) := by
  refine CTv_of (cc := cX4_priceByWeight) (nL := 2) (by decide) rfl (Nat.le_of_ble_eq_true rfl) ?_
  intro K C hret
  unfold f_Search_priceByWeight at h
  refine X_loc (vs1 := [(0, .ref (ad 18)), (1, .ref (ad 2))]) [0, 1] rfl ?_
  refine X_aload_n C 0 rfl rfl dX4_priceByWeight_0 ?_
  refine X_aload_n C 1 rfl rfl dX4_priceByWeight_1 ?_
  refine X_get C 2 1 hi2_Search_priceByWeight hf33_Search_priceByWeight (xe_2 _ _ _ _ _) rfl (by decide) rfl dX4_priceByWeight_2 ?_
  refine X_put (ty := .int) C 18 6 hi4_Search_priceByWeight hf38_Search_priceByWeight tyX4 tyX4_ok nmX4 (xe_18 _ _ _ _ _) rfl (by decide) rfl (by decide +kernel) rfl rfl (Nat.le_of_ble_eq_true rfl) (xs_18_6 _ _ _ _ _ _) dX4_priceByWeight_5 ?_
  refine X_nam (G := fun σ1 => XW l D K 0 0 (wX cs ad σ1 im rest) 8 [(0, .ref (ad 18)), (1, .ref (ad 2))] []) h (fun σ1 h => ?_)
  refine X_aload_n C 0 rfl rfl dX4_priceByWeight_8 ?_
  refine X_iconst (v := 0) C (by decide) dX4_priceByWeight_9 ?_
  refine X_put (ty := .int) C 18 5 hi4_Search_priceByWeight hf39_Search_priceByWeight tyX4 tyX4_ok nmX4 (xe_18 _ _ _ _ _) rfl (by decide) rfl (by decide +kernel) rfl rfl (Nat.le_of_ble_eq_true rfl) (xs_18_5 _ _ _ _ _ _) dX4_priceByWeight_10 ?_
  refine X_nam (G := fun σ2 => XW l D K 0 0 (wX cs ad σ2 im rest) 13 [(0, .ref (ad 18)), (1, .ref (ad 2))] []) h (fun σ2 h => ?_)
  refine X_aload_n C 1 rfl rfl dX4_priceByWeight_13 ?_
  refine X_get C 2 4 hi2_Search_priceByWeight hf42_Search_priceByWeight (xe_2 _ _ _ _ _) rfl (by decide) rfl dX4_priceByWeight_14 ?_
  refine X_iconst (v := 0) C (by decide) dX4_priceByWeight_17 ?_
  refine X_aload_n C 0 rfl rfl dX4_priceByWeight_18 ?_
  refine X_get C 18 8 hi4_Search_priceByWeight hf15_Search_priceByWeight (xe_18 _ _ _ _ _) rfl (by decide) rfl dX4_priceByWeight_19 ?_
  refine X_iconst (v := 0) C (by decide) dX4_priceByWeight_22 ?_
  refine X_bipush (v := 16) C (by decide) dX4_priceByWeight_23 ?_
  refine X_copy C 5 20 hy45_Search_priceByWeight hyn_Search_priceByWeight hys_Search_priceByWeight hyi_Search_priceByWeight (xe_5 _ _ _ _ _) (xe_20 _ _ _ _ _) (by decide) (by decide) (by decide) (by decide) (by decide) (Nat.le_of_ble_eq_true rfl) (by decide) (xa_20 _ _ _ _ _ _) dX4_priceByWeight_25 ?_
  refine X_nam (G := fun σ3 => XW l D K 0 0 (wX cs ad σ3 im rest) 28 [(0, .ref (ad 18)), (1, .ref (ad 2))] []) h (fun σ3 h => ?_)
  obtain rfl := Option.some.inj h
  exact hret _ _ dX4_priceByWeight_28

abbrev rm_Search_priceWithTies : Room := { frames := 0, cells := 0, slots := 0, locals := 0 }
def b_Search_priceWithTies_15 (n : Nat) (s : ST × Int32) : Option ((ST × Int32) ⊕ (ST)) :=
  if (s.1.1 1158) ≤ s.2 then
    some (.inr s.1)
  else
    grd (jin s.2 16) <|
    grd (jin s.2 16) <|
    nam (sA s.1 20 (upd (s.1.2 20) (jix s.2) ((jshl (s.1.2 5 (jix s.2)) (16 : Int32)) + (jshl (1 : Int32) s.2)))) fun σ3 =>
    some (.inl (σ3, s.2 + (1 : Int32)))
def f_Search_priceWithTies (n : Nat) (σ : ST) : Option (ST) :=
  nam (sS σ 1158 (σ.1 129)) fun σ1 =>
  nam (sS σ1 1157 (0 : Int32)) fun σ2 =>
  bnd (lp (b_Search_priceWithTies_15 n) n (σ2, (0 : Int32))) fun e4 =>
  some e4
theorem hf42_Search_priceWithTies : Cond.fieldLink RX4 42 (TX2 4).1 (TX2 4).2.1 (TX2 4).2.2.1 ∈ wsX4_priceWithTies := by decide +kernel
theorem hf15_Search_priceWithTies : Cond.fieldLink RX4 15 (TX4 8).1 (TX4 8).2.1 (TX4 8).2.2.1 ∈ wsX4_priceWithTies := by decide +kernel
theorem hf39_Search_priceWithTies : Cond.fieldLink RX4 39 (TX4 5).1 (TX4 5).2.1 (TX4 5).2.2.1 ∈ wsX4_priceWithTies := by decide +kernel
theorem hf38_Search_priceWithTies : Cond.fieldLink RX4 38 (TX4 6).1 (TX4 6).2.1 (TX4 6).2.2.1 ∈ wsX4_priceWithTies := by decide +kernel
theorem hi4_Search_priceWithTies : ∀ w ∈ u_ws RX4 TX4 10, w ∈ wsX4_priceWithTies := by decide +kernel
theorem hf33_Search_priceWithTies : Cond.fieldLink RX4 33 (TX2 1).1 (TX2 1).2.1 (TX2 1).2.2.1 ∈ wsX4_priceWithTies := by decide +kernel
theorem hi2_Search_priceWithTies : ∀ w ∈ u_ws RX2 TX2 5, w ∈ wsX4_priceWithTies := by decide +kernel
set_option maxHeartbeats 4000000 in
set_option maxRecDepth 100000 in
theorem wb_Search_priceWithTies_15 {l : Launch} {D : va_G} {cs : Nat → ClassId} {K : XK} {ad : Nat → Nat} {im : Nat → Option Nat} {rest : va_W} (C : XC D cs K 3 rm_Search_priceWithTies cX4_priceWithTies RX4 wsX4_priceWithTies none) {n : Nat} {e : (ST)} (kx : ∀ (t : ST), e = t → XW l D K 0 0 (wX cs ad t im rest) 48 [] []) : ∀ (q : Nat) (s : ST × Int32), lp (b_Search_priceWithTies_15 n) q s = some e → XW l D K 0 0 (wX cs ad s.1 im rest) 15 [(0, .ref (ad 18)), (1, .ref (ad 2)), (2, .int s.2)] [] := by
  refine lp_walk (G := fun (s : ST × Int32) => XW l D K 0 0 (wX cs ad s.1 im rest) 15 [(0, .ref (ad 18)), (1, .ref (ad 2)), (2, .int s.2)] []) ?_
  intro s o h kin kex
  unfold b_Search_priceWithTies_15 at h
  refine X_iload_n C 2 rfl rfl dX4_priceWithTies_15 ?_
  refine X_aload_n C 0 rfl rfl dX4_priceWithTies_16 ?_
  refine X_get C 18 6 hi4_Search_priceWithTies hf38_Search_priceWithTies (xe_18 _ _ _ _ _) rfl (by decide) rfl dX4_priceWithTies_17 ?_
  refine X_icmpge C (tgt := 48) (by decide) dX4_priceWithTies_20 h (fun h => ?_) (fun h => ?_)
  · obtain rfl := Option.some.inj h
    refine X_loc (vs1 := []) [] rfl ?_
    exact kx _ (kex _ rfl).symm
  · refine X_aload_n C 0 rfl rfl dX4_priceWithTies_23 ?_
    refine X_get C 18 8 hi4_Search_priceWithTies hf15_Search_priceWithTies (xe_18 _ _ _ _ _) rfl (by decide) rfl dX4_priceWithTies_24 ?_
    refine X_iload_n C 2 rfl rfl dX4_priceWithTies_27 ?_
    refine X_aload_n C 1 rfl rfl dX4_priceWithTies_28 ?_
    refine X_get C 2 4 hi2_Search_priceWithTies hf42_Search_priceWithTies (xe_2 _ _ _ _ _) rfl (by decide) rfl dX4_priceWithTies_29 ?_
    refine X_iload_n C 2 rfl rfl dX4_priceWithTies_32 ?_
    refine X_iald C 5 (xe_5 _ _ _ _ _) h dX4_priceWithTies_33 (fun h => ?_)
    refine X_bipush (v := 16) C (by decide) dX4_priceWithTies_34 ?_
    refine X_ishl C dX4_priceWithTies_36 ?_
    refine X_iconst (v := 1) C (by decide) dX4_priceWithTies_37 ?_
    refine X_iload_n C 2 rfl rfl dX4_priceWithTies_38 ?_
    refine X_ishl C dX4_priceWithTies_39 ?_
    refine X_iadd C dX4_priceWithTies_40 ?_
    refine X_iast C 20 (xe_20 _ _ _ _ _) (xa_20 _ _ _ _ _ _) h dX4_priceWithTies_41 (fun h => ?_)
    refine X_nam (G := fun σ3 => XW l D K 0 0 (wX cs ad σ3 im rest) 42 [(0, .ref (ad 18)), (1, .ref (ad 2)), (2, .int s.2)] []) h (fun σ3 h => ?_)
    refine X_iinc (v := s.2 + (1 : Int32)) (vs1 := [(2, .int (s.2 + (1 : Int32))), (0, .ref (ad 18)), (1, .ref (ad 2))]) C 2 rfl rfl (by decide) rfl dX4_priceWithTies_42 ?_
    refine X_goto C (tgt := 15) (by decide) dX4_priceWithTies_45 ?_
    obtain rfl := Option.some.inj h
    refine X_loc (vs1 := [(0, .ref (ad 18)), (1, .ref (ad 2)), (2, .int (s.2 + (1 : Int32)))]) [1, 2, 0] rfl ?_
    exact kin _ rfl
set_option maxHeartbeats 4000000 in
set_option maxRecDepth 100000 in
theorem c_Search_priceWithTies {l : Launch} {D : va_G} {cs : Nat → ClassId} {ad : Nat → Nat} {im : Nat → Option Nat} {rest : va_W} {n : Nat} {σ : ST} {o : ST} (h : f_Search_priceWithTies n σ = some o) : CTv l D cs yX4_priceWithTies wsX4_priceWithTies rm_Search_priceWithTies [.ref (ad 18), .ref (ad 2)] (wX cs ad σ im rest) (wX cs ad o im rest) := by
  refine CTv_of (cc := cX4_priceWithTies) (nL := 3) (by decide) rfl (Nat.le_of_ble_eq_true rfl) ?_
  intro K C hret
  unfold f_Search_priceWithTies at h
  refine X_loc (vs1 := [(0, .ref (ad 18)), (1, .ref (ad 2))]) [0, 1] rfl ?_
  refine X_aload_n C 0 rfl rfl dX4_priceWithTies_0 ?_
  refine X_aload_n C 1 rfl rfl dX4_priceWithTies_1 ?_
  refine X_get C 2 1 hi2_Search_priceWithTies hf33_Search_priceWithTies (xe_2 _ _ _ _ _) rfl (by decide) rfl dX4_priceWithTies_2 ?_
  refine X_put (ty := .int) C 18 6 hi4_Search_priceWithTies hf38_Search_priceWithTies tyX4 tyX4_ok nmX4 (xe_18 _ _ _ _ _) rfl (by decide) rfl (by decide +kernel) rfl rfl (Nat.le_of_ble_eq_true rfl) (xs_18_6 _ _ _ _ _ _) dX4_priceWithTies_5 ?_
  refine X_nam (G := fun σ1 => XW l D K 0 0 (wX cs ad σ1 im rest) 8 [(0, .ref (ad 18)), (1, .ref (ad 2))] []) h (fun σ1 h => ?_)
  refine X_aload_n C 0 rfl rfl dX4_priceWithTies_8 ?_
  refine X_iconst (v := 0) C (by decide) dX4_priceWithTies_9 ?_
  refine X_put (ty := .int) C 18 5 hi4_Search_priceWithTies hf39_Search_priceWithTies tyX4 tyX4_ok nmX4 (xe_18 _ _ _ _ _) rfl (by decide) rfl (by decide +kernel) rfl rfl (Nat.le_of_ble_eq_true rfl) (xs_18_5 _ _ _ _ _ _) dX4_priceWithTies_10 ?_
  refine X_nam (G := fun σ2 => XW l D K 0 0 (wX cs ad σ2 im rest) 13 [(0, .ref (ad 18)), (1, .ref (ad 2))] []) h (fun σ2 h => ?_)
  refine X_iconst (v := 0) C (by decide) dX4_priceWithTies_13 ?_
  refine X_istore_n (vs1 := [(2, .int (0 : Int32)), (0, .ref (ad 18)), (1, .ref (ad 2))]) C rfl (by decide) rfl dX4_priceWithTies_14 ?_
  obtain ⟨e4, he4, h⟩ := bnd_some h
  refine X_loc (vs1 := [(0, .ref (ad 18)), (1, .ref (ad 2)), (2, .int (0 : Int32))]) [1, 2, 0] rfl ?_
  refine wb_Search_priceWithTies_15 C (e := e4) (fun t ht => ?_) n _ he4
  subst ht
  obtain rfl := Option.some.inj h
  exact hret _ _ dX4_priceWithTies_48

abbrev rm_Search_reprice : Room := { frames := 0, cells := 0, slots := 0, locals := 0 }
def j_Search_reprice_22 (n : Nat) (σ : ST) : Option (ST) :=
  some σ
def f_Search_reprice (n : Nat) (σ : ST) (a0 : Int32) (a1 : Int32) : Option (ST) :=
  if a1 = (-1 : Int32) then
    nam (sS σ 1157 (jshl (1 : Int32) a0)) fun σ2 =>
    j_Search_reprice_22 n σ2
  else
    grd (jin a0 16) <|
    nam (sA σ 20 (upd (σ.2 20) (jix a0) a1)) fun σ1 =>
    j_Search_reprice_22 n σ1
theorem hf39_Search_reprice : Cond.fieldLink RX4 39 (TX4 5).1 (TX4 5).2.1 (TX4 5).2.2.1 ∈ wsX4_reprice := by decide +kernel
theorem hf15_Search_reprice : Cond.fieldLink RX4 15 (TX4 8).1 (TX4 8).2.1 (TX4 8).2.2.1 ∈ wsX4_reprice := by decide +kernel
theorem hi4_Search_reprice : ∀ w ∈ u_ws RX4 TX4 10, w ∈ wsX4_reprice := by decide +kernel
set_option maxHeartbeats 4000000 in
set_option maxRecDepth 100000 in
theorem wj_Search_reprice_22 {l : Launch} {D : va_G} {cs : Nat → ClassId} {K : XK} {ad : Nat → Nat} {im : Nat → Option Nat} {rest : va_W} (C : XC D cs K 3 rm_Search_reprice cX4_reprice RX4 wsX4_reprice none) {n : Nat} {σ : ST} {o : ST} (h : j_Search_reprice_22 n σ = some o) (hret : XRv l D K cX4_reprice (wX cs ad o im rest)) : XW l D K 0 0 (wX cs ad σ im rest) 22 [] [] := by
  unfold j_Search_reprice_22 at h
  obtain rfl := Option.some.inj h
  exact hret _ _ dX4_reprice_22
set_option maxHeartbeats 4000000 in
set_option maxRecDepth 100000 in
theorem c_Search_reprice {l : Launch} {D : va_G} {cs : Nat → ClassId} {ad : Nat → Nat} {im : Nat → Option Nat} {rest : va_W} {n : Nat} {σ : ST} {a0 : Int32} {a1 : Int32} {o : ST} (h : f_Search_reprice n σ a0 a1 = some o) : CTv l D cs yX4_reprice wsX4_reprice rm_Search_reprice [.ref (ad 18), .int a0, .int a1] (wX cs ad σ im rest) (wX cs ad o im rest) := by
  refine CTv_of (cc := cX4_reprice) (nL := 3) (by decide) rfl (Nat.le_of_ble_eq_true rfl) ?_
  intro K C hret
  unfold f_Search_reprice at h
  refine X_loc (vs1 := [(0, .ref (ad 18)), (1, .int a0), (2, .int a1)]) [0, 1, 2] rfl ?_
  refine X_iload_n C 2 rfl rfl dX4_reprice_0 ?_
  refine X_iconst (v := (-1)) C (by decide) dX4_reprice_1 ?_
  refine X_icmpne C (tgt := 15) (by decide) dX4_reprice_2 h (fun h => ?_) (fun h => ?_)
  · refine X_aload_n C 0 rfl rfl dX4_reprice_15 ?_
    refine X_get C 18 8 hi4_Search_reprice hf15_Search_reprice (xe_18 _ _ _ _ _) rfl (by decide) rfl dX4_reprice_16 ?_
    refine X_iload_n C 1 rfl rfl dX4_reprice_19 ?_
    refine X_iload_n C 2 rfl rfl dX4_reprice_20 ?_
    refine X_iast C 20 (xe_20 _ _ _ _ _) (xa_20 _ _ _ _ _ _) h dX4_reprice_21 (fun h => ?_)
    refine X_nam (G := fun σ1 => XW l D K 0 0 (wX cs ad σ1 im rest) 22 [(0, .ref (ad 18)), (1, .int a0), (2, .int a1)] []) h (fun σ1 h => ?_)
    refine X_loc (vs1 := []) [] rfl ?_
    exact wj_Search_reprice_22 C h hret
  · refine X_aload_n C 0 rfl rfl dX4_reprice_5 ?_
    refine X_iconst (v := 1) C (by decide) dX4_reprice_6 ?_
    refine X_iload_n C 1 rfl rfl dX4_reprice_7 ?_
    refine X_ishl C dX4_reprice_8 ?_
    refine X_put (ty := .int) C 18 5 hi4_Search_reprice hf39_Search_reprice tyX4 tyX4_ok nmX4 (xe_18 _ _ _ _ _) rfl (by decide) rfl (by decide +kernel) rfl rfl (Nat.le_of_ble_eq_true rfl) (xs_18_5 _ _ _ _ _ _) dX4_reprice_9 ?_
    refine X_nam (G := fun σ2 => XW l D K 0 0 (wX cs ad σ2 im rest) 12 [(0, .ref (ad 18)), (1, .int a0), (2, .int a1)] []) h (fun σ2 h => ?_)
    refine X_goto C (tgt := 22) (by decide) dX4_reprice_12 ?_
    refine X_loc (vs1 := []) [] rfl ?_
    exact wj_Search_reprice_22 C h hret

abbrev rm_Search_spend : Room := { frames := 1, cells := 0, slots := 0, locals := 21 }
def j_Search_spend_28_2 (n : Nat) (σ : ST) (v1 : Int32) (v2 : Int32) (v3 : Int32) : Option ((ST × Int32) ⊕ (ST)) :=
  some (.inl (σ, v3 + (1 : Int32)))
def b_Search_spend_2 (n : Nat) (v1 : Int32) (v2 : Int32) (s : ST × Int32) : Option ((ST × Int32) ⊕ (ST)) :=
  if (s.1.1 1158) ≤ s.2 then
    some (.inr s.1)
  else
    bnd (f_contains n v1 s.2) fun o1 =>
    if o1 = 0 then
      j_Search_spend_28_2 n s.1 v1 v2 s.2
    else
      grd (jin s.2 16) <|
      grd (jin s.2 16) <|
      nam (sA s.1 20 (upd (s.1.2 20) (jix s.2) ((s.1.2 20 (jix s.2)) - v2))) fun σ2 =>
      j_Search_spend_28_2 n σ2 v1 v2 s.2
def f_Search_spend (n : Nat) (σ : ST) (a0 : Int32) (a1 : Int32) : Option (ST) :=
  bnd (lp (b_Search_spend_2 n a0 a1) n (σ, (0 : Int32))) fun e3 =>
  some e3
theorem hf15_Search_spend : Cond.fieldLink RX4 15 (TX4 8).1 (TX4 8).2.1 (TX4 8).2.2.1 ∈ wsX4_spend := by decide +kernel
theorem hnsX6_contains_Search_spend : Cond.static yX6_contains ∈ wsX4_spend := by decide +kernel
theorem hniX6_contains_Search_spend : Cond.initialized yX6_contains.cls ∈ wsX4_spend := by decide +kernel
theorem hf38_Search_spend : Cond.fieldLink RX4 38 (TX4 6).1 (TX4 6).2.1 (TX4 6).2.2.1 ∈ wsX4_spend := by decide +kernel
theorem hi4_Search_spend : ∀ w ∈ u_ws RX4 TX4 10, w ∈ wsX4_spend := by decide +kernel
set_option maxHeartbeats 4000000 in
set_option maxRecDepth 100000 in
theorem wj_Search_spend_28_2 {l : Launch} {D : va_G} {cs : Nat → ClassId} {K : XK} {ad : Nat → Nat} {im : Nat → Option Nat} {rest : va_W} (C : XC D cs K 4 rm_Search_spend cX4_spend RX4 wsX4_spend none) {n : Nat} {σ : ST} {v1 : Int32} {v2 : Int32} {v3 : Int32} {o : (ST × Int32) ⊕ (ST)} {e : (ST)} (h : j_Search_spend_28_2 n σ v1 v2 v3 = some o) (kin : ∀ (s : ST × Int32), o = .inl s → XW l D K 0 0 (wX cs ad s.1 im rest) 2 [(0, .ref (ad 18)), (1, .int v1), (2, .int v2), (3, .int s.2)] []) (kex : ∀ e1, o = .inr e1 → e1 = e) (kx : ∀ (t : ST), e = t → XW l D K 0 0 (wX cs ad t im rest) 34 [] []) : XW l D K 0 0 (wX cs ad σ im rest) 28 [(0, .ref (ad 18)), (1, .int v1), (2, .int v2), (3, .int v3)] [] := by
  unfold j_Search_spend_28_2 at h
  refine X_iinc (v := v3 + (1 : Int32)) (vs1 := [(3, .int (v3 + (1 : Int32))), (0, .ref (ad 18)), (1, .int v1), (2, .int v2)]) C 3 rfl rfl (by decide) rfl dX4_spend_28 ?_
  refine X_goto C (tgt := 2) (by decide) dX4_spend_31 ?_
  obtain rfl := Option.some.inj h
  refine X_loc (vs1 := [(0, .ref (ad 18)), (1, .int v1), (2, .int v2), (3, .int (v3 + (1 : Int32)))]) [1, 2, 3, 0] rfl ?_
  exact kin _ rfl
set_option maxHeartbeats 4000000 in
set_option maxRecDepth 100000 in
theorem wb_Search_spend_2 {l : Launch} {D : va_G} {cs : Nat → ClassId} {K : XK} {ad : Nat → Nat} {im : Nat → Option Nat} {rest : va_W} (C : XC D cs K 4 rm_Search_spend cX4_spend RX4 wsX4_spend none) {n : Nat} {v1 : Int32} {v2 : Int32} {e : (ST)} (kx : ∀ (t : ST), e = t → XW l D K 0 0 (wX cs ad t im rest) 34 [] []) : ∀ (q : Nat) (s : ST × Int32), lp (b_Search_spend_2 n v1 v2) q s = some e → XW l D K 0 0 (wX cs ad s.1 im rest) 2 [(0, .ref (ad 18)), (1, .int v1), (2, .int v2), (3, .int s.2)] [] := by
  refine lp_walk (G := fun (s : ST × Int32) => XW l D K 0 0 (wX cs ad s.1 im rest) 2 [(0, .ref (ad 18)), (1, .int v1), (2, .int v2), (3, .int s.2)] []) ?_
  intro s o h kin kex
  unfold b_Search_spend_2 at h
  refine X_iload_n C 3 rfl rfl dX4_spend_2 ?_
  refine X_aload_n C 0 rfl rfl dX4_spend_3 ?_
  refine X_get C 18 6 hi4_Search_spend hf38_Search_spend (xe_18 _ _ _ _ _) rfl (by decide) rfl dX4_spend_4 ?_
  refine X_icmpge C (tgt := 34) (by decide) dX4_spend_7 h (fun h => ?_) (fun h => ?_)
  · obtain rfl := Option.some.inj h
    refine X_loc (vs1 := []) [] rfl ?_
    exact kx _ (kex _ rfl).symm
  · refine X_iload_n C 1 rfl rfl dX4_spend_10 ?_
    refine X_iload_n C 3 rfl rfl dX4_spend_11 ?_
    obtain ⟨o1, eo1, h⟩ := bnd_some h
    refine X_callSNi C (n := 2) (As := [.int v1, .int s.2]) (c_contains eo1) gX4_spend_X6_contains_n51 (by decide +kernel) hniX6_contains_Search_spend hnsX6_contains_Search_spend rfl rfl rfl (by decide +kernel) ⟨Nat.le_of_ble_eq_true rfl, Nat.le_of_ble_eq_true rfl⟩ ⟨Nat.zero_le _, Nat.zero_le _⟩ rfl rfl (Nat.le_of_ble_eq_true rfl) dX4_spend_12 ?_
    refine X_ifeq C (tgt := 28) (by decide) dX4_spend_15 h (fun h => ?_) (fun h => ?_)
    · exact wj_Search_spend_28_2 C h kin kex kx
    · refine X_aload_n C 0 rfl rfl dX4_spend_18 ?_
      refine X_get C 18 8 hi4_Search_spend hf15_Search_spend (xe_18 _ _ _ _ _) rfl (by decide) rfl dX4_spend_19 ?_
      refine X_iload_n C 3 rfl rfl dX4_spend_22 ?_
      refine X_dup2 C rfl rfl dX4_spend_23 ?_
      refine X_iald C 20 (xe_20 _ _ _ _ _) h dX4_spend_24 (fun h => ?_)
      refine X_iload_n C 2 rfl rfl dX4_spend_25 ?_
      refine X_isub C dX4_spend_26 ?_
      refine X_iast C 20 (xe_20 _ _ _ _ _) (xa_20 _ _ _ _ _ _) h dX4_spend_27 (fun h => ?_)
      refine X_nam (G := fun σ2 => XW l D K 0 0 (wX cs ad σ2 im rest) 28 [(0, .ref (ad 18)), (1, .int v1), (2, .int v2), (3, .int s.2)] []) h (fun σ2 h => ?_)
      exact wj_Search_spend_28_2 C h kin kex kx
set_option maxHeartbeats 4000000 in
set_option maxRecDepth 100000 in
theorem c_Search_spend {l : Launch} {D : va_G} {cs : Nat → ClassId} {ad : Nat → Nat} {im : Nat → Option Nat} {rest : va_W} {n : Nat} {σ : ST} {a0 : Int32} {a1 : Int32} {o : ST} (h : f_Search_spend n σ a0 a1 = some o) : CTv l D cs yX4_spend wsX4_spend rm_Search_spend [.ref (ad 18), .int a0, .int a1] (wX cs ad σ im rest) (wX cs ad o im rest) := by
  refine CTv_of (cc := cX4_spend) (nL := 4) (by decide) rfl (Nat.le_of_ble_eq_true rfl) ?_
  intro K C hret
  unfold f_Search_spend at h
  refine X_loc (vs1 := [(0, .ref (ad 18)), (1, .int a0), (2, .int a1)]) [0, 1, 2] rfl ?_
  refine X_iconst (v := 0) C (by decide) dX4_spend_0 ?_
  refine X_istore_n (vs1 := [(3, .int (0 : Int32)), (0, .ref (ad 18)), (1, .int a0), (2, .int a1)]) C rfl (by decide) rfl dX4_spend_1 ?_
  obtain ⟨e3, he3, h⟩ := bnd_some h
  refine X_loc (vs1 := [(0, .ref (ad 18)), (1, .int a0), (2, .int a1), (3, .int (0 : Int32))]) [1, 2, 3, 0] rfl ?_
  refine wb_Search_spend_2 C (e := e3) (fun t ht => ?_) n _ he3
  subst ht
  obtain rfl := Option.some.inj h
  exact hret _ _ dX4_spend_34

abbrev rm_Search_drawFromSlack : Room := { frames := 1, cells := 0, slots := 0, locals := 32 }
def j_Search_drawFromSlack_43_16 (n : Nat) (σ : ST) (v1 : Int32) (v2 : Int32) (v3 : Int32) : Option ((Int32 × Int32) ⊕ (Int32)) :=
  some (.inl (v2, v3 + (1 : Int32)))
def b_Search_drawFromSlack_16 (n : Nat) (σ : ST) (v1 : Int32) (s : Int32 × Int32) : Option ((Int32 × Int32) ⊕ (Int32)) :=
  if (σ.1 1158) ≤ s.2 then
    some (.inr s.1)
  else
    bnd (f_contains n v1 s.2) fun o1 =>
    if o1 = 0 then
      j_Search_drawFromSlack_43_16 n σ v1 s.1 s.2
    else
      grd (jin s.2 16) <|
      nam (jmin s.1 (σ.2 21 (jix s.2))) fun x2 =>
      j_Search_drawFromSlack_43_16 n σ v1 x2 s.2
def j_Search_drawFromSlack_102_51 (n : Nat) (σ : ST) (v1 : Int32) (v2 : Int32) (v3 : Int32) : Option ((ST × Int32) ⊕ (ST)) :=
  some (.inl (σ, v3 + (1 : Int32)))
def j_Search_drawFromSlack_98_51 (n : Nat) (σ : ST) (v1 : Int32) (v2 : Int32) (v3 : Int32) (t0 : Int32) (t1 : Int32) : Option ((ST × Int32) ⊕ (ST)) :=
  nam (sS σ 1156 (t1 ||| t0)) fun σ6 =>
  j_Search_drawFromSlack_102_51 n σ6 v1 v2 v3
def b_Search_drawFromSlack_51 (n : Nat) (v1 : Int32) (v2 : Int32) (s : ST × Int32) : Option ((ST × Int32) ⊕ (ST)) :=
  if (s.1.1 1158) ≤ s.2 then
    some (.inr s.1)
  else
    bnd (f_contains n v1 s.2) fun o4 =>
    if o4 = 0 then
      j_Search_drawFromSlack_102_51 n s.1 v1 v2 s.2
    else
      grd (jin s.2 16) <|
      grd (jin s.2 16) <|
      nam (sA s.1 21 (upd (s.1.2 21) (jix s.2) ((s.1.2 21 (jix s.2)) - v2))) fun σ5 =>
      grd (jin s.2 16) <|
      if (σ5.2 21 (jix s.2)) = 0 then
        j_Search_drawFromSlack_98_51 n σ5 v1 v2 s.2 (jshl (1 : Int32) s.2) (σ5.1 1156)
      else
        j_Search_drawFromSlack_98_51 n σ5 v1 v2 s.2 (0 : Int32) (σ5.1 1156)
def f_Search_drawFromSlack (n : Nat) (σ : ST) (a0 : Int32) : Option (Int32 × ST) :=
  if (a0 &&& (σ.1 1156)) = 0 then
    bnd (lp (b_Search_drawFromSlack_16 n σ a0) n ((2147483647 : Int32), (0 : Int32))) fun e3 =>
    bnd (lp (b_Search_drawFromSlack_51 n a0 e3) n (σ, (0 : Int32))) fun e7 =>
    some (e3, e7)
  else
    some ((0 : Int32), σ)
theorem hmc_Search_drawFromSlack : Cond.code Lib.Math.min.name Lib.Math.min.code 2 (some .int) ∈ wsX4_drawFromSlack := by decide +kernel
theorem hmi_Search_drawFromSlack : Cond.initialized "java/lang/Math" ∈ wsX4_drawFromSlack := by decide +kernel
theorem hms_Search_drawFromSlack : Cond.static Lib.Math.min.name ∈ wsX4_drawFromSlack := by decide +kernel
theorem hm85_Search_drawFromSlack : Cond.methodLink RX4 85 Lib.Math.min.name ∈ wsX4_drawFromSlack := by decide +kernel
theorem hf18_Search_drawFromSlack : Cond.fieldLink RX4 18 (TX4 9).1 (TX4 9).2.1 (TX4 9).2.2.1 ∈ wsX4_drawFromSlack := by decide +kernel
theorem hnsX6_contains_Search_drawFromSlack : Cond.static yX6_contains ∈ wsX4_drawFromSlack := by decide +kernel
theorem hniX6_contains_Search_drawFromSlack : Cond.initialized yX6_contains.cls ∈ wsX4_drawFromSlack := by decide +kernel
theorem hf38_Search_drawFromSlack : Cond.fieldLink RX4 38 (TX4 6).1 (TX4 6).2.1 (TX4 6).2.2.1 ∈ wsX4_drawFromSlack := by decide +kernel
theorem hc84_Search_drawFromSlack : Cond.constant RX4 84 (2147483647) ∈ wsX4_drawFromSlack := by decide +kernel
theorem hf72_Search_drawFromSlack : Cond.fieldLink RX4 72 (TX4 4).1 (TX4 4).2.1 (TX4 4).2.2.1 ∈ wsX4_drawFromSlack := by decide +kernel
theorem hi4_Search_drawFromSlack : ∀ w ∈ u_ws RX4 TX4 10, w ∈ wsX4_drawFromSlack := by decide +kernel
set_option maxHeartbeats 4000000 in
set_option maxRecDepth 100000 in
theorem wj_Search_drawFromSlack_43_16 {l : Launch} {D : va_G} {cs : Nat → ClassId} {K : XK} {ad : Nat → Nat} {im : Nat → Option Nat} {rest : va_W} (C : XC D cs K 4 rm_Search_drawFromSlack cX4_drawFromSlack RX4 wsX4_drawFromSlack (some .int)) {n : Nat} {σ : ST} {v1 : Int32} {v2 : Int32} {v3 : Int32} {o : (Int32 × Int32) ⊕ (Int32)} {e : (Int32)} (h : j_Search_drawFromSlack_43_16 n σ v1 v2 v3 = some o) (kin : ∀ (s : Int32 × Int32), o = .inl s → XW l D K 0 0 (wX cs ad σ im rest) 16 [(0, .ref (ad 18)), (1, .int v1), (2, .int s.1), (3, .int s.2)] []) (kex : ∀ e1, o = .inr e1 → e1 = e) (kx : ∀ (t : Int32), e = t → XW l D K 0 0 (wX cs ad σ im rest) 49 [(0, .ref (ad 18)), (1, .int v1), (2, .int t)] []) : XW l D K 0 0 (wX cs ad σ im rest) 43 [(0, .ref (ad 18)), (1, .int v1), (2, .int v2), (3, .int v3)] [] := by
  unfold j_Search_drawFromSlack_43_16 at h
  refine X_iinc (v := v3 + (1 : Int32)) (vs1 := [(3, .int (v3 + (1 : Int32))), (0, .ref (ad 18)), (1, .int v1), (2, .int v2)]) C 3 rfl rfl (by decide) rfl dX4_drawFromSlack_43 ?_
  refine X_goto C (tgt := 16) (by decide) dX4_drawFromSlack_46 ?_
  obtain rfl := Option.some.inj h
  refine X_loc (vs1 := [(0, .ref (ad 18)), (1, .int v1), (2, .int v2), (3, .int (v3 + (1 : Int32)))]) [1, 2, 3, 0] rfl ?_
  exact kin _ rfl
set_option maxHeartbeats 4000000 in
set_option maxRecDepth 100000 in
theorem wb_Search_drawFromSlack_16 {l : Launch} {D : va_G} {cs : Nat → ClassId} {K : XK} {ad : Nat → Nat} {im : Nat → Option Nat} {rest : va_W} (C : XC D cs K 4 rm_Search_drawFromSlack cX4_drawFromSlack RX4 wsX4_drawFromSlack (some .int)) {n : Nat} {σ : ST} {v1 : Int32} {e : (Int32)} (kx : ∀ (t : Int32), e = t → XW l D K 0 0 (wX cs ad σ im rest) 49 [(0, .ref (ad 18)), (1, .int v1), (2, .int t)] []) : ∀ (q : Nat) (s : Int32 × Int32), lp (b_Search_drawFromSlack_16 n σ v1) q s = some e → XW l D K 0 0 (wX cs ad σ im rest) 16 [(0, .ref (ad 18)), (1, .int v1), (2, .int s.1), (3, .int s.2)] [] := by
  refine lp_walk (G := fun (s : Int32 × Int32) => XW l D K 0 0 (wX cs ad σ im rest) 16 [(0, .ref (ad 18)), (1, .int v1), (2, .int s.1), (3, .int s.2)] []) ?_
  intro s o h kin kex
  unfold b_Search_drawFromSlack_16 at h
  refine X_iload_n C 3 rfl rfl dX4_drawFromSlack_16 ?_
  refine X_aload_n C 0 rfl rfl dX4_drawFromSlack_17 ?_
  refine X_get C 18 6 hi4_Search_drawFromSlack hf38_Search_drawFromSlack (xe_18 _ _ _ _ _) rfl (by decide) rfl dX4_drawFromSlack_18 ?_
  refine X_icmpge C (tgt := 49) (by decide) dX4_drawFromSlack_21 h (fun h => ?_) (fun h => ?_)
  · obtain rfl := Option.some.inj h
    refine X_loc (vs1 := [(0, .ref (ad 18)), (1, .int v1), (2, .int s.1)]) [0, 1, 2] rfl ?_
    exact kx _ (kex _ rfl).symm
  · refine X_iload_n C 1 rfl rfl dX4_drawFromSlack_24 ?_
    refine X_iload_n C 3 rfl rfl dX4_drawFromSlack_25 ?_
    obtain ⟨o1, eo1, h⟩ := bnd_some h
    refine X_callSNi C (n := 2) (As := [.int v1, .int s.2]) (c_contains eo1) gX4_drawFromSlack_X6_contains_n51 (by decide +kernel) hniX6_contains_Search_drawFromSlack hnsX6_contains_Search_drawFromSlack rfl rfl rfl (by decide +kernel) ⟨Nat.le_of_ble_eq_true rfl, Nat.le_of_ble_eq_true rfl⟩ ⟨Nat.zero_le _, Nat.zero_le _⟩ rfl rfl (Nat.le_of_ble_eq_true rfl) dX4_drawFromSlack_26 ?_
    refine X_ifeq C (tgt := 43) (by decide) dX4_drawFromSlack_29 h (fun h => ?_) (fun h => ?_)
    · exact wj_Search_drawFromSlack_43_16 C h kin kex kx
    · refine X_iload_n C 2 rfl rfl dX4_drawFromSlack_32 ?_
      refine X_aload_n C 0 rfl rfl dX4_drawFromSlack_33 ?_
      refine X_get C 18 9 hi4_Search_drawFromSlack hf18_Search_drawFromSlack (xe_18 _ _ _ _ _) rfl (by decide) rfl dX4_drawFromSlack_34 ?_
      refine X_iload_n C 3 rfl rfl dX4_drawFromSlack_37 ?_
      refine X_iald C 21 (xe_21 _ _ _ _ _) h dX4_drawFromSlack_38 (fun h => ?_)
      refine X_mmin C hm85_Search_drawFromSlack hms_Search_drawFromSlack hmi_Search_drawFromSlack hmc_Search_drawFromSlack (Nat.le_of_ble_eq_true rfl) (Nat.le_of_ble_eq_true rfl) (Nat.zero_le _) (Nat.zero_le _) dX4_drawFromSlack_39 ?_
      refine X_nam (G := fun x2 => XW l D K 0 0 (wX cs ad σ im rest) 42 [(0, .ref (ad 18)), (1, .int v1), (2, .int s.1), (3, .int s.2)] [.int x2]) h (fun x2 h => ?_)
      refine X_istore_n (vs1 := [(2, .int x2), (0, .ref (ad 18)), (1, .int v1), (3, .int s.2)]) C rfl (by decide) rfl dX4_drawFromSlack_42 ?_
      refine X_loc (vs1 := [(0, .ref (ad 18)), (1, .int v1), (2, .int x2), (3, .int s.2)]) [1, 2, 0, 3] rfl ?_
      exact wj_Search_drawFromSlack_43_16 C h kin kex kx
set_option maxHeartbeats 4000000 in
set_option maxRecDepth 100000 in
theorem wj_Search_drawFromSlack_102_51 {l : Launch} {D : va_G} {cs : Nat → ClassId} {K : XK} {ad : Nat → Nat} {im : Nat → Option Nat} {rest : va_W} (C : XC D cs K 4 rm_Search_drawFromSlack cX4_drawFromSlack RX4 wsX4_drawFromSlack (some .int)) {n : Nat} {σ : ST} {v1 : Int32} {v2 : Int32} {v3 : Int32} {o : (ST × Int32) ⊕ (ST)} {e : (ST)} (h : j_Search_drawFromSlack_102_51 n σ v1 v2 v3 = some o) (kin : ∀ (s : ST × Int32), o = .inl s → XW l D K 0 0 (wX cs ad s.1 im rest) 51 [(0, .ref (ad 18)), (1, .int v1), (2, .int v2), (3, .int s.2)] []) (kex : ∀ e1, o = .inr e1 → e1 = e) (kx : ∀ (t : ST), e = t → XW l D K 0 0 (wX cs ad t im rest) 108 [(2, .int v2)] []) : XW l D K 0 0 (wX cs ad σ im rest) 102 [(0, .ref (ad 18)), (1, .int v1), (2, .int v2), (3, .int v3)] [] := by
  unfold j_Search_drawFromSlack_102_51 at h
  refine X_iinc (v := v3 + (1 : Int32)) (vs1 := [(3, .int (v3 + (1 : Int32))), (0, .ref (ad 18)), (1, .int v1), (2, .int v2)]) C 3 rfl rfl (by decide) rfl dX4_drawFromSlack_102 ?_
  refine X_goto C (tgt := 51) (by decide) dX4_drawFromSlack_105 ?_
  obtain rfl := Option.some.inj h
  refine X_loc (vs1 := [(0, .ref (ad 18)), (1, .int v1), (2, .int v2), (3, .int (v3 + (1 : Int32)))]) [1, 2, 3, 0] rfl ?_
  exact kin _ rfl
set_option maxHeartbeats 4000000 in
set_option maxRecDepth 100000 in
theorem wj_Search_drawFromSlack_98_51 {l : Launch} {D : va_G} {cs : Nat → ClassId} {K : XK} {ad : Nat → Nat} {im : Nat → Option Nat} {rest : va_W} (C : XC D cs K 4 rm_Search_drawFromSlack cX4_drawFromSlack RX4 wsX4_drawFromSlack (some .int)) {n : Nat} {σ : ST} {v1 : Int32} {v2 : Int32} {v3 : Int32} {t0 : Int32} {t1 : Int32} {o : (ST × Int32) ⊕ (ST)} {e : (ST)} (h : j_Search_drawFromSlack_98_51 n σ v1 v2 v3 t0 t1 = some o) (kin : ∀ (s : ST × Int32), o = .inl s → XW l D K 0 0 (wX cs ad s.1 im rest) 51 [(0, .ref (ad 18)), (1, .int v1), (2, .int v2), (3, .int s.2)] []) (kex : ∀ e1, o = .inr e1 → e1 = e) (kx : ∀ (t : ST), e = t → XW l D K 0 0 (wX cs ad t im rest) 108 [(2, .int v2)] []) : XW l D K 0 0 (wX cs ad σ im rest) 98 [(0, .ref (ad 18)), (1, .int v1), (2, .int v2), (3, .int v3)] [.int t0, .int t1, .ref (ad 18)] := by
  unfold j_Search_drawFromSlack_98_51 at h
  refine X_ior C dX4_drawFromSlack_98 ?_
  refine X_put (ty := .int) C 18 4 hi4_Search_drawFromSlack hf72_Search_drawFromSlack tyX4 tyX4_ok nmX4 (xe_18 _ _ _ _ _) rfl (by decide) rfl (by decide +kernel) rfl rfl (Nat.le_of_ble_eq_true rfl) (xs_18_4 _ _ _ _ _ _) dX4_drawFromSlack_99 ?_
  refine X_nam (G := fun σ6 => XW l D K 0 0 (wX cs ad σ6 im rest) 102 [(0, .ref (ad 18)), (1, .int v1), (2, .int v2), (3, .int v3)] []) h (fun σ6 h => ?_)
  exact wj_Search_drawFromSlack_102_51 C h kin kex kx
set_option maxHeartbeats 4000000 in
set_option maxRecDepth 100000 in
theorem wb_Search_drawFromSlack_51 {l : Launch} {D : va_G} {cs : Nat → ClassId} {K : XK} {ad : Nat → Nat} {im : Nat → Option Nat} {rest : va_W} (C : XC D cs K 4 rm_Search_drawFromSlack cX4_drawFromSlack RX4 wsX4_drawFromSlack (some .int)) {n : Nat} {v1 : Int32} {v2 : Int32} {e : (ST)} (kx : ∀ (t : ST), e = t → XW l D K 0 0 (wX cs ad t im rest) 108 [(2, .int v2)] []) : ∀ (q : Nat) (s : ST × Int32), lp (b_Search_drawFromSlack_51 n v1 v2) q s = some e → XW l D K 0 0 (wX cs ad s.1 im rest) 51 [(0, .ref (ad 18)), (1, .int v1), (2, .int v2), (3, .int s.2)] [] := by
  refine lp_walk (G := fun (s : ST × Int32) => XW l D K 0 0 (wX cs ad s.1 im rest) 51 [(0, .ref (ad 18)), (1, .int v1), (2, .int v2), (3, .int s.2)] []) ?_
  intro s o h kin kex
  unfold b_Search_drawFromSlack_51 at h
  refine X_iload_n C 3 rfl rfl dX4_drawFromSlack_51 ?_
  refine X_aload_n C 0 rfl rfl dX4_drawFromSlack_52 ?_
  refine X_get C 18 6 hi4_Search_drawFromSlack hf38_Search_drawFromSlack (xe_18 _ _ _ _ _) rfl (by decide) rfl dX4_drawFromSlack_53 ?_
  refine X_icmpge C (tgt := 108) (by decide) dX4_drawFromSlack_56 h (fun h => ?_) (fun h => ?_)
  · obtain rfl := Option.some.inj h
    refine X_loc (vs1 := [(2, .int v2)]) [2] rfl ?_
    exact kx _ (kex _ rfl).symm
  · refine X_iload_n C 1 rfl rfl dX4_drawFromSlack_59 ?_
    refine X_iload_n C 3 rfl rfl dX4_drawFromSlack_60 ?_
    obtain ⟨o4, eo4, h⟩ := bnd_some h
    refine X_callSNi C (n := 2) (As := [.int v1, .int s.2]) (c_contains eo4) gX4_drawFromSlack_X6_contains_n51 (by decide +kernel) hniX6_contains_Search_drawFromSlack hnsX6_contains_Search_drawFromSlack rfl rfl rfl (by decide +kernel) ⟨Nat.le_of_ble_eq_true rfl, Nat.le_of_ble_eq_true rfl⟩ ⟨Nat.zero_le _, Nat.zero_le _⟩ rfl rfl (Nat.le_of_ble_eq_true rfl) dX4_drawFromSlack_61 ?_
    refine X_ifeq C (tgt := 102) (by decide) dX4_drawFromSlack_64 h (fun h => ?_) (fun h => ?_)
    · exact wj_Search_drawFromSlack_102_51 C h kin kex kx
    · refine X_aload_n C 0 rfl rfl dX4_drawFromSlack_67 ?_
      refine X_get C 18 9 hi4_Search_drawFromSlack hf18_Search_drawFromSlack (xe_18 _ _ _ _ _) rfl (by decide) rfl dX4_drawFromSlack_68 ?_
      refine X_iload_n C 3 rfl rfl dX4_drawFromSlack_71 ?_
      refine X_dup2 C rfl rfl dX4_drawFromSlack_72 ?_
      refine X_iald C 21 (xe_21 _ _ _ _ _) h dX4_drawFromSlack_73 (fun h => ?_)
      refine X_iload_n C 2 rfl rfl dX4_drawFromSlack_74 ?_
      refine X_isub C dX4_drawFromSlack_75 ?_
      refine X_iast C 21 (xe_21 _ _ _ _ _) (xa_21 _ _ _ _ _ _) h dX4_drawFromSlack_76 (fun h => ?_)
      refine X_nam (G := fun σ5 => XW l D K 0 0 (wX cs ad σ5 im rest) 77 [(0, .ref (ad 18)), (1, .int v1), (2, .int v2), (3, .int s.2)] []) h (fun σ5 h => ?_)
      refine X_aload_n C 0 rfl rfl dX4_drawFromSlack_77 ?_
      refine X_dup C rfl dX4_drawFromSlack_78 ?_
      refine X_get C 18 4 hi4_Search_drawFromSlack hf72_Search_drawFromSlack (xe_18 _ _ _ _ _) rfl (by decide) rfl dX4_drawFromSlack_79 ?_
      refine X_aload_n C 0 rfl rfl dX4_drawFromSlack_82 ?_
      refine X_get C 18 9 hi4_Search_drawFromSlack hf18_Search_drawFromSlack (xe_18 _ _ _ _ _) rfl (by decide) rfl dX4_drawFromSlack_83 ?_
      refine X_iload_n C 3 rfl rfl dX4_drawFromSlack_86 ?_
      refine X_iald C 21 (xe_21 _ _ _ _ _) h dX4_drawFromSlack_87 (fun h => ?_)
      refine X_ifne C (tgt := 97) (by decide) dX4_drawFromSlack_88 h (fun h => ?_) (fun h => ?_)
      · refine X_iconst (v := 0) C (by decide) dX4_drawFromSlack_97 ?_
        exact wj_Search_drawFromSlack_98_51 C h kin kex kx
      · refine X_iconst (v := 1) C (by decide) dX4_drawFromSlack_91 ?_
        refine X_iload_n C 3 rfl rfl dX4_drawFromSlack_92 ?_
        refine X_ishl C dX4_drawFromSlack_93 ?_
        refine X_goto C (tgt := 98) (by decide) dX4_drawFromSlack_94 ?_
        exact wj_Search_drawFromSlack_98_51 C h kin kex kx
set_option maxHeartbeats 4000000 in
set_option maxRecDepth 100000 in
theorem c_Search_drawFromSlack {l : Launch} {D : va_G} {cs : Nat → ClassId} {ad : Nat → Nat} {im : Nat → Option Nat} {rest : va_W} {n : Nat} {σ : ST} {a0 : Int32} {o : Int32 × ST} (h : f_Search_drawFromSlack n σ a0 = some o) : CTi l D cs yX4_drawFromSlack wsX4_drawFromSlack rm_Search_drawFromSlack [.ref (ad 18), .int a0] (wX cs ad σ im rest) o.1 (wX cs ad o.2 im rest) := by
  refine CTi_of (cc := cX4_drawFromSlack) (nL := 4) (by decide) rfl (Nat.le_of_ble_eq_true rfl) ?_
  intro K C hret
  unfold f_Search_drawFromSlack at h
  refine X_loc (vs1 := [(0, .ref (ad 18)), (1, .int a0)]) [0, 1] rfl ?_
  refine X_iload_n C 1 rfl rfl dX4_drawFromSlack_0 ?_
  refine X_aload_n C 0 rfl rfl dX4_drawFromSlack_1 ?_
  refine X_get C 18 4 hi4_Search_drawFromSlack hf72_Search_drawFromSlack (xe_18 _ _ _ _ _) rfl (by decide) rfl dX4_drawFromSlack_2 ?_
  refine X_iand C dX4_drawFromSlack_5 ?_
  refine X_ifeq C (tgt := 11) (by decide) dX4_drawFromSlack_6 h (fun h => ?_) (fun h => ?_)
  · refine X_ldc (v := 2147483647) C hc84_Search_drawFromSlack dX4_drawFromSlack_11 ?_
    refine X_istore_n (vs1 := [(2, .int (2147483647 : Int32)), (0, .ref (ad 18)), (1, .int a0)]) C rfl (by decide) rfl dX4_drawFromSlack_13 ?_
    refine X_iconst (v := 0) C (by decide) dX4_drawFromSlack_14 ?_
    refine X_istore_n (vs1 := [(3, .int (0 : Int32)), (2, .int (2147483647 : Int32)), (0, .ref (ad 18)), (1, .int a0)]) C rfl (by decide) rfl dX4_drawFromSlack_15 ?_
    obtain ⟨e3, he3, h⟩ := bnd_some h
    refine X_loc (vs1 := [(0, .ref (ad 18)), (1, .int a0), (2, .int (2147483647 : Int32)), (3, .int (0 : Int32))]) [2, 3, 1, 0] rfl ?_
    refine wb_Search_drawFromSlack_16 C (e := e3) (fun t ht => ?_) n _ he3
    subst ht
    refine X_iconst (v := 0) C (by decide) dX4_drawFromSlack_49 ?_
    refine X_istore_n (vs1 := [(3, .int (0 : Int32)), (0, .ref (ad 18)), (1, .int a0), (2, .int e3)]) C rfl (by decide) rfl dX4_drawFromSlack_50 ?_
    obtain ⟨e7, he7, h⟩ := bnd_some h
    refine X_loc (vs1 := [(0, .ref (ad 18)), (1, .int a0), (2, .int e3), (3, .int (0 : Int32))]) [1, 2, 3, 0] rfl ?_
    refine wb_Search_drawFromSlack_51 C (e := e7) (fun t ht => ?_) n _ he7
    subst ht
    refine X_iload_n C 0 rfl rfl dX4_drawFromSlack_108 ?_
    obtain rfl := Option.some.inj h
    exact hret _ _ dX4_drawFromSlack_109
  · refine X_iconst (v := 0) C (by decide) dX4_drawFromSlack_9 ?_
    obtain rfl := Option.some.inj h
    exact hret _ _ dX4_drawFromSlack_10

abbrev rm_Search_boundOf : Room := { frames := 2, cells := 0, slots := 0, locals := 64 }
def j_Search_boundOf_110_34 (n : Nat) (σ : ST) (v1 : Int32) (v2 : Int32) (v3 : Int32) (v4 : Int32) (v5 : Int32) : Option ((ST × Int32 × Int32 × Int32) ⊕ ((ST × Int32) ⊕ (Int32 × ST))) :=
  some (.inl (σ, v3, v4, v5 + (1 : Int32)))
def b_Search_boundOf_34 (n : Nat) (v1 : Int32) (v2 : Int32) (s : ST × Int32 × Int32 × Int32) : Option ((ST × Int32 × Int32 × Int32) ⊕ ((ST × Int32) ⊕ (Int32 × ST))) :=
  if (s.1.1 1154) ≤ s.2.2.2 then
    some (.inr (.inl (s.1, s.2.1)))
  else
    grd (jin s.2.2.2 256) <|
    if ((s.1.2 19 (jix s.2.2.2)) &&& v1) = 0 then
      grd (jin s.2.2.2 256) <|
      nam ((s.1.2 19 (jix s.2.2.2)) &&& (v2 ^^^ (-1 : Int32))) fun x4 =>
      if x4 = 0 then
        some (.inr (.inr ((-1 : Int32), s.1)))
      else
        bnd (f_Search_drawFromSlack n s.1 x4) fun o5 =>
        bnd (f_bitCount x4) fun o6 =>
        if s.2.2.1 ≤ o6 then
          j_Search_boundOf_110_34 n o5.2 v1 v2 (s.2.1 + o5.1) s.2.2.1 s.2.2.2
        else
          bnd (f_bitCount x4) fun o7 =>
          nam (sS o5.2 1155 x4) fun σ8 =>
          j_Search_boundOf_110_34 n σ8 v1 v2 (s.2.1 + o5.1) o7 s.2.2.2
    else
      j_Search_boundOf_110_34 n s.1 v1 v2 s.2.1 s.2.2.1 s.2.2.2
def f_Search_boundOf (n : Nat) (σ : ST) (a0 : Int32) (a1 : Int32) : Option (Int32 × ST) :=
  nam (sS σ 1155 (0 : Int32)) fun σ1 =>
  nam (sS σ1 1156 (0 : Int32)) fun σ2 =>
  nam (sA σ2 21 (va_cpy (σ2.2 20) (σ2.2 21) 0 0 16)) fun σ3 =>
  bnd (lp (b_Search_boundOf_34 n a0 a1) n (σ3, (0 : Int32), (17 : Int32), (0 : Int32))) fun e9 =>
  Sum.elim (fun t10 =>
    some (t10.2, t10.1))
    (fun r => some r) e9
theorem hf9_Search_boundOf : Cond.fieldLink RX4 9 (TX4 7).1 (TX4 7).2.1 (TX4 7).2.2.1 ∈ wsX4_boundOf := by decide +kernel
theorem hf21_Search_boundOf : Cond.fieldLink RX4 21 (TX4 2).1 (TX4 2).2.1 (TX4 2).2.2.1 ∈ wsX4_boundOf := by decide +kernel
theorem hyi_Search_boundOf : Cond.initialized "java/lang/System" ∈ wsX4_boundOf := by decide +kernel
theorem hys_Search_boundOf : Cond.static arraycopyName ∈ wsX4_boundOf := by decide +kernel
theorem hyn_Search_boundOf : Cond.native arraycopyName ∈ wsX4_boundOf := by decide +kernel
theorem hy45_Search_boundOf : Cond.methodLink RX4 45 arraycopyName ∈ wsX4_boundOf := by decide +kernel
theorem hf18_Search_boundOf : Cond.fieldLink RX4 18 (TX4 9).1 (TX4 9).2.1 (TX4 9).2.2.1 ∈ wsX4_boundOf := by decide +kernel
theorem hf15_Search_boundOf : Cond.fieldLink RX4 15 (TX4 8).1 (TX4 8).2.1 (TX4 8).2.2.1 ∈ wsX4_boundOf := by decide +kernel
theorem hf72_Search_boundOf : Cond.fieldLink RX4 72 (TX4 4).1 (TX4 4).2.1 (TX4 4).2.2.1 ∈ wsX4_boundOf := by decide +kernel
theorem hf69_Search_boundOf : Cond.fieldLink RX4 69 (TX4 3).1 (TX4 3).2.1 (TX4 3).2.2.1 ∈ wsX4_boundOf := by decide +kernel
theorem hi4_Search_boundOf : ∀ w ∈ u_ws RX4 TX4 10, w ∈ wsX4_boundOf := by decide +kernel
set_option maxHeartbeats 4000000 in
set_option maxRecDepth 100000 in
theorem wj_Search_boundOf_110_34 {l : Launch} {D : va_G} {cs : Nat → ClassId} {K : XK} {ad : Nat → Nat} {im : Nat → Option Nat} {rest : va_W} (C : XC D cs K 7 rm_Search_boundOf cX4_boundOf RX4 wsX4_boundOf (some .int)) {n : Nat} {σ : ST} {v1 : Int32} {v2 : Int32} {v3 : Int32} {v4 : Int32} {v5 : Int32} {o : (ST × Int32 × Int32 × Int32) ⊕ ((ST × Int32) ⊕ (Int32 × ST))} {e : ((ST × Int32) ⊕ (Int32 × ST))} (h : j_Search_boundOf_110_34 n σ v1 v2 v3 v4 v5 = some o) (kin : ∀ (s : ST × Int32 × Int32 × Int32), o = .inl s → XW l D K 0 0 (wX cs ad s.1 im rest) 34 [(0, .ref (ad 18)), (1, .int v1), (2, .int v2), (3, .int s.2.1), (4, .int s.2.2.1), (5, .int s.2.2.2)] []) (kex : ∀ e1, o = .inr e1 → e1 = e) (kx : ∀ (t : ST × Int32), e = .inl t → XW l D K 0 0 (wX cs ad t.1 im rest) 116 [(3, .int t.2)] []) (kr : ∀ (t : Int32 × ST), e = .inr t → XRi l D K cX4_boundOf t.1 (wX cs ad t.2 im rest)) : XW l D K 0 0 (wX cs ad σ im rest) 110 [(0, .ref (ad 18)), (1, .int v1), (2, .int v2), (3, .int v3), (4, .int v4), (5, .int v5)] [] := by
  unfold j_Search_boundOf_110_34 at h
  refine X_iinc (v := v5 + (1 : Int32)) (vs1 := [(5, .int (v5 + (1 : Int32))), (0, .ref (ad 18)), (1, .int v1), (2, .int v2), (3, .int v3), (4, .int v4)]) C 5 rfl rfl (by decide) rfl dX4_boundOf_110 ?_
  refine X_goto C (tgt := 34) (by decide) dX4_boundOf_113 ?_
  obtain rfl := Option.some.inj h
  refine X_loc (vs1 := [(0, .ref (ad 18)), (1, .int v1), (2, .int v2), (3, .int v3), (4, .int v4), (5, .int (v5 + (1 : Int32)))]) [1, 2, 3, 4, 5, 0] rfl ?_
  exact kin _ rfl
set_option maxHeartbeats 4000000 in
set_option maxRecDepth 100000 in
theorem wb_Search_boundOf_34 {l : Launch} {D : va_G} {cs : Nat → ClassId} {K : XK} {ad : Nat → Nat} {im : Nat → Option Nat} {rest : va_W} (C : XC D cs K 7 rm_Search_boundOf cX4_boundOf RX4 wsX4_boundOf (some .int)) {n : Nat} {v1 : Int32} {v2 : Int32} {e : ((ST × Int32) ⊕ (Int32 × ST))} (kx : ∀ (t : ST × Int32), e = .inl t → XW l D K 0 0 (wX cs ad t.1 im rest) 116 [(3, .int t.2)] []) (kr : ∀ (t : Int32 × ST), e = .inr t → XRi l D K cX4_boundOf t.1 (wX cs ad t.2 im rest)) : ∀ (q : Nat) (s : ST × Int32 × Int32 × Int32), lp (b_Search_boundOf_34 n v1 v2) q s = some e → XW l D K 0 0 (wX cs ad s.1 im rest) 34 [(0, .ref (ad 18)), (1, .int v1), (2, .int v2), (3, .int s.2.1), (4, .int s.2.2.1), (5, .int s.2.2.2)] [] := by
  refine lp_walk (G := fun (s : ST × Int32 × Int32 × Int32) => XW l D K 0 0 (wX cs ad s.1 im rest) 34 [(0, .ref (ad 18)), (1, .int v1), (2, .int v2), (3, .int s.2.1), (4, .int s.2.2.1), (5, .int s.2.2.2)] []) ?_
  intro s o h kin kex
  unfold b_Search_boundOf_34 at h
  refine X_iload C 5 rfl dX4_boundOf_34 ?_
  refine X_aload_n C 0 rfl rfl dX4_boundOf_36 ?_
  refine X_get C 18 2 hi4_Search_boundOf hf21_Search_boundOf (xe_18 _ _ _ _ _) rfl (by decide) rfl dX4_boundOf_37 ?_
  refine X_icmpge C (tgt := 116) (by decide) dX4_boundOf_40 h (fun h => ?_) (fun h => ?_)
  · obtain rfl := Option.some.inj h
    refine X_loc (vs1 := [(3, .int s.2.1)]) [3] rfl ?_
    exact kx _ (kex _ rfl).symm
  · refine X_aload_n C 0 rfl rfl dX4_boundOf_43 ?_
    refine X_get C 18 7 hi4_Search_boundOf hf9_Search_boundOf (xe_18 _ _ _ _ _) rfl (by decide) rfl dX4_boundOf_44 ?_
    refine X_iload C 5 rfl dX4_boundOf_47 ?_
    refine X_iald C 19 (xe_19 _ _ _ _ _) h dX4_boundOf_49 (fun h => ?_)
    refine X_iload_n C 1 rfl rfl dX4_boundOf_50 ?_
    refine X_iand C dX4_boundOf_51 ?_
    refine X_ifeq C (tgt := 58) (by decide) dX4_boundOf_52 h (fun h => ?_) (fun h => ?_)
    · refine X_aload_n C 0 rfl rfl dX4_boundOf_58 ?_
      refine X_get C 18 7 hi4_Search_boundOf hf9_Search_boundOf (xe_18 _ _ _ _ _) rfl (by decide) rfl dX4_boundOf_59 ?_
      refine X_iload C 5 rfl dX4_boundOf_62 ?_
      refine X_iald C 19 (xe_19 _ _ _ _ _) h dX4_boundOf_64 (fun h => ?_)
      refine X_iload_n C 2 rfl rfl dX4_boundOf_65 ?_
      refine X_iconst (v := (-1)) C (by decide) dX4_boundOf_66 ?_
      refine X_ixor C dX4_boundOf_67 ?_
      refine X_iand C dX4_boundOf_68 ?_
      refine X_nam (G := fun x4 => XW l D K 0 0 (wX cs ad s.1 im rest) 69 [(0, .ref (ad 18)), (1, .int v1), (2, .int v2), (3, .int s.2.1), (4, .int s.2.2.1), (5, .int s.2.2.2)] [.int x4]) h (fun x4 h => ?_)
      refine X_istore (vs1 := [(6, .int x4), (0, .ref (ad 18)), (1, .int v1), (2, .int v2), (3, .int s.2.1), (4, .int s.2.2.1), (5, .int s.2.2.2)]) C (by decide) rfl dX4_boundOf_69 ?_
      refine X_iload C 0 rfl dX4_boundOf_71 ?_
      refine X_ifne C (tgt := 78) (by decide) dX4_boundOf_73 h (fun h => ?_) (fun h => ?_)
      · refine X_iload_n C 4 rfl rfl dX4_boundOf_78 ?_
        refine X_aload_n C 1 rfl rfl dX4_boundOf_79 ?_
        refine X_iload C 0 rfl dX4_boundOf_80 ?_
        obtain ⟨o5, eo5, h⟩ := bnd_some h
        refine X_callVi C (n := 1) (As := [.int x4]) (c_Search_drawFromSlack eo5) rfl gX4_boundOf_X4_drawFromSlack rfl rfl (xe_18 _ _ _ _ _) rfl rfl (by decide +kernel) ⟨Nat.le_of_ble_eq_true rfl, Nat.le_of_ble_eq_true rfl⟩ ⟨Nat.zero_le _, Nat.zero_le _⟩ rfl rfl (Nat.le_of_ble_eq_true rfl) dX4_boundOf_82 ?_
        refine X_iadd C dX4_boundOf_85 ?_
        refine X_istore_n (vs1 := [(3, .int (s.2.1 + o5.1)), (6, .int x4), (0, .ref (ad 18)), (1, .int v1), (2, .int v2), (4, .int s.2.2.1), (5, .int s.2.2.2)]) C rfl (by decide) rfl dX4_boundOf_86 ?_
        refine X_iload C 1 rfl dX4_boundOf_87 ?_
        obtain ⟨o6, eo6, h⟩ := bnd_some h
        refine X_callSi C (n := 1) (As := [.int x4]) (c_bitCount eo6) gX4_boundOf_J6_bitCount_0f7a4 rfl rfl rfl (by decide +kernel) ⟨Nat.le_of_ble_eq_true rfl, Nat.le_of_ble_eq_true rfl⟩ ⟨Nat.zero_le _, Nat.zero_le _⟩ rfl rfl (Nat.le_of_ble_eq_true rfl) dX4_boundOf_89 ?_
        refine X_iload C 5 rfl dX4_boundOf_92 ?_
        refine X_icmpge C (tgt := 110) (by decide) dX4_boundOf_94 h (fun h => ?_) (fun h => ?_)
        · refine X_loc (vs1 := [(0, .ref (ad 18)), (1, .int v1), (2, .int v2), (3, .int (s.2.1 + o5.1)), (4, .int s.2.2.1), (5, .int s.2.2.2)]) [2, 3, 4, 0, 5, 6] rfl ?_
          exact wj_Search_boundOf_110_34 C h kin kex kx kr
        · refine X_iload C 1 rfl dX4_boundOf_97 ?_
          obtain ⟨o7, eo7, h⟩ := bnd_some h
          refine X_callSi C (n := 1) (As := [.int x4]) (c_bitCount eo7) gX4_boundOf_J6_bitCount_0f7a4 rfl rfl rfl (by decide +kernel) ⟨Nat.le_of_ble_eq_true rfl, Nat.le_of_ble_eq_true rfl⟩ ⟨Nat.zero_le _, Nat.zero_le _⟩ rfl rfl (Nat.le_of_ble_eq_true rfl) dX4_boundOf_99 ?_
          refine X_istore (vs1 := [(4, .int o7), (3, .int (s.2.1 + o5.1)), (6, .int x4), (0, .ref (ad 18)), (1, .int v1), (2, .int v2), (5, .int s.2.2.2)]) C (by decide) rfl dX4_boundOf_102 ?_
          refine X_aload_n C 3 rfl rfl dX4_boundOf_104 ?_
          refine X_iload C 2 rfl dX4_boundOf_105 ?_
          refine X_put (ty := .int) C 18 3 hi4_Search_boundOf hf69_Search_boundOf tyX4 tyX4_ok nmX4 (xe_18 _ _ _ _ _) rfl (by decide) rfl (by decide +kernel) rfl rfl (Nat.le_of_ble_eq_true rfl) (xs_18_3 _ _ _ _ _ _) dX4_boundOf_107 ?_
          refine X_nam (G := fun σ8 => XW l D K 0 0 (wX cs ad σ8 im rest) 110 [(4, .int o7), (3, .int (s.2.1 + o5.1)), (6, .int x4), (0, .ref (ad 18)), (1, .int v1), (2, .int v2), (5, .int s.2.2.2)] []) h (fun σ8 h => ?_)
          refine X_loc (vs1 := [(0, .ref (ad 18)), (1, .int v1), (2, .int v2), (3, .int (s.2.1 + o5.1)), (4, .int o7), (5, .int s.2.2.2)]) [3, 4, 5, 1, 0, 6] rfl ?_
          exact wj_Search_boundOf_110_34 C h kin kex kx kr
      · refine X_iconst (v := (-1)) C (by decide) dX4_boundOf_76 ?_
        obtain rfl := Option.some.inj h
        exact kr _ (kex _ rfl).symm _ _ dX4_boundOf_77
    · refine X_goto C (tgt := 110) (by decide) dX4_boundOf_55 ?_
      exact wj_Search_boundOf_110_34 C h kin kex kx kr
set_option maxHeartbeats 4000000 in
set_option maxRecDepth 100000 in
theorem c_Search_boundOf {l : Launch} {D : va_G} {cs : Nat → ClassId} {ad : Nat → Nat} {im : Nat → Option Nat} {rest : va_W} {n : Nat} {σ : ST} {a0 : Int32} {a1 : Int32} {o : Int32 × ST} (h : f_Search_boundOf n σ a0 a1 = some o) : CTi l D cs yX4_boundOf wsX4_boundOf rm_Search_boundOf [.ref (ad 18), .int a0, .int a1] (wX cs ad σ im rest) o.1 (wX cs ad o.2 im rest) := by
  refine CTi_of (cc := cX4_boundOf) (nL := 7) (by decide) rfl (Nat.le_of_ble_eq_true rfl) ?_
  intro K C hret
  unfold f_Search_boundOf at h
  refine X_loc (vs1 := [(0, .ref (ad 18)), (1, .int a0), (2, .int a1)]) [0, 1, 2] rfl ?_
  refine X_iconst (v := 0) C (by decide) dX4_boundOf_0 ?_
  refine X_istore_n (vs1 := [(3, .int (0 : Int32)), (0, .ref (ad 18)), (1, .int a0), (2, .int a1)]) C rfl (by decide) rfl dX4_boundOf_1 ?_
  refine X_bipush (v := 17) C (by decide) dX4_boundOf_2 ?_
  refine X_istore (vs1 := [(4, .int (17 : Int32)), (3, .int (0 : Int32)), (0, .ref (ad 18)), (1, .int a0), (2, .int a1)]) C (by decide) rfl dX4_boundOf_4 ?_
  refine X_aload_n C 2 rfl rfl dX4_boundOf_6 ?_
  refine X_iconst (v := 0) C (by decide) dX4_boundOf_7 ?_
  refine X_put (ty := .int) C 18 3 hi4_Search_boundOf hf69_Search_boundOf tyX4 tyX4_ok nmX4 (xe_18 _ _ _ _ _) rfl (by decide) rfl (by decide +kernel) rfl rfl (Nat.le_of_ble_eq_true rfl) (xs_18_3 _ _ _ _ _ _) dX4_boundOf_8 ?_
  refine X_nam (G := fun σ1 => XW l D K 0 0 (wX cs ad σ1 im rest) 11 [(4, .int (17 : Int32)), (3, .int (0 : Int32)), (0, .ref (ad 18)), (1, .int a0), (2, .int a1)] []) h (fun σ1 h => ?_)
  refine X_aload_n C 2 rfl rfl dX4_boundOf_11 ?_
  refine X_iconst (v := 0) C (by decide) dX4_boundOf_12 ?_
  refine X_put (ty := .int) C 18 4 hi4_Search_boundOf hf72_Search_boundOf tyX4 tyX4_ok nmX4 (xe_18 _ _ _ _ _) rfl (by decide) rfl (by decide +kernel) rfl rfl (Nat.le_of_ble_eq_true rfl) (xs_18_4 _ _ _ _ _ _) dX4_boundOf_13 ?_
  refine X_nam (G := fun σ2 => XW l D K 0 0 (wX cs ad σ2 im rest) 16 [(4, .int (17 : Int32)), (3, .int (0 : Int32)), (0, .ref (ad 18)), (1, .int a0), (2, .int a1)] []) h (fun σ2 h => ?_)
  refine X_aload_n C 2 rfl rfl dX4_boundOf_16 ?_
  refine X_get C 18 8 hi4_Search_boundOf hf15_Search_boundOf (xe_18 _ _ _ _ _) rfl (by decide) rfl dX4_boundOf_17 ?_
  refine X_iconst (v := 0) C (by decide) dX4_boundOf_20 ?_
  refine X_aload_n C 2 rfl rfl dX4_boundOf_21 ?_
  refine X_get C 18 9 hi4_Search_boundOf hf18_Search_boundOf (xe_18 _ _ _ _ _) rfl (by decide) rfl dX4_boundOf_22 ?_
  refine X_iconst (v := 0) C (by decide) dX4_boundOf_25 ?_
  refine X_bipush (v := 16) C (by decide) dX4_boundOf_26 ?_
  refine X_copy C 20 21 hy45_Search_boundOf hyn_Search_boundOf hys_Search_boundOf hyi_Search_boundOf (xe_20 _ _ _ _ _) (xe_21 _ _ _ _ _) (by decide) (by decide) (by decide) (by decide) (by decide) (Nat.le_of_ble_eq_true rfl) (by decide) (xa_21 _ _ _ _ _ _) dX4_boundOf_28 ?_
  refine X_nam (G := fun σ3 => XW l D K 0 0 (wX cs ad σ3 im rest) 31 [(4, .int (17 : Int32)), (3, .int (0 : Int32)), (0, .ref (ad 18)), (1, .int a0), (2, .int a1)] []) h (fun σ3 h => ?_)
  refine X_iconst (v := 0) C (by decide) dX4_boundOf_31 ?_
  refine X_istore (vs1 := [(5, .int (0 : Int32)), (4, .int (17 : Int32)), (3, .int (0 : Int32)), (0, .ref (ad 18)), (1, .int a0), (2, .int a1)]) C (by decide) rfl dX4_boundOf_32 ?_
  obtain ⟨e9, he9, h⟩ := bnd_some h
  refine X_loc (vs1 := [(0, .ref (ad 18)), (1, .int a0), (2, .int a1), (3, .int (0 : Int32)), (4, .int (17 : Int32)), (5, .int (0 : Int32))]) [3, 4, 5, 2, 1, 0] rfl ?_
  refine wb_Search_boundOf_34 C (e := e9) (fun t10 ht => ?_) (fun r ht => ?_) n _ he9
  · subst ht
    dsimp only [Sum.elim] at h
    refine X_iload_n C 0 rfl rfl dX4_boundOf_116 ?_
    obtain rfl := Option.some.inj h
    exact hret _ _ dX4_boundOf_117
  · subst ht
    dsimp only [Sum.elim] at h
    obtain rfl := Option.some.inj h
    exact hret

abbrev rm_Search_descend (d : Nat) : Room := { frames := 3 + d, cells := 0, slots := 0, locals := 90 + 64 * d }
def j_Search_descend_32 (rec : ST → Int32 → Int32 → Int32 → Int32 → Option (ST)) (n : Nat) (σ : ST) : Option (ST) :=
  some σ
def j_Search_descend_112_61 (rec : ST → Int32 → Int32 → Int32 → Int32 → Option (ST)) (n : Nat) (σ : ST) (v1 : Int32) (v3 : Int32) (v4 : Int32) (v6 : Int32) (v7 : Int32) (v8 : Int32) : Option ((ST × Int32 × Int32) ⊕ (ST)) :=
  some (.inl (σ, v7, v8 + (1 : Int32)))
def b_Search_descend_61 (rec : ST → Int32 → Int32 → Int32 → Int32 → Option (ST)) (n : Nat) (v1 : Int32) (v3 : Int32) (v4 : Int32) (v6 : Int32) (s : ST × Int32 × Int32) : Option ((ST × Int32 × Int32) ⊕ (ST)) :=
  if (16 : Int32) ≤ s.2.2 then
    some (.inr s.1)
  else
    bnd (f_contains n v6 s.2.2) fun o2 =>
    if o2 = 0 then
      j_Search_descend_112_61 rec n s.1 v1 v3 v4 v6 s.2.1 s.2.2
    else
      grd (jin s.2.2 16) <|
      bnd (rec s.1 (v1 ||| (jshl (1 : Int32) s.2.2)) s.2.1 (v3 + (s.1.2 20 (jix s.2.2))) (v4 + (1 : Int32))) fun o3 =>
      nam (s.2.1 ||| (jshl (1 : Int32) s.2.2)) fun x4 =>
      j_Search_descend_112_61 rec n o3 v1 v3 v4 v6 x4 s.2.2
def g_Search_descend (rec : ST → Int32 → Int32 → Int32 → Int32 → Option (ST)) (n : Nat) (σ : ST) (a0 : Int32) (a1 : Int32) (a2 : Int32) (a3 : Int32) : Option (ST) :=
  bnd (f_Search_boundOf n σ a0 a1) fun o1 =>
  if o1.1 = (-1 : Int32) then
    j_Search_descend_32 rec n o1.2
  else
    if (o1.2.1 1152) ≤ (a2 + o1.1) then
      j_Search_descend_32 rec n o1.2
    else
      if a3 ≤ (16 : Int32) then
        if (o1.2.1 1155) = 0 then
          nam (sS o1.2 1152 a2) fun σ6 =>
          nam (sS σ6 1153 a0) fun σ7 =>
          some σ7
        else
          bnd (lp (b_Search_descend_61 rec n a0 a2 a3 (o1.2.1 1155)) n (o1.2, a1, (0 : Int32))) fun e5 =>
          some e5
      else
        j_Search_descend_32 rec n o1.2
theorem hf58_Search_descend : Cond.fieldLink RX4 58 (TX4 1).1 (TX4 1).2.1 (TX4 1).2.2.1 ∈ wsX4_descend := by decide +kernel
theorem hf15_Search_descend : Cond.fieldLink RX4 15 (TX4 8).1 (TX4 8).2.1 (TX4 8).2.2.1 ∈ wsX4_descend := by decide +kernel
theorem hnsX6_contains_Search_descend : Cond.static yX6_contains ∈ wsX4_descend := by decide +kernel
theorem hniX6_contains_Search_descend : Cond.initialized yX6_contains.cls ∈ wsX4_descend := by decide +kernel
theorem hf69_Search_descend : Cond.fieldLink RX4 69 (TX4 3).1 (TX4 3).2.1 (TX4 3).2.2.1 ∈ wsX4_descend := by decide +kernel
theorem hf55_Search_descend : Cond.fieldLink RX4 55 (TX4 0).1 (TX4 0).2.1 (TX4 0).2.2.1 ∈ wsX4_descend := by decide +kernel
theorem hi4_Search_descend : ∀ w ∈ u_ws RX4 TX4 10, w ∈ wsX4_descend := by decide +kernel
set_option maxHeartbeats 4000000 in
set_option maxRecDepth 100000 in
theorem wj_Search_descend_32 {l : Launch} {D : va_G} {cs : Nat → ClassId} {K : XK} {ad : Nat → Nat} {im : Nat → Option Nat} {rest : va_W} {dd : Nat} {rec : ST → Int32 → Int32 → Int32 → Int32 → Option (ST)} (hrec : ∀ {σ : ST} {a0 a1 a2 a3 : Int32} {o : ST}, rec σ a0 a1 a2 a3 = some o → CTv l D cs yX4_descend wsX4_descend (rm_Search_descend dd) [.ref (ad 18), .int a0, .int a1, .int a2, .int a3] (wX cs ad σ im rest) (wX cs ad o im rest)) (C : XC D cs K 9 (rm_Search_descend (dd + 1)) cX4_descend RX4 wsX4_descend none) {n : Nat} {σ : ST} {o : ST} (h : j_Search_descend_32 rec n σ = some o) (hret : XRv l D K cX4_descend (wX cs ad o im rest)) : XW l D K 0 0 (wX cs ad σ im rest) 32 [] [] := by
  unfold j_Search_descend_32 at h
  obtain rfl := Option.some.inj h
  exact hret _ _ dX4_descend_32
set_option maxHeartbeats 4000000 in
set_option maxRecDepth 100000 in
theorem wj_Search_descend_112_61 {l : Launch} {D : va_G} {cs : Nat → ClassId} {K : XK} {ad : Nat → Nat} {im : Nat → Option Nat} {rest : va_W} {dd : Nat} {rec : ST → Int32 → Int32 → Int32 → Int32 → Option (ST)} (hrec : ∀ {σ : ST} {a0 a1 a2 a3 : Int32} {o : ST}, rec σ a0 a1 a2 a3 = some o → CTv l D cs yX4_descend wsX4_descend (rm_Search_descend dd) [.ref (ad 18), .int a0, .int a1, .int a2, .int a3] (wX cs ad σ im rest) (wX cs ad o im rest)) (C : XC D cs K 9 (rm_Search_descend (dd + 1)) cX4_descend RX4 wsX4_descend none) {n : Nat} {σ : ST} {v1 : Int32} {v3 : Int32} {v4 : Int32} {v6 : Int32} {v7 : Int32} {v8 : Int32} {o : (ST × Int32 × Int32) ⊕ (ST)} {e : (ST)} (h : j_Search_descend_112_61 rec n σ v1 v3 v4 v6 v7 v8 = some o) (kin : ∀ (s : ST × Int32 × Int32), o = .inl s → XW l D K 0 0 (wX cs ad s.1 im rest) 61 [(0, .ref (ad 18)), (1, .int v1), (3, .int v3), (4, .int v4), (6, .int v6), (7, .int s.2.1), (8, .int s.2.2)] []) (kex : ∀ e1, o = .inr e1 → e1 = e) (kx : ∀ (t : ST), e = t → XW l D K 0 0 (wX cs ad t im rest) 118 [] []) : XW l D K 0 0 (wX cs ad σ im rest) 112 [(0, .ref (ad 18)), (1, .int v1), (3, .int v3), (4, .int v4), (6, .int v6), (7, .int v7), (8, .int v8)] [] := by
  unfold j_Search_descend_112_61 at h
  refine X_iinc (v := v8 + (1 : Int32)) (vs1 := [(8, .int (v8 + (1 : Int32))), (0, .ref (ad 18)), (1, .int v1), (3, .int v3), (4, .int v4), (6, .int v6), (7, .int v7)]) C 6 rfl rfl (by decide) rfl dX4_descend_112 ?_
  refine X_goto C (tgt := 61) (by decide) dX4_descend_115 ?_
  obtain rfl := Option.some.inj h
  refine X_loc (vs1 := [(0, .ref (ad 18)), (1, .int v1), (3, .int v3), (4, .int v4), (6, .int v6), (7, .int v7), (8, .int (v8 + (1 : Int32)))]) [1, 2, 3, 4, 5, 6, 0] rfl ?_
  exact kin _ rfl
set_option maxHeartbeats 4000000 in
set_option maxRecDepth 100000 in
theorem wb_Search_descend_61 {l : Launch} {D : va_G} {cs : Nat → ClassId} {K : XK} {ad : Nat → Nat} {im : Nat → Option Nat} {rest : va_W} {dd : Nat} {rec : ST → Int32 → Int32 → Int32 → Int32 → Option (ST)} (hrec : ∀ {σ : ST} {a0 a1 a2 a3 : Int32} {o : ST}, rec σ a0 a1 a2 a3 = some o → CTv l D cs yX4_descend wsX4_descend (rm_Search_descend dd) [.ref (ad 18), .int a0, .int a1, .int a2, .int a3] (wX cs ad σ im rest) (wX cs ad o im rest)) (C : XC D cs K 9 (rm_Search_descend (dd + 1)) cX4_descend RX4 wsX4_descend none) {n : Nat} {v1 : Int32} {v3 : Int32} {v4 : Int32} {v6 : Int32} {e : (ST)} (kx : ∀ (t : ST), e = t → XW l D K 0 0 (wX cs ad t im rest) 118 [] []) : ∀ (q : Nat) (s : ST × Int32 × Int32), lp (b_Search_descend_61 rec n v1 v3 v4 v6) q s = some e → XW l D K 0 0 (wX cs ad s.1 im rest) 61 [(0, .ref (ad 18)), (1, .int v1), (3, .int v3), (4, .int v4), (6, .int v6), (7, .int s.2.1), (8, .int s.2.2)] [] := by
  refine lp_walk (G := fun (s : ST × Int32 × Int32) => XW l D K 0 0 (wX cs ad s.1 im rest) 61 [(0, .ref (ad 18)), (1, .int v1), (3, .int v3), (4, .int v4), (6, .int v6), (7, .int s.2.1), (8, .int s.2.2)] []) ?_
  intro s o h kin kex
  unfold b_Search_descend_61 at h
  refine X_iload C 6 rfl dX4_descend_61 ?_
  refine X_bipush (v := 16) C (by decide) dX4_descend_63 ?_
  refine X_icmpge C (tgt := 118) (by decide) dX4_descend_65 h (fun h => ?_) (fun h => ?_)
  · obtain rfl := Option.some.inj h
    refine X_loc (vs1 := []) [] rfl ?_
    exact kx _ (kex _ rfl).symm
  · refine X_iload C 4 rfl dX4_descend_68 ?_
    refine X_iload C 6 rfl dX4_descend_70 ?_
    obtain ⟨o2, eo2, h⟩ := bnd_some h
    refine X_callSNi C (n := 2) (As := [.int v6, .int s.2.2]) (c_contains eo2) gX4_descend_X6_contains_n51 (by decide +kernel) hniX6_contains_Search_descend hnsX6_contains_Search_descend rfl rfl rfl (by decide +kernel) ⟨by simp only [rm_Search_descend, rm_contains]; omega, by simp only [rm_Search_descend, rm_contains]; omega⟩ ⟨Nat.zero_le _, Nat.zero_le _⟩ rfl rfl (Nat.le_of_ble_eq_true rfl) dX4_descend_72 ?_
    refine X_ifeq C (tgt := 112) (by decide) dX4_descend_75 h (fun h => ?_) (fun h => ?_)
    · exact wj_Search_descend_112_61 hrec C h kin kex kx
    · refine X_aload_n C 0 rfl rfl dX4_descend_78 ?_
      refine X_iload_n C 1 rfl rfl dX4_descend_79 ?_
      refine X_iconst (v := 1) C (by decide) dX4_descend_80 ?_
      refine X_iload C 6 rfl dX4_descend_81 ?_
      refine X_ishl C dX4_descend_83 ?_
      refine X_ior C dX4_descend_84 ?_
      refine X_iload C 5 rfl dX4_descend_85 ?_
      refine X_iload_n C 2 rfl rfl dX4_descend_87 ?_
      refine X_aload_n C 0 rfl rfl dX4_descend_88 ?_
      refine X_get C 18 8 hi4_Search_descend hf15_Search_descend (xe_18 _ _ _ _ _) rfl (by decide) rfl dX4_descend_89 ?_
      refine X_iload C 6 rfl dX4_descend_92 ?_
      refine X_iald C 20 (xe_20 _ _ _ _ _) h dX4_descend_94 (fun h => ?_)
      refine X_iadd C dX4_descend_95 ?_
      refine X_iload C 3 rfl dX4_descend_96 ?_
      refine X_iconst (v := 1) C (by decide) dX4_descend_98 ?_
      refine X_iadd C dX4_descend_99 ?_
      obtain ⟨o3, eo3, h⟩ := bnd_some h
      refine X_callSv C (n := 5) (As := [.ref (ad 18), .int (v1 ||| (jshl (1 : Int32) s.2.2)), .int s.2.1, .int (v3 + (s.1.2 20 (jix s.2.2))), .int (v4 + (1 : Int32))]) (hrec eo3) gX4_descend_X4_descend rfl rfl rfl (by decide +kernel) ⟨by simp only [rm_Search_descend]; omega, by simp only [rm_Search_descend]; omega⟩ ⟨Nat.zero_le _, Nat.zero_le _⟩ rfl rfl (Nat.le_of_ble_eq_true rfl) dX4_descend_100 ?_
      refine X_iload C 5 rfl dX4_descend_103 ?_
      refine X_iconst (v := 1) C (by decide) dX4_descend_105 ?_
      refine X_iload C 6 rfl dX4_descend_106 ?_
      refine X_ishl C dX4_descend_108 ?_
      refine X_ior C dX4_descend_109 ?_
      refine X_nam (G := fun x4 => XW l D K 0 0 (wX cs ad o3 im rest) 110 [(0, .ref (ad 18)), (1, .int v1), (3, .int v3), (4, .int v4), (6, .int v6), (7, .int s.2.1), (8, .int s.2.2)] [.int x4]) h (fun x4 h => ?_)
      refine X_istore (vs1 := [(7, .int x4), (0, .ref (ad 18)), (1, .int v1), (3, .int v3), (4, .int v4), (6, .int v6), (8, .int s.2.2)]) C (by decide) rfl dX4_descend_110 ?_
      refine X_loc (vs1 := [(0, .ref (ad 18)), (1, .int v1), (3, .int v3), (4, .int v4), (6, .int v6), (7, .int x4), (8, .int s.2.2)]) [1, 2, 3, 4, 5, 0, 6] rfl ?_
      exact wj_Search_descend_112_61 hrec C h kin kex kx
set_option maxHeartbeats 4000000 in
set_option maxRecDepth 100000 in
theorem c_Search_descend_s {l : Launch} {D : va_G} {cs : Nat → ClassId} {ad : Nat → Nat} {im : Nat → Option Nat} {rest : va_W} {dd : Nat} {rec : ST → Int32 → Int32 → Int32 → Int32 → Option (ST)} (hrec : ∀ {σ : ST} {a0 a1 a2 a3 : Int32} {o : ST}, rec σ a0 a1 a2 a3 = some o → CTv l D cs yX4_descend wsX4_descend (rm_Search_descend dd) [.ref (ad 18), .int a0, .int a1, .int a2, .int a3] (wX cs ad σ im rest) (wX cs ad o im rest)) {n : Nat} {σ : ST} {a0 : Int32} {a1 : Int32} {a2 : Int32} {a3 : Int32} {o : ST} (h : g_Search_descend rec n σ a0 a1 a2 a3 = some o) : CTv l D cs yX4_descend wsX4_descend (rm_Search_descend (dd + 1)) [.ref (ad 18), .int a0, .int a1, .int a2, .int a3] (wX cs ad σ im rest) (wX cs ad o im rest) := by
  refine CTv_of (cc := cX4_descend) (nL := 9) (by decide) rfl (Nat.le_of_ble_eq_true rfl) ?_
  intro K C hret
  unfold g_Search_descend at h
  refine X_loc (vs1 := [(0, .ref (ad 18)), (1, .int a0), (2, .int a1), (3, .int a2), (4, .int a3)]) [0, 1, 2, 3, 4] rfl ?_
  refine X_aload_n C 0 rfl rfl dX4_descend_0 ?_
  refine X_iload_n C 1 rfl rfl dX4_descend_1 ?_
  refine X_iload_n C 2 rfl rfl dX4_descend_2 ?_
  obtain ⟨o1, eo1, h⟩ := bnd_some h
  refine X_callVi C (n := 2) (As := [.int a0, .int a1]) (c_Search_boundOf eo1) rfl gX4_descend_X4_boundOf rfl rfl (xe_18 _ _ _ _ _) rfl rfl (by decide +kernel) ⟨by simp only [rm_Search_descend, rm_Search_boundOf]; omega, by simp only [rm_Search_descend, rm_Search_boundOf]; omega⟩ ⟨Nat.zero_le _, Nat.zero_le _⟩ rfl rfl (Nat.le_of_ble_eq_true rfl) dX4_descend_3 ?_
  refine X_istore (vs1 := [(5, .int o1.1), (0, .ref (ad 18)), (1, .int a0), (2, .int a1), (3, .int a2), (4, .int a3)]) C (by decide) rfl dX4_descend_6 ?_
  refine X_iload C 0 rfl dX4_descend_8 ?_
  refine X_iconst (v := (-1)) C (by decide) dX4_descend_10 ?_
  refine X_icmpeq C (tgt := 32) (by decide) dX4_descend_11 h (fun h => ?_) (fun h => ?_)
  · refine X_loc (vs1 := []) [] rfl ?_
    exact wj_Search_descend_32 hrec C h hret
  · refine X_iload_n C 4 rfl rfl dX4_descend_14 ?_
    refine X_iload C 0 rfl dX4_descend_15 ?_
    refine X_iadd C dX4_descend_17 ?_
    refine X_aload_n C 1 rfl rfl dX4_descend_18 ?_
    refine X_get C 18 0 hi4_Search_descend hf55_Search_descend (xe_18 _ _ _ _ _) rfl (by decide) rfl dX4_descend_19 ?_
    refine X_icmpge C (tgt := 32) (by decide) dX4_descend_22 h (fun h => ?_) (fun h => ?_)
    · refine X_loc (vs1 := []) [] rfl ?_
      exact wj_Search_descend_32 hrec C h hret
    · refine X_iload C 5 rfl dX4_descend_25 ?_
      refine X_bipush (v := 16) C (by decide) dX4_descend_27 ?_
      refine X_icmple C (tgt := 33) (by decide) dX4_descend_29 h (fun h => ?_) (fun h => ?_)
      · refine X_aload_n C 1 rfl rfl dX4_descend_33 ?_
        refine X_get C 18 3 hi4_Search_descend hf69_Search_descend (xe_18 _ _ _ _ _) rfl (by decide) rfl dX4_descend_34 ?_
        refine X_istore (vs1 := [(6, .int (o1.2.1 1155)), (5, .int o1.1), (0, .ref (ad 18)), (1, .int a0), (2, .int a1), (3, .int a2), (4, .int a3)]) C (by decide) rfl dX4_descend_37 ?_
        refine X_iload C 0 rfl dX4_descend_39 ?_
        refine X_ifne C (tgt := 55) (by decide) dX4_descend_41 h (fun h => ?_) (fun h => ?_)
        · refine X_iload_n C 4 rfl rfl dX4_descend_55 ?_
          refine X_istore (vs1 := [(7, .int a1), (6, .int (o1.2.1 1155)), (5, .int o1.1), (0, .ref (ad 18)), (1, .int a0), (2, .int a1), (3, .int a2), (4, .int a3)]) C (by decide) rfl dX4_descend_56 ?_
          refine X_iconst (v := 0) C (by decide) dX4_descend_58 ?_
          refine X_istore (vs1 := [(8, .int (0 : Int32)), (7, .int a1), (6, .int (o1.2.1 1155)), (5, .int o1.1), (0, .ref (ad 18)), (1, .int a0), (2, .int a1), (3, .int a2), (4, .int a3)]) C (by decide) rfl dX4_descend_59 ?_
          obtain ⟨e5, he5, h⟩ := bnd_some h
          refine X_loc (vs1 := [(0, .ref (ad 18)), (1, .int a0), (3, .int a2), (4, .int a3), (6, .int (o1.2.1 1155)), (7, .int a1), (8, .int (0 : Int32))]) [4, 5, 7, 8, 2, 1, 0] rfl ?_
          refine wb_Search_descend_61 hrec C (e := e5) (fun t ht => ?_) n _ he5
          subst ht
          obtain rfl := Option.some.inj h
          exact hret _ _ dX4_descend_118
        · refine X_aload_n C 2 rfl rfl dX4_descend_44 ?_
          refine X_iload_n C 5 rfl rfl dX4_descend_45 ?_
          refine X_put (ty := .int) C 18 0 hi4_Search_descend hf55_Search_descend tyX4 tyX4_ok nmX4 (xe_18 _ _ _ _ _) rfl (by decide) rfl (by decide +kernel) rfl rfl (Nat.le_of_ble_eq_true rfl) (xs_18_0 _ _ _ _ _ _) dX4_descend_46 ?_
          refine X_nam (G := fun σ6 => XW l D K 0 0 (wX cs ad σ6 im rest) 49 [(6, .int (o1.2.1 1155)), (5, .int o1.1), (0, .ref (ad 18)), (1, .int a0), (2, .int a1), (3, .int a2), (4, .int a3)] []) h (fun σ6 h => ?_)
          refine X_aload_n C 2 rfl rfl dX4_descend_49 ?_
          refine X_iload_n C 3 rfl rfl dX4_descend_50 ?_
          refine X_put (ty := .int) C 18 1 hi4_Search_descend hf58_Search_descend tyX4 tyX4_ok nmX4 (xe_18 _ _ _ _ _) rfl (by decide) rfl (by decide +kernel) rfl rfl (Nat.le_of_ble_eq_true rfl) (xs_18_1 _ _ _ _ _ _) dX4_descend_51 ?_
          refine X_nam (G := fun σ7 => XW l D K 0 0 (wX cs ad σ7 im rest) 54 [(6, .int (o1.2.1 1155)), (5, .int o1.1), (0, .ref (ad 18)), (1, .int a0), (2, .int a1), (3, .int a2), (4, .int a3)] []) h (fun σ7 h => ?_)
          obtain rfl := Option.some.inj h
          exact hret _ _ dX4_descend_54
      · refine X_loc (vs1 := []) [] rfl ?_
        exact wj_Search_descend_32 hrec C h hret

def f_Search_descend (n : Nat) : Nat → ST → Int32 → Int32 → Int32 → Int32 → Option (ST)
  | 0 => fun _ _ _ _ _ => none
  | d + 1 => g_Search_descend (f_Search_descend n d) n
theorem c_Search_descend {l : Launch} {D : va_G} {cs : Nat → ClassId} {ad : Nat → Nat} {im : Nat → Option Nat} {rest : va_W} {n : Nat} : ∀ {dd : Nat} {σ : ST} {a0 a1 a2 a3 : Int32} {o : ST}, f_Search_descend n dd σ a0 a1 a2 a3 = some o → CTv l D cs yX4_descend wsX4_descend (rm_Search_descend dd) [.ref (ad 18), .int a0, .int a1, .int a2, .int a3] (wX cs ad σ im rest) (wX cs ad o im rest) := by
  intro dd
  induction dd with
  | zero => intro σ a0 a1 a2 a3 o h; cases h
  | succ d ih => intro σ a0 a1 a2 a3 o h; exact c_Search_descend_s (fun h => ih h) h

abbrev rm_Search_findBelow : Room := { frames := 22, cells := 0, slots := 0, locals := 1270 }
def j_Search_findBelow_37_14 (n : Nat) (σ : ST) (v1 : Int32) (v2 : Int32) (v3 : Int32) : Option ((Int32 × Int32) ⊕ (Int32)) :=
  some (.inl (v2, v3 + (1 : Int32)))
def b_Search_findBelow_14 (n : Nat) (σ : ST) (v1 : Int32) (s : Int32 × Int32) : Option ((Int32 × Int32) ⊕ (Int32)) :=
  if (σ.1 1158) ≤ s.2 then
    some (.inr s.1)
  else
    grd (jin s.2 16) <|
    if (σ.2 20 (jix s.2)) = 0 then
      nam (s.1 ||| (jshl (1 : Int32) s.2)) fun x3 =>
      j_Search_findBelow_37_14 n σ v1 x3 s.2
    else
      j_Search_findBelow_37_14 n σ v1 s.1 s.2
def j_Search_findBelow_74 (n : Nat) (σ : ST) (t0 : Int32) : Option (Int32 × ST) :=
  grd (jz t0) <|
  some (t0, σ)
def f_Search_findBelow (n : Nat) (σ : ST) (a0 : Int32) : Option (Int32 × ST) :=
  nam (sS σ 1152 a0) fun σ1 =>
  nam (sS σ1 1153 (0 : Int32)) fun σ2 =>
  bnd (lp (b_Search_findBelow_14 n σ2 a0) n ((0 : Int32), (0 : Int32))) fun e4 =>
  bnd (f_Search_descend n 18 σ2 (e4 &&& ((σ2.1 1157) ^^^ (-1 : Int32))) (σ2.1 1157) (0 : Int32) (0 : Int32)) fun o5 =>
  if a0 ≤ (o5.1 1152) then
    j_Search_findBelow_74 n o5 (0 : Int32)
  else
    j_Search_findBelow_74 n o5 (1 : Int32)
theorem hf39_Search_findBelow : Cond.fieldLink RX4 39 (TX4 5).1 (TX4 5).2.1 (TX4 5).2.2.1 ∈ wsX4_findBelow := by decide +kernel
theorem hf15_Search_findBelow : Cond.fieldLink RX4 15 (TX4 8).1 (TX4 8).2.1 (TX4 8).2.2.1 ∈ wsX4_findBelow := by decide +kernel
theorem hf38_Search_findBelow : Cond.fieldLink RX4 38 (TX4 6).1 (TX4 6).2.1 (TX4 6).2.2.1 ∈ wsX4_findBelow := by decide +kernel
theorem hf58_Search_findBelow : Cond.fieldLink RX4 58 (TX4 1).1 (TX4 1).2.1 (TX4 1).2.2.1 ∈ wsX4_findBelow := by decide +kernel
theorem hf55_Search_findBelow : Cond.fieldLink RX4 55 (TX4 0).1 (TX4 0).2.1 (TX4 0).2.2.1 ∈ wsX4_findBelow := by decide +kernel
theorem hi4_Search_findBelow : ∀ w ∈ u_ws RX4 TX4 10, w ∈ wsX4_findBelow := by decide +kernel
set_option maxHeartbeats 4000000 in
set_option maxRecDepth 100000 in
theorem wj_Search_findBelow_37_14 {l : Launch} {D : va_G} {cs : Nat → ClassId} {K : XK} {ad : Nat → Nat} {im : Nat → Option Nat} {rest : va_W} (C : XC D cs K 4 rm_Search_findBelow cX4_findBelow RX4 wsX4_findBelow (some .boolean)) {n : Nat} {σ : ST} {v1 : Int32} {v2 : Int32} {v3 : Int32} {o : (Int32 × Int32) ⊕ (Int32)} {e : (Int32)} (h : j_Search_findBelow_37_14 n σ v1 v2 v3 = some o) (kin : ∀ (s : Int32 × Int32), o = .inl s → XW l D K 0 0 (wX cs ad σ im rest) 14 [(0, .ref (ad 18)), (1, .int v1), (2, .int s.1), (3, .int s.2)] []) (kex : ∀ e1, o = .inr e1 → e1 = e) (kx : ∀ (t : Int32), e = t → XW l D K 0 0 (wX cs ad σ im rest) 43 [(0, .ref (ad 18)), (1, .int v1), (2, .int t)] []) : XW l D K 0 0 (wX cs ad σ im rest) 37 [(0, .ref (ad 18)), (1, .int v1), (2, .int v2), (3, .int v3)] [] := by
  unfold j_Search_findBelow_37_14 at h
  refine X_iinc (v := v3 + (1 : Int32)) (vs1 := [(3, .int (v3 + (1 : Int32))), (0, .ref (ad 18)), (1, .int v1), (2, .int v2)]) C 3 rfl rfl (by decide) rfl dX4_findBelow_37 ?_
  refine X_goto C (tgt := 14) (by decide) dX4_findBelow_40 ?_
  obtain rfl := Option.some.inj h
  refine X_loc (vs1 := [(0, .ref (ad 18)), (1, .int v1), (2, .int v2), (3, .int (v3 + (1 : Int32)))]) [1, 2, 3, 0] rfl ?_
  exact kin _ rfl
set_option maxHeartbeats 4000000 in
set_option maxRecDepth 100000 in
theorem wb_Search_findBelow_14 {l : Launch} {D : va_G} {cs : Nat → ClassId} {K : XK} {ad : Nat → Nat} {im : Nat → Option Nat} {rest : va_W} (C : XC D cs K 4 rm_Search_findBelow cX4_findBelow RX4 wsX4_findBelow (some .boolean)) {n : Nat} {σ : ST} {v1 : Int32} {e : (Int32)} (kx : ∀ (t : Int32), e = t → XW l D K 0 0 (wX cs ad σ im rest) 43 [(0, .ref (ad 18)), (1, .int v1), (2, .int t)] []) : ∀ (q : Nat) (s : Int32 × Int32), lp (b_Search_findBelow_14 n σ v1) q s = some e → XW l D K 0 0 (wX cs ad σ im rest) 14 [(0, .ref (ad 18)), (1, .int v1), (2, .int s.1), (3, .int s.2)] [] := by
  refine lp_walk (G := fun (s : Int32 × Int32) => XW l D K 0 0 (wX cs ad σ im rest) 14 [(0, .ref (ad 18)), (1, .int v1), (2, .int s.1), (3, .int s.2)] []) ?_
  intro s o h kin kex
  unfold b_Search_findBelow_14 at h
  refine X_iload_n C 3 rfl rfl dX4_findBelow_14 ?_
  refine X_aload_n C 0 rfl rfl dX4_findBelow_15 ?_
  refine X_get C 18 6 hi4_Search_findBelow hf38_Search_findBelow (xe_18 _ _ _ _ _) rfl (by decide) rfl dX4_findBelow_16 ?_
  refine X_icmpge C (tgt := 43) (by decide) dX4_findBelow_19 h (fun h => ?_) (fun h => ?_)
  · obtain rfl := Option.some.inj h
    refine X_loc (vs1 := [(0, .ref (ad 18)), (1, .int v1), (2, .int s.1)]) [0, 1, 2] rfl ?_
    exact kx _ (kex _ rfl).symm
  · refine X_aload_n C 0 rfl rfl dX4_findBelow_22 ?_
    refine X_get C 18 8 hi4_Search_findBelow hf15_Search_findBelow (xe_18 _ _ _ _ _) rfl (by decide) rfl dX4_findBelow_23 ?_
    refine X_iload_n C 3 rfl rfl dX4_findBelow_26 ?_
    refine X_iald C 20 (xe_20 _ _ _ _ _) h dX4_findBelow_27 (fun h => ?_)
    refine X_ifne C (tgt := 37) (by decide) dX4_findBelow_28 h (fun h => ?_) (fun h => ?_)
    · exact wj_Search_findBelow_37_14 C h kin kex kx
    · refine X_iload_n C 2 rfl rfl dX4_findBelow_31 ?_
      refine X_iconst (v := 1) C (by decide) dX4_findBelow_32 ?_
      refine X_iload_n C 3 rfl rfl dX4_findBelow_33 ?_
      refine X_ishl C dX4_findBelow_34 ?_
      refine X_ior C dX4_findBelow_35 ?_
      refine X_nam (G := fun x3 => XW l D K 0 0 (wX cs ad σ im rest) 36 [(0, .ref (ad 18)), (1, .int v1), (2, .int s.1), (3, .int s.2)] [.int x3]) h (fun x3 h => ?_)
      refine X_istore_n (vs1 := [(2, .int x3), (0, .ref (ad 18)), (1, .int v1), (3, .int s.2)]) C rfl (by decide) rfl dX4_findBelow_36 ?_
      refine X_loc (vs1 := [(0, .ref (ad 18)), (1, .int v1), (2, .int x3), (3, .int s.2)]) [1, 2, 0, 3] rfl ?_
      exact wj_Search_findBelow_37_14 C h kin kex kx
set_option maxHeartbeats 4000000 in
set_option maxRecDepth 100000 in
theorem wj_Search_findBelow_74 {l : Launch} {D : va_G} {cs : Nat → ClassId} {K : XK} {ad : Nat → Nat} {im : Nat → Option Nat} {rest : va_W} (C : XC D cs K 4 rm_Search_findBelow cX4_findBelow RX4 wsX4_findBelow (some .boolean)) {n : Nat} {σ : ST} {t0 : Int32} {o : Int32 × ST} (h : j_Search_findBelow_74 n σ t0 = some o) (hret : XRz l D K cX4_findBelow o.1 (wX cs ad o.2 im rest)) : XW l D K 0 0 (wX cs ad σ im rest) 74 [] [.int t0] := by
  unfold j_Search_findBelow_74 at h
  obtain ⟨hz, h⟩ := grd_some h
  obtain rfl := Option.some.inj h
  exact hret _ _ hz dX4_findBelow_74
set_option maxHeartbeats 4000000 in
set_option maxRecDepth 100000 in
theorem c_Search_findBelow {l : Launch} {D : va_G} {cs : Nat → ClassId} {ad : Nat → Nat} {im : Nat → Option Nat} {rest : va_W} {n : Nat} {σ : ST} {a0 : Int32} {o : Int32 × ST} (h : f_Search_findBelow n σ a0 = some o) : CTi l D cs yX4_findBelow wsX4_findBelow rm_Search_findBelow [.ref (ad 18), .int a0] (wX cs ad σ im rest) o.1 (wX cs ad o.2 im rest) := by
  refine CTz_of (cc := cX4_findBelow) (nL := 4) (by decide) rfl (Nat.le_of_ble_eq_true rfl) ?_
  intro K C hret
  unfold f_Search_findBelow at h
  refine X_loc (vs1 := [(0, .ref (ad 18)), (1, .int a0)]) [0, 1] rfl ?_
  refine X_aload_n C 0 rfl rfl dX4_findBelow_0 ?_
  refine X_iload_n C 1 rfl rfl dX4_findBelow_1 ?_
  refine X_put (ty := .int) C 18 0 hi4_Search_findBelow hf55_Search_findBelow tyX4 tyX4_ok nmX4 (xe_18 _ _ _ _ _) rfl (by decide) rfl (by decide +kernel) rfl rfl (Nat.le_of_ble_eq_true rfl) (xs_18_0 _ _ _ _ _ _) dX4_findBelow_2 ?_
  refine X_nam (G := fun σ1 => XW l D K 0 0 (wX cs ad σ1 im rest) 5 [(0, .ref (ad 18)), (1, .int a0)] []) h (fun σ1 h => ?_)
  refine X_aload_n C 0 rfl rfl dX4_findBelow_5 ?_
  refine X_iconst (v := 0) C (by decide) dX4_findBelow_6 ?_
  refine X_put (ty := .int) C 18 1 hi4_Search_findBelow hf58_Search_findBelow tyX4 tyX4_ok nmX4 (xe_18 _ _ _ _ _) rfl (by decide) rfl (by decide +kernel) rfl rfl (Nat.le_of_ble_eq_true rfl) (xs_18_1 _ _ _ _ _ _) dX4_findBelow_7 ?_
  refine X_nam (G := fun σ2 => XW l D K 0 0 (wX cs ad σ2 im rest) 10 [(0, .ref (ad 18)), (1, .int a0)] []) h (fun σ2 h => ?_)
  refine X_iconst (v := 0) C (by decide) dX4_findBelow_10 ?_
  refine X_istore_n (vs1 := [(2, .int (0 : Int32)), (0, .ref (ad 18)), (1, .int a0)]) C rfl (by decide) rfl dX4_findBelow_11 ?_
  refine X_iconst (v := 0) C (by decide) dX4_findBelow_12 ?_
  refine X_istore_n (vs1 := [(3, .int (0 : Int32)), (2, .int (0 : Int32)), (0, .ref (ad 18)), (1, .int a0)]) C rfl (by decide) rfl dX4_findBelow_13 ?_
  obtain ⟨e4, he4, h⟩ := bnd_some h
  refine X_loc (vs1 := [(0, .ref (ad 18)), (1, .int a0), (2, .int (0 : Int32)), (3, .int (0 : Int32))]) [2, 3, 1, 0] rfl ?_
  refine wb_Search_findBelow_14 C (e := e4) (fun t ht => ?_) n _ he4
  subst ht
  refine X_aload_n C 0 rfl rfl dX4_findBelow_43 ?_
  refine X_iload_n C 2 rfl rfl dX4_findBelow_44 ?_
  refine X_aload_n C 0 rfl rfl dX4_findBelow_45 ?_
  refine X_get C 18 5 hi4_Search_findBelow hf39_Search_findBelow (xe_18 _ _ _ _ _) rfl (by decide) rfl dX4_findBelow_46 ?_
  refine X_iconst (v := (-1)) C (by decide) dX4_findBelow_49 ?_
  refine X_ixor C dX4_findBelow_50 ?_
  refine X_iand C dX4_findBelow_51 ?_
  refine X_aload_n C 0 rfl rfl dX4_findBelow_52 ?_
  refine X_get C 18 5 hi4_Search_findBelow hf39_Search_findBelow (xe_18 _ _ _ _ _) rfl (by decide) rfl dX4_findBelow_53 ?_
  refine X_iconst (v := 0) C (by decide) dX4_findBelow_56 ?_
  refine X_iconst (v := 0) C (by decide) dX4_findBelow_57 ?_
  obtain ⟨o5, eo5, h⟩ := bnd_some h
  refine X_callSv C (n := 5) (As := [.ref (ad 18), .int (e4 &&& ((σ2.1 1157) ^^^ (-1 : Int32))), .int (σ2.1 1157), .int (0 : Int32), .int (0 : Int32)]) (c_Search_descend (dd := 18) eo5) gX4_findBelow_X4_descend rfl rfl rfl (by decide +kernel) ⟨Nat.le_of_ble_eq_true rfl, Nat.le_of_ble_eq_true rfl⟩ ⟨Nat.zero_le _, Nat.zero_le _⟩ rfl rfl (Nat.le_of_ble_eq_true rfl) dX4_findBelow_58 ?_
  refine X_aload_n C 0 rfl rfl dX4_findBelow_61 ?_
  refine X_get C 18 0 hi4_Search_findBelow hf55_Search_findBelow (xe_18 _ _ _ _ _) rfl (by decide) rfl dX4_findBelow_62 ?_
  refine X_iload_n C 1 rfl rfl dX4_findBelow_65 ?_
  refine X_icmpge C (tgt := 73) (by decide) dX4_findBelow_66 h (fun h => ?_) (fun h => ?_)
  · refine X_iconst (v := 0) C (by decide) dX4_findBelow_73 ?_
    refine X_loc (vs1 := []) [] rfl ?_
    exact wj_Search_findBelow_74 C h hret
  · refine X_iconst (v := 1) C (by decide) dX4_findBelow_69 ?_
    refine X_goto C (tgt := 74) (by decide) dX4_findBelow_70 ?_
    refine X_loc (vs1 := []) [] rfl ?_
    exact wj_Search_findBelow_74 C h hret

abbrev rm_sumOver_w : Room := { frames := 1, cells := 0, slots := 0, locals := 21 }
def j_sumOver_w_24_4 (n : Nat) (σ : ST) (v1 : Int32) (v2 : Int32) (v3 : Int32) : Option ((Int32 × Int32) ⊕ (Int32)) :=
  some (.inl (v2, v3 + (1 : Int32)))
def b_sumOver_w_4 (n : Nat) (σ : ST) (v1 : Int32) (s : Int32 × Int32) : Option ((Int32 × Int32) ⊕ (Int32)) :=
  if (16 : Int32) ≤ s.2 then
    some (.inr s.1)
  else
    bnd (f_contains n v1 s.2) fun o1 =>
    if o1 = 0 then
      j_sumOver_w_24_4 n σ v1 s.1 s.2
    else
      grd (jin s.2 16) <|
      j_sumOver_w_24_4 n σ v1 (s.1 + (σ.2 5 (jix s.2))) s.2
def f_sumOver_w (n : Nat) (σ : ST) (a0 : Int32) : Option (Int32) :=
  bnd (lp (b_sumOver_w_4 n σ a0) n ((0 : Int32), (0 : Int32))) fun e2 =>
  some e2
set_option maxHeartbeats 4000000 in
set_option maxRecDepth 100000 in
theorem wj_sumOver_w_24_4 {l : Launch} {D : va_G} {cs : Nat → ClassId} {K : XK} {ad : Nat → Nat} {im : Nat → Option Nat} {rest : va_W} (C : XC D cs K 4 rm_sumOver_w cX6_sumOver RX6 wsX6_sumOver (some .int)) {n : Nat} {σ : ST} {v1 : Int32} {v2 : Int32} {v3 : Int32} {o : (Int32 × Int32) ⊕ (Int32)} {e : (Int32)} (h : j_sumOver_w_24_4 n σ v1 v2 v3 = some o) (kin : ∀ (s : Int32 × Int32), o = .inl s → XW l D K 0 0 (wX cs ad σ im rest) 4 [(0, .ref (ad 5)), (1, .int v1), (2, .int s.1), (3, .int s.2)] []) (kex : ∀ e1, o = .inr e1 → e1 = e) (kx : ∀ (t : Int32), e = t → XW l D K 0 0 (wX cs ad σ im rest) 30 [(2, .int t)] []) : XW l D K 0 0 (wX cs ad σ im rest) 24 [(0, .ref (ad 5)), (1, .int v1), (2, .int v2), (3, .int v3)] [] := by
  unfold j_sumOver_w_24_4 at h
  refine X_iinc (v := v3 + (1 : Int32)) (vs1 := [(3, .int (v3 + (1 : Int32))), (0, .ref (ad 5)), (1, .int v1), (2, .int v2)]) C 3 rfl rfl (by decide) rfl dX6_sumOver_24 ?_
  refine X_goto C (tgt := 4) (by decide) dX6_sumOver_27 ?_
  obtain rfl := Option.some.inj h
  refine X_loc (vs1 := [(0, .ref (ad 5)), (1, .int v1), (2, .int v2), (3, .int (v3 + (1 : Int32)))]) [1, 2, 3, 0] rfl ?_
  exact kin _ rfl
set_option maxHeartbeats 4000000 in
set_option maxRecDepth 100000 in
theorem wb_sumOver_w_4 {l : Launch} {D : va_G} {cs : Nat → ClassId} {K : XK} {ad : Nat → Nat} {im : Nat → Option Nat} {rest : va_W} (C : XC D cs K 4 rm_sumOver_w cX6_sumOver RX6 wsX6_sumOver (some .int)) {n : Nat} {σ : ST} {v1 : Int32} {e : (Int32)} (kx : ∀ (t : Int32), e = t → XW l D K 0 0 (wX cs ad σ im rest) 30 [(2, .int t)] []) : ∀ (q : Nat) (s : Int32 × Int32), lp (b_sumOver_w_4 n σ v1) q s = some e → XW l D K 0 0 (wX cs ad σ im rest) 4 [(0, .ref (ad 5)), (1, .int v1), (2, .int s.1), (3, .int s.2)] [] := by
  refine lp_walk (G := fun (s : Int32 × Int32) => XW l D K 0 0 (wX cs ad σ im rest) 4 [(0, .ref (ad 5)), (1, .int v1), (2, .int s.1), (3, .int s.2)] []) ?_
  intro s o h kin kex
  unfold b_sumOver_w_4 at h
  refine X_iload_n C 3 rfl rfl dX6_sumOver_4 ?_
  refine X_bipush (v := 16) C (by decide) dX6_sumOver_5 ?_
  refine X_icmpge C (tgt := 30) (by decide) dX6_sumOver_7 h (fun h => ?_) (fun h => ?_)
  · obtain rfl := Option.some.inj h
    refine X_loc (vs1 := [(2, .int s.1)]) [2] rfl ?_
    exact kx _ (kex _ rfl).symm
  · refine X_iload_n C 1 rfl rfl dX6_sumOver_10 ?_
    refine X_iload_n C 3 rfl rfl dX6_sumOver_11 ?_
    obtain ⟨o1, eo1, h⟩ := bnd_some h
    refine X_callSi C (n := 2) (As := [.int v1, .int s.2]) (c_contains eo1) gX6_sumOver_X6_contains rfl rfl rfl (by decide +kernel) ⟨Nat.le_of_ble_eq_true rfl, Nat.le_of_ble_eq_true rfl⟩ ⟨Nat.zero_le _, Nat.zero_le _⟩ rfl rfl (Nat.le_of_ble_eq_true rfl) dX6_sumOver_12 ?_
    refine X_ifeq C (tgt := 24) (by decide) dX6_sumOver_15 h (fun h => ?_) (fun h => ?_)
    · exact wj_sumOver_w_24_4 C h kin kex kx
    · refine X_iload_n C 2 rfl rfl dX6_sumOver_18 ?_
      refine X_aload_n C 0 rfl rfl dX6_sumOver_19 ?_
      refine X_iload_n C 3 rfl rfl dX6_sumOver_20 ?_
      refine X_iald C 5 (xe_5 _ _ _ _ _) h dX6_sumOver_21 (fun h => ?_)
      refine X_iadd C dX6_sumOver_22 ?_
      refine X_istore_n (vs1 := [(2, .int (s.1 + (σ.2 5 (jix s.2)))), (0, .ref (ad 5)), (1, .int v1), (3, .int s.2)]) C rfl (by decide) rfl dX6_sumOver_23 ?_
      refine X_loc (vs1 := [(0, .ref (ad 5)), (1, .int v1), (2, .int (s.1 + (σ.2 5 (jix s.2)))), (3, .int s.2)]) [1, 2, 0, 3] rfl ?_
      exact wj_sumOver_w_24_4 C h kin kex kx
set_option maxHeartbeats 4000000 in
set_option maxRecDepth 100000 in
theorem c_sumOver_w {l : Launch} {D : va_G} {cs : Nat → ClassId} {ad : Nat → Nat} {im : Nat → Option Nat} {rest : va_W} {n : Nat} {σ : ST} {a0 : Int32} {o : Int32} (h : f_sumOver_w n σ a0 = some o) : CTi l D cs yX6_sumOver wsX6_sumOver rm_sumOver_w [.ref (ad 5), .int a0] (wX cs ad σ im rest) o (wX cs ad σ im rest) := by
  refine CTi_of (cc := cX6_sumOver) (nL := 4) (by decide) rfl (Nat.le_of_ble_eq_true rfl) ?_
  intro K C hret
  unfold f_sumOver_w at h
  refine X_loc (vs1 := [(0, .ref (ad 5)), (1, .int a0)]) [0, 1] rfl ?_
  refine X_iconst (v := 0) C (by decide) dX6_sumOver_0 ?_
  refine X_istore_n (vs1 := [(2, .int (0 : Int32)), (0, .ref (ad 5)), (1, .int a0)]) C rfl (by decide) rfl dX6_sumOver_1 ?_
  refine X_iconst (v := 0) C (by decide) dX6_sumOver_2 ?_
  refine X_istore_n (vs1 := [(3, .int (0 : Int32)), (2, .int (0 : Int32)), (0, .ref (ad 5)), (1, .int a0)]) C rfl (by decide) rfl dX6_sumOver_3 ?_
  obtain ⟨e2, he2, h⟩ := bnd_some h
  refine X_loc (vs1 := [(0, .ref (ad 5)), (1, .int a0), (2, .int (0 : Int32)), (3, .int (0 : Int32))]) [2, 3, 1, 0] rfl ?_
  refine wb_sumOver_w_4 C (e := e2) (fun t ht => ?_) n _ he2
  subst ht
  refine X_iload_n C 0 rfl rfl dX6_sumOver_30 ?_
  obtain rfl := Option.some.inj h
  exact hret _ _ dX6_sumOver_31

abbrev rm_sumOver_p : Room := { frames := 1, cells := 0, slots := 0, locals := 21 }
def j_sumOver_p_24_4 (n : Nat) (σ : ST) (v1 : Int32) (v2 : Int32) (v3 : Int32) : Option ((Int32 × Int32) ⊕ (Int32)) :=
  some (.inl (v2, v3 + (1 : Int32)))
def b_sumOver_p_4 (n : Nat) (σ : ST) (v1 : Int32) (s : Int32 × Int32) : Option ((Int32 × Int32) ⊕ (Int32)) :=
  if (16 : Int32) ≤ s.2 then
    some (.inr s.1)
  else
    bnd (f_contains n v1 s.2) fun o1 =>
    if o1 = 0 then
      j_sumOver_p_24_4 n σ v1 s.1 s.2
    else
      grd (jin s.2 16) <|
      j_sumOver_p_24_4 n σ v1 (s.1 + (σ.2 20 (jix s.2))) s.2
def f_sumOver_p (n : Nat) (σ : ST) (a0 : Int32) : Option (Int32) :=
  bnd (lp (b_sumOver_p_4 n σ a0) n ((0 : Int32), (0 : Int32))) fun e2 =>
  some e2
set_option maxHeartbeats 4000000 in
set_option maxRecDepth 100000 in
theorem wj_sumOver_p_24_4 {l : Launch} {D : va_G} {cs : Nat → ClassId} {K : XK} {ad : Nat → Nat} {im : Nat → Option Nat} {rest : va_W} (C : XC D cs K 4 rm_sumOver_p cX6_sumOver RX6 wsX6_sumOver (some .int)) {n : Nat} {σ : ST} {v1 : Int32} {v2 : Int32} {v3 : Int32} {o : (Int32 × Int32) ⊕ (Int32)} {e : (Int32)} (h : j_sumOver_p_24_4 n σ v1 v2 v3 = some o) (kin : ∀ (s : Int32 × Int32), o = .inl s → XW l D K 0 0 (wX cs ad σ im rest) 4 [(0, .ref (ad 20)), (1, .int v1), (2, .int s.1), (3, .int s.2)] []) (kex : ∀ e1, o = .inr e1 → e1 = e) (kx : ∀ (t : Int32), e = t → XW l D K 0 0 (wX cs ad σ im rest) 30 [(2, .int t)] []) : XW l D K 0 0 (wX cs ad σ im rest) 24 [(0, .ref (ad 20)), (1, .int v1), (2, .int v2), (3, .int v3)] [] := by
  unfold j_sumOver_p_24_4 at h
  refine X_iinc (v := v3 + (1 : Int32)) (vs1 := [(3, .int (v3 + (1 : Int32))), (0, .ref (ad 20)), (1, .int v1), (2, .int v2)]) C 3 rfl rfl (by decide) rfl dX6_sumOver_24 ?_
  refine X_goto C (tgt := 4) (by decide) dX6_sumOver_27 ?_
  obtain rfl := Option.some.inj h
  refine X_loc (vs1 := [(0, .ref (ad 20)), (1, .int v1), (2, .int v2), (3, .int (v3 + (1 : Int32)))]) [1, 2, 3, 0] rfl ?_
  exact kin _ rfl
set_option maxHeartbeats 4000000 in
set_option maxRecDepth 100000 in
theorem wb_sumOver_p_4 {l : Launch} {D : va_G} {cs : Nat → ClassId} {K : XK} {ad : Nat → Nat} {im : Nat → Option Nat} {rest : va_W} (C : XC D cs K 4 rm_sumOver_p cX6_sumOver RX6 wsX6_sumOver (some .int)) {n : Nat} {σ : ST} {v1 : Int32} {e : (Int32)} (kx : ∀ (t : Int32), e = t → XW l D K 0 0 (wX cs ad σ im rest) 30 [(2, .int t)] []) : ∀ (q : Nat) (s : Int32 × Int32), lp (b_sumOver_p_4 n σ v1) q s = some e → XW l D K 0 0 (wX cs ad σ im rest) 4 [(0, .ref (ad 20)), (1, .int v1), (2, .int s.1), (3, .int s.2)] [] := by
  refine lp_walk (G := fun (s : Int32 × Int32) => XW l D K 0 0 (wX cs ad σ im rest) 4 [(0, .ref (ad 20)), (1, .int v1), (2, .int s.1), (3, .int s.2)] []) ?_
  intro s o h kin kex
  unfold b_sumOver_p_4 at h
  refine X_iload_n C 3 rfl rfl dX6_sumOver_4 ?_
  refine X_bipush (v := 16) C (by decide) dX6_sumOver_5 ?_
  refine X_icmpge C (tgt := 30) (by decide) dX6_sumOver_7 h (fun h => ?_) (fun h => ?_)
  · obtain rfl := Option.some.inj h
    refine X_loc (vs1 := [(2, .int s.1)]) [2] rfl ?_
    exact kx _ (kex _ rfl).symm
  · refine X_iload_n C 1 rfl rfl dX6_sumOver_10 ?_
    refine X_iload_n C 3 rfl rfl dX6_sumOver_11 ?_
    obtain ⟨o1, eo1, h⟩ := bnd_some h
    refine X_callSi C (n := 2) (As := [.int v1, .int s.2]) (c_contains eo1) gX6_sumOver_X6_contains rfl rfl rfl (by decide +kernel) ⟨Nat.le_of_ble_eq_true rfl, Nat.le_of_ble_eq_true rfl⟩ ⟨Nat.zero_le _, Nat.zero_le _⟩ rfl rfl (Nat.le_of_ble_eq_true rfl) dX6_sumOver_12 ?_
    refine X_ifeq C (tgt := 24) (by decide) dX6_sumOver_15 h (fun h => ?_) (fun h => ?_)
    · exact wj_sumOver_p_24_4 C h kin kex kx
    · refine X_iload_n C 2 rfl rfl dX6_sumOver_18 ?_
      refine X_aload_n C 0 rfl rfl dX6_sumOver_19 ?_
      refine X_iload_n C 3 rfl rfl dX6_sumOver_20 ?_
      refine X_iald C 20 (xe_20 _ _ _ _ _) h dX6_sumOver_21 (fun h => ?_)
      refine X_iadd C dX6_sumOver_22 ?_
      refine X_istore_n (vs1 := [(2, .int (s.1 + (σ.2 20 (jix s.2)))), (0, .ref (ad 20)), (1, .int v1), (3, .int s.2)]) C rfl (by decide) rfl dX6_sumOver_23 ?_
      refine X_loc (vs1 := [(0, .ref (ad 20)), (1, .int v1), (2, .int (s.1 + (σ.2 20 (jix s.2)))), (3, .int s.2)]) [1, 2, 0, 3] rfl ?_
      exact wj_sumOver_p_24_4 C h kin kex kx
set_option maxHeartbeats 4000000 in
set_option maxRecDepth 100000 in
theorem c_sumOver_p {l : Launch} {D : va_G} {cs : Nat → ClassId} {ad : Nat → Nat} {im : Nat → Option Nat} {rest : va_W} {n : Nat} {σ : ST} {a0 : Int32} {o : Int32} (h : f_sumOver_p n σ a0 = some o) : CTi l D cs yX6_sumOver wsX6_sumOver rm_sumOver_p [.ref (ad 20), .int a0] (wX cs ad σ im rest) o (wX cs ad σ im rest) := by
  refine CTi_of (cc := cX6_sumOver) (nL := 4) (by decide) rfl (Nat.le_of_ble_eq_true rfl) ?_
  intro K C hret
  unfold f_sumOver_p at h
  refine X_loc (vs1 := [(0, .ref (ad 20)), (1, .int a0)]) [0, 1] rfl ?_
  refine X_iconst (v := 0) C (by decide) dX6_sumOver_0 ?_
  refine X_istore_n (vs1 := [(2, .int (0 : Int32)), (0, .ref (ad 20)), (1, .int a0)]) C rfl (by decide) rfl dX6_sumOver_1 ?_
  refine X_iconst (v := 0) C (by decide) dX6_sumOver_2 ?_
  refine X_istore_n (vs1 := [(3, .int (0 : Int32)), (2, .int (0 : Int32)), (0, .ref (ad 20)), (1, .int a0)]) C rfl (by decide) rfl dX6_sumOver_3 ?_
  obtain ⟨e2, he2, h⟩ := bnd_some h
  refine X_loc (vs1 := [(0, .ref (ad 20)), (1, .int a0), (2, .int (0 : Int32)), (3, .int (0 : Int32))]) [2, 3, 1, 0] rfl ?_
  refine wb_sumOver_p_4 C (e := e2) (fun t ht => ?_) n _ he2
  subst ht
  refine X_iload_n C 0 rfl rfl dX6_sumOver_30 ?_
  obtain rfl := Option.some.inj h
  exact hret _ _ dX6_sumOver_31

abbrev rm_Search_timesBy : Room := { frames := 2, cells := 0, slots := 0, locals := 44 }
def j_Search_timesBy_33 (n : Nat) (σ : ST) (t0 : Int32) : Option (Int32) :=
  some t0
def f_Search_timesBy (n : Nat) (σ : ST) (a0 : Int32) (a1 : Int32) (a2 : Int32) : Option (Int32) :=
  bnd (f_bitCount (a0 &&& a1)) fun o1 =>
  if (2 : Int32) ≤ o1 then
    bnd (f_sumOver_p n σ a0) fun o2 =>
    grd (!decide ((o1 - (1 : Int32)) = 0)) <|
    j_Search_timesBy_33 n σ ((o2 - a2) / (o1 - (1 : Int32)))
  else
    j_Search_timesBy_33 n σ (0 : Int32)
theorem hnsX6_sumOver_Search_timesBy : Cond.static yX6_sumOver ∈ wsX4_timesBy := by decide +kernel
theorem hniX6_sumOver_Search_timesBy : Cond.initialized yX6_sumOver.cls ∈ wsX4_timesBy := by decide +kernel
theorem hf15_Search_timesBy : Cond.fieldLink RX4 15 (TX4 8).1 (TX4 8).2.1 (TX4 8).2.2.1 ∈ wsX4_timesBy := by decide +kernel
theorem hi4_Search_timesBy : ∀ w ∈ u_ws RX4 TX4 10, w ∈ wsX4_timesBy := by decide +kernel
set_option maxHeartbeats 4000000 in
set_option maxRecDepth 100000 in
theorem wj_Search_timesBy_33 {l : Launch} {D : va_G} {cs : Nat → ClassId} {K : XK} {ad : Nat → Nat} {im : Nat → Option Nat} {rest : va_W} (C : XC D cs K 5 rm_Search_timesBy cX4_timesBy RX4 wsX4_timesBy (some .int)) {n : Nat} {σ : ST} {t0 : Int32} {o : Int32} (h : j_Search_timesBy_33 n σ t0 = some o) (hret : XRi l D K cX4_timesBy o (wX cs ad σ im rest)) : XW l D K 0 0 (wX cs ad σ im rest) 33 [] [.int t0] := by
  unfold j_Search_timesBy_33 at h
  obtain rfl := Option.some.inj h
  exact hret _ _ dX4_timesBy_33
set_option maxHeartbeats 4000000 in
set_option maxRecDepth 100000 in
theorem c_Search_timesBy {l : Launch} {D : va_G} {cs : Nat → ClassId} {ad : Nat → Nat} {im : Nat → Option Nat} {rest : va_W} {n : Nat} {σ : ST} {a0 : Int32} {a1 : Int32} {a2 : Int32} {o : Int32} (h : f_Search_timesBy n σ a0 a1 a2 = some o) : CTi l D cs yX4_timesBy wsX4_timesBy rm_Search_timesBy [.ref (ad 18), .int a0, .int a1, .int a2] (wX cs ad σ im rest) o (wX cs ad σ im rest) := by
  refine CTi_of (cc := cX4_timesBy) (nL := 5) (by decide) rfl (Nat.le_of_ble_eq_true rfl) ?_
  intro K C hret
  unfold f_Search_timesBy at h
  refine X_loc (vs1 := [(0, .ref (ad 18)), (1, .int a0), (2, .int a1), (3, .int a2)]) [0, 1, 2, 3] rfl ?_
  refine X_iload_n C 1 rfl rfl dX4_timesBy_0 ?_
  refine X_iload_n C 2 rfl rfl dX4_timesBy_1 ?_
  refine X_iand C dX4_timesBy_2 ?_
  obtain ⟨o1, eo1, h⟩ := bnd_some h
  refine X_callSi C (n := 1) (As := [.int (a0 &&& a1)]) (c_bitCount eo1) gX4_timesBy_J6_bitCount_0f7a4 rfl rfl rfl (by decide +kernel) ⟨Nat.le_of_ble_eq_true rfl, Nat.le_of_ble_eq_true rfl⟩ ⟨Nat.zero_le _, Nat.zero_le _⟩ rfl rfl (Nat.le_of_ble_eq_true rfl) dX4_timesBy_3 ?_
  refine X_istore (vs1 := [(4, .int o1), (0, .ref (ad 18)), (1, .int a0), (2, .int a1), (3, .int a2)]) C (by decide) rfl dX4_timesBy_6 ?_
  refine X_iload C 0 rfl dX4_timesBy_8 ?_
  refine X_iconst (v := 2) C (by decide) dX4_timesBy_10 ?_
  refine X_icmpge C (tgt := 18) (by decide) dX4_timesBy_11 h (fun h => ?_) (fun h => ?_)
  · refine X_aload_n C 1 rfl rfl dX4_timesBy_18 ?_
    refine X_get C 18 8 hi4_Search_timesBy hf15_Search_timesBy (xe_18 _ _ _ _ _) rfl (by decide) rfl dX4_timesBy_19 ?_
    refine X_iload_n C 2 rfl rfl dX4_timesBy_22 ?_
    obtain ⟨o2, eo2, h⟩ := bnd_some h
    refine X_callSNi C (n := 2) (As := [.ref (ad 20), .int a0]) (c_sumOver_p eo2) gX4_timesBy_X6_sumOver_n102 (by decide +kernel) hniX6_sumOver_Search_timesBy hnsX6_sumOver_Search_timesBy rfl rfl rfl (by decide +kernel) ⟨Nat.le_of_ble_eq_true rfl, Nat.le_of_ble_eq_true rfl⟩ ⟨Nat.zero_le _, Nat.zero_le _⟩ rfl rfl (Nat.le_of_ble_eq_true rfl) dX4_timesBy_23 ?_
    refine X_iload_n C 4 rfl rfl dX4_timesBy_26 ?_
    refine X_isub C dX4_timesBy_27 ?_
    refine X_iload C 0 rfl dX4_timesBy_28 ?_
    refine X_iconst (v := 1) C (by decide) dX4_timesBy_30 ?_
    refine X_isub C dX4_timesBy_31 ?_
    refine X_idiv C h dX4_timesBy_32 (fun h => ?_)
    refine X_loc (vs1 := []) [] rfl ?_
    exact wj_Search_timesBy_33 C h hret
  · refine X_iconst (v := 0) C (by decide) dX4_timesBy_14 ?_
    refine X_goto C (tgt := 33) (by decide) dX4_timesBy_15 ?_
    refine X_loc (vs1 := []) [] rfl ?_
    exact wj_Search_timesBy_33 C h hret

abbrev rm_Search_mostTimes : Room := { frames := 23, cells := 0, slots := 0, locals := 1293 }
def j_Search_mostTimes_35_5 (n : Nat) (σ : ST) (v1 : Int32) (v2 : Int32) (v3 : Int32) (v4 : Int32) : Option ((Int32 × Int32) ⊕ (Int32)) :=
  some (.inl (v3, v4 + (1 : Int32)))
def b_Search_mostTimes_5 (n : Nat) (σ : ST) (v1 : Int32) (v2 : Int32) (s : Int32 × Int32) : Option ((Int32 × Int32) ⊕ (Int32)) :=
  if (σ.1 1158) ≤ s.2 then
    some (.inr s.1)
  else
    bnd (f_contains n v1 s.2) fun o1 =>
    if o1 = 0 then
      j_Search_mostTimes_35_5 n σ v1 v2 s.1 s.2
    else
      grd (jin s.2 16) <|
      nam (jmin s.1 (σ.2 20 (jix s.2))) fun x2 =>
      j_Search_mostTimes_35_5 n σ v1 v2 x2 s.2
def b_Search_mostTimes_44 (n : Nat) (v1 : Int32) (v2 : Int32) (s : ST × Int32 × Int32) : Option ((ST × Int32 × Int32) ⊕ ((ST × Int32) ⊕ (Int32 × ST))) :=
  if (1000 : Int32) ≤ s.2.2 then
    some (.inr (.inl (s.1, s.2.1)))
  else
    if s.2.1 ≤ 0 then
      some (.inr (.inl (s.1, s.2.1)))
    else
      bnd (f_Search_spend n s.1 v1 s.2.1) fun o4 =>
      bnd (f_Search_findBelow n o4 (v2 - s.2.1)) fun o5 =>
      bnd (f_Search_spend n o5.2 v1 (-s.2.1)) fun o6 =>
      if o5.1 = 0 then
        some (.inr (.inr (s.2.1, o6)))
      else
        bnd (f_Search_timesBy n o6 (o6.1 1153) v1 v2) fun o7 =>
        nam (jmin (s.2.1 - (1 : Int32)) o7) fun x8 =>
        some (.inl (o6, x8, s.2.2 + (1 : Int32)))
def f_Search_mostTimes (n : Nat) (σ : ST) (a0 : Int32) (a1 : Int32) : Option (Int32 × ST) :=
  bnd (lp (b_Search_mostTimes_5 n σ a0 a1) n (a1, (0 : Int32))) fun e3 =>
  bnd (lp (b_Search_mostTimes_44 n a0 a1) n (σ, e3, (0 : Int32))) fun e9 =>
  Sum.elim (fun t10 =>
    some (t10.2, t10.1))
    (fun r => some r) e9
theorem hf58_Search_mostTimes : Cond.fieldLink RX4 58 (TX4 1).1 (TX4 1).2.1 (TX4 1).2.2.1 ∈ wsX4_mostTimes := by decide +kernel
theorem hmc_Search_mostTimes : Cond.code Lib.Math.min.name Lib.Math.min.code 2 (some .int) ∈ wsX4_mostTimes := by decide +kernel
theorem hmi_Search_mostTimes : Cond.initialized "java/lang/Math" ∈ wsX4_mostTimes := by decide +kernel
theorem hms_Search_mostTimes : Cond.static Lib.Math.min.name ∈ wsX4_mostTimes := by decide +kernel
theorem hm85_Search_mostTimes : Cond.methodLink RX4 85 Lib.Math.min.name ∈ wsX4_mostTimes := by decide +kernel
theorem hf15_Search_mostTimes : Cond.fieldLink RX4 15 (TX4 8).1 (TX4 8).2.1 (TX4 8).2.2.1 ∈ wsX4_mostTimes := by decide +kernel
theorem hnsX6_contains_Search_mostTimes : Cond.static yX6_contains ∈ wsX4_mostTimes := by decide +kernel
theorem hniX6_contains_Search_mostTimes : Cond.initialized yX6_contains.cls ∈ wsX4_mostTimes := by decide +kernel
theorem hf38_Search_mostTimes : Cond.fieldLink RX4 38 (TX4 6).1 (TX4 6).2.1 (TX4 6).2.2.1 ∈ wsX4_mostTimes := by decide +kernel
theorem hi4_Search_mostTimes : ∀ w ∈ u_ws RX4 TX4 10, w ∈ wsX4_mostTimes := by decide +kernel
set_option maxHeartbeats 4000000 in
set_option maxRecDepth 100000 in
theorem wj_Search_mostTimes_35_5 {l : Launch} {D : va_G} {cs : Nat → ClassId} {K : XK} {ad : Nat → Nat} {im : Nat → Option Nat} {rest : va_W} (C : XC D cs K 6 rm_Search_mostTimes cX4_mostTimes RX4 wsX4_mostTimes (some .int)) {n : Nat} {σ : ST} {v1 : Int32} {v2 : Int32} {v3 : Int32} {v4 : Int32} {o : (Int32 × Int32) ⊕ (Int32)} {e : (Int32)} (h : j_Search_mostTimes_35_5 n σ v1 v2 v3 v4 = some o) (kin : ∀ (s : Int32 × Int32), o = .inl s → XW l D K 0 0 (wX cs ad σ im rest) 5 [(0, .ref (ad 18)), (1, .int v1), (2, .int v2), (3, .int s.1), (4, .int s.2)] []) (kex : ∀ e1, o = .inr e1 → e1 = e) (kx : ∀ (t : Int32), e = t → XW l D K 0 0 (wX cs ad σ im rest) 41 [(0, .ref (ad 18)), (1, .int v1), (2, .int v2), (3, .int t)] []) : XW l D K 0 0 (wX cs ad σ im rest) 35 [(0, .ref (ad 18)), (1, .int v1), (2, .int v2), (3, .int v3), (4, .int v4)] [] := by
  unfold j_Search_mostTimes_35_5 at h
  refine X_iinc (v := v4 + (1 : Int32)) (vs1 := [(4, .int (v4 + (1 : Int32))), (0, .ref (ad 18)), (1, .int v1), (2, .int v2), (3, .int v3)]) C 4 rfl rfl (by decide) rfl dX4_mostTimes_35 ?_
  refine X_goto C (tgt := 5) (by decide) dX4_mostTimes_38 ?_
  obtain rfl := Option.some.inj h
  refine X_loc (vs1 := [(0, .ref (ad 18)), (1, .int v1), (2, .int v2), (3, .int v3), (4, .int (v4 + (1 : Int32)))]) [1, 2, 3, 4, 0] rfl ?_
  exact kin _ rfl
set_option maxHeartbeats 4000000 in
set_option maxRecDepth 100000 in
theorem wb_Search_mostTimes_5 {l : Launch} {D : va_G} {cs : Nat → ClassId} {K : XK} {ad : Nat → Nat} {im : Nat → Option Nat} {rest : va_W} (C : XC D cs K 6 rm_Search_mostTimes cX4_mostTimes RX4 wsX4_mostTimes (some .int)) {n : Nat} {σ : ST} {v1 : Int32} {v2 : Int32} {e : (Int32)} (kx : ∀ (t : Int32), e = t → XW l D K 0 0 (wX cs ad σ im rest) 41 [(0, .ref (ad 18)), (1, .int v1), (2, .int v2), (3, .int t)] []) : ∀ (q : Nat) (s : Int32 × Int32), lp (b_Search_mostTimes_5 n σ v1 v2) q s = some e → XW l D K 0 0 (wX cs ad σ im rest) 5 [(0, .ref (ad 18)), (1, .int v1), (2, .int v2), (3, .int s.1), (4, .int s.2)] [] := by
  refine lp_walk (G := fun (s : Int32 × Int32) => XW l D K 0 0 (wX cs ad σ im rest) 5 [(0, .ref (ad 18)), (1, .int v1), (2, .int v2), (3, .int s.1), (4, .int s.2)] []) ?_
  intro s o h kin kex
  unfold b_Search_mostTimes_5 at h
  refine X_iload C 4 rfl dX4_mostTimes_5 ?_
  refine X_aload_n C 0 rfl rfl dX4_mostTimes_7 ?_
  refine X_get C 18 6 hi4_Search_mostTimes hf38_Search_mostTimes (xe_18 _ _ _ _ _) rfl (by decide) rfl dX4_mostTimes_8 ?_
  refine X_icmpge C (tgt := 41) (by decide) dX4_mostTimes_11 h (fun h => ?_) (fun h => ?_)
  · obtain rfl := Option.some.inj h
    refine X_loc (vs1 := [(0, .ref (ad 18)), (1, .int v1), (2, .int v2), (3, .int s.1)]) [0, 1, 2, 3] rfl ?_
    exact kx _ (kex _ rfl).symm
  · refine X_iload_n C 1 rfl rfl dX4_mostTimes_14 ?_
    refine X_iload C 4 rfl dX4_mostTimes_15 ?_
    obtain ⟨o1, eo1, h⟩ := bnd_some h
    refine X_callSNi C (n := 2) (As := [.int v1, .int s.2]) (c_contains eo1) gX4_mostTimes_X6_contains_n51 (by decide +kernel) hniX6_contains_Search_mostTimes hnsX6_contains_Search_mostTimes rfl rfl rfl (by decide +kernel) ⟨Nat.le_of_ble_eq_true rfl, Nat.le_of_ble_eq_true rfl⟩ ⟨Nat.zero_le _, Nat.zero_le _⟩ rfl rfl (Nat.le_of_ble_eq_true rfl) dX4_mostTimes_17 ?_
    refine X_ifeq C (tgt := 35) (by decide) dX4_mostTimes_20 h (fun h => ?_) (fun h => ?_)
    · exact wj_Search_mostTimes_35_5 C h kin kex kx
    · refine X_iload_n C 3 rfl rfl dX4_mostTimes_23 ?_
      refine X_aload_n C 0 rfl rfl dX4_mostTimes_24 ?_
      refine X_get C 18 8 hi4_Search_mostTimes hf15_Search_mostTimes (xe_18 _ _ _ _ _) rfl (by decide) rfl dX4_mostTimes_25 ?_
      refine X_iload C 4 rfl dX4_mostTimes_28 ?_
      refine X_iald C 20 (xe_20 _ _ _ _ _) h dX4_mostTimes_30 (fun h => ?_)
      refine X_mmin C hm85_Search_mostTimes hms_Search_mostTimes hmi_Search_mostTimes hmc_Search_mostTimes (Nat.le_of_ble_eq_true rfl) (Nat.le_of_ble_eq_true rfl) (Nat.zero_le _) (Nat.zero_le _) dX4_mostTimes_31 ?_
      refine X_nam (G := fun x2 => XW l D K 0 0 (wX cs ad σ im rest) 34 [(0, .ref (ad 18)), (1, .int v1), (2, .int v2), (3, .int s.1), (4, .int s.2)] [.int x2]) h (fun x2 h => ?_)
      refine X_istore_n (vs1 := [(3, .int x2), (0, .ref (ad 18)), (1, .int v1), (2, .int v2), (4, .int s.2)]) C rfl (by decide) rfl dX4_mostTimes_34 ?_
      refine X_loc (vs1 := [(0, .ref (ad 18)), (1, .int v1), (2, .int v2), (3, .int x2), (4, .int s.2)]) [1, 2, 3, 0, 4] rfl ?_
      exact wj_Search_mostTimes_35_5 C h kin kex kx
set_option maxHeartbeats 4000000 in
set_option maxRecDepth 100000 in
theorem wb_Search_mostTimes_44 {l : Launch} {D : va_G} {cs : Nat → ClassId} {K : XK} {ad : Nat → Nat} {im : Nat → Option Nat} {rest : va_W} (C : XC D cs K 6 rm_Search_mostTimes cX4_mostTimes RX4 wsX4_mostTimes (some .int)) {n : Nat} {v1 : Int32} {v2 : Int32} {e : ((ST × Int32) ⊕ (Int32 × ST))} (kx : ∀ (t : ST × Int32), e = .inl t → XW l D K 0 0 (wX cs ad t.1 im rest) 108 [(3, .int t.2)] []) (kr : ∀ (t : Int32 × ST), e = .inr t → XRi l D K cX4_mostTimes t.1 (wX cs ad t.2 im rest)) : ∀ (q : Nat) (s : ST × Int32 × Int32), lp (b_Search_mostTimes_44 n v1 v2) q s = some e → XW l D K 0 0 (wX cs ad s.1 im rest) 44 [(0, .ref (ad 18)), (1, .int v1), (2, .int v2), (3, .int s.2.1), (4, .int s.2.2)] [] := by
  refine lp_walk (G := fun (s : ST × Int32 × Int32) => XW l D K 0 0 (wX cs ad s.1 im rest) 44 [(0, .ref (ad 18)), (1, .int v1), (2, .int v2), (3, .int s.2.1), (4, .int s.2.2)] []) ?_
  intro s o h kin kex
  unfold b_Search_mostTimes_44 at h
  refine X_iload C 4 rfl dX4_mostTimes_44 ?_
  refine X_sipush (v := 1000) C (by decide) dX4_mostTimes_46 ?_
  refine X_icmpge C (tgt := 108) (by decide) dX4_mostTimes_49 h (fun h => ?_) (fun h => ?_)
  · obtain rfl := Option.some.inj h
    refine X_loc (vs1 := [(3, .int s.2.1)]) [3] rfl ?_
    exact kx _ (kex _ rfl).symm
  · refine X_iload_n C 3 rfl rfl dX4_mostTimes_52 ?_
    refine X_ifle C (tgt := 108) (by decide) dX4_mostTimes_53 h (fun h => ?_) (fun h => ?_)
    · obtain rfl := Option.some.inj h
      refine X_loc (vs1 := [(3, .int s.2.1)]) [3] rfl ?_
      exact kx _ (kex _ rfl).symm
    · refine X_aload_n C 0 rfl rfl dX4_mostTimes_56 ?_
      refine X_iload_n C 1 rfl rfl dX4_mostTimes_57 ?_
      refine X_iload_n C 3 rfl rfl dX4_mostTimes_58 ?_
      obtain ⟨o4, eo4, h⟩ := bnd_some h
      refine X_callVv C (n := 2) (As := [.int v1, .int s.2.1]) (c_Search_spend eo4) rfl gX4_mostTimes_X4_spend rfl rfl (xe_18 _ _ _ _ _) rfl rfl (by decide +kernel) ⟨Nat.le_of_ble_eq_true rfl, Nat.le_of_ble_eq_true rfl⟩ ⟨Nat.zero_le _, Nat.zero_le _⟩ rfl rfl (Nat.le_of_ble_eq_true rfl) dX4_mostTimes_59 ?_
      refine X_aload_n C 0 rfl rfl dX4_mostTimes_62 ?_
      refine X_iload_n C 2 rfl rfl dX4_mostTimes_63 ?_
      refine X_iload_n C 3 rfl rfl dX4_mostTimes_64 ?_
      refine X_isub C dX4_mostTimes_65 ?_
      obtain ⟨o5, eo5, h⟩ := bnd_some h
      refine X_callVi C (n := 1) (As := [.int (v2 - s.2.1)]) (c_Search_findBelow eo5) rfl gX4_mostTimes_X4_findBelow rfl rfl (xe_18 _ _ _ _ _) rfl rfl (by decide +kernel) ⟨Nat.le_of_ble_eq_true rfl, Nat.le_of_ble_eq_true rfl⟩ ⟨Nat.zero_le _, Nat.zero_le _⟩ rfl rfl (Nat.le_of_ble_eq_true rfl) dX4_mostTimes_66 ?_
      refine X_istore (vs1 := [(5, .int o5.1), (0, .ref (ad 18)), (1, .int v1), (2, .int v2), (3, .int s.2.1), (4, .int s.2.2)]) C (by decide) rfl dX4_mostTimes_69 ?_
      refine X_aload_n C 1 rfl rfl dX4_mostTimes_71 ?_
      refine X_iload_n C 2 rfl rfl dX4_mostTimes_72 ?_
      refine X_iload_n C 4 rfl rfl dX4_mostTimes_73 ?_
      refine X_ineg C dX4_mostTimes_74 ?_
      obtain ⟨o6, eo6, h⟩ := bnd_some h
      refine X_callVv C (n := 2) (As := [.int v1, .int (-s.2.1)]) (c_Search_spend eo6) rfl gX4_mostTimes_X4_spend rfl rfl (xe_18 _ _ _ _ _) rfl rfl (by decide +kernel) ⟨Nat.le_of_ble_eq_true rfl, Nat.le_of_ble_eq_true rfl⟩ ⟨Nat.zero_le _, Nat.zero_le _⟩ rfl rfl (Nat.le_of_ble_eq_true rfl) dX4_mostTimes_75 ?_
      refine X_iload C 0 rfl dX4_mostTimes_78 ?_
      refine X_ifne C (tgt := 85) (by decide) dX4_mostTimes_80 h (fun h => ?_) (fun h => ?_)
      · refine X_iload_n C 4 rfl rfl dX4_mostTimes_85 ?_
        refine X_iconst (v := 1) C (by decide) dX4_mostTimes_86 ?_
        refine X_isub C dX4_mostTimes_87 ?_
        refine X_aload_n C 1 rfl rfl dX4_mostTimes_88 ?_
        refine X_aload_n C 1 rfl rfl dX4_mostTimes_89 ?_
        refine X_get C 18 1 hi4_Search_mostTimes hf58_Search_mostTimes (xe_18 _ _ _ _ _) rfl (by decide) rfl dX4_mostTimes_90 ?_
        refine X_iload_n C 2 rfl rfl dX4_mostTimes_93 ?_
        refine X_iload_n C 3 rfl rfl dX4_mostTimes_94 ?_
        obtain ⟨o7, eo7, h⟩ := bnd_some h
        refine X_callVi C (n := 3) (As := [.int (o6.1 1153), .int v1, .int v2]) (c_Search_timesBy eo7) rfl gX4_mostTimes_X4_timesBy rfl rfl (xe_18 _ _ _ _ _) rfl rfl (by decide +kernel) ⟨Nat.le_of_ble_eq_true rfl, Nat.le_of_ble_eq_true rfl⟩ ⟨Nat.zero_le _, Nat.zero_le _⟩ rfl rfl (Nat.le_of_ble_eq_true rfl) dX4_mostTimes_95 ?_
        refine X_mmin C hm85_Search_mostTimes hms_Search_mostTimes hmi_Search_mostTimes hmc_Search_mostTimes (Nat.le_of_ble_eq_true rfl) (Nat.le_of_ble_eq_true rfl) (Nat.zero_le _) (Nat.zero_le _) dX4_mostTimes_98 ?_
        refine X_nam (G := fun x8 => XW l D K 0 0 (wX cs ad o6 im rest) 101 [(5, .int o5.1), (0, .ref (ad 18)), (1, .int v1), (2, .int v2), (3, .int s.2.1), (4, .int s.2.2)] [.int x8]) h (fun x8 h => ?_)
        refine X_istore_n (vs1 := [(3, .int x8), (5, .int o5.1), (0, .ref (ad 18)), (1, .int v1), (2, .int v2), (4, .int s.2.2)]) C rfl (by decide) rfl dX4_mostTimes_101 ?_
        refine X_iinc (v := s.2.2 + (1 : Int32)) (vs1 := [(4, .int (s.2.2 + (1 : Int32))), (3, .int x8), (5, .int o5.1), (0, .ref (ad 18)), (1, .int v1), (2, .int v2)]) C 5 rfl rfl (by decide) rfl dX4_mostTimes_102 ?_
        refine X_goto C (tgt := 44) (by decide) dX4_mostTimes_105 ?_
        obtain rfl := Option.some.inj h
        refine X_loc (vs1 := [(0, .ref (ad 18)), (1, .int v1), (2, .int v2), (3, .int x8), (4, .int (s.2.2 + (1 : Int32)))]) [3, 4, 5, 1, 0] rfl ?_
        exact kin _ rfl
      · refine X_iload_n C 4 rfl rfl dX4_mostTimes_83 ?_
        obtain rfl := Option.some.inj h
        exact kr _ (kex _ rfl).symm _ _ dX4_mostTimes_84
set_option maxHeartbeats 4000000 in
set_option maxRecDepth 100000 in
theorem c_Search_mostTimes {l : Launch} {D : va_G} {cs : Nat → ClassId} {ad : Nat → Nat} {im : Nat → Option Nat} {rest : va_W} {n : Nat} {σ : ST} {a0 : Int32} {a1 : Int32} {o : Int32 × ST} (h : f_Search_mostTimes n σ a0 a1 = some o) : CTi l D cs yX4_mostTimes wsX4_mostTimes rm_Search_mostTimes [.ref (ad 18), .int a0, .int a1] (wX cs ad σ im rest) o.1 (wX cs ad o.2 im rest) := by
  refine CTi_of (cc := cX4_mostTimes) (nL := 6) (by decide) rfl (Nat.le_of_ble_eq_true rfl) ?_
  intro K C hret
  unfold f_Search_mostTimes at h
  refine X_loc (vs1 := [(0, .ref (ad 18)), (1, .int a0), (2, .int a1)]) [0, 1, 2] rfl ?_
  refine X_iload_n C 2 rfl rfl dX4_mostTimes_0 ?_
  refine X_istore_n (vs1 := [(3, .int a1), (0, .ref (ad 18)), (1, .int a0), (2, .int a1)]) C rfl (by decide) rfl dX4_mostTimes_1 ?_
  refine X_iconst (v := 0) C (by decide) dX4_mostTimes_2 ?_
  refine X_istore (vs1 := [(4, .int (0 : Int32)), (3, .int a1), (0, .ref (ad 18)), (1, .int a0), (2, .int a1)]) C (by decide) rfl dX4_mostTimes_3 ?_
  obtain ⟨e3, he3, h⟩ := bnd_some h
  refine X_loc (vs1 := [(0, .ref (ad 18)), (1, .int a0), (2, .int a1), (3, .int a1), (4, .int (0 : Int32))]) [2, 3, 4, 1, 0] rfl ?_
  refine wb_Search_mostTimes_5 C (e := e3) (fun t ht => ?_) n _ he3
  subst ht
  refine X_iconst (v := 0) C (by decide) dX4_mostTimes_41 ?_
  refine X_istore (vs1 := [(4, .int (0 : Int32)), (0, .ref (ad 18)), (1, .int a0), (2, .int a1), (3, .int e3)]) C (by decide) rfl dX4_mostTimes_42 ?_
  obtain ⟨e9, he9, h⟩ := bnd_some h
  refine X_loc (vs1 := [(0, .ref (ad 18)), (1, .int a0), (2, .int a1), (3, .int e3), (4, .int (0 : Int32))]) [1, 2, 3, 4, 0] rfl ?_
  refine wb_Search_mostTimes_44 C (e := e9) (fun t10 ht => ?_) (fun r ht => ?_) n _ he9
  · subst ht
    dsimp only [Sum.elim] at h
    refine X_iload_n C 0 rfl rfl dX4_mostTimes_108 ?_
    obtain rfl := Option.some.inj h
    exact hret _ _ dX4_mostTimes_109
  · subst ht
    dsimp only [Sum.elim] at h
    obtain rfl := Option.some.inj h
    exact hret
