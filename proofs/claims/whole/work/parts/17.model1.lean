abbrev rm_m_changed : Room := { frames := 0, cells := 0, slots := 0, locals := 0 }
def f_m_changed (σ : ST) : Option (ST) :=
  nam (sS σ 24 (0 : Int32)) fun σ1 =>
  nam (sS σ1 31 (0 : Int32)) fun σ2 =>
  some σ2
theorem hf92_m_changed : Cond.fieldLink RX7 92 (TX7 31).1 (TX7 31).2.1 (TX7 31).2.2.1 ∈ wsX7_changed := by decide +kernel
theorem hf88_m_changed : Cond.fieldLink RX7 88 (TX7 24).1 (TX7 24).2.1 (TX7 24).2.2.1 ∈ wsX7_changed := by decide +kernel
theorem hi7_m_changed : ∀ w ∈ u_ws RX7 TX7 34, w ∈ wsX7_changed := by decide +kernel
set_option maxHeartbeats 4000000 in
set_option maxRecDepth 100000 in
theorem c_m_changed {l : Launch} {D : va_G} {cs : Nat → ClassId} {ad : Nat → Nat} {rest : va_W} {σ : ST} {o : ST} (h : f_m_changed σ = some o) : CTv l D cs yX7_changed wsX7_changed rm_m_changed [.ref (ad 0)] (wM cs ad σ rest) (wM cs ad o rest) := by
  refine CTv_of (cc := cX7_changed) (nL := 1) (by decide) rfl (Nat.le_of_ble_eq_true rfl) ?_
  intro K C hret
  unfold f_m_changed at h
  refine X_loc (vs1 := [(0, .ref (ad 0))]) [0] rfl ?_
  refine X_aload_n C 0 rfl rfl dX7_changed_0 ?_
  refine X_iconst (v := 0) C (by decide) dX7_changed_1 ?_
  refine X_put (ty := .boolean) C 0 24 hi7_m_changed hf88_m_changed tyX7 tyX7_ok nmX7 (me_0 _ _ _ _) rfl (by decide) rfl (by decide +kernel) (jz_nar (by decide)) (jz_fit (by decide)) (Nat.le_of_ble_eq_true rfl) (ms_0_24 _ _ _ _ _) dX7_changed_2 ?_
  refine X_nam (G := fun σ1 => XW l D K 0 0 (wM cs ad σ1 rest) 5 [(0, .ref (ad 0))] []) h (fun σ1 h => ?_)
  refine X_aload_n C 0 rfl rfl dX7_changed_5 ?_
  refine X_iconst (v := 0) C (by decide) dX7_changed_6 ?_
  refine X_put (ty := .boolean) C 0 31 hi7_m_changed hf92_m_changed tyX7 tyX7_ok nmX7 (me_0 _ _ _ _) rfl (by decide) rfl (by decide +kernel) (jz_nar (by decide)) (jz_fit (by decide)) (Nat.le_of_ble_eq_true rfl) (ms_0_31 _ _ _ _ _) dX7_changed_7 ?_
  refine X_nam (G := fun σ2 => XW l D K 0 0 (wM cs ad σ2 rest) 10 [(0, .ref (ad 0))] []) h (fun σ2 h => ?_)
  obtain rfl := Option.some.inj h
  exact hret _ _ dX7_changed_10

abbrev rm_m_all : Room := { frames := 0, cells := 0, slots := 0, locals := 0 }
def f_m_all (σ : ST) : Option (Int32) :=
  some ((jshl (1 : Int32) (σ.1 1)) - (1 : Int32))
theorem hf7_m_all : Cond.fieldLink RX7 7 (TX7 1).1 (TX7 1).2.1 (TX7 1).2.2.1 ∈ wsX7_all := by decide +kernel
theorem hi7_m_all : ∀ w ∈ u_ws RX7 TX7 34, w ∈ wsX7_all := by decide +kernel
set_option maxHeartbeats 4000000 in
set_option maxRecDepth 100000 in
theorem c_m_all {l : Launch} {D : va_G} {cs : Nat → ClassId} {ad : Nat → Nat} {rest : va_W} {σ : ST} {o : Int32} (h : f_m_all σ = some o) : CTi l D cs yX7_all wsX7_all rm_m_all [.ref (ad 0)] (wM cs ad σ rest) o (wM cs ad σ rest) := by
  refine CTi_of (cc := cX7_all) (nL := 1) (by decide) rfl (Nat.le_of_ble_eq_true rfl) ?_
  intro K C hret
  unfold f_m_all at h
  refine X_loc (vs1 := [(0, .ref (ad 0))]) [0] rfl ?_
  refine X_iconst (v := 1) C (by decide) dX7_all_0 ?_
  refine X_aload_n C 0 rfl rfl dX7_all_1 ?_
  refine X_get C 0 1 hi7_m_all hf7_m_all (me_0 _ _ _ _) rfl (by decide) rfl dX7_all_2 ?_
  refine X_ishl C dX7_all_5 ?_
  refine X_iconst (v := 1) C (by decide) dX7_all_6 ?_
  refine X_isub C dX7_all_7 ?_
  obtain rfl := Option.some.inj h
  exact hret _ _ dX7_all_8

abbrev rm_m_isSide : Room := { frames := 0, cells := 0, slots := 0, locals := 0 }
def j_m_isSide_38_2 (n : Nat) (σ : ST) (v1 : Int32) (v2 : Int32) : Option ((Int32) ⊕ ((Unit) ⊕ (Int32))) :=
  some (.inl (v2 + (1 : Int32)))
def b_m_isSide_2 (n : Nat) (σ : ST) (v1 : Int32) (s : Int32) : Option ((Int32) ⊕ ((Unit) ⊕ (Int32))) :=
  if (σ.1 2) ≤ s then
    some (.inr (.inl ()))
  else
    grd (jin s 16) <|
    if ((jshr v1 (σ.2 1 (jix s))) &&& (1 : Int32)) = 0 then
      j_m_isSide_38_2 n σ v1 s
    else
      grd (jin s 16) <|
      if ((jshr v1 (σ.2 2 (jix s))) &&& (1 : Int32)) = 0 then
        some (.inr (.inr (0 : Int32)))
      else
        j_m_isSide_38_2 n σ v1 s
def f_m_isSide (n : Nat) (σ : ST) (a0 : Int32) : Option (Int32) :=
  bnd (lp (b_m_isSide_2 n σ a0) n (0 : Int32)) fun e1 =>
  Sum.elim (fun t2 =>
    some (1 : Int32))
    (fun r => some r) e1
theorem hf17_m_isSide : Cond.fieldLink RX7 17 (TX7 4).1 (TX7 4).2.1 (TX7 4).2.2.1 ∈ wsX7_isSide := by decide +kernel
theorem hf13_m_isSide : Cond.fieldLink RX7 13 (TX7 3).1 (TX7 3).2.1 (TX7 3).2.2.1 ∈ wsX7_isSide := by decide +kernel
theorem hf95_m_isSide : Cond.fieldLink RX7 95 (TX7 2).1 (TX7 2).2.1 (TX7 2).2.2.1 ∈ wsX7_isSide := by decide +kernel
theorem hi7_m_isSide : ∀ w ∈ u_ws RX7 TX7 34, w ∈ wsX7_isSide := by decide +kernel
set_option maxHeartbeats 4000000 in
set_option maxRecDepth 100000 in
theorem wj_m_isSide_38_2 {l : Launch} {D : va_G} {cs : Nat → ClassId} {K : XK} {ad : Nat → Nat} {rest : va_W} (C : XC D cs K 3 rm_m_isSide cX7_isSide RX7 wsX7_isSide (some .boolean)) {n : Nat} {σ : ST} {v1 : Int32} {v2 : Int32} {o : (Int32) ⊕ ((Unit) ⊕ (Int32))} {e : ((Unit) ⊕ (Int32))} (h : j_m_isSide_38_2 n σ v1 v2 = some o) (kin : ∀ (s : Int32), o = .inl s → XW l D K 0 0 (wM cs ad σ rest) 2 [(0, .ref (ad 0)), (1, .int v1), (2, .int s)] []) (kex : ∀ e1, o = .inr e1 → e1 = e) (kx : ∀ (t : Unit), e = .inl t → XW l D K 0 0 (wM cs ad σ rest) 44 [] []) (kr : ∀ (t : Int32), e = .inr t → XRz l D K cX7_isSide t (wM cs ad σ rest)) : XW l D K 0 0 (wM cs ad σ rest) 38 [(0, .ref (ad 0)), (1, .int v1), (2, .int v2)] [] := by
  unfold j_m_isSide_38_2 at h
  refine X_iinc (v := v2 + (1 : Int32)) (vs1 := [(2, .int (v2 + (1 : Int32))), (0, .ref (ad 0)), (1, .int v1)]) C 2 rfl rfl (by decide) rfl dX7_isSide_38 ?_
  refine X_goto C (tgt := 2) (by decide) dX7_isSide_41 ?_
  obtain rfl := Option.some.inj h
  refine X_loc (vs1 := [(0, .ref (ad 0)), (1, .int v1), (2, .int (v2 + (1 : Int32)))]) [1, 2, 0] rfl ?_
  exact kin _ rfl
set_option maxHeartbeats 4000000 in
set_option maxRecDepth 100000 in
theorem wb_m_isSide_2 {l : Launch} {D : va_G} {cs : Nat → ClassId} {K : XK} {ad : Nat → Nat} {rest : va_W} (C : XC D cs K 3 rm_m_isSide cX7_isSide RX7 wsX7_isSide (some .boolean)) {n : Nat} {σ : ST} {v1 : Int32} {e : ((Unit) ⊕ (Int32))} (kx : ∀ (t : Unit), e = .inl t → XW l D K 0 0 (wM cs ad σ rest) 44 [] []) (kr : ∀ (t : Int32), e = .inr t → XRz l D K cX7_isSide t (wM cs ad σ rest)) : ∀ (q : Nat) (s : Int32), lp (b_m_isSide_2 n σ v1) q s = some e → XW l D K 0 0 (wM cs ad σ rest) 2 [(0, .ref (ad 0)), (1, .int v1), (2, .int s)] [] := by
  refine lp_walk (G := fun (s : Int32) => XW l D K 0 0 (wM cs ad σ rest) 2 [(0, .ref (ad 0)), (1, .int v1), (2, .int s)] []) ?_
  intro s o h kin kex
  unfold b_m_isSide_2 at h
  refine X_iload_n C 2 rfl rfl dX7_isSide_2 ?_
  refine X_aload_n C 0 rfl rfl dX7_isSide_3 ?_
  refine X_get C 0 2 hi7_m_isSide hf95_m_isSide (me_0 _ _ _ _) rfl (by decide) rfl dX7_isSide_4 ?_
  refine X_icmpge C (tgt := 44) (by decide) dX7_isSide_7 h (fun h => ?_) (fun h => ?_)
  · obtain rfl := Option.some.inj h
    refine X_loc (vs1 := []) [] rfl ?_
    exact kx _ (kex _ rfl).symm
  · refine X_iload_n C 1 rfl rfl dX7_isSide_10 ?_
    refine X_aload_n C 0 rfl rfl dX7_isSide_11 ?_
    refine X_get C 0 3 hi7_m_isSide hf13_m_isSide (me_0 _ _ _ _) rfl (by decide) rfl dX7_isSide_12 ?_
    refine X_iload_n C 2 rfl rfl dX7_isSide_15 ?_
    refine X_iald C 1 (me_1 _ _ _ _) h dX7_isSide_16 (fun h => ?_)
    refine X_ishr C dX7_isSide_17 ?_
    refine X_iconst (v := 1) C (by decide) dX7_isSide_18 ?_
    refine X_iand C dX7_isSide_19 ?_
    refine X_ifeq C (tgt := 38) (by decide) dX7_isSide_20 h (fun h => ?_) (fun h => ?_)
    · exact wj_m_isSide_38_2 C h kin kex kx kr
    · refine X_iload_n C 1 rfl rfl dX7_isSide_23 ?_
      refine X_aload_n C 0 rfl rfl dX7_isSide_24 ?_
      refine X_get C 0 4 hi7_m_isSide hf17_m_isSide (me_0 _ _ _ _) rfl (by decide) rfl dX7_isSide_25 ?_
      refine X_iload_n C 2 rfl rfl dX7_isSide_28 ?_
      refine X_iald C 2 (me_2 _ _ _ _) h dX7_isSide_29 (fun h => ?_)
      refine X_ishr C dX7_isSide_30 ?_
      refine X_iconst (v := 1) C (by decide) dX7_isSide_31 ?_
      refine X_iand C dX7_isSide_32 ?_
      refine X_ifne C (tgt := 38) (by decide) dX7_isSide_33 h (fun h => ?_) (fun h => ?_)
      · exact wj_m_isSide_38_2 C h kin kex kx kr
      · refine X_iconst (v := 0) C (by decide) dX7_isSide_36 ?_
        obtain rfl := Option.some.inj h
        exact kr _ (kex _ rfl).symm _ _ jz_0 dX7_isSide_37
set_option maxHeartbeats 4000000 in
set_option maxRecDepth 100000 in
theorem c_m_isSide {l : Launch} {D : va_G} {cs : Nat → ClassId} {ad : Nat → Nat} {rest : va_W} {n : Nat} {σ : ST} {a0 : Int32} {o : Int32} (h : f_m_isSide n σ a0 = some o) : CTi l D cs yX7_isSide wsX7_isSide rm_m_isSide [.ref (ad 0), .int a0] (wM cs ad σ rest) o (wM cs ad σ rest) := by
  refine CTz_of (cc := cX7_isSide) (nL := 3) (by decide) rfl (Nat.le_of_ble_eq_true rfl) ?_
  intro K C hret
  unfold f_m_isSide at h
  refine X_loc (vs1 := [(0, .ref (ad 0)), (1, .int a0)]) [0, 1] rfl ?_
  refine X_iconst (v := 0) C (by decide) dX7_isSide_0 ?_
  refine X_istore_n (vs1 := [(2, .int (0 : Int32)), (0, .ref (ad 0)), (1, .int a0)]) C rfl (by decide) rfl dX7_isSide_1 ?_
  obtain ⟨e1, he1, h⟩ := bnd_some h
  refine X_loc (vs1 := [(0, .ref (ad 0)), (1, .int a0), (2, .int (0 : Int32))]) [1, 2, 0] rfl ?_
  refine wb_m_isSide_2 C (e := e1) (fun t2 ht => ?_) (fun r ht => ?_) n _ he1
  · subst ht
    dsimp only [Sum.elim] at h
    refine X_iconst (v := 1) C (by decide) dX7_isSide_44 ?_
    obtain rfl := Option.some.inj h
    exact hret _ _ jz_1 dX7_isSide_45
  · subst ht
    dsimp only [Sum.elim] at h
    obtain rfl := Option.some.inj h
    exact hret

abbrev rm_m_borderOf : Room := { frames := 0, cells := 0, slots := 0, locals := 0 }
def j_m_borderOf_46_4 (n : Nat) (σ : ST) (v1 : Int32) (v3 : Int32) (t0 : Int32) (t1 : Int32) : Option ((Int32 × Int32) ⊕ (Int32)) :=
  some (.inl (t1 ||| t0, v3 + (1 : Int32)))
def j_m_borderOf_45_4 (n : Nat) (σ : ST) (v1 : Int32) (v3 : Int32) (t0 : Int32) : Option ((Int32 × Int32) ⊕ (Int32)) :=
  j_m_borderOf_46_4 n σ v1 v3 (0 : Int32) t0
def b_m_borderOf_4 (n : Nat) (σ : ST) (v1 : Int32) (s : Int32 × Int32) : Option ((Int32 × Int32) ⊕ (Int32)) :=
  if (σ.1 2) ≤ s.2 then
    some (.inr s.1)
  else
    grd (jin s.2 16) <|
    if ((jshr v1 (σ.2 2 (jix s.2))) &&& (1 : Int32)) = 0 then
      j_m_borderOf_45_4 n σ v1 s.2 s.1
    else
      grd (jin s.2 16) <|
      if ((jshr v1 (σ.2 1 (jix s.2))) &&& (1 : Int32)) = 0 then
        j_m_borderOf_46_4 n σ v1 s.2 (jshl (1 : Int32) s.2) s.1
      else
        j_m_borderOf_45_4 n σ v1 s.2 s.1
def f_m_borderOf (n : Nat) (σ : ST) (a0 : Int32) : Option (Int32) :=
  bnd (lp (b_m_borderOf_4 n σ a0) n ((0 : Int32), (0 : Int32))) fun e1 =>
  some e1
theorem hf13_m_borderOf : Cond.fieldLink RX7 13 (TX7 3).1 (TX7 3).2.1 (TX7 3).2.2.1 ∈ wsX7_borderOf := by decide +kernel
theorem hf17_m_borderOf : Cond.fieldLink RX7 17 (TX7 4).1 (TX7 4).2.1 (TX7 4).2.2.1 ∈ wsX7_borderOf := by decide +kernel
theorem hf95_m_borderOf : Cond.fieldLink RX7 95 (TX7 2).1 (TX7 2).2.1 (TX7 2).2.2.1 ∈ wsX7_borderOf := by decide +kernel
theorem hi7_m_borderOf : ∀ w ∈ u_ws RX7 TX7 34, w ∈ wsX7_borderOf := by decide +kernel
set_option maxHeartbeats 4000000 in
set_option maxRecDepth 100000 in
theorem wj_m_borderOf_46_4 {l : Launch} {D : va_G} {cs : Nat → ClassId} {K : XK} {ad : Nat → Nat} {rest : va_W} (C : XC D cs K 4 rm_m_borderOf cX7_borderOf RX7 wsX7_borderOf (some .int)) {n : Nat} {σ : ST} {v1 : Int32} {v3 : Int32} {t0 : Int32} {t1 : Int32} {o : (Int32 × Int32) ⊕ (Int32)} {e : (Int32)} (h : j_m_borderOf_46_4 n σ v1 v3 t0 t1 = some o) (kin : ∀ (s : Int32 × Int32), o = .inl s → XW l D K 0 0 (wM cs ad σ rest) 4 [(0, .ref (ad 0)), (1, .int v1), (2, .int s.1), (3, .int s.2)] []) (kex : ∀ e1, o = .inr e1 → e1 = e) (kx : ∀ (t : Int32), e = t → XW l D K 0 0 (wM cs ad σ rest) 54 [(2, .int t)] []) : XW l D K 0 0 (wM cs ad σ rest) 46 [(0, .ref (ad 0)), (1, .int v1), (3, .int v3)] [.int t0, .int t1] := by
  unfold j_m_borderOf_46_4 at h
  refine X_ior C dX7_borderOf_46 ?_
  refine X_istore_n (vs1 := [(2, .int (t1 ||| t0)), (0, .ref (ad 0)), (1, .int v1), (3, .int v3)]) C rfl (by decide) rfl dX7_borderOf_47 ?_
  refine X_iinc (v := v3 + (1 : Int32)) (vs1 := [(3, .int (v3 + (1 : Int32))), (2, .int (t1 ||| t0)), (0, .ref (ad 0)), (1, .int v1)]) C 3 rfl rfl (by decide) rfl dX7_borderOf_48 ?_
  refine X_goto C (tgt := 4) (by decide) dX7_borderOf_51 ?_
  obtain rfl := Option.some.inj h
  refine X_loc (vs1 := [(0, .ref (ad 0)), (1, .int v1), (2, .int (t1 ||| t0)), (3, .int (v3 + (1 : Int32)))]) [2, 3, 1, 0] rfl ?_
  exact kin _ rfl
set_option maxHeartbeats 4000000 in
set_option maxRecDepth 100000 in
theorem wj_m_borderOf_45_4 {l : Launch} {D : va_G} {cs : Nat → ClassId} {K : XK} {ad : Nat → Nat} {rest : va_W} (C : XC D cs K 4 rm_m_borderOf cX7_borderOf RX7 wsX7_borderOf (some .int)) {n : Nat} {σ : ST} {v1 : Int32} {v3 : Int32} {t0 : Int32} {o : (Int32 × Int32) ⊕ (Int32)} {e : (Int32)} (h : j_m_borderOf_45_4 n σ v1 v3 t0 = some o) (kin : ∀ (s : Int32 × Int32), o = .inl s → XW l D K 0 0 (wM cs ad σ rest) 4 [(0, .ref (ad 0)), (1, .int v1), (2, .int s.1), (3, .int s.2)] []) (kex : ∀ e1, o = .inr e1 → e1 = e) (kx : ∀ (t : Int32), e = t → XW l D K 0 0 (wM cs ad σ rest) 54 [(2, .int t)] []) : XW l D K 0 0 (wM cs ad σ rest) 45 [(0, .ref (ad 0)), (1, .int v1), (3, .int v3)] [.int t0] := by
  unfold j_m_borderOf_45_4 at h
  refine X_iconst (v := 0) C (by decide) dX7_borderOf_45 ?_
  exact wj_m_borderOf_46_4 C h kin kex kx
set_option maxHeartbeats 4000000 in
set_option maxRecDepth 100000 in
theorem wb_m_borderOf_4 {l : Launch} {D : va_G} {cs : Nat → ClassId} {K : XK} {ad : Nat → Nat} {rest : va_W} (C : XC D cs K 4 rm_m_borderOf cX7_borderOf RX7 wsX7_borderOf (some .int)) {n : Nat} {σ : ST} {v1 : Int32} {e : (Int32)} (kx : ∀ (t : Int32), e = t → XW l D K 0 0 (wM cs ad σ rest) 54 [(2, .int t)] []) : ∀ (q : Nat) (s : Int32 × Int32), lp (b_m_borderOf_4 n σ v1) q s = some e → XW l D K 0 0 (wM cs ad σ rest) 4 [(0, .ref (ad 0)), (1, .int v1), (2, .int s.1), (3, .int s.2)] [] := by
  refine lp_walk (G := fun (s : Int32 × Int32) => XW l D K 0 0 (wM cs ad σ rest) 4 [(0, .ref (ad 0)), (1, .int v1), (2, .int s.1), (3, .int s.2)] []) ?_
  intro s o h kin kex
  unfold b_m_borderOf_4 at h
  refine X_iload_n C 3 rfl rfl dX7_borderOf_4 ?_
  refine X_aload_n C 0 rfl rfl dX7_borderOf_5 ?_
  refine X_get C 0 2 hi7_m_borderOf hf95_m_borderOf (me_0 _ _ _ _) rfl (by decide) rfl dX7_borderOf_6 ?_
  refine X_icmpge C (tgt := 54) (by decide) dX7_borderOf_9 h (fun h => ?_) (fun h => ?_)
  · obtain rfl := Option.some.inj h
    refine X_loc (vs1 := [(2, .int s.1)]) [2] rfl ?_
    exact kx _ (kex _ rfl).symm
  · refine X_iload_n C 2 rfl rfl dX7_borderOf_12 ?_
    refine X_iload_n C 1 rfl rfl dX7_borderOf_13 ?_
    refine X_aload_n C 0 rfl rfl dX7_borderOf_14 ?_
    refine X_get C 0 4 hi7_m_borderOf hf17_m_borderOf (me_0 _ _ _ _) rfl (by decide) rfl dX7_borderOf_15 ?_
    refine X_iload_n C 3 rfl rfl dX7_borderOf_18 ?_
    refine X_iald C 2 (me_2 _ _ _ _) h dX7_borderOf_19 (fun h => ?_)
    refine X_ishr C dX7_borderOf_20 ?_
    refine X_iconst (v := 1) C (by decide) dX7_borderOf_21 ?_
    refine X_iand C dX7_borderOf_22 ?_
    refine X_ifeq C (tgt := 45) (by decide) dX7_borderOf_23 h (fun h => ?_) (fun h => ?_)
    · refine X_loc (vs1 := [(0, .ref (ad 0)), (1, .int v1), (3, .int s.2)]) [0, 1, 3] rfl ?_
      exact wj_m_borderOf_45_4 C h kin kex kx
    · refine X_iload_n C 1 rfl rfl dX7_borderOf_26 ?_
      refine X_aload_n C 0 rfl rfl dX7_borderOf_27 ?_
      refine X_get C 0 3 hi7_m_borderOf hf13_m_borderOf (me_0 _ _ _ _) rfl (by decide) rfl dX7_borderOf_28 ?_
      refine X_iload_n C 3 rfl rfl dX7_borderOf_31 ?_
      refine X_iald C 1 (me_1 _ _ _ _) h dX7_borderOf_32 (fun h => ?_)
      refine X_ishr C dX7_borderOf_33 ?_
      refine X_iconst (v := 1) C (by decide) dX7_borderOf_34 ?_
      refine X_iand C dX7_borderOf_35 ?_
      refine X_ifne C (tgt := 45) (by decide) dX7_borderOf_36 h (fun h => ?_) (fun h => ?_)
      · refine X_loc (vs1 := [(0, .ref (ad 0)), (1, .int v1), (3, .int s.2)]) [0, 1, 3] rfl ?_
        exact wj_m_borderOf_45_4 C h kin kex kx
      · refine X_iconst (v := 1) C (by decide) dX7_borderOf_39 ?_
        refine X_iload_n C 3 rfl rfl dX7_borderOf_40 ?_
        refine X_ishl C dX7_borderOf_41 ?_
        refine X_goto C (tgt := 46) (by decide) dX7_borderOf_42 ?_
        refine X_loc (vs1 := [(0, .ref (ad 0)), (1, .int v1), (3, .int s.2)]) [0, 1, 3] rfl ?_
        exact wj_m_borderOf_46_4 C h kin kex kx
set_option maxHeartbeats 4000000 in
set_option maxRecDepth 100000 in
theorem c_m_borderOf {l : Launch} {D : va_G} {cs : Nat → ClassId} {ad : Nat → Nat} {rest : va_W} {n : Nat} {σ : ST} {a0 : Int32} {o : Int32} (h : f_m_borderOf n σ a0 = some o) : CTi l D cs yX7_borderOf wsX7_borderOf rm_m_borderOf [.ref (ad 0), .int a0] (wM cs ad σ rest) o (wM cs ad σ rest) := by
  refine CTi_of (cc := cX7_borderOf) (nL := 4) (by decide) rfl (Nat.le_of_ble_eq_true rfl) ?_
  intro K C hret
  unfold f_m_borderOf at h
  refine X_loc (vs1 := [(0, .ref (ad 0)), (1, .int a0)]) [0, 1] rfl ?_
  refine X_iconst (v := 0) C (by decide) dX7_borderOf_0 ?_
  refine X_istore_n (vs1 := [(2, .int (0 : Int32)), (0, .ref (ad 0)), (1, .int a0)]) C rfl (by decide) rfl dX7_borderOf_1 ?_
  refine X_iconst (v := 0) C (by decide) dX7_borderOf_2 ?_
  refine X_istore_n (vs1 := [(3, .int (0 : Int32)), (2, .int (0 : Int32)), (0, .ref (ad 0)), (1, .int a0)]) C rfl (by decide) rfl dX7_borderOf_3 ?_
  obtain ⟨e1, he1, h⟩ := bnd_some h
  refine X_loc (vs1 := [(0, .ref (ad 0)), (1, .int a0), (2, .int (0 : Int32)), (3, .int (0 : Int32))]) [2, 3, 1, 0] rfl ?_
  refine wb_m_borderOf_4 C (e := e1) (fun t ht => ?_) n _ he1
  subst ht
  refine X_iload_n C 0 rfl rfl dX7_borderOf_54 ?_
  obtain rfl := Option.some.inj h
  exact hret _ _ dX7_borderOf_55

abbrev rm_m_makeSides : Room := { frames := 1, cells := 0, slots := 0, locals := 23 }
def j_m_makeSides_70_20 (n : Nat) (σ : ST) (v1 : Int32) : Option ((ST × Int32) ⊕ (ST)) :=
  some (.inl (σ, v1 + (1 : Int32)))
def b_m_makeSides_20 (n : Nat) (s : ST × Int32) : Option ((ST × Int32) ⊕ (ST)) :=
  bnd (f_m_all s.1) fun o3 =>
  if o3 ≤ s.2 then
    some (.inr s.1)
  else
    bnd (f_m_isSide n s.1 s.2) fun o4 =>
    if o4 = 0 then
      j_m_makeSides_70_20 n s.1 s.2
    else
      grd (jin (s.1.1 25) 256) <|
      nam (sA s.1 18 (upd (s.1.2 18) (jix (s.1.1 25)) s.2)) fun σ5 =>
      bnd (f_m_borderOf n σ5 s.2) fun o6 =>
      grd (jin (σ5.1 25) 256) <|
      nam (sA σ5 19 (upd (σ5.2 19) (jix (σ5.1 25)) o6)) fun σ7 =>
      nam (sS σ7 25 ((σ7.1 25) + (1 : Int32))) fun σ8 =>
      j_m_makeSides_70_20 n σ8 s.2
def f_m_makeSides (n : Nat) (σ : ST) : Option (ST) :=
  if (σ.1 24) = 0 then
    nam (sS σ 24 (1 : Int32)) fun σ1 =>
    nam (sS σ1 25 (0 : Int32)) fun σ2 =>
    bnd (lp (b_m_makeSides_20 n) n (σ2, (1 : Int32))) fun e9 =>
    some e9
  else
    some σ
theorem hf69_m_makeSides : Cond.fieldLink RX7 69 (TX7 27).1 (TX7 27).2.1 (TX7 27).2.2.1 ∈ wsX7_makeSides := by decide +kernel
theorem hf66_m_makeSides : Cond.fieldLink RX7 66 (TX7 26).1 (TX7 26).2.1 (TX7 26).2.2.1 ∈ wsX7_makeSides := by decide +kernel
theorem hf98_m_makeSides : Cond.fieldLink RX7 98 (TX7 25).1 (TX7 25).2.1 (TX7 25).2.2.1 ∈ wsX7_makeSides := by decide +kernel
theorem hf88_m_makeSides : Cond.fieldLink RX7 88 (TX7 24).1 (TX7 24).2.1 (TX7 24).2.2.1 ∈ wsX7_makeSides := by decide +kernel
theorem hi7_m_makeSides : ∀ w ∈ u_ws RX7 TX7 34, w ∈ wsX7_makeSides := by decide +kernel
set_option maxHeartbeats 4000000 in
set_option maxRecDepth 100000 in
theorem wj_m_makeSides_70_20 {l : Launch} {D : va_G} {cs : Nat → ClassId} {K : XK} {ad : Nat → Nat} {rest : va_W} (C : XC D cs K 2 rm_m_makeSides cX7_makeSides RX7 wsX7_makeSides none) {n : Nat} {σ : ST} {v1 : Int32} {o : (ST × Int32) ⊕ (ST)} {e : (ST)} (h : j_m_makeSides_70_20 n σ v1 = some o) (kin : ∀ (s : ST × Int32), o = .inl s → XW l D K 0 0 (wM cs ad s.1 rest) 20 [(0, .ref (ad 0)), (1, .int s.2)] []) (kex : ∀ e1, o = .inr e1 → e1 = e) (kx : ∀ (t : ST), e = t → XW l D K 0 0 (wM cs ad t rest) 76 [] []) : XW l D K 0 0 (wM cs ad σ rest) 70 [(0, .ref (ad 0)), (1, .int v1)] [] := by
  unfold j_m_makeSides_70_20 at h
  refine X_iinc (v := v1 + (1 : Int32)) (vs1 := [(1, .int (v1 + (1 : Int32))), (0, .ref (ad 0))]) C 1 rfl rfl (by decide) rfl dX7_makeSides_70 ?_
  refine X_goto C (tgt := 20) (by decide) dX7_makeSides_73 ?_
  obtain rfl := Option.some.inj h
  refine X_loc (vs1 := [(0, .ref (ad 0)), (1, .int (v1 + (1 : Int32)))]) [1, 0] rfl ?_
  exact kin _ rfl
set_option maxHeartbeats 4000000 in
set_option maxRecDepth 100000 in
theorem wb_m_makeSides_20 {l : Launch} {D : va_G} {cs : Nat → ClassId} {K : XK} {ad : Nat → Nat} {rest : va_W} (C : XC D cs K 2 rm_m_makeSides cX7_makeSides RX7 wsX7_makeSides none) {n : Nat} {e : (ST)} (kx : ∀ (t : ST), e = t → XW l D K 0 0 (wM cs ad t rest) 76 [] []) : ∀ (q : Nat) (s : ST × Int32), lp (b_m_makeSides_20 n) q s = some e → XW l D K 0 0 (wM cs ad s.1 rest) 20 [(0, .ref (ad 0)), (1, .int s.2)] [] := by
  refine lp_walk (G := fun (s : ST × Int32) => XW l D K 0 0 (wM cs ad s.1 rest) 20 [(0, .ref (ad 0)), (1, .int s.2)] []) ?_
  intro s o h kin kex
  unfold b_m_makeSides_20 at h
  refine X_iload_n C 1 rfl rfl dX7_makeSides_20 ?_
  refine X_aload_n C 0 rfl rfl dX7_makeSides_21 ?_
  obtain ⟨o3, eo3, h⟩ := bnd_some h
  refine X_callVi C (n := 0) (As := []) (c_m_all eo3) rfl gX7_makeSides_X7_all rfl rfl (me_0 _ _ _ _) rfl rfl (by decide +kernel) ⟨Nat.le_of_ble_eq_true rfl, Nat.le_of_ble_eq_true rfl⟩ ⟨Nat.zero_le _, Nat.zero_le _⟩ rfl rfl (Nat.le_of_ble_eq_true rfl) dX7_makeSides_22 ?_
  refine X_icmpge C (tgt := 76) (by decide) dX7_makeSides_25 h (fun h => ?_) (fun h => ?_)
  · obtain rfl := Option.some.inj h
    refine X_loc (vs1 := []) [] rfl ?_
    exact kx _ (kex _ rfl).symm
  · refine X_aload_n C 0 rfl rfl dX7_makeSides_28 ?_
    refine X_iload_n C 1 rfl rfl dX7_makeSides_29 ?_
    obtain ⟨o4, eo4, h⟩ := bnd_some h
    refine X_callVi C (n := 1) (As := [.int s.2]) (c_m_isSide eo4) rfl gX7_makeSides_X7_isSide rfl rfl (me_0 _ _ _ _) rfl rfl (by decide +kernel) ⟨Nat.le_of_ble_eq_true rfl, Nat.le_of_ble_eq_true rfl⟩ ⟨Nat.zero_le _, Nat.zero_le _⟩ rfl rfl (Nat.le_of_ble_eq_true rfl) dX7_makeSides_30 ?_
    refine X_ifeq C (tgt := 70) (by decide) dX7_makeSides_33 h (fun h => ?_) (fun h => ?_)
    · exact wj_m_makeSides_70_20 C h kin kex kx
    · refine X_aload_n C 0 rfl rfl dX7_makeSides_36 ?_
      refine X_get C 0 26 hi7_m_makeSides hf66_m_makeSides (me_0 _ _ _ _) rfl (by decide) rfl dX7_makeSides_37 ?_
      refine X_aload_n C 0 rfl rfl dX7_makeSides_40 ?_
      refine X_get C 0 25 hi7_m_makeSides hf98_m_makeSides (me_0 _ _ _ _) rfl (by decide) rfl dX7_makeSides_41 ?_
      refine X_iload_n C 1 rfl rfl dX7_makeSides_44 ?_
      refine X_iast C 18 (me_18 _ _ _ _) (ma_18 _ _ _ _ _) h dX7_makeSides_45 (fun h => ?_)
      refine X_nam (G := fun σ5 => XW l D K 0 0 (wM cs ad σ5 rest) 46 [(0, .ref (ad 0)), (1, .int s.2)] []) h (fun σ5 h => ?_)
      refine X_aload_n C 0 rfl rfl dX7_makeSides_46 ?_
      refine X_get C 0 27 hi7_m_makeSides hf69_m_makeSides (me_0 _ _ _ _) rfl (by decide) rfl dX7_makeSides_47 ?_
      refine X_aload_n C 0 rfl rfl dX7_makeSides_50 ?_
      refine X_get C 0 25 hi7_m_makeSides hf98_m_makeSides (me_0 _ _ _ _) rfl (by decide) rfl dX7_makeSides_51 ?_
      refine X_aload_n C 0 rfl rfl dX7_makeSides_54 ?_
      refine X_iload_n C 1 rfl rfl dX7_makeSides_55 ?_
      obtain ⟨o6, eo6, h⟩ := bnd_some h
      refine X_callVi C (n := 1) (As := [.int s.2]) (c_m_borderOf eo6) rfl gX7_makeSides_X7_borderOf rfl rfl (me_0 _ _ _ _) rfl rfl (by decide +kernel) ⟨Nat.le_of_ble_eq_true rfl, Nat.le_of_ble_eq_true rfl⟩ ⟨Nat.zero_le _, Nat.zero_le _⟩ rfl rfl (Nat.le_of_ble_eq_true rfl) dX7_makeSides_56 ?_
      refine X_iast C 19 (me_19 _ _ _ _) (ma_19 _ _ _ _ _) h dX7_makeSides_59 (fun h => ?_)
      refine X_nam (G := fun σ7 => XW l D K 0 0 (wM cs ad σ7 rest) 60 [(0, .ref (ad 0)), (1, .int s.2)] []) h (fun σ7 h => ?_)
      refine X_aload_n C 0 rfl rfl dX7_makeSides_60 ?_
      refine X_dup C rfl dX7_makeSides_61 ?_
      refine X_get C 0 25 hi7_m_makeSides hf98_m_makeSides (me_0 _ _ _ _) rfl (by decide) rfl dX7_makeSides_62 ?_
      refine X_iconst (v := 1) C (by decide) dX7_makeSides_65 ?_
      refine X_iadd C dX7_makeSides_66 ?_
      refine X_put (ty := .int) C 0 25 hi7_m_makeSides hf98_m_makeSides tyX7 tyX7_ok nmX7 (me_0 _ _ _ _) rfl (by decide) rfl (by decide +kernel) rfl rfl (Nat.le_of_ble_eq_true rfl) (ms_0_25 _ _ _ _ _) dX7_makeSides_67 ?_
      refine X_nam (G := fun σ8 => XW l D K 0 0 (wM cs ad σ8 rest) 70 [(0, .ref (ad 0)), (1, .int s.2)] []) h (fun σ8 h => ?_)
      exact wj_m_makeSides_70_20 C h kin kex kx
set_option maxHeartbeats 4000000 in
set_option maxRecDepth 100000 in
theorem c_m_makeSides {l : Launch} {D : va_G} {cs : Nat → ClassId} {ad : Nat → Nat} {rest : va_W} {n : Nat} {σ : ST} {o : ST} (h : f_m_makeSides n σ = some o) : CTv l D cs yX7_makeSides wsX7_makeSides rm_m_makeSides [.ref (ad 0)] (wM cs ad σ rest) (wM cs ad o rest) := by
  refine CTv_of (cc := cX7_makeSides) (nL := 2) (by decide) rfl (Nat.le_of_ble_eq_true rfl) ?_
  intro K C hret
  unfold f_m_makeSides at h
  refine X_loc (vs1 := [(0, .ref (ad 0))]) [0] rfl ?_
  refine X_aload_n C 0 rfl rfl dX7_makeSides_0 ?_
  refine X_get C 0 24 hi7_m_makeSides hf88_m_makeSides (me_0 _ _ _ _) rfl (by decide) rfl dX7_makeSides_1 ?_
  refine X_ifeq C (tgt := 8) (by decide) dX7_makeSides_4 h (fun h => ?_) (fun h => ?_)
  · refine X_aload_n C 0 rfl rfl dX7_makeSides_8 ?_
    refine X_iconst (v := 1) C (by decide) dX7_makeSides_9 ?_
    refine X_put (ty := .boolean) C 0 24 hi7_m_makeSides hf88_m_makeSides tyX7 tyX7_ok nmX7 (me_0 _ _ _ _) rfl (by decide) rfl (by decide +kernel) (jz_nar (by decide)) (jz_fit (by decide)) (Nat.le_of_ble_eq_true rfl) (ms_0_24 _ _ _ _ _) dX7_makeSides_10 ?_
    refine X_nam (G := fun σ1 => XW l D K 0 0 (wM cs ad σ1 rest) 13 [(0, .ref (ad 0))] []) h (fun σ1 h => ?_)
    refine X_aload_n C 0 rfl rfl dX7_makeSides_13 ?_
    refine X_iconst (v := 0) C (by decide) dX7_makeSides_14 ?_
    refine X_put (ty := .int) C 0 25 hi7_m_makeSides hf98_m_makeSides tyX7 tyX7_ok nmX7 (me_0 _ _ _ _) rfl (by decide) rfl (by decide +kernel) rfl rfl (Nat.le_of_ble_eq_true rfl) (ms_0_25 _ _ _ _ _) dX7_makeSides_15 ?_
    refine X_nam (G := fun σ2 => XW l D K 0 0 (wM cs ad σ2 rest) 18 [(0, .ref (ad 0))] []) h (fun σ2 h => ?_)
    refine X_iconst (v := 1) C (by decide) dX7_makeSides_18 ?_
    refine X_istore_n (vs1 := [(1, .int (1 : Int32)), (0, .ref (ad 0))]) C rfl (by decide) rfl dX7_makeSides_19 ?_
    obtain ⟨e9, he9, h⟩ := bnd_some h
    refine X_loc (vs1 := [(0, .ref (ad 0)), (1, .int (1 : Int32))]) [1, 0] rfl ?_
    refine wb_m_makeSides_20 C (e := e9) (fun t ht => ?_) n _ he9
    subst ht
    obtain rfl := Option.some.inj h
    exact hret _ _ dX7_makeSides_76
  · obtain rfl := Option.some.inj h
    exact hret _ _ dX7_makeSides_7

abbrev rm_m_hasNoneToSpare : Room := { frames := 0, cells := 0, slots := 0, locals := 0 }
def j_m_hasNoneToSpare_35_2 (n : Nat) (σ : ST) (v1 : Int32) (v2 : Int32) : Option ((Int32) ⊕ ((Unit) ⊕ (Int32))) :=
  some (.inl (v2 + (1 : Int32)))
def b_m_hasNoneToSpare_2 (n : Nat) (σ : ST) (v1 : Int32) (s : Int32) : Option ((Int32) ⊕ ((Unit) ⊕ (Int32))) :=
  if (σ.1 2) ≤ s then
    some (.inr (.inl ()))
  else
    if ((jshr v1 s) &&& (1 : Int32)) = 0 then
      j_m_hasNoneToSpare_35_2 n σ v1 s
    else
      grd (jin (v1 &&& ((jshl (1 : Int32) s) ^^^ (-1 : Int32))) 65536) <|
      if (σ.2 20 (jix (v1 &&& ((jshl (1 : Int32) s) ^^^ (-1 : Int32))))) = 0 then
        some (.inr (.inr (0 : Int32)))
      else
        j_m_hasNoneToSpare_35_2 n σ v1 s
def f_m_hasNoneToSpare (n : Nat) (σ : ST) (a0 : Int32) : Option (Int32) :=
  bnd (lp (b_m_hasNoneToSpare_2 n σ a0) n (0 : Int32)) fun e1 =>
  Sum.elim (fun t2 =>
    some (1 : Int32))
    (fun r => some r) e1
theorem hf73_m_hasNoneToSpare : Cond.fieldLink RX7 73 (TX7 28).1 (TX7 28).2.1 (TX7 28).2.2.1 ∈ wsX7_hasNoneToSpare := by decide +kernel
theorem hf95_m_hasNoneToSpare : Cond.fieldLink RX7 95 (TX7 2).1 (TX7 2).2.1 (TX7 2).2.2.1 ∈ wsX7_hasNoneToSpare := by decide +kernel
theorem hi7_m_hasNoneToSpare : ∀ w ∈ u_ws RX7 TX7 34, w ∈ wsX7_hasNoneToSpare := by decide +kernel
set_option maxHeartbeats 4000000 in
set_option maxRecDepth 100000 in
theorem wj_m_hasNoneToSpare_35_2 {l : Launch} {D : va_G} {cs : Nat → ClassId} {K : XK} {ad : Nat → Nat} {rest : va_W} (C : XC D cs K 3 rm_m_hasNoneToSpare cX7_hasNoneToSpare RX7 wsX7_hasNoneToSpare (some .boolean)) {n : Nat} {σ : ST} {v1 : Int32} {v2 : Int32} {o : (Int32) ⊕ ((Unit) ⊕ (Int32))} {e : ((Unit) ⊕ (Int32))} (h : j_m_hasNoneToSpare_35_2 n σ v1 v2 = some o) (kin : ∀ (s : Int32), o = .inl s → XW l D K 0 0 (wM cs ad σ rest) 2 [(0, .ref (ad 0)), (1, .int v1), (2, .int s)] []) (kex : ∀ e1, o = .inr e1 → e1 = e) (kx : ∀ (t : Unit), e = .inl t → XW l D K 0 0 (wM cs ad σ rest) 41 [] []) (kr : ∀ (t : Int32), e = .inr t → XRz l D K cX7_hasNoneToSpare t (wM cs ad σ rest)) : XW l D K 0 0 (wM cs ad σ rest) 35 [(0, .ref (ad 0)), (1, .int v1), (2, .int v2)] [] := by
  unfold j_m_hasNoneToSpare_35_2 at h
  refine X_iinc (v := v2 + (1 : Int32)) (vs1 := [(2, .int (v2 + (1 : Int32))), (0, .ref (ad 0)), (1, .int v1)]) C 2 rfl rfl (by decide) rfl dX7_hasNoneToSpare_35 ?_
  refine X_goto C (tgt := 2) (by decide) dX7_hasNoneToSpare_38 ?_
  obtain rfl := Option.some.inj h
  refine X_loc (vs1 := [(0, .ref (ad 0)), (1, .int v1), (2, .int (v2 + (1 : Int32)))]) [1, 2, 0] rfl ?_
  exact kin _ rfl
set_option maxHeartbeats 4000000 in
set_option maxRecDepth 100000 in
theorem wb_m_hasNoneToSpare_2 {l : Launch} {D : va_G} {cs : Nat → ClassId} {K : XK} {ad : Nat → Nat} {rest : va_W} (C : XC D cs K 3 rm_m_hasNoneToSpare cX7_hasNoneToSpare RX7 wsX7_hasNoneToSpare (some .boolean)) {n : Nat} {σ : ST} {v1 : Int32} {e : ((Unit) ⊕ (Int32))} (kx : ∀ (t : Unit), e = .inl t → XW l D K 0 0 (wM cs ad σ rest) 41 [] []) (kr : ∀ (t : Int32), e = .inr t → XRz l D K cX7_hasNoneToSpare t (wM cs ad σ rest)) : ∀ (q : Nat) (s : Int32), lp (b_m_hasNoneToSpare_2 n σ v1) q s = some e → XW l D K 0 0 (wM cs ad σ rest) 2 [(0, .ref (ad 0)), (1, .int v1), (2, .int s)] [] := by
  refine lp_walk (G := fun (s : Int32) => XW l D K 0 0 (wM cs ad σ rest) 2 [(0, .ref (ad 0)), (1, .int v1), (2, .int s)] []) ?_
  intro s o h kin kex
  unfold b_m_hasNoneToSpare_2 at h
  refine X_iload_n C 2 rfl rfl dX7_hasNoneToSpare_2 ?_
  refine X_aload_n C 0 rfl rfl dX7_hasNoneToSpare_3 ?_
  refine X_get C 0 2 hi7_m_hasNoneToSpare hf95_m_hasNoneToSpare (me_0 _ _ _ _) rfl (by decide) rfl dX7_hasNoneToSpare_4 ?_
  refine X_icmpge C (tgt := 41) (by decide) dX7_hasNoneToSpare_7 h (fun h => ?_) (fun h => ?_)
  · obtain rfl := Option.some.inj h
    refine X_loc (vs1 := []) [] rfl ?_
    exact kx _ (kex _ rfl).symm
  · refine X_iload_n C 1 rfl rfl dX7_hasNoneToSpare_10 ?_
    refine X_iload_n C 2 rfl rfl dX7_hasNoneToSpare_11 ?_
    refine X_ishr C dX7_hasNoneToSpare_12 ?_
    refine X_iconst (v := 1) C (by decide) dX7_hasNoneToSpare_13 ?_
    refine X_iand C dX7_hasNoneToSpare_14 ?_
    refine X_ifeq C (tgt := 35) (by decide) dX7_hasNoneToSpare_15 h (fun h => ?_) (fun h => ?_)
    · exact wj_m_hasNoneToSpare_35_2 C h kin kex kx kr
    · refine X_aload_n C 0 rfl rfl dX7_hasNoneToSpare_18 ?_
      refine X_get C 0 28 hi7_m_hasNoneToSpare hf73_m_hasNoneToSpare (me_0 _ _ _ _) rfl (by decide) rfl dX7_hasNoneToSpare_19 ?_
      refine X_iload_n C 1 rfl rfl dX7_hasNoneToSpare_22 ?_
      refine X_iconst (v := 1) C (by decide) dX7_hasNoneToSpare_23 ?_
      refine X_iload_n C 2 rfl rfl dX7_hasNoneToSpare_24 ?_
      refine X_ishl C dX7_hasNoneToSpare_25 ?_
      refine X_iconst (v := (-1)) C (by decide) dX7_hasNoneToSpare_26 ?_
      refine X_ixor C dX7_hasNoneToSpare_27 ?_
      refine X_iand C dX7_hasNoneToSpare_28 ?_
      refine X_zald C 20 (me_20 _ _ _ _) h dX7_hasNoneToSpare_29 (fun h => ?_)
      refine X_ifne C (tgt := 35) (by decide) dX7_hasNoneToSpare_30 h (fun h => ?_) (fun h => ?_)
      · exact wj_m_hasNoneToSpare_35_2 C h kin kex kx kr
      · refine X_iconst (v := 0) C (by decide) dX7_hasNoneToSpare_33 ?_
        obtain rfl := Option.some.inj h
        exact kr _ (kex _ rfl).symm _ _ jz_0 dX7_hasNoneToSpare_34
set_option maxHeartbeats 4000000 in
set_option maxRecDepth 100000 in
theorem c_m_hasNoneToSpare {l : Launch} {D : va_G} {cs : Nat → ClassId} {ad : Nat → Nat} {rest : va_W} {n : Nat} {σ : ST} {a0 : Int32} {o : Int32} (h : f_m_hasNoneToSpare n σ a0 = some o) : CTi l D cs yX7_hasNoneToSpare wsX7_hasNoneToSpare rm_m_hasNoneToSpare [.ref (ad 0), .int a0] (wM cs ad σ rest) o (wM cs ad σ rest) := by
  refine CTz_of (cc := cX7_hasNoneToSpare) (nL := 3) (by decide) rfl (Nat.le_of_ble_eq_true rfl) ?_
  intro K C hret
  unfold f_m_hasNoneToSpare at h
  refine X_loc (vs1 := [(0, .ref (ad 0)), (1, .int a0)]) [0, 1] rfl ?_
  refine X_iconst (v := 0) C (by decide) dX7_hasNoneToSpare_0 ?_
  refine X_istore_n (vs1 := [(2, .int (0 : Int32)), (0, .ref (ad 0)), (1, .int a0)]) C rfl (by decide) rfl dX7_hasNoneToSpare_1 ?_
  obtain ⟨e1, he1, h⟩ := bnd_some h
  refine X_loc (vs1 := [(0, .ref (ad 0)), (1, .int a0), (2, .int (0 : Int32))]) [1, 2, 0] rfl ?_
  refine wb_m_hasNoneToSpare_2 C (e := e1) (fun t2 ht => ?_) (fun r ht => ?_) n _ he1
  · subst ht
    dsimp only [Sum.elim] at h
    refine X_iconst (v := 1) C (by decide) dX7_hasNoneToSpare_41 ?_
    obtain rfl := Option.some.inj h
    exact hret _ _ jz_1 dX7_hasNoneToSpare_42
  · subst ht
    dsimp only [Sum.elim] at h
    obtain rfl := Option.some.inj h
    exact hret

abbrev rm_m_makeSets : Room := { frames := 2, cells := 0, slots := 0, locals := 44 }
def b_m_makeSets_26 (n : Nat) (v1 : Int32) (s : ST × Int32) : Option ((ST × Int32) ⊕ (ST)) :=
  if v1 ≤ s.2 then
    some (.inr s.1)
  else
    grd (jin s.2 65536) <|
    nam (sA s.1 20 (upd (s.1.2 20) (jix s.2) (jnz (0 : Int32)))) fun σ4 =>
    some (.inl (σ4, s.2 + (1 : Int32)))
def b_m_makeSets_46 (n : Nat) (v1 : Int32) (s : ST × Int32) : Option ((ST × Int32) ⊕ (ST)) :=
  if (s.1.1 25) ≤ s.2 then
    some (.inr s.1)
  else
    grd (jin s.2 256) <|
    grd (jin ((v1 - (1 : Int32)) &&& ((s.1.2 19 (jix s.2)) ^^^ (-1 : Int32))) 65536) <|
    nam (sA s.1 20 (upd (s.1.2 20) (jix ((v1 - (1 : Int32)) &&& ((s.1.2 19 (jix s.2)) ^^^ (-1 : Int32)))) (jnz (1 : Int32)))) fun σ6 =>
    some (.inl (σ6, s.2 + (1 : Int32)))
def j_m_makeSets_123_90 (n : Nat) (σ : ST) (v1 : Int32) (v2 : Int32) (v3 : Int32) : Option ((ST × Int32) ⊕ (ST)) :=
  some (.inl (σ, v3 + (1 : Int32)))
def b_m_makeSets_90 (n : Nat) (v1 : Int32) (v2 : Int32) (s : ST × Int32) : Option ((ST × Int32) ⊕ (ST)) :=
  if v1 ≤ s.2 then
    some (.inr s.1)
  else
    if ((jshr s.2 v2) &&& (1 : Int32)) = 0 then
      grd (jin (s.2 ||| (jshl (1 : Int32) v2)) 65536) <|
      if (s.1.2 20 (jix (s.2 ||| (jshl (1 : Int32) v2)))) = 0 then
        j_m_makeSets_123_90 n s.1 v1 v2 s.2
      else
        grd (jin s.2 65536) <|
        nam (sA s.1 20 (upd (s.1.2 20) (jix s.2) (jnz (1 : Int32)))) fun σ8 =>
        j_m_makeSets_123_90 n σ8 v1 v2 s.2
    else
      j_m_makeSets_123_90 n s.1 v1 v2 s.2
def b_m_makeSets_80 (n : Nat) (v1 : Int32) (s : ST × Int32) : Option ((ST × Int32) ⊕ (ST)) :=
  if (s.1.1 2) ≤ s.2 then
    some (.inr s.1)
  else
    bnd (lp (b_m_makeSets_90 n v1 s.2) n (s.1, (0 : Int32))) fun e9 =>
    some (.inl (e9, s.2 + (1 : Int32)))
def j_m_makeSets_184_142 (n : Nat) (σ : ST) (v1 : Int32) (v2 : Int32) : Option ((ST × Int32) ⊕ (ST)) :=
  some (.inl (σ, v2 + (1 : Int32)))
def b_m_makeSets_142 (n : Nat) (v1 : Int32) (s : ST × Int32) : Option ((ST × Int32) ⊕ (ST)) :=
  if v1 ≤ s.2 then
    some (.inr s.1)
  else
    grd (jin s.2 65536) <|
    if (s.1.2 20 (jix s.2)) = 0 then
      bnd (f_m_hasNoneToSpare n s.1 s.2) fun o12 =>
      if o12 = 0 then
        j_m_makeSets_184_142 n s.1 v1 s.2
      else
        grd (jin (s.1.1 29) 13000) <|
        nam (sA s.1 21 (upd (s.1.2 21) (jix (s.1.1 29)) s.2)) fun σ13 =>
        nam (sS σ13 29 ((σ13.1 29) + (1 : Int32))) fun σ14 =>
        j_m_makeSets_184_142 n σ14 v1 s.2
    else
      j_m_makeSets_184_142 n s.1 v1 s.2
def f_m_makeSets (n : Nat) (σ : ST) : Option (ST) :=
  bnd (f_m_makeSides n σ) fun o1 =>
  if (o1.1 31) = 0 then
    nam (sS o1 31 (1 : Int32)) fun σ2 =>
    nam (jshl (1 : Int32) (σ2.1 2)) fun x3 =>
    bnd (lp (b_m_makeSets_26 n x3) n (σ2, (0 : Int32))) fun e5 =>
    bnd (lp (b_m_makeSets_46 n x3) n (e5, (0 : Int32))) fun e7 =>
    bnd (lp (b_m_makeSets_80 n x3) n (e7, (0 : Int32))) fun e10 =>
    nam (sS e10 29 (0 : Int32)) fun σ11 =>
    bnd (lp (b_m_makeSets_142 n x3) n (σ11, (0 : Int32))) fun e15 =>
    some e15
  else
    some o1
theorem hf76_m_makeSets : Cond.fieldLink RX7 76 (TX7 30).1 (TX7 30).2.1 (TX7 30).2.2.1 ∈ wsX7_makeSets := by decide +kernel
theorem hf116_m_makeSets : Cond.fieldLink RX7 116 (TX7 29).1 (TX7 29).2.1 (TX7 29).2.2.1 ∈ wsX7_makeSets := by decide +kernel
theorem hf69_m_makeSets : Cond.fieldLink RX7 69 (TX7 27).1 (TX7 27).2.1 (TX7 27).2.2.1 ∈ wsX7_makeSets := by decide +kernel
theorem hf98_m_makeSets : Cond.fieldLink RX7 98 (TX7 25).1 (TX7 25).2.1 (TX7 25).2.2.1 ∈ wsX7_makeSets := by decide +kernel
theorem hf73_m_makeSets : Cond.fieldLink RX7 73 (TX7 28).1 (TX7 28).2.1 (TX7 28).2.2.1 ∈ wsX7_makeSets := by decide +kernel
theorem hf95_m_makeSets : Cond.fieldLink RX7 95 (TX7 2).1 (TX7 2).2.1 (TX7 2).2.2.1 ∈ wsX7_makeSets := by decide +kernel
theorem hf92_m_makeSets : Cond.fieldLink RX7 92 (TX7 31).1 (TX7 31).2.1 (TX7 31).2.2.1 ∈ wsX7_makeSets := by decide +kernel
theorem hi7_m_makeSets : ∀ w ∈ u_ws RX7 TX7 34, w ∈ wsX7_makeSets := by decide +kernel
set_option maxHeartbeats 4000000 in
set_option maxRecDepth 100000 in
theorem wb_m_makeSets_26 {l : Launch} {D : va_G} {cs : Nat → ClassId} {K : XK} {ad : Nat → Nat} {rest : va_W} (C : XC D cs K 4 rm_m_makeSets cX7_makeSets RX7 wsX7_makeSets none) {n : Nat} {v1 : Int32} {e : (ST)} (kx : ∀ (t : ST), e = t → XW l D K 0 0 (wM cs ad t rest) 44 [(0, .ref (ad 0)), (1, .int v1)] []) : ∀ (q : Nat) (s : ST × Int32), lp (b_m_makeSets_26 n v1) q s = some e → XW l D K 0 0 (wM cs ad s.1 rest) 26 [(0, .ref (ad 0)), (1, .int v1), (2, .int s.2)] [] := by
  refine lp_walk (G := fun (s : ST × Int32) => XW l D K 0 0 (wM cs ad s.1 rest) 26 [(0, .ref (ad 0)), (1, .int v1), (2, .int s.2)] []) ?_
  intro s o h kin kex
  unfold b_m_makeSets_26 at h
  refine X_iload_n C 2 rfl rfl dX7_makeSets_26 ?_
  refine X_iload_n C 1 rfl rfl dX7_makeSets_27 ?_
  refine X_icmpge C (tgt := 44) (by decide) dX7_makeSets_28 h (fun h => ?_) (fun h => ?_)
  · obtain rfl := Option.some.inj h
    refine X_loc (vs1 := [(0, .ref (ad 0)), (1, .int v1)]) [0, 1] rfl ?_
    exact kx _ (kex _ rfl).symm
  · refine X_aload_n C 0 rfl rfl dX7_makeSets_31 ?_
    refine X_get C 0 28 hi7_m_makeSets hf73_m_makeSets (me_0 _ _ _ _) rfl (by decide) rfl dX7_makeSets_32 ?_
    refine X_iload_n C 2 rfl rfl dX7_makeSets_35 ?_
    refine X_iconst (v := 0) C (by decide) dX7_makeSets_36 ?_
    refine X_zast C 20 (me_20 _ _ _ _) (ma_20 _ _ _ _ _) h dX7_makeSets_37 (fun h => ?_)
    refine X_nam (G := fun σ4 => XW l D K 0 0 (wM cs ad σ4 rest) 38 [(0, .ref (ad 0)), (1, .int v1), (2, .int s.2)] []) h (fun σ4 h => ?_)
    refine X_iinc (v := s.2 + (1 : Int32)) (vs1 := [(2, .int (s.2 + (1 : Int32))), (0, .ref (ad 0)), (1, .int v1)]) C 2 rfl rfl (by decide) rfl dX7_makeSets_38 ?_
    refine X_goto C (tgt := 26) (by decide) dX7_makeSets_41 ?_
    obtain rfl := Option.some.inj h
    refine X_loc (vs1 := [(0, .ref (ad 0)), (1, .int v1), (2, .int (s.2 + (1 : Int32)))]) [1, 2, 0] rfl ?_
    exact kin _ rfl
set_option maxHeartbeats 4000000 in
set_option maxRecDepth 100000 in
theorem wb_m_makeSets_46 {l : Launch} {D : va_G} {cs : Nat → ClassId} {K : XK} {ad : Nat → Nat} {rest : va_W} (C : XC D cs K 4 rm_m_makeSets cX7_makeSets RX7 wsX7_makeSets none) {n : Nat} {v1 : Int32} {e : (ST)} (kx : ∀ (t : ST), e = t → XW l D K 0 0 (wM cs ad t rest) 78 [(0, .ref (ad 0)), (1, .int v1)] []) : ∀ (q : Nat) (s : ST × Int32), lp (b_m_makeSets_46 n v1) q s = some e → XW l D K 0 0 (wM cs ad s.1 rest) 46 [(0, .ref (ad 0)), (1, .int v1), (2, .int s.2)] [] := by
  refine lp_walk (G := fun (s : ST × Int32) => XW l D K 0 0 (wM cs ad s.1 rest) 46 [(0, .ref (ad 0)), (1, .int v1), (2, .int s.2)] []) ?_
  intro s o h kin kex
  unfold b_m_makeSets_46 at h
  refine X_iload_n C 2 rfl rfl dX7_makeSets_46 ?_
  refine X_aload_n C 0 rfl rfl dX7_makeSets_47 ?_
  refine X_get C 0 25 hi7_m_makeSets hf98_m_makeSets (me_0 _ _ _ _) rfl (by decide) rfl dX7_makeSets_48 ?_
  refine X_icmpge C (tgt := 78) (by decide) dX7_makeSets_51 h (fun h => ?_) (fun h => ?_)
  · obtain rfl := Option.some.inj h
    refine X_loc (vs1 := [(0, .ref (ad 0)), (1, .int v1)]) [0, 1] rfl ?_
    exact kx _ (kex _ rfl).symm
  · refine X_aload_n C 0 rfl rfl dX7_makeSets_54 ?_
    refine X_get C 0 28 hi7_m_makeSets hf73_m_makeSets (me_0 _ _ _ _) rfl (by decide) rfl dX7_makeSets_55 ?_
    refine X_iload_n C 1 rfl rfl dX7_makeSets_58 ?_
    refine X_iconst (v := 1) C (by decide) dX7_makeSets_59 ?_
    refine X_isub C dX7_makeSets_60 ?_
    refine X_aload_n C 0 rfl rfl dX7_makeSets_61 ?_
    refine X_get C 0 27 hi7_m_makeSets hf69_m_makeSets (me_0 _ _ _ _) rfl (by decide) rfl dX7_makeSets_62 ?_
    refine X_iload_n C 2 rfl rfl dX7_makeSets_65 ?_
    refine X_iald C 19 (me_19 _ _ _ _) h dX7_makeSets_66 (fun h => ?_)
    refine X_iconst (v := (-1)) C (by decide) dX7_makeSets_67 ?_
    refine X_ixor C dX7_makeSets_68 ?_
    refine X_iand C dX7_makeSets_69 ?_
    refine X_iconst (v := 1) C (by decide) dX7_makeSets_70 ?_
    refine X_zast C 20 (me_20 _ _ _ _) (ma_20 _ _ _ _ _) h dX7_makeSets_71 (fun h => ?_)
    refine X_nam (G := fun σ6 => XW l D K 0 0 (wM cs ad σ6 rest) 72 [(0, .ref (ad 0)), (1, .int v1), (2, .int s.2)] []) h (fun σ6 h => ?_)
    refine X_iinc (v := s.2 + (1 : Int32)) (vs1 := [(2, .int (s.2 + (1 : Int32))), (0, .ref (ad 0)), (1, .int v1)]) C 2 rfl rfl (by decide) rfl dX7_makeSets_72 ?_
    refine X_goto C (tgt := 46) (by decide) dX7_makeSets_75 ?_
    obtain rfl := Option.some.inj h
    refine X_loc (vs1 := [(0, .ref (ad 0)), (1, .int v1), (2, .int (s.2 + (1 : Int32)))]) [1, 2, 0] rfl ?_
    exact kin _ rfl
set_option maxHeartbeats 4000000 in
set_option maxRecDepth 100000 in
theorem wj_m_makeSets_123_90 {l : Launch} {D : va_G} {cs : Nat → ClassId} {K : XK} {ad : Nat → Nat} {rest : va_W} (C : XC D cs K 4 rm_m_makeSets cX7_makeSets RX7 wsX7_makeSets none) {n : Nat} {σ : ST} {v1 : Int32} {v2 : Int32} {v3 : Int32} {o : (ST × Int32) ⊕ (ST)} {e : (ST)} (h : j_m_makeSets_123_90 n σ v1 v2 v3 = some o) (kin : ∀ (s : ST × Int32), o = .inl s → XW l D K 0 0 (wM cs ad s.1 rest) 90 [(0, .ref (ad 0)), (1, .int v1), (2, .int v2), (3, .int s.2)] []) (kex : ∀ e1, o = .inr e1 → e1 = e) (kx : ∀ (t : ST), e = t → XW l D K 0 0 (wM cs ad t rest) 129 [(0, .ref (ad 0)), (1, .int v1), (2, .int v2)] []) : XW l D K 0 0 (wM cs ad σ rest) 123 [(0, .ref (ad 0)), (1, .int v1), (2, .int v2), (3, .int v3)] [] := by
  unfold j_m_makeSets_123_90 at h
  refine X_iinc (v := v3 + (1 : Int32)) (vs1 := [(3, .int (v3 + (1 : Int32))), (0, .ref (ad 0)), (1, .int v1), (2, .int v2)]) C 3 rfl rfl (by decide) rfl dX7_makeSets_123 ?_
  refine X_goto C (tgt := 90) (by decide) dX7_makeSets_126 ?_
  obtain rfl := Option.some.inj h
  refine X_loc (vs1 := [(0, .ref (ad 0)), (1, .int v1), (2, .int v2), (3, .int (v3 + (1 : Int32)))]) [1, 2, 3, 0] rfl ?_
  exact kin _ rfl
set_option maxHeartbeats 4000000 in
set_option maxRecDepth 100000 in
theorem wb_m_makeSets_90 {l : Launch} {D : va_G} {cs : Nat → ClassId} {K : XK} {ad : Nat → Nat} {rest : va_W} (C : XC D cs K 4 rm_m_makeSets cX7_makeSets RX7 wsX7_makeSets none) {n : Nat} {v1 : Int32} {v2 : Int32} {e : (ST)} (kx : ∀ (t : ST), e = t → XW l D K 0 0 (wM cs ad t rest) 129 [(0, .ref (ad 0)), (1, .int v1), (2, .int v2)] []) : ∀ (q : Nat) (s : ST × Int32), lp (b_m_makeSets_90 n v1 v2) q s = some e → XW l D K 0 0 (wM cs ad s.1 rest) 90 [(0, .ref (ad 0)), (1, .int v1), (2, .int v2), (3, .int s.2)] [] := by
  refine lp_walk (G := fun (s : ST × Int32) => XW l D K 0 0 (wM cs ad s.1 rest) 90 [(0, .ref (ad 0)), (1, .int v1), (2, .int v2), (3, .int s.2)] []) ?_
  intro s o h kin kex
  unfold b_m_makeSets_90 at h
  refine X_iload_n C 3 rfl rfl dX7_makeSets_90 ?_
  refine X_iload_n C 1 rfl rfl dX7_makeSets_91 ?_
  refine X_icmpge C (tgt := 129) (by decide) dX7_makeSets_92 h (fun h => ?_) (fun h => ?_)
  · obtain rfl := Option.some.inj h
    refine X_loc (vs1 := [(0, .ref (ad 0)), (1, .int v1), (2, .int v2)]) [0, 1, 2] rfl ?_
    exact kx _ (kex _ rfl).symm
  · refine X_iload_n C 3 rfl rfl dX7_makeSets_95 ?_
    refine X_iload_n C 2 rfl rfl dX7_makeSets_96 ?_
    refine X_ishr C dX7_makeSets_97 ?_
    refine X_iconst (v := 1) C (by decide) dX7_makeSets_98 ?_
    refine X_iand C dX7_makeSets_99 ?_
    refine X_ifne C (tgt := 123) (by decide) dX7_makeSets_100 h (fun h => ?_) (fun h => ?_)
    · exact wj_m_makeSets_123_90 C h kin kex kx
    · refine X_aload_n C 0 rfl rfl dX7_makeSets_103 ?_
      refine X_get C 0 28 hi7_m_makeSets hf73_m_makeSets (me_0 _ _ _ _) rfl (by decide) rfl dX7_makeSets_104 ?_
      refine X_iload_n C 3 rfl rfl dX7_makeSets_107 ?_
      refine X_iconst (v := 1) C (by decide) dX7_makeSets_108 ?_
      refine X_iload_n C 2 rfl rfl dX7_makeSets_109 ?_
      refine X_ishl C dX7_makeSets_110 ?_
      refine X_ior C dX7_makeSets_111 ?_
      refine X_zald C 20 (me_20 _ _ _ _) h dX7_makeSets_112 (fun h => ?_)
      refine X_ifeq C (tgt := 123) (by decide) dX7_makeSets_113 h (fun h => ?_) (fun h => ?_)
      · exact wj_m_makeSets_123_90 C h kin kex kx
      · refine X_aload_n C 0 rfl rfl dX7_makeSets_116 ?_
        refine X_get C 0 28 hi7_m_makeSets hf73_m_makeSets (me_0 _ _ _ _) rfl (by decide) rfl dX7_makeSets_117 ?_
        refine X_iload_n C 3 rfl rfl dX7_makeSets_120 ?_
        refine X_iconst (v := 1) C (by decide) dX7_makeSets_121 ?_
        refine X_zast C 20 (me_20 _ _ _ _) (ma_20 _ _ _ _ _) h dX7_makeSets_122 (fun h => ?_)
        refine X_nam (G := fun σ8 => XW l D K 0 0 (wM cs ad σ8 rest) 123 [(0, .ref (ad 0)), (1, .int v1), (2, .int v2), (3, .int s.2)] []) h (fun σ8 h => ?_)
        exact wj_m_makeSets_123_90 C h kin kex kx
set_option maxHeartbeats 4000000 in
set_option maxRecDepth 100000 in
theorem wb_m_makeSets_80 {l : Launch} {D : va_G} {cs : Nat → ClassId} {K : XK} {ad : Nat → Nat} {rest : va_W} (C : XC D cs K 4 rm_m_makeSets cX7_makeSets RX7 wsX7_makeSets none) {n : Nat} {v1 : Int32} {e : (ST)} (kx : ∀ (t : ST), e = t → XW l D K 0 0 (wM cs ad t rest) 135 [(0, .ref (ad 0)), (1, .int v1)] []) : ∀ (q : Nat) (s : ST × Int32), lp (b_m_makeSets_80 n v1) q s = some e → XW l D K 0 0 (wM cs ad s.1 rest) 80 [(0, .ref (ad 0)), (1, .int v1), (2, .int s.2)] [] := by
  refine lp_walk (G := fun (s : ST × Int32) => XW l D K 0 0 (wM cs ad s.1 rest) 80 [(0, .ref (ad 0)), (1, .int v1), (2, .int s.2)] []) ?_
  intro s o h kin kex
  unfold b_m_makeSets_80 at h
  refine X_iload_n C 2 rfl rfl dX7_makeSets_80 ?_
  refine X_aload_n C 0 rfl rfl dX7_makeSets_81 ?_
  refine X_get C 0 2 hi7_m_makeSets hf95_m_makeSets (me_0 _ _ _ _) rfl (by decide) rfl dX7_makeSets_82 ?_
  refine X_icmpge C (tgt := 135) (by decide) dX7_makeSets_85 h (fun h => ?_) (fun h => ?_)
  · obtain rfl := Option.some.inj h
    refine X_loc (vs1 := [(0, .ref (ad 0)), (1, .int v1)]) [0, 1] rfl ?_
    exact kx _ (kex _ rfl).symm
  · refine X_iconst (v := 0) C (by decide) dX7_makeSets_88 ?_
    refine X_istore_n (vs1 := [(3, .int (0 : Int32)), (0, .ref (ad 0)), (1, .int v1), (2, .int s.2)]) C rfl (by decide) rfl dX7_makeSets_89 ?_
    obtain ⟨e9, he9, h⟩ := bnd_some h
    refine X_loc (vs1 := [(0, .ref (ad 0)), (1, .int v1), (2, .int s.2), (3, .int (0 : Int32))]) [1, 2, 3, 0] rfl ?_
    refine wb_m_makeSets_90 C (e := e9) (fun t ht => ?_) n _ he9
    subst ht
    refine X_iinc (v := s.2 + (1 : Int32)) (vs1 := [(2, .int (s.2 + (1 : Int32))), (0, .ref (ad 0)), (1, .int v1)]) C 2 rfl rfl (by decide) rfl dX7_makeSets_129 ?_
    refine X_goto C (tgt := 80) (by decide) dX7_makeSets_132 ?_
    obtain rfl := Option.some.inj h
    refine X_loc (vs1 := [(0, .ref (ad 0)), (1, .int v1), (2, .int (s.2 + (1 : Int32)))]) [1, 2, 0] rfl ?_
    exact kin _ rfl
set_option maxHeartbeats 4000000 in
set_option maxRecDepth 100000 in
theorem wj_m_makeSets_184_142 {l : Launch} {D : va_G} {cs : Nat → ClassId} {K : XK} {ad : Nat → Nat} {rest : va_W} (C : XC D cs K 4 rm_m_makeSets cX7_makeSets RX7 wsX7_makeSets none) {n : Nat} {σ : ST} {v1 : Int32} {v2 : Int32} {o : (ST × Int32) ⊕ (ST)} {e : (ST)} (h : j_m_makeSets_184_142 n σ v1 v2 = some o) (kin : ∀ (s : ST × Int32), o = .inl s → XW l D K 0 0 (wM cs ad s.1 rest) 142 [(0, .ref (ad 0)), (1, .int v1), (2, .int s.2)] []) (kex : ∀ e1, o = .inr e1 → e1 = e) (kx : ∀ (t : ST), e = t → XW l D K 0 0 (wM cs ad t rest) 190 [] []) : XW l D K 0 0 (wM cs ad σ rest) 184 [(0, .ref (ad 0)), (1, .int v1), (2, .int v2)] [] := by
  unfold j_m_makeSets_184_142 at h
  refine X_iinc (v := v2 + (1 : Int32)) (vs1 := [(2, .int (v2 + (1 : Int32))), (0, .ref (ad 0)), (1, .int v1)]) C 2 rfl rfl (by decide) rfl dX7_makeSets_184 ?_
  refine X_goto C (tgt := 142) (by decide) dX7_makeSets_187 ?_
  obtain rfl := Option.some.inj h
  refine X_loc (vs1 := [(0, .ref (ad 0)), (1, .int v1), (2, .int (v2 + (1 : Int32)))]) [1, 2, 0] rfl ?_
  exact kin _ rfl
set_option maxHeartbeats 4000000 in
set_option maxRecDepth 100000 in
theorem wb_m_makeSets_142 {l : Launch} {D : va_G} {cs : Nat → ClassId} {K : XK} {ad : Nat → Nat} {rest : va_W} (C : XC D cs K 4 rm_m_makeSets cX7_makeSets RX7 wsX7_makeSets none) {n : Nat} {v1 : Int32} {e : (ST)} (kx : ∀ (t : ST), e = t → XW l D K 0 0 (wM cs ad t rest) 190 [] []) : ∀ (q : Nat) (s : ST × Int32), lp (b_m_makeSets_142 n v1) q s = some e → XW l D K 0 0 (wM cs ad s.1 rest) 142 [(0, .ref (ad 0)), (1, .int v1), (2, .int s.2)] [] := by
  refine lp_walk (G := fun (s : ST × Int32) => XW l D K 0 0 (wM cs ad s.1 rest) 142 [(0, .ref (ad 0)), (1, .int v1), (2, .int s.2)] []) ?_
  intro s o h kin kex
  unfold b_m_makeSets_142 at h
  refine X_iload_n C 2 rfl rfl dX7_makeSets_142 ?_
  refine X_iload_n C 1 rfl rfl dX7_makeSets_143 ?_
  refine X_icmpge C (tgt := 190) (by decide) dX7_makeSets_144 h (fun h => ?_) (fun h => ?_)
  · obtain rfl := Option.some.inj h
    refine X_loc (vs1 := []) [] rfl ?_
    exact kx _ (kex _ rfl).symm
  · refine X_aload_n C 0 rfl rfl dX7_makeSets_147 ?_
    refine X_get C 0 28 hi7_m_makeSets hf73_m_makeSets (me_0 _ _ _ _) rfl (by decide) rfl dX7_makeSets_148 ?_
    refine X_iload_n C 2 rfl rfl dX7_makeSets_151 ?_
    refine X_zald C 20 (me_20 _ _ _ _) h dX7_makeSets_152 (fun h => ?_)
    refine X_ifne C (tgt := 184) (by decide) dX7_makeSets_153 h (fun h => ?_) (fun h => ?_)
    · exact wj_m_makeSets_184_142 C h kin kex kx
    · refine X_aload_n C 0 rfl rfl dX7_makeSets_156 ?_
      refine X_iload_n C 2 rfl rfl dX7_makeSets_157 ?_
      obtain ⟨o12, eo12, h⟩ := bnd_some h
      refine X_callVi C (n := 1) (As := [.int s.2]) (c_m_hasNoneToSpare eo12) rfl gX7_makeSets_X7_hasNoneToSpare rfl rfl (me_0 _ _ _ _) rfl rfl (by decide +kernel) ⟨Nat.le_of_ble_eq_true rfl, Nat.le_of_ble_eq_true rfl⟩ ⟨Nat.zero_le _, Nat.zero_le _⟩ rfl rfl (Nat.le_of_ble_eq_true rfl) dX7_makeSets_158 ?_
      refine X_ifeq C (tgt := 184) (by decide) dX7_makeSets_161 h (fun h => ?_) (fun h => ?_)
      · exact wj_m_makeSets_184_142 C h kin kex kx
      · refine X_aload_n C 0 rfl rfl dX7_makeSets_164 ?_
        refine X_get C 0 30 hi7_m_makeSets hf76_m_makeSets (me_0 _ _ _ _) rfl (by decide) rfl dX7_makeSets_165 ?_
        refine X_aload_n C 0 rfl rfl dX7_makeSets_168 ?_
        refine X_get C 0 29 hi7_m_makeSets hf116_m_makeSets (me_0 _ _ _ _) rfl (by decide) rfl dX7_makeSets_169 ?_
        refine X_iload_n C 2 rfl rfl dX7_makeSets_172 ?_
        refine X_iast C 21 (me_21 _ _ _ _) (ma_21 _ _ _ _ _) h dX7_makeSets_173 (fun h => ?_)
        refine X_nam (G := fun σ13 => XW l D K 0 0 (wM cs ad σ13 rest) 174 [(0, .ref (ad 0)), (1, .int v1), (2, .int s.2)] []) h (fun σ13 h => ?_)
        refine X_aload_n C 0 rfl rfl dX7_makeSets_174 ?_
        refine X_dup C rfl dX7_makeSets_175 ?_
        refine X_get C 0 29 hi7_m_makeSets hf116_m_makeSets (me_0 _ _ _ _) rfl (by decide) rfl dX7_makeSets_176 ?_
        refine X_iconst (v := 1) C (by decide) dX7_makeSets_179 ?_
        refine X_iadd C dX7_makeSets_180 ?_
        refine X_put (ty := .int) C 0 29 hi7_m_makeSets hf116_m_makeSets tyX7 tyX7_ok nmX7 (me_0 _ _ _ _) rfl (by decide) rfl (by decide +kernel) rfl rfl (Nat.le_of_ble_eq_true rfl) (ms_0_29 _ _ _ _ _) dX7_makeSets_181 ?_
        refine X_nam (G := fun σ14 => XW l D K 0 0 (wM cs ad σ14 rest) 184 [(0, .ref (ad 0)), (1, .int v1), (2, .int s.2)] []) h (fun σ14 h => ?_)
        exact wj_m_makeSets_184_142 C h kin kex kx
set_option maxHeartbeats 4000000 in
set_option maxRecDepth 100000 in
theorem c_m_makeSets {l : Launch} {D : va_G} {cs : Nat → ClassId} {ad : Nat → Nat} {rest : va_W} {n : Nat} {σ : ST} {o : ST} (h : f_m_makeSets n σ = some o) : CTv l D cs yX7_makeSets wsX7_makeSets rm_m_makeSets [.ref (ad 0)] (wM cs ad σ rest) (wM cs ad o rest) := by
  refine CTv_of (cc := cX7_makeSets) (nL := 4) (by decide) rfl (Nat.le_of_ble_eq_true rfl) ?_
  intro K C hret
  unfold f_m_makeSets at h
  refine X_loc (vs1 := [(0, .ref (ad 0))]) [0] rfl ?_
  refine X_aload_n C 0 rfl rfl dX7_makeSets_0 ?_
  obtain ⟨o1, eo1, h⟩ := bnd_some h
  refine X_callVv C (n := 0) (As := []) (c_m_makeSides eo1) rfl gX7_makeSets_X7_makeSides rfl rfl (me_0 _ _ _ _) rfl rfl (by decide +kernel) ⟨Nat.le_of_ble_eq_true rfl, Nat.le_of_ble_eq_true rfl⟩ ⟨Nat.zero_le _, Nat.zero_le _⟩ rfl rfl (Nat.le_of_ble_eq_true rfl) dX7_makeSets_1 ?_
  refine X_aload_n C 0 rfl rfl dX7_makeSets_4 ?_
  refine X_get C 0 31 hi7_m_makeSets hf92_m_makeSets (me_0 _ _ _ _) rfl (by decide) rfl dX7_makeSets_5 ?_
  refine X_ifeq C (tgt := 12) (by decide) dX7_makeSets_8 h (fun h => ?_) (fun h => ?_)
  · refine X_aload_n C 0 rfl rfl dX7_makeSets_12 ?_
    refine X_iconst (v := 1) C (by decide) dX7_makeSets_13 ?_
    refine X_put (ty := .boolean) C 0 31 hi7_m_makeSets hf92_m_makeSets tyX7 tyX7_ok nmX7 (me_0 _ _ _ _) rfl (by decide) rfl (by decide +kernel) (jz_nar (by decide)) (jz_fit (by decide)) (Nat.le_of_ble_eq_true rfl) (ms_0_31 _ _ _ _ _) dX7_makeSets_14 ?_
    refine X_nam (G := fun σ2 => XW l D K 0 0 (wM cs ad σ2 rest) 17 [(0, .ref (ad 0))] []) h (fun σ2 h => ?_)
    refine X_iconst (v := 1) C (by decide) dX7_makeSets_17 ?_
    refine X_aload_n C 0 rfl rfl dX7_makeSets_18 ?_
    refine X_get C 0 2 hi7_m_makeSets hf95_m_makeSets (me_0 _ _ _ _) rfl (by decide) rfl dX7_makeSets_19 ?_
    refine X_ishl C dX7_makeSets_22 ?_
    refine X_nam (G := fun x3 => XW l D K 0 0 (wM cs ad σ2 rest) 23 [(0, .ref (ad 0))] [.int x3]) h (fun x3 h => ?_)
    refine X_istore_n (vs1 := [(1, .int x3), (0, .ref (ad 0))]) C rfl (by decide) rfl dX7_makeSets_23 ?_
    refine X_iconst (v := 0) C (by decide) dX7_makeSets_24 ?_
    refine X_istore_n (vs1 := [(2, .int (0 : Int32)), (1, .int x3), (0, .ref (ad 0))]) C rfl (by decide) rfl dX7_makeSets_25 ?_
    obtain ⟨e5, he5, h⟩ := bnd_some h
    refine X_loc (vs1 := [(0, .ref (ad 0)), (1, .int x3), (2, .int (0 : Int32))]) [2, 1, 0] rfl ?_
    refine wb_m_makeSets_26 C (e := e5) (fun t ht => ?_) n _ he5
    subst ht
    refine X_iconst (v := 0) C (by decide) dX7_makeSets_44 ?_
    refine X_istore_n (vs1 := [(2, .int (0 : Int32)), (0, .ref (ad 0)), (1, .int x3)]) C rfl (by decide) rfl dX7_makeSets_45 ?_
    obtain ⟨e7, he7, h⟩ := bnd_some h
    refine X_loc (vs1 := [(0, .ref (ad 0)), (1, .int x3), (2, .int (0 : Int32))]) [1, 2, 0] rfl ?_
    refine wb_m_makeSets_46 C (e := e7) (fun t ht => ?_) n _ he7
    subst ht
    refine X_iconst (v := 0) C (by decide) dX7_makeSets_78 ?_
    refine X_istore_n (vs1 := [(2, .int (0 : Int32)), (0, .ref (ad 0)), (1, .int x3)]) C rfl (by decide) rfl dX7_makeSets_79 ?_
    obtain ⟨e10, he10, h⟩ := bnd_some h
    refine X_loc (vs1 := [(0, .ref (ad 0)), (1, .int x3), (2, .int (0 : Int32))]) [1, 2, 0] rfl ?_
    refine wb_m_makeSets_80 C (e := e10) (fun t ht => ?_) n _ he10
    subst ht
    refine X_aload_n C 0 rfl rfl dX7_makeSets_135 ?_
    refine X_iconst (v := 0) C (by decide) dX7_makeSets_136 ?_
    refine X_put (ty := .int) C 0 29 hi7_m_makeSets hf116_m_makeSets tyX7 tyX7_ok nmX7 (me_0 _ _ _ _) rfl (by decide) rfl (by decide +kernel) rfl rfl (Nat.le_of_ble_eq_true rfl) (ms_0_29 _ _ _ _ _) dX7_makeSets_137 ?_
    refine X_nam (G := fun σ11 => XW l D K 0 0 (wM cs ad σ11 rest) 140 [(0, .ref (ad 0)), (1, .int x3)] []) h (fun σ11 h => ?_)
    refine X_iconst (v := 0) C (by decide) dX7_makeSets_140 ?_
    refine X_istore_n (vs1 := [(2, .int (0 : Int32)), (0, .ref (ad 0)), (1, .int x3)]) C rfl (by decide) rfl dX7_makeSets_141 ?_
    obtain ⟨e15, he15, h⟩ := bnd_some h
    refine X_loc (vs1 := [(0, .ref (ad 0)), (1, .int x3), (2, .int (0 : Int32))]) [1, 2, 0] rfl ?_
    refine wb_m_makeSets_142 C (e := e15) (fun t ht => ?_) n _ he15
    subst ht
    obtain rfl := Option.some.inj h
    exact hret _ _ dX7_makeSets_190
  · obtain rfl := Option.some.inj h
    exact hret _ _ dX7_makeSets_11
