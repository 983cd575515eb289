abbrev rm_m_cross : Room := { frames := 0, cells := 0, slots := 0, locals := 0 }
def j_m_cross_43 (n : Nat) (σ : ST) (t0 : Int32) : Option (Int32) :=
  grd (jz t0) <|
  some t0
def j_m_cross_42 (n : Nat) (σ : ST) : Option (Int32) :=
  j_m_cross_43 n σ (0 : Int32)
def f_m_cross (n : Nat) (σ : ST) (a0 : Int32) (a1 : Int32) : Option (Int32) :=
  nam ((jshl (1 : Int32) (σ.1 9)) - (1 : Int32)) fun x1 =>
  if (a0 &&& a1) = 0 then
    j_m_cross_42 n σ
  else
    if (a0 &&& (a1 ^^^ (-1 : Int32))) = 0 then
      j_m_cross_42 n σ
    else
      if (a1 &&& (a0 ^^^ (-1 : Int32))) = 0 then
        j_m_cross_42 n σ
      else
        if (a0 ||| a1) = x1 then
          j_m_cross_42 n σ
        else
          j_m_cross_43 n σ (1 : Int32)
theorem hf175_m_cross : Cond.fieldLink RX7 175 (TX7 9).1 (TX7 9).2.1 (TX7 9).2.2.1 ∈ wsX7_cross := by decide +kernel
theorem hi7_m_cross : ∀ w ∈ u_ws RX7 TX7 34, w ∈ wsX7_cross := by decide +kernel
set_option maxHeartbeats 4000000 in
set_option maxRecDepth 100000 in
theorem wj_m_cross_43 {l : Launch} {D : va_G} {cs : Nat → ClassId} {K : XK} {ad : Nat → Nat} {rest : va_W} (C : XC D cs K 4 rm_m_cross cX7_cross RX7 wsX7_cross (some .boolean)) {n : Nat} {σ : ST} {t0 : Int32} {o : Int32} (h : j_m_cross_43 n σ t0 = some o) (hret : XRz l D K cX7_cross o (wM cs ad σ rest)) : XW l D K 0 0 (wM cs ad σ rest) 43 [] [.int t0] := by
  unfold j_m_cross_43 at h
  obtain ⟨hz, h⟩ := grd_some h
  obtain rfl := Option.some.inj h
  exact hret _ _ hz dX7_cross_43
set_option maxHeartbeats 4000000 in
set_option maxRecDepth 100000 in
theorem wj_m_cross_42 {l : Launch} {D : va_G} {cs : Nat → ClassId} {K : XK} {ad : Nat → Nat} {rest : va_W} (C : XC D cs K 4 rm_m_cross cX7_cross RX7 wsX7_cross (some .boolean)) {n : Nat} {σ : ST} {o : Int32} (h : j_m_cross_42 n σ = some o) (hret : XRz l D K cX7_cross o (wM cs ad σ rest)) : XW l D K 0 0 (wM cs ad σ rest) 42 [] [] := by
  unfold j_m_cross_42 at h
  refine X_iconst (v := 0) C (by decide) dX7_cross_42 ?_
  exact wj_m_cross_43 C h hret
set_option maxHeartbeats 4000000 in
set_option maxRecDepth 100000 in
theorem c_m_cross {l : Launch} {D : va_G} {cs : Nat → ClassId} {ad : Nat → Nat} {rest : va_W} {n : Nat} {σ : ST} {a0 : Int32} {a1 : Int32} {o : Int32} (h : f_m_cross n σ a0 a1 = some o) : CTi l D cs yX7_cross wsX7_cross rm_m_cross [.ref (ad 0), .int a0, .int a1] (wM cs ad σ rest) o (wM cs ad σ rest) := by
  refine CTz_of (cc := cX7_cross) (nL := 4) (by decide) rfl (Nat.le_of_ble_eq_true rfl) ?_
  intro K C hret
  unfold f_m_cross at h
  refine X_loc (vs1 := [(0, .ref (ad 0)), (1, .int a0), (2, .int a1)]) [0, 1, 2] rfl ?_
  refine X_iconst (v := 1) C (by decide) dX7_cross_0 ?_
  refine X_aload_n C 0 rfl rfl dX7_cross_1 ?_
  refine X_get C 0 9 hi7_m_cross hf175_m_cross (me_0 _ _ _ _) rfl (by decide) rfl dX7_cross_2 ?_
  refine X_ishl C dX7_cross_5 ?_
  refine X_iconst (v := 1) C (by decide) dX7_cross_6 ?_
  refine X_isub C dX7_cross_7 ?_
  refine X_nam (G := fun x1 => XW l D K 0 0 (wM cs ad σ rest) 8 [(0, .ref (ad 0)), (1, .int a0), (2, .int a1)] [.int x1]) h (fun x1 h => ?_)
  refine X_istore_n (vs1 := [(3, .int x1), (0, .ref (ad 0)), (1, .int a0), (2, .int a1)]) C rfl (by decide) rfl dX7_cross_8 ?_
  refine X_iload_n C 2 rfl rfl dX7_cross_9 ?_
  refine X_iload_n C 3 rfl rfl dX7_cross_10 ?_
  refine X_iand C dX7_cross_11 ?_
  refine X_ifeq C (tgt := 42) (by decide) dX7_cross_12 h (fun h => ?_) (fun h => ?_)
  · refine X_loc (vs1 := []) [] rfl ?_
    exact wj_m_cross_42 C h hret
  · refine X_iload_n C 2 rfl rfl dX7_cross_15 ?_
    refine X_iload_n C 3 rfl rfl dX7_cross_16 ?_
    refine X_iconst (v := (-1)) C (by decide) dX7_cross_17 ?_
    refine X_ixor C dX7_cross_18 ?_
    refine X_iand C dX7_cross_19 ?_
    refine X_ifeq C (tgt := 42) (by decide) dX7_cross_20 h (fun h => ?_) (fun h => ?_)
    · refine X_loc (vs1 := []) [] rfl ?_
      exact wj_m_cross_42 C h hret
    · refine X_iload_n C 3 rfl rfl dX7_cross_23 ?_
      refine X_iload_n C 2 rfl rfl dX7_cross_24 ?_
      refine X_iconst (v := (-1)) C (by decide) dX7_cross_25 ?_
      refine X_ixor C dX7_cross_26 ?_
      refine X_iand C dX7_cross_27 ?_
      refine X_ifeq C (tgt := 42) (by decide) dX7_cross_28 h (fun h => ?_) (fun h => ?_)
      · refine X_loc (vs1 := []) [] rfl ?_
        exact wj_m_cross_42 C h hret
      · refine X_iload_n C 2 rfl rfl dX7_cross_31 ?_
        refine X_iload_n C 3 rfl rfl dX7_cross_32 ?_
        refine X_ior C dX7_cross_33 ?_
        refine X_iload_n C 0 rfl rfl dX7_cross_34 ?_
        refine X_icmpeq C (tgt := 42) (by decide) dX7_cross_35 h (fun h => ?_) (fun h => ?_)
        · refine X_loc (vs1 := []) [] rfl ?_
          exact wj_m_cross_42 C h hret
        · refine X_iconst (v := 1) C (by decide) dX7_cross_38 ?_
          refine X_goto C (tgt := 43) (by decide) dX7_cross_39 ?_
          refine X_loc (vs1 := []) [] rfl ?_
          exact wj_m_cross_43 C h hret

abbrev rm_m_firstCross : Room := { frames := 1, cells := 0, slots := 0, locals := 23 }
def j_m_firstCross_55_13 (n : Nat) (σ : ST) (v1 : Int32) (v2 : Int32) : Option ((Int32) ⊕ ((Unit) ⊕ (Int32))) :=
  some (.inl (v2 + (1 : Int32)))
def b_m_firstCross_13 (n : Nat) (σ : ST) (v1 : Int32) (s : Int32) : Option ((Int32) ⊕ ((Unit) ⊕ (Int32))) :=
  if (256 : Int32) ≤ s then
    some (.inr (.inl ()))
  else
    grd (jin v1 256) <|
    if (σ.2 5 (jix v1)) ≤ 0 then
      some (.inr (.inl ()))
    else
      grd (jin s 256) <|
      if (σ.2 5 (jix s)) ≤ 0 then
        j_m_firstCross_55_13 n σ v1 s
      else
        bnd (f_m_cross n σ v1 s) fun o1 =>
        if o1 = 0 then
          j_m_firstCross_55_13 n σ v1 s
        else
          some (.inr (.inr (((256 : Int32) * v1) + s)))
def b_m_firstCross_2 (n : Nat) (σ : ST) (s : Int32) : Option ((Int32) ⊕ ((Unit) ⊕ (Int32))) :=
  if (256 : Int32) ≤ s then
    some (.inr (.inl ()))
  else
    bnd (lp (b_m_firstCross_13 n σ s) n (s + (1 : Int32))) fun e2 =>
    Sum.elim (fun t3 =>
      some (.inl (s + (1 : Int32))))
      (fun r => some (.inr (.inr r))) e2
def f_m_firstCross (n : Nat) (σ : ST) : Option (Int32) :=
  bnd (lp (b_m_firstCross_2 n σ) n (0 : Int32)) fun e4 =>
  Sum.elim (fun t5 =>
    some (-1 : Int32))
    (fun r => some r) e4
theorem hf26_m_firstCross : Cond.fieldLink RX7 26 (TX7 11).1 (TX7 11).2.1 (TX7 11).2.2.1 ∈ wsX7_firstCross := by decide +kernel
theorem hi7_m_firstCross : ∀ w ∈ u_ws RX7 TX7 34, w ∈ wsX7_firstCross := by decide +kernel
set_option maxHeartbeats 4000000 in
set_option maxRecDepth 100000 in
theorem wj_m_firstCross_55_13 {l : Launch} {D : va_G} {cs : Nat → ClassId} {K : XK} {ad : Nat → Nat} {rest : va_W} (C : XC D cs K 3 rm_m_firstCross cX7_firstCross RX7 wsX7_firstCross (some .int)) {n : Nat} {σ : ST} {v1 : Int32} {v2 : Int32} {o : (Int32) ⊕ ((Unit) ⊕ (Int32))} {e : ((Unit) ⊕ (Int32))} (h : j_m_firstCross_55_13 n σ v1 v2 = some o) (kin : ∀ (s : Int32), o = .inl s → XW l D K 0 0 (wM cs ad σ rest) 13 [(0, .ref (ad 0)), (1, .int v1), (2, .int s)] []) (kex : ∀ e1, o = .inr e1 → e1 = e) (kx : ∀ (t : Unit), e = .inl t → XW l D K 0 0 (wM cs ad σ rest) 61 [(0, .ref (ad 0)), (1, .int v1)] []) (kr : ∀ (t : Int32), e = .inr t → XRi l D K cX7_firstCross t (wM cs ad σ rest)) : XW l D K 0 0 (wM cs ad σ rest) 55 [(0, .ref (ad 0)), (1, .int v1), (2, .int v2)] [] := by
  unfold j_m_firstCross_55_13 at h
  refine X_iinc (v := v2 + (1 : Int32)) (vs1 := [(2, .int (v2 + (1 : Int32))), (0, .ref (ad 0)), (1, .int v1)]) C 2 rfl rfl (by decide) rfl dX7_firstCross_55 ?_
  refine X_goto C (tgt := 13) (by decide) dX7_firstCross_58 ?_
  obtain rfl := Option.some.inj h
  refine X_loc (vs1 := [(0, .ref (ad 0)), (1, .int v1), (2, .int (v2 + (1 : Int32)))]) [1, 2, 0] rfl ?_
  exact kin _ rfl
set_option maxHeartbeats 4000000 in
set_option maxRecDepth 100000 in
theorem wb_m_firstCross_13 {l : Launch} {D : va_G} {cs : Nat → ClassId} {K : XK} {ad : Nat → Nat} {rest : va_W} (C : XC D cs K 3 rm_m_firstCross cX7_firstCross RX7 wsX7_firstCross (some .int)) {n : Nat} {σ : ST} {v1 : Int32} {e : ((Unit) ⊕ (Int32))} (kx : ∀ (t : Unit), e = .inl t → XW l D K 0 0 (wM cs ad σ rest) 61 [(0, .ref (ad 0)), (1, .int v1)] []) (kr : ∀ (t : Int32), e = .inr t → XRi l D K cX7_firstCross t (wM cs ad σ rest)) : ∀ (q : Nat) (s : Int32), lp (b_m_firstCross_13 n σ v1) q s = some e → XW l D K 0 0 (wM cs ad σ rest) 13 [(0, .ref (ad 0)), (1, .int v1), (2, .int s)] [] := by
  refine lp_walk (G := fun (s : Int32) => XW l D K 0 0 (wM cs ad σ rest) 13 [(0, .ref (ad 0)), (1, .int v1), (2, .int s)] []) ?_
  intro s o h kin kex
  unfold b_m_firstCross_13 at h
  refine X_iload_n C 2 rfl rfl dX7_firstCross_13 ?_
  refine X_sipush (v := 256) C (by decide) dX7_firstCross_14 ?_
  refine X_icmpge C (tgt := 61) (by decide) dX7_firstCross_17 h (fun h => ?_) (fun h => ?_)
  · obtain rfl := Option.some.inj h
    refine X_loc (vs1 := [(0, .ref (ad 0)), (1, .int v1)]) [0, 1] rfl ?_
    exact kx _ (kex _ rfl).symm
  · refine X_aload_n C 0 rfl rfl dX7_firstCross_20 ?_
    refine X_get C 0 11 hi7_m_firstCross hf26_m_firstCross (me_0 _ _ _ _) rfl (by decide) rfl dX7_firstCross_21 ?_
    refine X_iload_n C 1 rfl rfl dX7_firstCross_24 ?_
    refine X_iald C 5 (me_5 _ _ _ _) h dX7_firstCross_25 (fun h => ?_)
    refine X_ifle C (tgt := 61) (by decide) dX7_firstCross_26 h (fun h => ?_) (fun h => ?_)
    · obtain rfl := Option.some.inj h
      refine X_loc (vs1 := [(0, .ref (ad 0)), (1, .int v1)]) [0, 1] rfl ?_
      exact kx _ (kex _ rfl).symm
    · refine X_aload_n C 0 rfl rfl dX7_firstCross_29 ?_
      refine X_get C 0 11 hi7_m_firstCross hf26_m_firstCross (me_0 _ _ _ _) rfl (by decide) rfl dX7_firstCross_30 ?_
      refine X_iload_n C 2 rfl rfl dX7_firstCross_33 ?_
      refine X_iald C 5 (me_5 _ _ _ _) h dX7_firstCross_34 (fun h => ?_)
      refine X_ifle C (tgt := 55) (by decide) dX7_firstCross_35 h (fun h => ?_) (fun h => ?_)
      · exact wj_m_firstCross_55_13 C h kin kex kx kr
      · refine X_aload_n C 0 rfl rfl dX7_firstCross_38 ?_
        refine X_iload_n C 1 rfl rfl dX7_firstCross_39 ?_
        refine X_iload_n C 2 rfl rfl dX7_firstCross_40 ?_
        obtain ⟨o1, eo1, h⟩ := bnd_some h
        refine X_callVi C (n := 2) (As := [.int v1, .int s]) (c_m_cross eo1) rfl gX7_firstCross_X7_cross rfl rfl (me_0 _ _ _ _) rfl rfl (by decide +kernel) ⟨Nat.le_of_ble_eq_true rfl, Nat.le_of_ble_eq_true rfl⟩ ⟨Nat.zero_le _, Nat.zero_le _⟩ rfl rfl (Nat.le_of_ble_eq_true rfl) dX7_firstCross_41 ?_
        refine X_ifeq C (tgt := 55) (by decide) dX7_firstCross_44 h (fun h => ?_) (fun h => ?_)
        · exact wj_m_firstCross_55_13 C h kin kex kx kr
        · refine X_sipush (v := 256) C (by decide) dX7_firstCross_47 ?_
          refine X_iload_n C 1 rfl rfl dX7_firstCross_50 ?_
          refine X_imul C dX7_firstCross_51 ?_
          refine X_iload_n C 2 rfl rfl dX7_firstCross_52 ?_
          refine X_iadd C dX7_firstCross_53 ?_
          obtain rfl := Option.some.inj h
          exact kr _ (kex _ rfl).symm _ _ dX7_firstCross_54
set_option maxHeartbeats 4000000 in
set_option maxRecDepth 100000 in
theorem wb_m_firstCross_2 {l : Launch} {D : va_G} {cs : Nat → ClassId} {K : XK} {ad : Nat → Nat} {rest : va_W} (C : XC D cs K 3 rm_m_firstCross cX7_firstCross RX7 wsX7_firstCross (some .int)) {n : Nat} {σ : ST} {e : ((Unit) ⊕ (Int32))} (kx : ∀ (t : Unit), e = .inl t → XW l D K 0 0 (wM cs ad σ rest) 67 [] []) (kr : ∀ (t : Int32), e = .inr t → XRi l D K cX7_firstCross t (wM cs ad σ rest)) : ∀ (q : Nat) (s : Int32), lp (b_m_firstCross_2 n σ) q s = some e → XW l D K 0 0 (wM cs ad σ rest) 2 [(0, .ref (ad 0)), (1, .int s)] [] := by
  refine lp_walk (G := fun (s : Int32) => XW l D K 0 0 (wM cs ad σ rest) 2 [(0, .ref (ad 0)), (1, .int s)] []) ?_
  intro s o h kin kex
  unfold b_m_firstCross_2 at h
  refine X_iload_n C 1 rfl rfl dX7_firstCross_2 ?_
  refine X_sipush (v := 256) C (by decide) dX7_firstCross_3 ?_
  refine X_icmpge C (tgt := 67) (by decide) dX7_firstCross_6 h (fun h => ?_) (fun h => ?_)
  · obtain rfl := Option.some.inj h
    refine X_loc (vs1 := []) [] rfl ?_
    exact kx _ (kex _ rfl).symm
  · refine X_iload_n C 1 rfl rfl dX7_firstCross_9 ?_
    refine X_iconst (v := 1) C (by decide) dX7_firstCross_10 ?_
    refine X_iadd C dX7_firstCross_11 ?_
    refine X_istore_n (vs1 := [(2, .int (s + (1 : Int32))), (0, .ref (ad 0)), (1, .int s)]) C rfl (by decide) rfl dX7_firstCross_12 ?_
    obtain ⟨e2, he2, h⟩ := bnd_some h
    refine X_loc (vs1 := [(0, .ref (ad 0)), (1, .int s), (2, .int (s + (1 : Int32)))]) [1, 2, 0] rfl ?_
    refine wb_m_firstCross_13 C (e := e2) (fun t3 ht => ?_) (fun r ht => ?_) n _ he2
    · subst ht
      dsimp only [Sum.elim] at h
      refine X_iinc (v := s + (1 : Int32)) (vs1 := [(1, .int (s + (1 : Int32))), (0, .ref (ad 0))]) C 1 rfl rfl (by decide) rfl dX7_firstCross_61 ?_
      refine X_goto C (tgt := 2) (by decide) dX7_firstCross_64 ?_
      obtain rfl := Option.some.inj h
      refine X_loc (vs1 := [(0, .ref (ad 0)), (1, .int (s + (1 : Int32)))]) [1, 0] rfl ?_
      exact kin _ rfl
    · subst ht
      dsimp only [Sum.elim] at h
      obtain rfl := Option.some.inj h
      exact kr _ (kex _ rfl).symm
set_option maxHeartbeats 4000000 in
set_option maxRecDepth 100000 in
theorem c_m_firstCross {l : Launch} {D : va_G} {cs : Nat → ClassId} {ad : Nat → Nat} {rest : va_W} {n : Nat} {σ : ST} {o : Int32} (h : f_m_firstCross n σ = some o) : CTi l D cs yX7_firstCross wsX7_firstCross rm_m_firstCross [.ref (ad 0)] (wM cs ad σ rest) o (wM cs ad σ rest) := by
  refine CTi_of (cc := cX7_firstCross) (nL := 3) (by decide) rfl (Nat.le_of_ble_eq_true rfl) ?_
  intro K C hret
  unfold f_m_firstCross at h
  refine X_loc (vs1 := [(0, .ref (ad 0))]) [0] rfl ?_
  refine X_iconst (v := 0) C (by decide) dX7_firstCross_0 ?_
  refine X_istore_n (vs1 := [(1, .int (0 : Int32)), (0, .ref (ad 0))]) C rfl (by decide) rfl dX7_firstCross_1 ?_
  obtain ⟨e4, he4, h⟩ := bnd_some h
  refine X_loc (vs1 := [(0, .ref (ad 0)), (1, .int (0 : Int32))]) [1, 0] rfl ?_
  refine wb_m_firstCross_2 C (e := e4) (fun t5 ht => ?_) (fun r ht => ?_) n _ he4
  · subst ht
    dsimp only [Sum.elim] at h
    refine X_iconst (v := (-1)) C (by decide) dX7_firstCross_67 ?_
    obtain rfl := Option.some.inj h
    exact hret _ _ dX7_firstCross_68
  · subst ht
    dsimp only [Sum.elim] at h
    obtain rfl := Option.some.inj h
    exact hret

abbrev rm_m_uncross : Room := { frames := 2, cells := 0, slots := 0, locals := 45 }
def j_m_uncross_71_21 (n : Nat) (σ : ST) (v1 : Int32) (v3 : Int32) (v4 : Int32) (t0 : Int32) : Option ((ST × Int32 × Int32) ⊕ (ST × Int32)) :=
  grd (jin v3 256) <|
  grd (jin v3 256) <|
  nam (sA σ 5 (upd (σ.2 5) (jix v3) ((σ.2 5 (jix v3)) - t0))) fun σ3 =>
  grd (jin v4 256) <|
  grd (jin v4 256) <|
  nam (sA σ3 5 (upd (σ3.2 5) (jix v4) ((σ3.2 5 (jix v4)) - t0))) fun σ4 =>
  grd (jin (v3 &&& v4) 256) <|
  grd (jin (v3 &&& v4) 256) <|
  nam (sA σ4 5 (upd (σ4.2 5) (jix (v3 &&& v4)) ((σ4.2 5 (jix (v3 &&& v4))) + t0))) fun σ5 =>
  grd (jin (v3 ||| v4) 256) <|
  grd (jin (v3 ||| v4) 256) <|
  nam (sA σ5 5 (upd (σ5.2 5) (jix (v3 ||| v4)) ((σ5.2 5 (jix (v3 ||| v4))) + t0))) fun σ6 =>
  bnd (f_m_firstCross n σ6) fun o7 =>
  some (.inl (σ6, v1 + (1 : Int32), o7))
def b_m_uncross_21 (n : Nat) (s : ST × Int32 × Int32) : Option ((ST × Int32 × Int32) ⊕ (ST × Int32)) :=
  if s.2.2 = (-1 : Int32) then
    some (.inr (s.1, s.2.1))
  else
    grd (!decide ((256 : Int32) = 0)) <|
    grd (!decide ((256 : Int32) = 0)) <|
    grd (jin (s.2.2 / (256 : Int32)) 256) <|
    grd (jin (jrem s.2.2 (256 : Int32)) 256) <|
    if (s.1.2 5 (jix (jrem s.2.2 (256 : Int32)))) ≤ (s.1.2 5 (jix (s.2.2 / (256 : Int32)))) then
      grd (jin (jrem s.2.2 (256 : Int32)) 256) <|
      j_m_uncross_71_21 n s.1 s.2.1 (s.2.2 / (256 : Int32)) (jrem s.2.2 (256 : Int32)) (s.1.2 5 (jix (jrem s.2.2 (256 : Int32))))
    else
      grd (jin (s.2.2 / (256 : Int32)) 256) <|
      j_m_uncross_71_21 n s.1 s.2.1 (s.2.2 / (256 : Int32)) (jrem s.2.2 (256 : Int32)) (s.1.2 5 (jix (s.2.2 / (256 : Int32))))
def f_m_uncross (n : Nat) (σ : ST) : Option (Int32 × ST) :=
  nam (sS σ 0 (0 : Int32)) fun σ1 =>
  if (σ1.1 8) = 0 then
    some ((-1 : Int32), σ1)
  else
    bnd (f_m_firstCross n σ1) fun o2 =>
    bnd (lp (b_m_uncross_21 n) n (σ1, (0 : Int32), o2)) fun e8 =>
    some (e8.2, e8.1)
theorem hf26_m_uncross : Cond.fieldLink RX7 26 (TX7 11).1 (TX7 11).2.1 (TX7 11).2.2.1 ∈ wsX7_uncross := by decide +kernel
theorem hf137_m_uncross : Cond.fieldLink RX7 137 (TX7 8).1 (TX7 8).2.1 (TX7 8).2.2.1 ∈ wsX7_uncross := by decide +kernel
theorem hf85_m_uncross : Cond.fieldLink RX7 85 (TX7 0).1 (TX7 0).2.1 (TX7 0).2.2.1 ∈ wsX7_uncross := by decide +kernel
theorem hi7_m_uncross : ∀ w ∈ u_ws RX7 TX7 34, w ∈ wsX7_uncross := by decide +kernel
set_option maxHeartbeats 4000000 in
set_option maxRecDepth 100000 in
theorem wj_m_uncross_71_21 {l : Launch} {D : va_G} {cs : Nat → ClassId} {K : XK} {ad : Nat → Nat} {rest : va_W} (C : XC D cs K 6 rm_m_uncross cX7_uncross RX7 wsX7_uncross (some .int)) {n : Nat} {σ : ST} {v1 : Int32} {v3 : Int32} {v4 : Int32} {t0 : Int32} {o : (ST × Int32 × Int32) ⊕ (ST × Int32)} {e : (ST × Int32)} (h : j_m_uncross_71_21 n σ v1 v3 v4 t0 = some o) (kin : ∀ (s : ST × Int32 × Int32), o = .inl s → XW l D K 0 0 (wM cs ad s.1 rest) 21 [(0, .ref (ad 0)), (1, .int s.2.1), (2, .int s.2.2)] []) (kex : ∀ e1, o = .inr e1 → e1 = e) (kx : ∀ (t : ST × Int32), e = t → XW l D K 0 0 (wM cs ad t.1 rest) 135 [(1, .int t.2)] []) : XW l D K 0 0 (wM cs ad σ rest) 71 [(0, .ref (ad 0)), (1, .int v1), (3, .int v3), (4, .int v4)] [.int t0] := by
  unfold j_m_uncross_71_21 at h
  refine X_istore (vs1 := [(5, .int t0), (0, .ref (ad 0)), (1, .int v1), (3, .int v3), (4, .int v4)]) C (by decide) rfl dX7_uncross_71 ?_
  refine X_aload_n C 1 rfl rfl dX7_uncross_73 ?_
  refine X_get C 0 11 hi7_m_uncross hf26_m_uncross (me_0 _ _ _ _) rfl (by decide) rfl dX7_uncross_74 ?_
  refine X_iload_n C 3 rfl rfl dX7_uncross_77 ?_
  refine X_dup2 C rfl rfl dX7_uncross_78 ?_
  refine X_iald C 5 (me_5 _ _ _ _) h dX7_uncross_79 (fun h => ?_)
  refine X_iload C 0 rfl dX7_uncross_80 ?_
  refine X_isub C dX7_uncross_82 ?_
  refine X_iast C 5 (me_5 _ _ _ _) (ma_5 _ _ _ _ _) h dX7_uncross_83 (fun h => ?_)
  refine X_nam (G := fun σ3 => XW l D K 0 0 (wM cs ad σ3 rest) 84 [(5, .int t0), (0, .ref (ad 0)), (1, .int v1), (3, .int v3), (4, .int v4)] []) h (fun σ3 h => ?_)
  refine X_aload_n C 1 rfl rfl dX7_uncross_84 ?_
  refine X_get C 0 11 hi7_m_uncross hf26_m_uncross (me_0 _ _ _ _) rfl (by decide) rfl dX7_uncross_85 ?_
  refine X_iload C 4 rfl dX7_uncross_88 ?_
  refine X_dup2 C rfl rfl dX7_uncross_90 ?_
  refine X_iald C 5 (me_5 _ _ _ _) h dX7_uncross_91 (fun h => ?_)
  refine X_iload C 0 rfl dX7_uncross_92 ?_
  refine X_isub C dX7_uncross_94 ?_
  refine X_iast C 5 (me_5 _ _ _ _) (ma_5 _ _ _ _ _) h dX7_uncross_95 (fun h => ?_)
  refine X_nam (G := fun σ4 => XW l D K 0 0 (wM cs ad σ4 rest) 96 [(5, .int t0), (0, .ref (ad 0)), (1, .int v1), (3, .int v3), (4, .int v4)] []) h (fun σ4 h => ?_)
  refine X_aload_n C 1 rfl rfl dX7_uncross_96 ?_
  refine X_get C 0 11 hi7_m_uncross hf26_m_uncross (me_0 _ _ _ _) rfl (by decide) rfl dX7_uncross_97 ?_
  refine X_iload_n C 3 rfl rfl dX7_uncross_100 ?_
  refine X_iload C 4 rfl dX7_uncross_101 ?_
  refine X_iand C dX7_uncross_103 ?_
  refine X_dup2 C rfl rfl dX7_uncross_104 ?_
  refine X_iald C 5 (me_5 _ _ _ _) h dX7_uncross_105 (fun h => ?_)
  refine X_iload C 0 rfl dX7_uncross_106 ?_
  refine X_iadd C dX7_uncross_108 ?_
  refine X_iast C 5 (me_5 _ _ _ _) (ma_5 _ _ _ _ _) h dX7_uncross_109 (fun h => ?_)
  refine X_nam (G := fun σ5 => XW l D K 0 0 (wM cs ad σ5 rest) 110 [(5, .int t0), (0, .ref (ad 0)), (1, .int v1), (3, .int v3), (4, .int v4)] []) h (fun σ5 h => ?_)
  refine X_aload_n C 1 rfl rfl dX7_uncross_110 ?_
  refine X_get C 0 11 hi7_m_uncross hf26_m_uncross (me_0 _ _ _ _) rfl (by decide) rfl dX7_uncross_111 ?_
  refine X_iload_n C 3 rfl rfl dX7_uncross_114 ?_
  refine X_iload C 4 rfl dX7_uncross_115 ?_
  refine X_ior C dX7_uncross_117 ?_
  refine X_dup2 C rfl rfl dX7_uncross_118 ?_
  refine X_iald C 5 (me_5 _ _ _ _) h dX7_uncross_119 (fun h => ?_)
  refine X_iload C 0 rfl dX7_uncross_120 ?_
  refine X_iadd C dX7_uncross_122 ?_
  refine X_iast C 5 (me_5 _ _ _ _) (ma_5 _ _ _ _ _) h dX7_uncross_123 (fun h => ?_)
  refine X_nam (G := fun σ6 => XW l D K 0 0 (wM cs ad σ6 rest) 124 [(5, .int t0), (0, .ref (ad 0)), (1, .int v1), (3, .int v3), (4, .int v4)] []) h (fun σ6 h => ?_)
  refine X_iinc (v := v1 + (1 : Int32)) (vs1 := [(1, .int (v1 + (1 : Int32))), (5, .int t0), (0, .ref (ad 0)), (3, .int v3), (4, .int v4)]) C 2 rfl rfl (by decide) rfl dX7_uncross_124 ?_
  refine X_aload_n C 2 rfl rfl dX7_uncross_127 ?_
  obtain ⟨o7, eo7, h⟩ := bnd_some h
  refine X_callVi C (n := 0) (As := []) (c_m_firstCross eo7) rfl gX7_uncross_X7_firstCross rfl rfl (me_0 _ _ _ _) rfl rfl (by decide +kernel) ⟨Nat.le_of_ble_eq_true rfl, Nat.le_of_ble_eq_true rfl⟩ ⟨Nat.zero_le _, Nat.zero_le _⟩ rfl rfl (Nat.le_of_ble_eq_true rfl) dX7_uncross_128 ?_
  refine X_istore_n (vs1 := [(2, .int o7), (1, .int (v1 + (1 : Int32))), (5, .int t0), (0, .ref (ad 0)), (3, .int v3), (4, .int v4)]) C rfl (by decide) rfl dX7_uncross_131 ?_
  refine X_goto C (tgt := 21) (by decide) dX7_uncross_132 ?_
  obtain rfl := Option.some.inj h
  refine X_loc (vs1 := [(0, .ref (ad 0)), (1, .int (v1 + (1 : Int32))), (2, .int o7)]) [3, 1, 0] rfl ?_
  exact kin _ rfl
set_option maxHeartbeats 4000000 in
set_option maxRecDepth 100000 in
theorem wb_m_uncross_21 {l : Launch} {D : va_G} {cs : Nat → ClassId} {K : XK} {ad : Nat → Nat} {rest : va_W} (C : XC D cs K 6 rm_m_uncross cX7_uncross RX7 wsX7_uncross (some .int)) {n : Nat} {e : (ST × Int32)} (kx : ∀ (t : ST × Int32), e = t → XW l D K 0 0 (wM cs ad t.1 rest) 135 [(1, .int t.2)] []) : ∀ (q : Nat) (s : ST × Int32 × Int32), lp (b_m_uncross_21 n) q s = some e → XW l D K 0 0 (wM cs ad s.1 rest) 21 [(0, .ref (ad 0)), (1, .int s.2.1), (2, .int s.2.2)] [] := by
  refine lp_walk (G := fun (s : ST × Int32 × Int32) => XW l D K 0 0 (wM cs ad s.1 rest) 21 [(0, .ref (ad 0)), (1, .int s.2.1), (2, .int s.2.2)] []) ?_
  intro s o h kin kex
  unfold b_m_uncross_21 at h
  refine X_iload_n C 2 rfl rfl dX7_uncross_21 ?_
  refine X_iconst (v := (-1)) C (by decide) dX7_uncross_22 ?_
  refine X_icmpeq C (tgt := 135) (by decide) dX7_uncross_23 h (fun h => ?_) (fun h => ?_)
  · obtain rfl := Option.some.inj h
    refine X_loc (vs1 := [(1, .int s.2.1)]) [1] rfl ?_
    exact kx _ (kex _ rfl).symm
  · refine X_iload_n C 2 rfl rfl dX7_uncross_26 ?_
    refine X_sipush (v := 256) C (by decide) dX7_uncross_27 ?_
    refine X_idiv C h dX7_uncross_30 (fun h => ?_)
    refine X_istore_n (vs1 := [(3, .int (s.2.2 / (256 : Int32))), (0, .ref (ad 0)), (1, .int s.2.1), (2, .int s.2.2)]) C rfl (by decide) rfl dX7_uncross_31 ?_
    refine X_iload_n C 3 rfl rfl dX7_uncross_32 ?_
    refine X_sipush (v := 256) C (by decide) dX7_uncross_33 ?_
    refine X_irem C h dX7_uncross_36 (fun h => ?_)
    refine X_istore (vs1 := [(4, .int (jrem s.2.2 (256 : Int32))), (3, .int (s.2.2 / (256 : Int32))), (0, .ref (ad 0)), (1, .int s.2.1), (2, .int s.2.2)]) C (by decide) rfl dX7_uncross_37 ?_
    refine X_aload_n C 2 rfl rfl dX7_uncross_39 ?_
    refine X_get C 0 11 hi7_m_uncross hf26_m_uncross (me_0 _ _ _ _) rfl (by decide) rfl dX7_uncross_40 ?_
    refine X_iload_n C 1 rfl rfl dX7_uncross_43 ?_
    refine X_iald C 5 (me_5 _ _ _ _) h dX7_uncross_44 (fun h => ?_)
    refine X_aload_n C 2 rfl rfl dX7_uncross_45 ?_
    refine X_get C 0 11 hi7_m_uncross hf26_m_uncross (me_0 _ _ _ _) rfl (by decide) rfl dX7_uncross_46 ?_
    refine X_iload C 0 rfl dX7_uncross_49 ?_
    refine X_iald C 5 (me_5 _ _ _ _) h dX7_uncross_51 (fun h => ?_)
    refine X_icmpge C (tgt := 64) (by decide) dX7_uncross_52 h (fun h => ?_) (fun h => ?_)
    · refine X_aload_n C 2 rfl rfl dX7_uncross_64 ?_
      refine X_get C 0 11 hi7_m_uncross hf26_m_uncross (me_0 _ _ _ _) rfl (by decide) rfl dX7_uncross_65 ?_
      refine X_iload C 0 rfl dX7_uncross_68 ?_
      refine X_iald C 5 (me_5 _ _ _ _) h dX7_uncross_70 (fun h => ?_)
      refine X_loc (vs1 := [(0, .ref (ad 0)), (1, .int s.2.1), (3, .int (s.2.2 / (256 : Int32))), (4, .int (jrem s.2.2 (256 : Int32)))]) [2, 3, 1, 0] rfl ?_
      exact wj_m_uncross_71_21 C h kin kex kx
    · refine X_aload_n C 2 rfl rfl dX7_uncross_55 ?_
      refine X_get C 0 11 hi7_m_uncross hf26_m_uncross (me_0 _ _ _ _) rfl (by decide) rfl dX7_uncross_56 ?_
      refine X_iload_n C 1 rfl rfl dX7_uncross_59 ?_
      refine X_iald C 5 (me_5 _ _ _ _) h dX7_uncross_60 (fun h => ?_)
      refine X_goto C (tgt := 71) (by decide) dX7_uncross_61 ?_
      refine X_loc (vs1 := [(0, .ref (ad 0)), (1, .int s.2.1), (3, .int (s.2.2 / (256 : Int32))), (4, .int (jrem s.2.2 (256 : Int32)))]) [2, 3, 1, 0] rfl ?_
      exact wj_m_uncross_71_21 C h kin kex kx
set_option maxHeartbeats 4000000 in
set_option maxRecDepth 100000 in
theorem c_m_uncross {l : Launch} {D : va_G} {cs : Nat → ClassId} {ad : Nat → Nat} {rest : va_W} {n : Nat} {σ : ST} {o : Int32 × ST} (h : f_m_uncross n σ = some o) : CTi l D cs yX7_uncross wsX7_uncross rm_m_uncross [.ref (ad 0)] (wM cs ad σ rest) o.1 (wM cs ad o.2 rest) := by
  refine CTi_of (cc := cX7_uncross) (nL := 6) (by decide) rfl (Nat.le_of_ble_eq_true rfl) ?_
  intro K C hret
  unfold f_m_uncross at h
  refine X_loc (vs1 := [(0, .ref (ad 0))]) [0] rfl ?_
  refine X_aload_n C 0 rfl rfl dX7_uncross_0 ?_
  refine X_iconst (v := 0) C (by decide) dX7_uncross_1 ?_
  refine X_put (ty := .int) C 0 0 hi7_m_uncross hf85_m_uncross tyX7 tyX7_ok nmX7 (me_0 _ _ _ _) rfl (by decide) rfl (by decide +kernel) rfl rfl (Nat.le_of_ble_eq_true rfl) (ms_0_0 _ _ _ _ _) dX7_uncross_2 ?_
  refine X_nam (G := fun σ1 => XW l D K 0 0 (wM cs ad σ1 rest) 5 [(0, .ref (ad 0))] []) h (fun σ1 h => ?_)
  refine X_aload_n C 0 rfl rfl dX7_uncross_5 ?_
  refine X_get C 0 8 hi7_m_uncross hf137_m_uncross (me_0 _ _ _ _) rfl (by decide) rfl dX7_uncross_6 ?_
  refine X_ifne C (tgt := 14) (by decide) dX7_uncross_9 h (fun h => ?_) (fun h => ?_)
  · refine X_iconst (v := 0) C (by decide) dX7_uncross_14 ?_
    refine X_istore_n (vs1 := [(1, .int (0 : Int32)), (0, .ref (ad 0))]) C rfl (by decide) rfl dX7_uncross_15 ?_
    refine X_aload_n C 1 rfl rfl dX7_uncross_16 ?_
    obtain ⟨o2, eo2, h⟩ := bnd_some h
    refine X_callVi C (n := 0) (As := []) (c_m_firstCross eo2) rfl gX7_uncross_X7_firstCross rfl rfl (me_0 _ _ _ _) rfl rfl (by decide +kernel) ⟨Nat.le_of_ble_eq_true rfl, Nat.le_of_ble_eq_true rfl⟩ ⟨Nat.zero_le _, Nat.zero_le _⟩ rfl rfl (Nat.le_of_ble_eq_true rfl) dX7_uncross_17 ?_
    refine X_istore_n (vs1 := [(2, .int o2), (1, .int (0 : Int32)), (0, .ref (ad 0))]) C rfl (by decide) rfl dX7_uncross_20 ?_
    obtain ⟨e8, he8, h⟩ := bnd_some h
    refine X_loc (vs1 := [(0, .ref (ad 0)), (1, .int (0 : Int32)), (2, .int o2)]) [2, 1, 0] rfl ?_
    refine wb_m_uncross_21 C (e := e8) (fun t ht => ?_) n _ he8
    subst ht
    refine X_iload_n C 0 rfl rfl dX7_uncross_135 ?_
    obtain rfl := Option.some.inj h
    exact hret _ _ dX7_uncross_136
  · refine X_iconst (v := (-1)) C (by decide) dX7_uncross_12 ?_
    obtain rfl := Option.some.inj h
    exact hret _ _ dX7_uncross_13

abbrev rm_m_member : Room := { frames := 0, cells := 0, slots := 0, locals := 0 }
def j_m_member_75_10 (n : Nat) (σ : ST) (v1 : Int32) (v2 : Int32) (v3 : Int32) (v4 : Int32) : Option ((Int32 × Int32) ⊕ ((Unit) ⊕ (Int32 × ST))) :=
  some (.inl (v3, v4 + (1 : Int32)))
def j_m_member_71_10 (n : Nat) (σ : ST) (t0 : Int32) : Option ((Int32 × Int32) ⊕ ((Unit) ⊕ (Int32 × ST))) :=
  some (.inr (.inr (t0, σ)))
def b_m_member_10 (n : Nat) (σ : ST) (v1 : Int32) (v2 : Int32) (s : Int32 × Int32) : Option ((Int32 × Int32) ⊕ ((Unit) ⊕ (Int32 × ST))) :=
  if (256 : Int32) ≤ s.2 then
    some (.inr (.inl ()))
  else
    if (σ.1 8) = 0 then
      some (.inr (.inl ()))
    else
      if v1 < 0 then
        some (.inr (.inl ()))
      else
        grd (jin s.2 256) <|
        if (σ.2 5 (jix s.2)) = 0 then
          j_m_member_75_10 n σ v1 v2 s.1 s.2
        else
          if s.1 = 0 then
            if v2 = 0 then
              j_m_member_71_10 n σ s.2
            else
              if v2 = (1 : Int32) then
                grd (jin s.2 256) <|
                j_m_member_71_10 n σ (σ.2 5 (jix s.2))
              else
                j_m_member_71_10 n σ (-1 : Int32)
          else
            j_m_member_75_10 n σ v1 v2 (s.1 + (-1 : Int32)) s.2
def f_m_member (n : Nat) (σ : ST) (a0 : Int32) (a1 : Int32) : Option (Int32 × ST) :=
  nam (sS σ 0 (0 : Int32)) fun σ1 =>
  bnd (lp (b_m_member_10 n σ1 a0 a1) n (a0, (0 : Int32))) fun e2 =>
  Sum.elim (fun t3 =>
    some ((-1 : Int32), σ1))
    (fun r => some r) e2
theorem hf26_m_member : Cond.fieldLink RX7 26 (TX7 11).1 (TX7 11).2.1 (TX7 11).2.2.1 ∈ wsX7_member := by decide +kernel
theorem hf137_m_member : Cond.fieldLink RX7 137 (TX7 8).1 (TX7 8).2.1 (TX7 8).2.2.1 ∈ wsX7_member := by decide +kernel
theorem hf85_m_member : Cond.fieldLink RX7 85 (TX7 0).1 (TX7 0).2.1 (TX7 0).2.2.1 ∈ wsX7_member := by decide +kernel
theorem hi7_m_member : ∀ w ∈ u_ws RX7 TX7 34, w ∈ wsX7_member := by decide +kernel
set_option maxHeartbeats 4000000 in
set_option maxRecDepth 100000 in
theorem wj_m_member_75_10 {l : Launch} {D : va_G} {cs : Nat → ClassId} {K : XK} {ad : Nat → Nat} {rest : va_W} (C : XC D cs K 5 rm_m_member cX7_member RX7 wsX7_member (some .int)) {n : Nat} {σ : ST} {v1 : Int32} {v2 : Int32} {v3 : Int32} {v4 : Int32} {o : (Int32 × Int32) ⊕ ((Unit) ⊕ (Int32 × ST))} {e : ((Unit) ⊕ (Int32 × ST))} (h : j_m_member_75_10 n σ v1 v2 v3 v4 = some o) (kin : ∀ (s : Int32 × Int32), o = .inl s → XW l D K 0 0 (wM cs ad σ rest) 10 [(0, .ref (ad 0)), (1, .int v1), (2, .int v2), (3, .int s.1), (4, .int s.2)] []) (kex : ∀ e1, o = .inr e1 → e1 = e) (kx : ∀ (t : Unit), e = .inl t → XW l D K 0 0 (wM cs ad σ rest) 81 [] []) (kr : ∀ (t : Int32 × ST), e = .inr t → XRi l D K cX7_member t.1 (wM cs ad t.2 rest)) : XW l D K 0 0 (wM cs ad σ rest) 75 [(0, .ref (ad 0)), (1, .int v1), (2, .int v2), (3, .int v3), (4, .int v4)] [] := by
  unfold j_m_member_75_10 at h
  refine X_iinc (v := v4 + (1 : Int32)) (vs1 := [(4, .int (v4 + (1 : Int32))), (0, .ref (ad 0)), (1, .int v1), (2, .int v2), (3, .int v3)]) C 4 rfl rfl (by decide) rfl dX7_member_75 ?_
  refine X_goto C (tgt := 10) (by decide) dX7_member_78 ?_
  obtain rfl := Option.some.inj h
  refine X_loc (vs1 := [(0, .ref (ad 0)), (1, .int v1), (2, .int v2), (3, .int v3), (4, .int (v4 + (1 : Int32)))]) [1, 2, 3, 4, 0] rfl ?_
  exact kin _ rfl
set_option maxHeartbeats 4000000 in
set_option maxRecDepth 100000 in
theorem wj_m_member_71_10 {l : Launch} {D : va_G} {cs : Nat → ClassId} {K : XK} {ad : Nat → Nat} {rest : va_W} (C : XC D cs K 5 rm_m_member cX7_member RX7 wsX7_member (some .int)) {n : Nat} {σ : ST} {t0 : Int32} {v1 : Int32} {v2 : Int32} {o : (Int32 × Int32) ⊕ ((Unit) ⊕ (Int32 × ST))} {e : ((Unit) ⊕ (Int32 × ST))} (h : j_m_member_71_10 n σ t0 = some o) (kin : ∀ (s : Int32 × Int32), o = .inl s → XW l D K 0 0 (wM cs ad σ rest) 10 [(0, .ref (ad 0)), (1, .int v1), (2, .int v2), (3, .int s.1), (4, .int s.2)] []) (kex : ∀ e1, o = .inr e1 → e1 = e) (kx : ∀ (t : Unit), e = .inl t → XW l D K 0 0 (wM cs ad σ rest) 81 [] []) (kr : ∀ (t : Int32 × ST), e = .inr t → XRi l D K cX7_member t.1 (wM cs ad t.2 rest)) : XW l D K 0 0 (wM cs ad σ rest) 71 [] [.int t0] := by
  unfold j_m_member_71_10 at h
  obtain rfl := Option.some.inj h
  exact kr _ (kex _ rfl).symm _ _ dX7_member_71
set_option maxHeartbeats 4000000 in
set_option maxRecDepth 100000 in
theorem wb_m_member_10 {l : Launch} {D : va_G} {cs : Nat → ClassId} {K : XK} {ad : Nat → Nat} {rest : va_W} (C : XC D cs K 5 rm_m_member cX7_member RX7 wsX7_member (some .int)) {n : Nat} {σ : ST} {v1 : Int32} {v2 : Int32} {e : ((Unit) ⊕ (Int32 × ST))} (kx : ∀ (t : Unit), e = .inl t → XW l D K 0 0 (wM cs ad σ rest) 81 [] []) (kr : ∀ (t : Int32 × ST), e = .inr t → XRi l D K cX7_member t.1 (wM cs ad t.2 rest)) : ∀ (q : Nat) (s : Int32 × Int32), lp (b_m_member_10 n σ v1 v2) q s = some e → XW l D K 0 0 (wM cs ad σ rest) 10 [(0, .ref (ad 0)), (1, .int v1), (2, .int v2), (3, .int s.1), (4, .int s.2)] [] := by
  refine lp_walk (G := fun (s : Int32 × Int32) => XW l D K 0 0 (wM cs ad σ rest) 10 [(0, .ref (ad 0)), (1, .int v1), (2, .int v2), (3, .int s.1), (4, .int s.2)] []) ?_
  intro s o h kin kex
  unfold b_m_member_10 at h
  refine X_iload C 4 rfl dX7_member_10 ?_
  refine X_sipush (v := 256) C (by decide) dX7_member_12 ?_
  refine X_icmpge C (tgt := 81) (by decide) dX7_member_15 h (fun h => ?_) (fun h => ?_)
  · obtain rfl := Option.some.inj h
    refine X_loc (vs1 := []) [] rfl ?_
    exact kx _ (kex _ rfl).symm
  · refine X_aload_n C 0 rfl rfl dX7_member_18 ?_
    refine X_get C 0 8 hi7_m_member hf137_m_member (me_0 _ _ _ _) rfl (by decide) rfl dX7_member_19 ?_
    refine X_ifeq C (tgt := 81) (by decide) dX7_member_22 h (fun h => ?_) (fun h => ?_)
    · obtain rfl := Option.some.inj h
      refine X_loc (vs1 := []) [] rfl ?_
      exact kx _ (kex _ rfl).symm
    · refine X_iload_n C 1 rfl rfl dX7_member_25 ?_
      refine X_iflt C (tgt := 81) (by decide) dX7_member_26 h (fun h => ?_) (fun h => ?_)
      · obtain rfl := Option.some.inj h
        refine X_loc (vs1 := []) [] rfl ?_
        exact kx _ (kex _ rfl).symm
      · refine X_aload_n C 0 rfl rfl dX7_member_29 ?_
        refine X_get C 0 11 hi7_m_member hf26_m_member (me_0 _ _ _ _) rfl (by decide) rfl dX7_member_30 ?_
        refine X_iload C 4 rfl dX7_member_33 ?_
        refine X_iald C 5 (me_5 _ _ _ _) h dX7_member_35 (fun h => ?_)
        refine X_ifne C (tgt := 42) (by decide) dX7_member_36 h (fun h => ?_) (fun h => ?_)
        · refine X_iload_n C 3 rfl rfl dX7_member_42 ?_
          refine X_ifne C (tgt := 72) (by decide) dX7_member_43 h (fun h => ?_) (fun h => ?_)
          · refine X_iinc (v := s.1 + (-1 : Int32)) (vs1 := [(3, .int (s.1 + (-1 : Int32))), (0, .ref (ad 0)), (1, .int v1), (2, .int v2), (4, .int s.2)]) C 3 rfl (by rw [show Int32.ofInt (-1) = (-1 : Int32) from by decide]) (by decide) rfl dX7_member_72 ?_
            refine X_loc (vs1 := [(0, .ref (ad 0)), (1, .int v1), (2, .int v2), (3, .int (s.1 + (-1 : Int32))), (4, .int s.2)]) [1, 2, 3, 0, 4] rfl ?_
            exact wj_m_member_75_10 C h kin kex kx kr
          · refine X_iload_n C 2 rfl rfl dX7_member_46 ?_
            refine X_ifne C (tgt := 55) (by decide) dX7_member_47 h (fun h => ?_) (fun h => ?_)
            · refine X_iload_n C 2 rfl rfl dX7_member_55 ?_
              refine X_iconst (v := 1) C (by decide) dX7_member_56 ?_
              refine X_icmpne C (tgt := 70) (by decide) dX7_member_57 h (fun h => ?_) (fun h => ?_)
              · refine X_iconst (v := (-1)) C (by decide) dX7_member_70 ?_
                refine X_loc (vs1 := []) [] rfl ?_
                exact wj_m_member_71_10 C h kin kex kx kr
              · refine X_aload_n C 0 rfl rfl dX7_member_60 ?_
                refine X_get C 0 11 hi7_m_member hf26_m_member (me_0 _ _ _ _) rfl (by decide) rfl dX7_member_61 ?_
                refine X_iload C 4 rfl dX7_member_64 ?_
                refine X_iald C 5 (me_5 _ _ _ _) h dX7_member_66 (fun h => ?_)
                refine X_goto C (tgt := 71) (by decide) dX7_member_67 ?_
                refine X_loc (vs1 := []) [] rfl ?_
                exact wj_m_member_71_10 C h kin kex kx kr
            · refine X_iload C 4 rfl dX7_member_50 ?_
              refine X_goto C (tgt := 71) (by decide) dX7_member_52 ?_
              refine X_loc (vs1 := []) [] rfl ?_
              exact wj_m_member_71_10 C h kin kex kx kr
        · refine X_goto C (tgt := 75) (by decide) dX7_member_39 ?_
          exact wj_m_member_75_10 C h kin kex kx kr
set_option maxHeartbeats 4000000 in
set_option maxRecDepth 100000 in
theorem c_m_member {l : Launch} {D : va_G} {cs : Nat → ClassId} {ad : Nat → Nat} {rest : va_W} {n : Nat} {σ : ST} {a0 : Int32} {a1 : Int32} {o : Int32 × ST} (h : f_m_member n σ a0 a1 = some o) : CTi l D cs yX7_member wsX7_member rm_m_member [.ref (ad 0), .int a0, .int a1] (wM cs ad σ rest) o.1 (wM cs ad o.2 rest) := by
  refine CTi_of (cc := cX7_member) (nL := 5) (by decide) rfl (Nat.le_of_ble_eq_true rfl) ?_
  intro K C hret
  unfold f_m_member at h
  refine X_loc (vs1 := [(0, .ref (ad 0)), (1, .int a0), (2, .int a1)]) [0, 1, 2] rfl ?_
  refine X_aload_n C 0 rfl rfl dX7_member_0 ?_
  refine X_iconst (v := 0) C (by decide) dX7_member_1 ?_
  refine X_put (ty := .int) C 0 0 hi7_m_member hf85_m_member tyX7 tyX7_ok nmX7 (me_0 _ _ _ _) rfl (by decide) rfl (by decide +kernel) rfl rfl (Nat.le_of_ble_eq_true rfl) (ms_0_0 _ _ _ _ _) dX7_member_2 ?_
  refine X_nam (G := fun σ1 => XW l D K 0 0 (wM cs ad σ1 rest) 5 [(0, .ref (ad 0)), (1, .int a0), (2, .int a1)] []) h (fun σ1 h => ?_)
  refine X_iload_n C 1 rfl rfl dX7_member_5 ?_
  refine X_istore_n (vs1 := [(3, .int a0), (0, .ref (ad 0)), (1, .int a0), (2, .int a1)]) C rfl (by decide) rfl dX7_member_6 ?_
  refine X_iconst (v := 0) C (by decide) dX7_member_7 ?_
  refine X_istore (vs1 := [(4, .int (0 : Int32)), (3, .int a0), (0, .ref (ad 0)), (1, .int a0), (2, .int a1)]) C (by decide) rfl dX7_member_8 ?_
  obtain ⟨e2, he2, h⟩ := bnd_some h
  refine X_loc (vs1 := [(0, .ref (ad 0)), (1, .int a0), (2, .int a1), (3, .int a0), (4, .int (0 : Int32))]) [2, 3, 4, 1, 0] rfl ?_
  refine wb_m_member_10 C (e := e2) (fun t3 ht => ?_) (fun r ht => ?_) n _ he2
  · subst ht
    dsimp only [Sum.elim] at h
    refine X_iconst (v := (-1)) C (by decide) dX7_member_81 ?_
    obtain rfl := Option.some.inj h
    exact hret _ _ dX7_member_82
  · subst ht
    dsimp only [Sum.elim] at h
    obtain rfl := Option.some.inj h
    exact hret

abbrev rm_m_image : Room := { frames := 1, cells := 0, slots := 0, locals := 22 }
def b_m_image_85 (n : Nat) (v1 : Int32) (s : ST × Int32) : Option ((ST × Int32) ⊕ (ST)) :=
  if (16 : Int32) ≤ s.2 then
    some (.inr s.1)
  else
    grd (jin s.2 16) <|
    grd (jin (((16 : Int32) * v1) + s.2) 64) <|
    nam (sA s.1 9 (upd (s.1.2 9) (jix (((16 : Int32) * v1) + s.2)) (s.1.2 1 (jix s.2)))) fun σ10 =>
    grd (jin s.2 16) <|
    grd (jin (((16 : Int32) * v1) + s.2) 64) <|
    nam (sA σ10 10 (upd (σ10.2 10) (jix (((16 : Int32) * v1) + s.2)) (σ10.2 2 (jix s.2)))) fun σ11 =>
    grd (jin s.2 16) <|
    grd (jin (((16 : Int32) * v1) + s.2) 64) <|
    nam (sA σ11 11 (upd (σ11.2 11) (jix (((16 : Int32) * v1) + s.2)) (σ11.2 3 (jix s.2)))) fun σ12 =>
    grd (jin s.2 16) <|
    grd (jin (((16 : Int32) * v1) + s.2) 64) <|
    nam (sA σ12 16 (upd (σ12.2 16) (jix (((16 : Int32) * v1) + s.2)) (σ12.2 4 (jix s.2)))) fun σ13 =>
    some (.inl (σ13, s.2 + (1 : Int32)))
def b_m_image_167 (n : Nat) (v1 : Int32) (s : ST × Int32) : Option ((ST × Int32) ⊕ (ST)) :=
  if (256 : Int32) ≤ s.2 then
    some (.inr s.1)
  else
    grd (jin s.2 256) <|
    grd (jin (((256 : Int32) * v1) + s.2) 1024) <|
    nam (sA s.1 17 (upd (s.1.2 17) (jix (((256 : Int32) * v1) + s.2)) (s.1.2 5 (jix s.2)))) fun σ15 =>
    some (.inl (σ15, s.2 + (1 : Int32)))
def f_m_image (n : Nat) (σ : ST) (a0 : Int32) : Option (Int32 × ST) :=
  nam (sS σ 0 (0 : Int32)) fun σ1 =>
  bnd (f_m_in n a0 (0 : Int32) (3 : Int32)) fun o2 =>
  if o2 = 0 then
    some ((0 : Int32), σ1)
  else
    grd (jin a0 4) <|
    nam (sA σ1 6 (upd (σ1.2 6) (jix a0) (jnz (1 : Int32)))) fun σ3 =>
    grd (jin a0 4) <|
    nam (sA σ3 7 (upd (σ3.2 7) (jix a0) (σ3.1 1))) fun σ4 =>
    grd (jin a0 4) <|
    nam (sA σ4 8 (upd (σ4.2 8) (jix a0) (σ4.1 2))) fun σ5 =>
    grd (jin a0 4) <|
    nam (sA σ5 12 (upd (σ5.2 12) (jix a0) (jnz (σ5.1 6)))) fun σ6 =>
    grd (jin a0 4) <|
    nam (sA σ6 13 (upd (σ6.2 13) (jix a0) (σ6.1 7))) fun σ7 =>
    grd (jin a0 4) <|
    nam (sA σ7 14 (upd (σ7.2 14) (jix a0) (jnz (σ7.1 8)))) fun σ8 =>
    grd (jin a0 4) <|
    nam (sA σ8 15 (upd (σ8.2 15) (jix a0) (σ8.1 9))) fun σ9 =>
    bnd (lp (b_m_image_85 n a0) n (σ9, (0 : Int32))) fun e14 =>
    bnd (lp (b_m_image_167 n a0) n (e14, (0 : Int32))) fun e16 =>
    some ((1 : Int32), e16)
theorem hf26_m_image : Cond.fieldLink RX7 26 (TX7 11).1 (TX7 11).2.1 (TX7 11).2.2.1 ∈ wsX7_image := by decide +kernel
theorem hf63_m_image : Cond.fieldLink RX7 63 (TX7 23).1 (TX7 23).2.1 (TX7 23).2.2.1 ∈ wsX7_image := by decide +kernel
theorem hf23_m_image : Cond.fieldLink RX7 23 (TX7 10).1 (TX7 10).2.1 (TX7 10).2.2.1 ∈ wsX7_image := by decide +kernel
theorem hf60_m_image : Cond.fieldLink RX7 60 (TX7 22).1 (TX7 22).2.1 (TX7 22).2.2.1 ∈ wsX7_image := by decide +kernel
theorem hf20_m_image : Cond.fieldLink RX7 20 (TX7 5).1 (TX7 5).2.1 (TX7 5).2.2.1 ∈ wsX7_image := by decide +kernel
theorem hf45_m_image : Cond.fieldLink RX7 45 (TX7 17).1 (TX7 17).2.1 (TX7 17).2.2.1 ∈ wsX7_image := by decide +kernel
theorem hf17_m_image : Cond.fieldLink RX7 17 (TX7 4).1 (TX7 4).2.1 (TX7 4).2.2.1 ∈ wsX7_image := by decide +kernel
theorem hf42_m_image : Cond.fieldLink RX7 42 (TX7 16).1 (TX7 16).2.1 (TX7 16).2.2.1 ∈ wsX7_image := by decide +kernel
theorem hf13_m_image : Cond.fieldLink RX7 13 (TX7 3).1 (TX7 3).2.1 (TX7 3).2.2.1 ∈ wsX7_image := by decide +kernel
theorem hf39_m_image : Cond.fieldLink RX7 39 (TX7 15).1 (TX7 15).2.1 (TX7 15).2.2.1 ∈ wsX7_image := by decide +kernel
theorem hf175_m_image : Cond.fieldLink RX7 175 (TX7 9).1 (TX7 9).2.1 (TX7 9).2.2.1 ∈ wsX7_image := by decide +kernel
theorem hf57_m_image : Cond.fieldLink RX7 57 (TX7 21).1 (TX7 21).2.1 (TX7 21).2.2.1 ∈ wsX7_image := by decide +kernel
theorem hf137_m_image : Cond.fieldLink RX7 137 (TX7 8).1 (TX7 8).2.1 (TX7 8).2.2.1 ∈ wsX7_image := by decide +kernel
theorem hf54_m_image : Cond.fieldLink RX7 54 (TX7 20).1 (TX7 20).2.1 (TX7 20).2.2.1 ∈ wsX7_image := by decide +kernel
theorem hf153_m_image : Cond.fieldLink RX7 153 (TX7 7).1 (TX7 7).2.1 (TX7 7).2.2.1 ∈ wsX7_image := by decide +kernel
theorem hf51_m_image : Cond.fieldLink RX7 51 (TX7 19).1 (TX7 19).2.1 (TX7 19).2.2.1 ∈ wsX7_image := by decide +kernel
theorem hf134_m_image : Cond.fieldLink RX7 134 (TX7 6).1 (TX7 6).2.1 (TX7 6).2.2.1 ∈ wsX7_image := by decide +kernel
theorem hf48_m_image : Cond.fieldLink RX7 48 (TX7 18).1 (TX7 18).2.1 (TX7 18).2.2.1 ∈ wsX7_image := by decide +kernel
theorem hf95_m_image : Cond.fieldLink RX7 95 (TX7 2).1 (TX7 2).2.1 (TX7 2).2.2.1 ∈ wsX7_image := by decide +kernel
theorem hf36_m_image : Cond.fieldLink RX7 36 (TX7 14).1 (TX7 14).2.1 (TX7 14).2.2.1 ∈ wsX7_image := by decide +kernel
theorem hf7_m_image : Cond.fieldLink RX7 7 (TX7 1).1 (TX7 1).2.1 (TX7 1).2.2.1 ∈ wsX7_image := by decide +kernel
theorem hf33_m_image : Cond.fieldLink RX7 33 (TX7 13).1 (TX7 13).2.1 (TX7 13).2.2.1 ∈ wsX7_image := by decide +kernel
theorem hf29_m_image : Cond.fieldLink RX7 29 (TX7 12).1 (TX7 12).2.1 (TX7 12).2.2.1 ∈ wsX7_image := by decide +kernel
theorem hf85_m_image : Cond.fieldLink RX7 85 (TX7 0).1 (TX7 0).2.1 (TX7 0).2.2.1 ∈ wsX7_image := by decide +kernel
theorem hi7_m_image : ∀ w ∈ u_ws RX7 TX7 34, w ∈ wsX7_image := by decide +kernel
set_option maxHeartbeats 4000000 in
set_option maxRecDepth 100000 in
theorem wb_m_image_85 {l : Launch} {D : va_G} {cs : Nat → ClassId} {K : XK} {ad : Nat → Nat} {rest : va_W} (C : XC D cs K 3 rm_m_image cX7_image RX7 wsX7_image (some .boolean)) {n : Nat} {v1 : Int32} {e : (ST)} (kx : ∀ (t : ST), e = t → XW l D K 0 0 (wM cs ad t rest) 165 [(0, .ref (ad 0)), (1, .int v1)] []) : ∀ (q : Nat) (s : ST × Int32), lp (b_m_image_85 n v1) q s = some e → XW l D K 0 0 (wM cs ad s.1 rest) 85 [(0, .ref (ad 0)), (1, .int v1), (2, .int s.2)] [] := by
  refine lp_walk (G := fun (s : ST × Int32) => XW l D K 0 0 (wM cs ad s.1 rest) 85 [(0, .ref (ad 0)), (1, .int v1), (2, .int s.2)] []) ?_
  intro s o h kin kex
  unfold b_m_image_85 at h
  refine X_iload_n C 2 rfl rfl dX7_image_85 ?_
  refine X_bipush (v := 16) C (by decide) dX7_image_86 ?_
  refine X_icmpge C (tgt := 165) (by decide) dX7_image_88 h (fun h => ?_) (fun h => ?_)
  · obtain rfl := Option.some.inj h
    refine X_loc (vs1 := [(0, .ref (ad 0)), (1, .int v1)]) [0, 1] rfl ?_
    exact kx _ (kex _ rfl).symm
  · refine X_aload_n C 0 rfl rfl dX7_image_91 ?_
    refine X_get C 0 15 hi7_m_image hf39_m_image (me_0 _ _ _ _) rfl (by decide) rfl dX7_image_92 ?_
    refine X_bipush (v := 16) C (by decide) dX7_image_95 ?_
    refine X_iload_n C 1 rfl rfl dX7_image_97 ?_
    refine X_imul C dX7_image_98 ?_
    refine X_iload_n C 2 rfl rfl dX7_image_99 ?_
    refine X_iadd C dX7_image_100 ?_
    refine X_aload_n C 0 rfl rfl dX7_image_101 ?_
    refine X_get C 0 3 hi7_m_image hf13_m_image (me_0 _ _ _ _) rfl (by decide) rfl dX7_image_102 ?_
    refine X_iload_n C 2 rfl rfl dX7_image_105 ?_
    refine X_iald C 1 (me_1 _ _ _ _) h dX7_image_106 (fun h => ?_)
    refine X_iast C 9 (me_9 _ _ _ _) (ma_9 _ _ _ _ _) h dX7_image_107 (fun h => ?_)
    refine X_nam (G := fun σ10 => XW l D K 0 0 (wM cs ad σ10 rest) 108 [(0, .ref (ad 0)), (1, .int v1), (2, .int s.2)] []) h (fun σ10 h => ?_)
    refine X_aload_n C 0 rfl rfl dX7_image_108 ?_
    refine X_get C 0 16 hi7_m_image hf42_m_image (me_0 _ _ _ _) rfl (by decide) rfl dX7_image_109 ?_
    refine X_bipush (v := 16) C (by decide) dX7_image_112 ?_
    refine X_iload_n C 1 rfl rfl dX7_image_114 ?_
    refine X_imul C dX7_image_115 ?_
    refine X_iload_n C 2 rfl rfl dX7_image_116 ?_
    refine X_iadd C dX7_image_117 ?_
    refine X_aload_n C 0 rfl rfl dX7_image_118 ?_
    refine X_get C 0 4 hi7_m_image hf17_m_image (me_0 _ _ _ _) rfl (by decide) rfl dX7_image_119 ?_
    refine X_iload_n C 2 rfl rfl dX7_image_122 ?_
    refine X_iald C 2 (me_2 _ _ _ _) h dX7_image_123 (fun h => ?_)
    refine X_iast C 10 (me_10 _ _ _ _) (ma_10 _ _ _ _ _) h dX7_image_124 (fun h => ?_)
    refine X_nam (G := fun σ11 => XW l D K 0 0 (wM cs ad σ11 rest) 125 [(0, .ref (ad 0)), (1, .int v1), (2, .int s.2)] []) h (fun σ11 h => ?_)
    refine X_aload_n C 0 rfl rfl dX7_image_125 ?_
    refine X_get C 0 17 hi7_m_image hf45_m_image (me_0 _ _ _ _) rfl (by decide) rfl dX7_image_126 ?_
    refine X_bipush (v := 16) C (by decide) dX7_image_129 ?_
    refine X_iload_n C 1 rfl rfl dX7_image_131 ?_
    refine X_imul C dX7_image_132 ?_
    refine X_iload_n C 2 rfl rfl dX7_image_133 ?_
    refine X_iadd C dX7_image_134 ?_
    refine X_aload_n C 0 rfl rfl dX7_image_135 ?_
    refine X_get C 0 5 hi7_m_image hf20_m_image (me_0 _ _ _ _) rfl (by decide) rfl dX7_image_136 ?_
    refine X_iload_n C 2 rfl rfl dX7_image_139 ?_
    refine X_iald C 3 (me_3 _ _ _ _) h dX7_image_140 (fun h => ?_)
    refine X_iast C 11 (me_11 _ _ _ _) (ma_11 _ _ _ _ _) h dX7_image_141 (fun h => ?_)
    refine X_nam (G := fun σ12 => XW l D K 0 0 (wM cs ad σ12 rest) 142 [(0, .ref (ad 0)), (1, .int v1), (2, .int s.2)] []) h (fun σ12 h => ?_)
    refine X_aload_n C 0 rfl rfl dX7_image_142 ?_
    refine X_get C 0 22 hi7_m_image hf60_m_image (me_0 _ _ _ _) rfl (by decide) rfl dX7_image_143 ?_
    refine X_bipush (v := 16) C (by decide) dX7_image_146 ?_
    refine X_iload_n C 1 rfl rfl dX7_image_148 ?_
    refine X_imul C dX7_image_149 ?_
    refine X_iload_n C 2 rfl rfl dX7_image_150 ?_
    refine X_iadd C dX7_image_151 ?_
    refine X_aload_n C 0 rfl rfl dX7_image_152 ?_
    refine X_get C 0 10 hi7_m_image hf23_m_image (me_0 _ _ _ _) rfl (by decide) rfl dX7_image_153 ?_
    refine X_iload_n C 2 rfl rfl dX7_image_156 ?_
    refine X_iald C 4 (me_4 _ _ _ _) h dX7_image_157 (fun h => ?_)
    refine X_iast C 16 (me_16 _ _ _ _) (ma_16 _ _ _ _ _) h dX7_image_158 (fun h => ?_)
    refine X_nam (G := fun σ13 => XW l D K 0 0 (wM cs ad σ13 rest) 159 [(0, .ref (ad 0)), (1, .int v1), (2, .int s.2)] []) h (fun σ13 h => ?_)
    refine X_iinc (v := s.2 + (1 : Int32)) (vs1 := [(2, .int (s.2 + (1 : Int32))), (0, .ref (ad 0)), (1, .int v1)]) C 2 rfl rfl (by decide) rfl dX7_image_159 ?_
    refine X_goto C (tgt := 85) (by decide) dX7_image_162 ?_
    obtain rfl := Option.some.inj h
    refine X_loc (vs1 := [(0, .ref (ad 0)), (1, .int v1), (2, .int (s.2 + (1 : Int32)))]) [1, 2, 0] rfl ?_
    exact kin _ rfl
set_option maxHeartbeats 4000000 in
set_option maxRecDepth 100000 in
theorem wb_m_image_167 {l : Launch} {D : va_G} {cs : Nat → ClassId} {K : XK} {ad : Nat → Nat} {rest : va_W} (C : XC D cs K 3 rm_m_image cX7_image RX7 wsX7_image (some .boolean)) {n : Nat} {v1 : Int32} {e : (ST)} (kx : ∀ (t : ST), e = t → XW l D K 0 0 (wM cs ad t rest) 198 [] []) : ∀ (q : Nat) (s : ST × Int32), lp (b_m_image_167 n v1) q s = some e → XW l D K 0 0 (wM cs ad s.1 rest) 167 [(0, .ref (ad 0)), (1, .int v1), (2, .int s.2)] [] := by
  refine lp_walk (G := fun (s : ST × Int32) => XW l D K 0 0 (wM cs ad s.1 rest) 167 [(0, .ref (ad 0)), (1, .int v1), (2, .int s.2)] []) ?_
  intro s o h kin kex
  unfold b_m_image_167 at h
  refine X_iload_n C 2 rfl rfl dX7_image_167 ?_
  refine X_sipush (v := 256) C (by decide) dX7_image_168 ?_
  refine X_icmpge C (tgt := 198) (by decide) dX7_image_171 h (fun h => ?_) (fun h => ?_)
  · obtain rfl := Option.some.inj h
    refine X_loc (vs1 := []) [] rfl ?_
    exact kx _ (kex _ rfl).symm
  · refine X_aload_n C 0 rfl rfl dX7_image_174 ?_
    refine X_get C 0 23 hi7_m_image hf63_m_image (me_0 _ _ _ _) rfl (by decide) rfl dX7_image_175 ?_
    refine X_sipush (v := 256) C (by decide) dX7_image_178 ?_
    refine X_iload_n C 1 rfl rfl dX7_image_181 ?_
    refine X_imul C dX7_image_182 ?_
    refine X_iload_n C 2 rfl rfl dX7_image_183 ?_
    refine X_iadd C dX7_image_184 ?_
    refine X_aload_n C 0 rfl rfl dX7_image_185 ?_
    refine X_get C 0 11 hi7_m_image hf26_m_image (me_0 _ _ _ _) rfl (by decide) rfl dX7_image_186 ?_
    refine X_iload_n C 2 rfl rfl dX7_image_189 ?_
    refine X_iald C 5 (me_5 _ _ _ _) h dX7_image_190 (fun h => ?_)
    refine X_iast C 17 (me_17 _ _ _ _) (ma_17 _ _ _ _ _) h dX7_image_191 (fun h => ?_)
    refine X_nam (G := fun σ15 => XW l D K 0 0 (wM cs ad σ15 rest) 192 [(0, .ref (ad 0)), (1, .int v1), (2, .int s.2)] []) h (fun σ15 h => ?_)
    refine X_iinc (v := s.2 + (1 : Int32)) (vs1 := [(2, .int (s.2 + (1 : Int32))), (0, .ref (ad 0)), (1, .int v1)]) C 2 rfl rfl (by decide) rfl dX7_image_192 ?_
    refine X_goto C (tgt := 167) (by decide) dX7_image_195 ?_
    obtain rfl := Option.some.inj h
    refine X_loc (vs1 := [(0, .ref (ad 0)), (1, .int v1), (2, .int (s.2 + (1 : Int32)))]) [1, 2, 0] rfl ?_
    exact kin _ rfl
set_option maxHeartbeats 4000000 in
set_option maxRecDepth 100000 in
theorem c_m_image {l : Launch} {D : va_G} {cs : Nat → ClassId} {ad : Nat → Nat} {rest : va_W} {n : Nat} {σ : ST} {a0 : Int32} {o : Int32 × ST} (h : f_m_image n σ a0 = some o) : CTi l D cs yX7_image wsX7_image rm_m_image [.ref (ad 0), .int a0] (wM cs ad σ rest) o.1 (wM cs ad o.2 rest) := by
  refine CTz_of (cc := cX7_image) (nL := 3) (by decide) rfl (Nat.le_of_ble_eq_true rfl) ?_
  intro K C hret
  unfold f_m_image at h
  refine X_loc (vs1 := [(0, .ref (ad 0)), (1, .int a0)]) [0, 1] rfl ?_
  refine X_aload_n C 0 rfl rfl dX7_image_0 ?_
  refine X_iconst (v := 0) C (by decide) dX7_image_1 ?_
  refine X_put (ty := .int) C 0 0 hi7_m_image hf85_m_image tyX7 tyX7_ok nmX7 (me_0 _ _ _ _) rfl (by decide) rfl (by decide +kernel) rfl rfl (Nat.le_of_ble_eq_true rfl) (ms_0_0 _ _ _ _ _) dX7_image_2 ?_
  refine X_nam (G := fun σ1 => XW l D K 0 0 (wM cs ad σ1 rest) 5 [(0, .ref (ad 0)), (1, .int a0)] []) h (fun σ1 h => ?_)
  refine X_iload_n C 1 rfl rfl dX7_image_5 ?_
  refine X_iconst (v := 0) C (by decide) dX7_image_6 ?_
  refine X_iconst (v := 3) C (by decide) dX7_image_7 ?_
  obtain ⟨o2, eo2, h⟩ := bnd_some h
  refine X_callSi C (n := 3) (As := [.int a0, .int (0 : Int32), .int (3 : Int32)]) (c_m_in eo2) gX7_image_X7_in rfl rfl rfl (by decide +kernel) ⟨Nat.le_of_ble_eq_true rfl, Nat.le_of_ble_eq_true rfl⟩ ⟨Nat.zero_le _, Nat.zero_le _⟩ rfl rfl (Nat.le_of_ble_eq_true rfl) dX7_image_8 ?_
  refine X_ifne C (tgt := 16) (by decide) dX7_image_11 h (fun h => ?_) (fun h => ?_)
  · refine X_aload_n C 0 rfl rfl dX7_image_16 ?_
    refine X_get C 0 12 hi7_m_image hf29_m_image (me_0 _ _ _ _) rfl (by decide) rfl dX7_image_17 ?_
    refine X_iload_n C 1 rfl rfl dX7_image_20 ?_
    refine X_iconst (v := 1) C (by decide) dX7_image_21 ?_
    refine X_zast C 6 (me_6 _ _ _ _) (ma_6 _ _ _ _ _) h dX7_image_22 (fun h => ?_)
    refine X_nam (G := fun σ3 => XW l D K 0 0 (wM cs ad σ3 rest) 23 [(0, .ref (ad 0)), (1, .int a0)] []) h (fun σ3 h => ?_)
    refine X_aload_n C 0 rfl rfl dX7_image_23 ?_
    refine X_get C 0 13 hi7_m_image hf33_m_image (me_0 _ _ _ _) rfl (by decide) rfl dX7_image_24 ?_
    refine X_iload_n C 1 rfl rfl dX7_image_27 ?_
    refine X_aload_n C 0 rfl rfl dX7_image_28 ?_
    refine X_get C 0 1 hi7_m_image hf7_m_image (me_0 _ _ _ _) rfl (by decide) rfl dX7_image_29 ?_
    refine X_iast C 7 (me_7 _ _ _ _) (ma_7 _ _ _ _ _) h dX7_image_32 (fun h => ?_)
    refine X_nam (G := fun σ4 => XW l D K 0 0 (wM cs ad σ4 rest) 33 [(0, .ref (ad 0)), (1, .int a0)] []) h (fun σ4 h => ?_)
    refine X_aload_n C 0 rfl rfl dX7_image_33 ?_
    refine X_get C 0 14 hi7_m_image hf36_m_image (me_0 _ _ _ _) rfl (by decide) rfl dX7_image_34 ?_
    refine X_iload_n C 1 rfl rfl dX7_image_37 ?_
    refine X_aload_n C 0 rfl rfl dX7_image_38 ?_
    refine X_get C 0 2 hi7_m_image hf95_m_image (me_0 _ _ _ _) rfl (by decide) rfl dX7_image_39 ?_
    refine X_iast C 8 (me_8 _ _ _ _) (ma_8 _ _ _ _ _) h dX7_image_42 (fun h => ?_)
    refine X_nam (G := fun σ5 => XW l D K 0 0 (wM cs ad σ5 rest) 43 [(0, .ref (ad 0)), (1, .int a0)] []) h (fun σ5 h => ?_)
    refine X_aload_n C 0 rfl rfl dX7_image_43 ?_
    refine X_get C 0 18 hi7_m_image hf48_m_image (me_0 _ _ _ _) rfl (by decide) rfl dX7_image_44 ?_
    refine X_iload_n C 1 rfl rfl dX7_image_47 ?_
    refine X_aload_n C 0 rfl rfl dX7_image_48 ?_
    refine X_get C 0 6 hi7_m_image hf134_m_image (me_0 _ _ _ _) rfl (by decide) rfl dX7_image_49 ?_
    refine X_zast C 12 (me_12 _ _ _ _) (ma_12 _ _ _ _ _) h dX7_image_52 (fun h => ?_)
    refine X_nam (G := fun σ6 => XW l D K 0 0 (wM cs ad σ6 rest) 53 [(0, .ref (ad 0)), (1, .int a0)] []) h (fun σ6 h => ?_)
    refine X_aload_n C 0 rfl rfl dX7_image_53 ?_
    refine X_get C 0 19 hi7_m_image hf51_m_image (me_0 _ _ _ _) rfl (by decide) rfl dX7_image_54 ?_
    refine X_iload_n C 1 rfl rfl dX7_image_57 ?_
    refine X_aload_n C 0 rfl rfl dX7_image_58 ?_
    refine X_get C 0 7 hi7_m_image hf153_m_image (me_0 _ _ _ _) rfl (by decide) rfl dX7_image_59 ?_
    refine X_iast C 13 (me_13 _ _ _ _) (ma_13 _ _ _ _ _) h dX7_image_62 (fun h => ?_)
    refine X_nam (G := fun σ7 => XW l D K 0 0 (wM cs ad σ7 rest) 63 [(0, .ref (ad 0)), (1, .int a0)] []) h (fun σ7 h => ?_)
    refine X_aload_n C 0 rfl rfl dX7_image_63 ?_
    refine X_get C 0 20 hi7_m_image hf54_m_image (me_0 _ _ _ _) rfl (by decide) rfl dX7_image_64 ?_
    refine X_iload_n C 1 rfl rfl dX7_image_67 ?_
    refine X_aload_n C 0 rfl rfl dX7_image_68 ?_
    refine X_get C 0 8 hi7_m_image hf137_m_image (me_0 _ _ _ _) rfl (by decide) rfl dX7_image_69 ?_
    refine X_zast C 14 (me_14 _ _ _ _) (ma_14 _ _ _ _ _) h dX7_image_72 (fun h => ?_)
    refine X_nam (G := fun σ8 => XW l D K 0 0 (wM cs ad σ8 rest) 73 [(0, .ref (ad 0)), (1, .int a0)] []) h (fun σ8 h => ?_)
    refine X_aload_n C 0 rfl rfl dX7_image_73 ?_
    refine X_get C 0 21 hi7_m_image hf57_m_image (me_0 _ _ _ _) rfl (by decide) rfl dX7_image_74 ?_
    refine X_iload_n C 1 rfl rfl dX7_image_77 ?_
    refine X_aload_n C 0 rfl rfl dX7_image_78 ?_
    refine X_get C 0 9 hi7_m_image hf175_m_image (me_0 _ _ _ _) rfl (by decide) rfl dX7_image_79 ?_
    refine X_iast C 15 (me_15 _ _ _ _) (ma_15 _ _ _ _ _) h dX7_image_82 (fun h => ?_)
    refine X_nam (G := fun σ9 => XW l D K 0 0 (wM cs ad σ9 rest) 83 [(0, .ref (ad 0)), (1, .int a0)] []) h (fun σ9 h => ?_)
    refine X_iconst (v := 0) C (by decide) dX7_image_83 ?_
    refine X_istore_n (vs1 := [(2, .int (0 : Int32)), (0, .ref (ad 0)), (1, .int a0)]) C rfl (by decide) rfl dX7_image_84 ?_
    obtain ⟨e14, he14, h⟩ := bnd_some h
    refine X_loc (vs1 := [(0, .ref (ad 0)), (1, .int a0), (2, .int (0 : Int32))]) [1, 2, 0] rfl ?_
    refine wb_m_image_85 C (e := e14) (fun t ht => ?_) n _ he14
    subst ht
    refine X_iconst (v := 0) C (by decide) dX7_image_165 ?_
    refine X_istore_n (vs1 := [(2, .int (0 : Int32)), (0, .ref (ad 0)), (1, .int a0)]) C rfl (by decide) rfl dX7_image_166 ?_
    obtain ⟨e16, he16, h⟩ := bnd_some h
    refine X_loc (vs1 := [(0, .ref (ad 0)), (1, .int a0), (2, .int (0 : Int32))]) [1, 2, 0] rfl ?_
    refine wb_m_image_167 C (e := e16) (fun t ht => ?_) n _ he16
    subst ht
    refine X_iconst (v := 1) C (by decide) dX7_image_198 ?_
    obtain rfl := Option.some.inj h
    exact hret _ _ jz_1 dX7_image_199
  · refine X_iconst (v := 0) C (by decide) dX7_image_14 ?_
    obtain rfl := Option.some.inj h
    exact hret _ _ jz_0 dX7_image_15

abbrev rm_m_again : Room := { frames := 1, cells := 0, slots := 0, locals := 22 }
def j_m_again_23 (n : Nat) (σ : ST) : Option (Int32 × ST) :=
  some ((0 : Int32), σ)
def b_m_again_87 (n : Nat) (v1 : Int32) (s : ST × Int32) : Option ((ST × Int32) ⊕ (ST)) :=
  if (16 : Int32) ≤ s.2 then
    some (.inr s.1)
  else
    grd (jin (((16 : Int32) * v1) + s.2) 64) <|
    grd (jin s.2 16) <|
    nam (sA s.1 1 (upd (s.1.2 1) (jix s.2) (s.1.2 9 (jix (((16 : Int32) * v1) + s.2))))) fun σ9 =>
    grd (jin (((16 : Int32) * v1) + s.2) 64) <|
    grd (jin s.2 16) <|
    nam (sA σ9 2 (upd (σ9.2 2) (jix s.2) (σ9.2 10 (jix (((16 : Int32) * v1) + s.2))))) fun σ10 =>
    grd (jin (((16 : Int32) * v1) + s.2) 64) <|
    grd (jin s.2 16) <|
    nam (sA σ10 3 (upd (σ10.2 3) (jix s.2) (σ10.2 11 (jix (((16 : Int32) * v1) + s.2))))) fun σ11 =>
    grd (jin (((16 : Int32) * v1) + s.2) 64) <|
    grd (jin s.2 16) <|
    nam (sA σ11 4 (upd (σ11.2 4) (jix s.2) (σ11.2 16 (jix (((16 : Int32) * v1) + s.2))))) fun σ12 =>
    some (.inl (σ12, s.2 + (1 : Int32)))
def b_m_again_169 (n : Nat) (v1 : Int32) (s : ST × Int32) : Option ((ST × Int32) ⊕ (ST)) :=
  if (256 : Int32) ≤ s.2 then
    some (.inr s.1)
  else
    grd (jin (((256 : Int32) * v1) + s.2) 1024) <|
    grd (jin s.2 256) <|
    nam (sA s.1 5 (upd (s.1.2 5) (jix s.2) (s.1.2 17 (jix (((256 : Int32) * v1) + s.2))))) fun σ14 =>
    some (.inl (σ14, s.2 + (1 : Int32)))
def f_m_again (n : Nat) (σ : ST) (a0 : Int32) : Option (Int32 × ST) :=
  nam (sS σ 0 (0 : Int32)) fun σ1 =>
  bnd (f_m_in n a0 (0 : Int32) (3 : Int32)) fun o2 =>
  if o2 = 0 then
    j_m_again_23 n σ1
  else
    grd (jin a0 4) <|
    if (σ1.2 6 (jix a0)) = 0 then
      j_m_again_23 n σ1
    else
      grd (jin a0 4) <|
      nam (sS σ1 1 (σ1.2 7 (jix a0))) fun σ3 =>
      grd (jin a0 4) <|
      nam (sS σ3 2 (σ3.2 8 (jix a0))) fun σ4 =>
      grd (jin a0 4) <|
      grd (jz (σ4.2 12 (jix a0))) <|
      nam (sS σ4 6 (σ4.2 12 (jix a0))) fun σ5 =>
      grd (jin a0 4) <|
      nam (sS σ5 7 (σ5.2 13 (jix a0))) fun σ6 =>
      grd (jin a0 4) <|
      grd (jz (σ6.2 14 (jix a0))) <|
      nam (sS σ6 8 (σ6.2 14 (jix a0))) fun σ7 =>
      grd (jin a0 4) <|
      nam (sS σ7 9 (σ7.2 15 (jix a0))) fun σ8 =>
      bnd (lp (b_m_again_87 n a0) n (σ8, (0 : Int32))) fun e13 =>
      bnd (lp (b_m_again_169 n a0) n (e13, (0 : Int32))) fun e15 =>
      bnd (f_m_changed e15) fun o16 =>
      some ((1 : Int32), o16)
theorem hf63_m_again : Cond.fieldLink RX7 63 (TX7 23).1 (TX7 23).2.1 (TX7 23).2.2.1 ∈ wsX7_again := by decide +kernel
theorem hf26_m_again : Cond.fieldLink RX7 26 (TX7 11).1 (TX7 11).2.1 (TX7 11).2.2.1 ∈ wsX7_again := by decide +kernel
theorem hf60_m_again : Cond.fieldLink RX7 60 (TX7 22).1 (TX7 22).2.1 (TX7 22).2.2.1 ∈ wsX7_again := by decide +kernel
theorem hf23_m_again : Cond.fieldLink RX7 23 (TX7 10).1 (TX7 10).2.1 (TX7 10).2.2.1 ∈ wsX7_again := by decide +kernel
theorem hf45_m_again : Cond.fieldLink RX7 45 (TX7 17).1 (TX7 17).2.1 (TX7 17).2.2.1 ∈ wsX7_again := by decide +kernel
theorem hf20_m_again : Cond.fieldLink RX7 20 (TX7 5).1 (TX7 5).2.1 (TX7 5).2.2.1 ∈ wsX7_again := by decide +kernel
theorem hf42_m_again : Cond.fieldLink RX7 42 (TX7 16).1 (TX7 16).2.1 (TX7 16).2.2.1 ∈ wsX7_again := by decide +kernel
theorem hf17_m_again : Cond.fieldLink RX7 17 (TX7 4).1 (TX7 4).2.1 (TX7 4).2.2.1 ∈ wsX7_again := by decide +kernel
theorem hf39_m_again : Cond.fieldLink RX7 39 (TX7 15).1 (TX7 15).2.1 (TX7 15).2.2.1 ∈ wsX7_again := by decide +kernel
theorem hf13_m_again : Cond.fieldLink RX7 13 (TX7 3).1 (TX7 3).2.1 (TX7 3).2.2.1 ∈ wsX7_again := by decide +kernel
theorem hf175_m_again : Cond.fieldLink RX7 175 (TX7 9).1 (TX7 9).2.1 (TX7 9).2.2.1 ∈ wsX7_again := by decide +kernel
theorem hf57_m_again : Cond.fieldLink RX7 57 (TX7 21).1 (TX7 21).2.1 (TX7 21).2.2.1 ∈ wsX7_again := by decide +kernel
theorem hf137_m_again : Cond.fieldLink RX7 137 (TX7 8).1 (TX7 8).2.1 (TX7 8).2.2.1 ∈ wsX7_again := by decide +kernel
theorem hf54_m_again : Cond.fieldLink RX7 54 (TX7 20).1 (TX7 20).2.1 (TX7 20).2.2.1 ∈ wsX7_again := by decide +kernel
theorem hf153_m_again : Cond.fieldLink RX7 153 (TX7 7).1 (TX7 7).2.1 (TX7 7).2.2.1 ∈ wsX7_again := by decide +kernel
theorem hf51_m_again : Cond.fieldLink RX7 51 (TX7 19).1 (TX7 19).2.1 (TX7 19).2.2.1 ∈ wsX7_again := by decide +kernel
theorem hf134_m_again : Cond.fieldLink RX7 134 (TX7 6).1 (TX7 6).2.1 (TX7 6).2.2.1 ∈ wsX7_again := by decide +kernel
theorem hf48_m_again : Cond.fieldLink RX7 48 (TX7 18).1 (TX7 18).2.1 (TX7 18).2.2.1 ∈ wsX7_again := by decide +kernel
theorem hf95_m_again : Cond.fieldLink RX7 95 (TX7 2).1 (TX7 2).2.1 (TX7 2).2.2.1 ∈ wsX7_again := by decide +kernel
theorem hf36_m_again : Cond.fieldLink RX7 36 (TX7 14).1 (TX7 14).2.1 (TX7 14).2.2.1 ∈ wsX7_again := by decide +kernel
theorem hf7_m_again : Cond.fieldLink RX7 7 (TX7 1).1 (TX7 1).2.1 (TX7 1).2.2.1 ∈ wsX7_again := by decide +kernel
theorem hf33_m_again : Cond.fieldLink RX7 33 (TX7 13).1 (TX7 13).2.1 (TX7 13).2.2.1 ∈ wsX7_again := by decide +kernel
theorem hf29_m_again : Cond.fieldLink RX7 29 (TX7 12).1 (TX7 12).2.1 (TX7 12).2.2.1 ∈ wsX7_again := by decide +kernel
theorem hf85_m_again : Cond.fieldLink RX7 85 (TX7 0).1 (TX7 0).2.1 (TX7 0).2.2.1 ∈ wsX7_again := by decide +kernel
theorem hi7_m_again : ∀ w ∈ u_ws RX7 TX7 34, w ∈ wsX7_again := by decide +kernel
set_option maxHeartbeats 4000000 in
set_option maxRecDepth 100000 in
theorem wj_m_again_23 {l : Launch} {D : va_G} {cs : Nat → ClassId} {K : XK} {ad : Nat → Nat} {rest : va_W} (C : XC D cs K 3 rm_m_again cX7_again RX7 wsX7_again (some .boolean)) {n : Nat} {σ : ST} {o : Int32 × ST} (h : j_m_again_23 n σ = some o) (hret : XRz l D K cX7_again o.1 (wM cs ad o.2 rest)) : XW l D K 0 0 (wM cs ad σ rest) 23 [] [] := by
  unfold j_m_again_23 at h
  refine X_iconst (v := 0) C (by decide) dX7_again_23 ?_
  obtain rfl := Option.some.inj h
  exact hret _ _ jz_0 dX7_again_24
set_option maxHeartbeats 4000000 in
set_option maxRecDepth 100000 in
theorem wb_m_again_87 {l : Launch} {D : va_G} {cs : Nat → ClassId} {K : XK} {ad : Nat → Nat} {rest : va_W} (C : XC D cs K 3 rm_m_again cX7_again RX7 wsX7_again (some .boolean)) {n : Nat} {v1 : Int32} {e : (ST)} (kx : ∀ (t : ST), e = t → XW l D K 0 0 (wM cs ad t rest) 167 [(0, .ref (ad 0)), (1, .int v1)] []) : ∀ (q : Nat) (s : ST × Int32), lp (b_m_again_87 n v1) q s = some e → XW l D K 0 0 (wM cs ad s.1 rest) 87 [(0, .ref (ad 0)), (1, .int v1), (2, .int s.2)] [] := by
  refine lp_walk (G := fun (s : ST × Int32) => XW l D K 0 0 (wM cs ad s.1 rest) 87 [(0, .ref (ad 0)), (1, .int v1), (2, .int s.2)] []) ?_
  intro s o h kin kex
  unfold b_m_again_87 at h
  refine X_iload_n C 2 rfl rfl dX7_again_87 ?_
  refine X_bipush (v := 16) C (by decide) dX7_again_88 ?_
  refine X_icmpge C (tgt := 167) (by decide) dX7_again_90 h (fun h => ?_) (fun h => ?_)
  · obtain rfl := Option.some.inj h
    refine X_loc (vs1 := [(0, .ref (ad 0)), (1, .int v1)]) [0, 1] rfl ?_
    exact kx _ (kex _ rfl).symm
  · refine X_aload_n C 0 rfl rfl dX7_again_93 ?_
    refine X_get C 0 3 hi7_m_again hf13_m_again (me_0 _ _ _ _) rfl (by decide) rfl dX7_again_94 ?_
    refine X_iload_n C 2 rfl rfl dX7_again_97 ?_
    refine X_aload_n C 0 rfl rfl dX7_again_98 ?_
    refine X_get C 0 15 hi7_m_again hf39_m_again (me_0 _ _ _ _) rfl (by decide) rfl dX7_again_99 ?_
    refine X_bipush (v := 16) C (by decide) dX7_again_102 ?_
    refine X_iload_n C 1 rfl rfl dX7_again_104 ?_
    refine X_imul C dX7_again_105 ?_
    refine X_iload_n C 2 rfl rfl dX7_again_106 ?_
    refine X_iadd C dX7_again_107 ?_
    refine X_iald C 9 (me_9 _ _ _ _) h dX7_again_108 (fun h => ?_)
    refine X_iast C 1 (me_1 _ _ _ _) (ma_1 _ _ _ _ _) h dX7_again_109 (fun h => ?_)
    refine X_nam (G := fun σ9 => XW l D K 0 0 (wM cs ad σ9 rest) 110 [(0, .ref (ad 0)), (1, .int v1), (2, .int s.2)] []) h (fun σ9 h => ?_)
    refine X_aload_n C 0 rfl rfl dX7_again_110 ?_
    refine X_get C 0 4 hi7_m_again hf17_m_again (me_0 _ _ _ _) rfl (by decide) rfl dX7_again_111 ?_
    refine X_iload_n C 2 rfl rfl dX7_again_114 ?_
    refine X_aload_n C 0 rfl rfl dX7_again_115 ?_
    refine X_get C 0 16 hi7_m_again hf42_m_again (me_0 _ _ _ _) rfl (by decide) rfl dX7_again_116 ?_
    refine X_bipush (v := 16) C (by decide) dX7_again_119 ?_
    refine X_iload_n C 1 rfl rfl dX7_again_121 ?_
    refine X_imul C dX7_again_122 ?_
    refine X_iload_n C 2 rfl rfl dX7_again_123 ?_
    refine X_iadd C dX7_again_124 ?_
    refine X_iald C 10 (me_10 _ _ _ _) h dX7_again_125 (fun h => ?_)
    refine X_iast C 2 (me_2 _ _ _ _) (ma_2 _ _ _ _ _) h dX7_again_126 (fun h => ?_)
    refine X_nam (G := fun σ10 => XW l D K 0 0 (wM cs ad σ10 rest) 127 [(0, .ref (ad 0)), (1, .int v1), (2, .int s.2)] []) h (fun σ10 h => ?_)
    refine X_aload_n C 0 rfl rfl dX7_again_127 ?_
    refine X_get C 0 5 hi7_m_again hf20_m_again (me_0 _ _ _ _) rfl (by decide) rfl dX7_again_128 ?_
    refine X_iload_n C 2 rfl rfl dX7_again_131 ?_
    refine X_aload_n C 0 rfl rfl dX7_again_132 ?_
    refine X_get C 0 17 hi7_m_again hf45_m_again (me_0 _ _ _ _) rfl (by decide) rfl dX7_again_133 ?_
    refine X_bipush (v := 16) C (by decide) dX7_again_136 ?_
    refine X_iload_n C 1 rfl rfl dX7_again_138 ?_
    refine X_imul C dX7_again_139 ?_
    refine X_iload_n C 2 rfl rfl dX7_again_140 ?_
    refine X_iadd C dX7_again_141 ?_
    refine X_iald C 11 (me_11 _ _ _ _) h dX7_again_142 (fun h => ?_)
    refine X_iast C 3 (me_3 _ _ _ _) (ma_3 _ _ _ _ _) h dX7_again_143 (fun h => ?_)
    refine X_nam (G := fun σ11 => XW l D K 0 0 (wM cs ad σ11 rest) 144 [(0, .ref (ad 0)), (1, .int v1), (2, .int s.2)] []) h (fun σ11 h => ?_)
    refine X_aload_n C 0 rfl rfl dX7_again_144 ?_
    refine X_get C 0 10 hi7_m_again hf23_m_again (me_0 _ _ _ _) rfl (by decide) rfl dX7_again_145 ?_
    refine X_iload_n C 2 rfl rfl dX7_again_148 ?_
    refine X_aload_n C 0 rfl rfl dX7_again_149 ?_
    refine X_get C 0 22 hi7_m_again hf60_m_again (me_0 _ _ _ _) rfl (by decide) rfl dX7_again_150 ?_
    refine X_bipush (v := 16) C (by decide) dX7_again_153 ?_
    refine X_iload_n C 1 rfl rfl dX7_again_155 ?_
    refine X_imul C dX7_again_156 ?_
    refine X_iload_n C 2 rfl rfl dX7_again_157 ?_
    refine X_iadd C dX7_again_158 ?_
    refine X_iald C 16 (me_16 _ _ _ _) h dX7_again_159 (fun h => ?_)
    refine X_iast C 4 (me_4 _ _ _ _) (ma_4 _ _ _ _ _) h dX7_again_160 (fun h => ?_)
    refine X_nam (G := fun σ12 => XW l D K 0 0 (wM cs ad σ12 rest) 161 [(0, .ref (ad 0)), (1, .int v1), (2, .int s.2)] []) h (fun σ12 h => ?_)
    refine X_iinc (v := s.2 + (1 : Int32)) (vs1 := [(2, .int (s.2 + (1 : Int32))), (0, .ref (ad 0)), (1, .int v1)]) C 2 rfl rfl (by decide) rfl dX7_again_161 ?_
    refine X_goto C (tgt := 87) (by decide) dX7_again_164 ?_
    obtain rfl := Option.some.inj h
    refine X_loc (vs1 := [(0, .ref (ad 0)), (1, .int v1), (2, .int (s.2 + (1 : Int32)))]) [1, 2, 0] rfl ?_
    exact kin _ rfl
set_option maxHeartbeats 4000000 in
set_option maxRecDepth 100000 in
theorem wb_m_again_169 {l : Launch} {D : va_G} {cs : Nat → ClassId} {K : XK} {ad : Nat → Nat} {rest : va_W} (C : XC D cs K 3 rm_m_again cX7_again RX7 wsX7_again (some .boolean)) {n : Nat} {v1 : Int32} {e : (ST)} (kx : ∀ (t : ST), e = t → XW l D K 0 0 (wM cs ad t rest) 200 [(0, .ref (ad 0))] []) : ∀ (q : Nat) (s : ST × Int32), lp (b_m_again_169 n v1) q s = some e → XW l D K 0 0 (wM cs ad s.1 rest) 169 [(0, .ref (ad 0)), (1, .int v1), (2, .int s.2)] [] := by
  refine lp_walk (G := fun (s : ST × Int32) => XW l D K 0 0 (wM cs ad s.1 rest) 169 [(0, .ref (ad 0)), (1, .int v1), (2, .int s.2)] []) ?_
  intro s o h kin kex
  unfold b_m_again_169 at h
  refine X_iload_n C 2 rfl rfl dX7_again_169 ?_
  refine X_sipush (v := 256) C (by decide) dX7_again_170 ?_
  refine X_icmpge C (tgt := 200) (by decide) dX7_again_173 h (fun h => ?_) (fun h => ?_)
  · obtain rfl := Option.some.inj h
    refine X_loc (vs1 := [(0, .ref (ad 0))]) [0] rfl ?_
    exact kx _ (kex _ rfl).symm
  · refine X_aload_n C 0 rfl rfl dX7_again_176 ?_
    refine X_get C 0 11 hi7_m_again hf26_m_again (me_0 _ _ _ _) rfl (by decide) rfl dX7_again_177 ?_
    refine X_iload_n C 2 rfl rfl dX7_again_180 ?_
    refine X_aload_n C 0 rfl rfl dX7_again_181 ?_
    refine X_get C 0 23 hi7_m_again hf63_m_again (me_0 _ _ _ _) rfl (by decide) rfl dX7_again_182 ?_
    refine X_sipush (v := 256) C (by decide) dX7_again_185 ?_
    refine X_iload_n C 1 rfl rfl dX7_again_188 ?_
    refine X_imul C dX7_again_189 ?_
    refine X_iload_n C 2 rfl rfl dX7_again_190 ?_
    refine X_iadd C dX7_again_191 ?_
    refine X_iald C 17 (me_17 _ _ _ _) h dX7_again_192 (fun h => ?_)
    refine X_iast C 5 (me_5 _ _ _ _) (ma_5 _ _ _ _ _) h dX7_again_193 (fun h => ?_)
    refine X_nam (G := fun σ14 => XW l D K 0 0 (wM cs ad σ14 rest) 194 [(0, .ref (ad 0)), (1, .int v1), (2, .int s.2)] []) h (fun σ14 h => ?_)
    refine X_iinc (v := s.2 + (1 : Int32)) (vs1 := [(2, .int (s.2 + (1 : Int32))), (0, .ref (ad 0)), (1, .int v1)]) C 2 rfl rfl (by decide) rfl dX7_again_194 ?_
    refine X_goto C (tgt := 169) (by decide) dX7_again_197 ?_
    obtain rfl := Option.some.inj h
    refine X_loc (vs1 := [(0, .ref (ad 0)), (1, .int v1), (2, .int (s.2 + (1 : Int32)))]) [1, 2, 0] rfl ?_
    exact kin _ rfl
set_option maxHeartbeats 4000000 in
set_option maxRecDepth 100000 in
theorem c_m_again {l : Launch} {D : va_G} {cs : Nat → ClassId} {ad : Nat → Nat} {rest : va_W} {n : Nat} {σ : ST} {a0 : Int32} {o : Int32 × ST} (h : f_m_again n σ a0 = some o) : CTi l D cs yX7_again wsX7_again rm_m_again [.ref (ad 0), .int a0] (wM cs ad σ rest) o.1 (wM cs ad o.2 rest) := by
  refine CTz_of (cc := cX7_again) (nL := 3) (by decide) rfl (Nat.le_of_ble_eq_true rfl) ?_
  intro K C hret
  unfold f_m_again at h
  refine X_loc (vs1 := [(0, .ref (ad 0)), (1, .int a0)]) [0, 1] rfl ?_
  refine X_aload_n C 0 rfl rfl dX7_again_0 ?_
  refine X_iconst (v := 0) C (by decide) dX7_again_1 ?_
  refine X_put (ty := .int) C 0 0 hi7_m_again hf85_m_again tyX7 tyX7_ok nmX7 (me_0 _ _ _ _) rfl (by decide) rfl (by decide +kernel) rfl rfl (Nat.le_of_ble_eq_true rfl) (ms_0_0 _ _ _ _ _) dX7_again_2 ?_
  refine X_nam (G := fun σ1 => XW l D K 0 0 (wM cs ad σ1 rest) 5 [(0, .ref (ad 0)), (1, .int a0)] []) h (fun σ1 h => ?_)
  refine X_iload_n C 1 rfl rfl dX7_again_5 ?_
  refine X_iconst (v := 0) C (by decide) dX7_again_6 ?_
  refine X_iconst (v := 3) C (by decide) dX7_again_7 ?_
  obtain ⟨o2, eo2, h⟩ := bnd_some h
  refine X_callSi C (n := 3) (As := [.int a0, .int (0 : Int32), .int (3 : Int32)]) (c_m_in eo2) gX7_again_X7_in rfl rfl rfl (by decide +kernel) ⟨Nat.le_of_ble_eq_true rfl, Nat.le_of_ble_eq_true rfl⟩ ⟨Nat.zero_le _, Nat.zero_le _⟩ rfl rfl (Nat.le_of_ble_eq_true rfl) dX7_again_8 ?_
  refine X_ifeq C (tgt := 23) (by decide) dX7_again_11 h (fun h => ?_) (fun h => ?_)
  · refine X_loc (vs1 := []) [] rfl ?_
    exact wj_m_again_23 C h hret
  · refine X_aload_n C 0 rfl rfl dX7_again_14 ?_
    refine X_get C 0 12 hi7_m_again hf29_m_again (me_0 _ _ _ _) rfl (by decide) rfl dX7_again_15 ?_
    refine X_iload_n C 1 rfl rfl dX7_again_18 ?_
    refine X_zald C 6 (me_6 _ _ _ _) h dX7_again_19 (fun h => ?_)
    refine X_ifne C (tgt := 25) (by decide) dX7_again_20 h (fun h => ?_) (fun h => ?_)
    · refine X_aload_n C 0 rfl rfl dX7_again_25 ?_
      refine X_aload_n C 0 rfl rfl dX7_again_26 ?_
      refine X_get C 0 13 hi7_m_again hf33_m_again (me_0 _ _ _ _) rfl (by decide) rfl dX7_again_27 ?_
      refine X_iload_n C 1 rfl rfl dX7_again_30 ?_
      refine X_iald C 7 (me_7 _ _ _ _) h dX7_again_31 (fun h => ?_)
      refine X_put (ty := .int) C 0 1 hi7_m_again hf7_m_again tyX7 tyX7_ok nmX7 (me_0 _ _ _ _) rfl (by decide) rfl (by decide +kernel) rfl rfl (Nat.le_of_ble_eq_true rfl) (ms_0_1 _ _ _ _ _) dX7_again_32 ?_
      refine X_nam (G := fun σ3 => XW l D K 0 0 (wM cs ad σ3 rest) 35 [(0, .ref (ad 0)), (1, .int a0)] []) h (fun σ3 h => ?_)
      refine X_aload_n C 0 rfl rfl dX7_again_35 ?_
      refine X_aload_n C 0 rfl rfl dX7_again_36 ?_
      refine X_get C 0 14 hi7_m_again hf36_m_again (me_0 _ _ _ _) rfl (by decide) rfl dX7_again_37 ?_
      refine X_iload_n C 1 rfl rfl dX7_again_40 ?_
      refine X_iald C 8 (me_8 _ _ _ _) h dX7_again_41 (fun h => ?_)
      refine X_put (ty := .int) C 0 2 hi7_m_again hf95_m_again tyX7 tyX7_ok nmX7 (me_0 _ _ _ _) rfl (by decide) rfl (by decide +kernel) rfl rfl (Nat.le_of_ble_eq_true rfl) (ms_0_2 _ _ _ _ _) dX7_again_42 ?_
      refine X_nam (G := fun σ4 => XW l D K 0 0 (wM cs ad σ4 rest) 45 [(0, .ref (ad 0)), (1, .int a0)] []) h (fun σ4 h => ?_)
      refine X_aload_n C 0 rfl rfl dX7_again_45 ?_
      refine X_aload_n C 0 rfl rfl dX7_again_46 ?_
      refine X_get C 0 18 hi7_m_again hf48_m_again (me_0 _ _ _ _) rfl (by decide) rfl dX7_again_47 ?_
      refine X_iload_n C 1 rfl rfl dX7_again_50 ?_
      refine X_zald C 12 (me_12 _ _ _ _) h dX7_again_51 (fun h => ?_)
      obtain ⟨hz, h⟩ := grd_some h
      refine X_put (ty := .boolean) C 0 6 hi7_m_again hf134_m_again tyX7 tyX7_ok nmX7 (me_0 _ _ _ _) rfl (by decide) rfl (by decide +kernel) (jz_nar hz) (jz_fit hz) (Nat.le_of_ble_eq_true rfl) (ms_0_6 _ _ _ _ _) dX7_again_52 ?_
      refine X_nam (G := fun σ5 => XW l D K 0 0 (wM cs ad σ5 rest) 55 [(0, .ref (ad 0)), (1, .int a0)] []) h (fun σ5 h => ?_)
      refine X_aload_n C 0 rfl rfl dX7_again_55 ?_
      refine X_aload_n C 0 rfl rfl dX7_again_56 ?_
      refine X_get C 0 19 hi7_m_again hf51_m_again (me_0 _ _ _ _) rfl (by decide) rfl dX7_again_57 ?_
      refine X_iload_n C 1 rfl rfl dX7_again_60 ?_
      refine X_iald C 13 (me_13 _ _ _ _) h dX7_again_61 (fun h => ?_)
      refine X_put (ty := .int) C 0 7 hi7_m_again hf153_m_again tyX7 tyX7_ok nmX7 (me_0 _ _ _ _) rfl (by decide) rfl (by decide +kernel) rfl rfl (Nat.le_of_ble_eq_true rfl) (ms_0_7 _ _ _ _ _) dX7_again_62 ?_
      refine X_nam (G := fun σ6 => XW l D K 0 0 (wM cs ad σ6 rest) 65 [(0, .ref (ad 0)), (1, .int a0)] []) h (fun σ6 h => ?_)
      refine X_aload_n C 0 rfl rfl dX7_again_65 ?_
      refine X_aload_n C 0 rfl rfl dX7_again_66 ?_
      refine X_get C 0 20 hi7_m_again hf54_m_again (me_0 _ _ _ _) rfl (by decide) rfl dX7_again_67 ?_
      refine X_iload_n C 1 rfl rfl dX7_again_70 ?_
      refine X_zald C 14 (me_14 _ _ _ _) h dX7_again_71 (fun h => ?_)
      obtain ⟨hz, h⟩ := grd_some h
      refine X_put (ty := .boolean) C 0 8 hi7_m_again hf137_m_again tyX7 tyX7_ok nmX7 (me_0 _ _ _ _) rfl (by decide) rfl (by decide +kernel) (jz_nar hz) (jz_fit hz) (Nat.le_of_ble_eq_true rfl) (ms_0_8 _ _ _ _ _) dX7_again_72 ?_
      refine X_nam (G := fun σ7 => XW l D K 0 0 (wM cs ad σ7 rest) 75 [(0, .ref (ad 0)), (1, .int a0)] []) h (fun σ7 h => ?_)
      refine X_aload_n C 0 rfl rfl dX7_again_75 ?_
      refine X_aload_n C 0 rfl rfl dX7_again_76 ?_
      refine X_get C 0 21 hi7_m_again hf57_m_again (me_0 _ _ _ _) rfl (by decide) rfl dX7_again_77 ?_
      refine X_iload_n C 1 rfl rfl dX7_again_80 ?_
      refine X_iald C 15 (me_15 _ _ _ _) h dX7_again_81 (fun h => ?_)
      refine X_put (ty := .int) C 0 9 hi7_m_again hf175_m_again tyX7 tyX7_ok nmX7 (me_0 _ _ _ _) rfl (by decide) rfl (by decide +kernel) rfl rfl (Nat.le_of_ble_eq_true rfl) (ms_0_9 _ _ _ _ _) dX7_again_82 ?_
      refine X_nam (G := fun σ8 => XW l D K 0 0 (wM cs ad σ8 rest) 85 [(0, .ref (ad 0)), (1, .int a0)] []) h (fun σ8 h => ?_)
      refine X_iconst (v := 0) C (by decide) dX7_again_85 ?_
      refine X_istore_n (vs1 := [(2, .int (0 : Int32)), (0, .ref (ad 0)), (1, .int a0)]) C rfl (by decide) rfl dX7_again_86 ?_
      obtain ⟨e13, he13, h⟩ := bnd_some h
      refine X_loc (vs1 := [(0, .ref (ad 0)), (1, .int a0), (2, .int (0 : Int32))]) [1, 2, 0] rfl ?_
      refine wb_m_again_87 C (e := e13) (fun t ht => ?_) n _ he13
      subst ht
      refine X_iconst (v := 0) C (by decide) dX7_again_167 ?_
      refine X_istore_n (vs1 := [(2, .int (0 : Int32)), (0, .ref (ad 0)), (1, .int a0)]) C rfl (by decide) rfl dX7_again_168 ?_
      obtain ⟨e15, he15, h⟩ := bnd_some h
      refine X_loc (vs1 := [(0, .ref (ad 0)), (1, .int a0), (2, .int (0 : Int32))]) [1, 2, 0] rfl ?_
      refine wb_m_again_169 C (e := e15) (fun t ht => ?_) n _ he15
      subst ht
      refine X_aload_n C 0 rfl rfl dX7_again_200 ?_
      obtain ⟨o16, eo16, h⟩ := bnd_some h
      refine X_callVv C (n := 0) (As := []) (c_m_changed eo16) rfl gX7_again_X7_changed rfl rfl (me_0 _ _ _ _) rfl rfl (by decide +kernel) ⟨Nat.le_of_ble_eq_true rfl, Nat.le_of_ble_eq_true rfl⟩ ⟨Nat.zero_le _, Nat.zero_le _⟩ rfl rfl (Nat.le_of_ble_eq_true rfl) dX7_again_201 ?_
      refine X_iconst (v := 1) C (by decide) dX7_again_204 ?_
      obtain rfl := Option.some.inj h
      exact hret _ _ jz_1 dX7_again_205
    · refine X_loc (vs1 := []) [] rfl ?_
      exact wj_m_again_23 C h hret
