section XIM
variable {l : Launch} {D : va_G} {cs : Nat → ClassId} {K : XK} {nL : Nat} {R : Room} {cc : ByteArray} {own : String} {Ts : List Cond} {rt : Option FieldType} {cells slots pc : Nat} {ws : va_W} {vs : List (Nat × Value)} {st : List Value}
set_option maxHeartbeats 1000000 in
theorem X_callIN2 (C : XC D cs K nL R cc own Ts rt) {index maxL a mc ms : Nat} {y : MethodName} {bytes : ByteArray} {wds wds1 : List Cond} {rm : Room} {e0 : va_E} {w1 : (Nat → Nat) → va_W} {pl : va_W} (hM : CTn l D cs y wds rm [.ref a] [(a, e0)] w1 mc ms) (hT : GoodIn Ts wds) (hN : Cond.methodLinkNest own index y "NetBorders" ∈ xNest) (hini : Cond.initialized y.cls ∈ Ts) (hinst : Cond.instanceMethod y ∈ Ts) (hw : wds = Cond.code y bytes maxL none :: wds1) (hrc : rm.cells = mc) (hrs : rm.slots = ms) (hy1 : y.name = "<init>") (hdd : y.cls ≠ "java/lang/invoke/MethodHandle" ∧ y.cls ≠ "java/lang/invoke/VarHandle" ∧ (parseMethodDescriptor y.desc).map (fun d => d.parameters.length) = some 0) (hR : rm.frames + 1 ≤ R.frames ∧ 8 + (maxL + 11) + rm.locals ≤ R.locals) (hcs : cells + mc ≤ R.cells ∧ slots + ms ≤ R.slots) (hroom : (st.map fun v => v.category).sum ≤ 8) (hd : decode cc pc = .ok (.invokespecial index, 3)) (kk : ∀ u, XW l D K (cells + mc) (slots + ms) (w1 u ++ pl) (pc + 3) vs st) : XW l D K cells slots ([(a, e0)] ++ pl) pc vs (.ref a :: st) := by
  obtain ⟨p, e, R0, s, m, args, below, meth, c, A, nL0, Q⟩ := K
  intro H locs ls hP hD hS hl
  obtain ⟨c1, c2, c3, c4, c5, c6, c7, c8, c9, c10, c11, rfl⟩ := C
  have hFc := va_free (wc := [(a, e0)]) hD hS c8 [0] rfl
  have hPc : va_P D vwCl [(a, e0)] H := by
    intro k q hk
    obtain ⟨i, hi⟩ := List.getElem?_of_mem (List.mem_append_left pl (List.mem_of_getElem? hk))
    exact hP i q hi
  have hDc : va_D (fun _ => True) [(a, e0)] := by
    refine ⟨fun i j p q hi hj _ => ?_, fun _ _ _ => trivial⟩
    have h1 : i < 1 := (List.getElem?_eq_some_iff.mp hi).1
    have h2 : j < 1 := (List.getElem?_eq_some_iff.mp hj).1
    omega
  refine va_callv (va_runIN (As := []) (rest := st) (b := a) (host := "NetBorders") ⟨c1, c2, c3, c4, c5⟩ (hM H.size) ⟨va_cnB 0 c5 hT hw hrc hrs (c10.1 _ hN) (c5 _ hini) hdd hR, hy1, c5 _ hinst⟩ ⟨fun a U g mk q => by obtain ⟨q0, q1, qP, qK, qD, qN⟩ := q; exact ⟨q0, q1, qP, va_K.moved (u := U) (U := U.calling g mk a) (Vm.Alike.refl U.vm) qK, qD, XN.same (u := U) (U := U.calling g mk a) rfl qN⟩, fun U hU hW => ⟨rfl, by rw [hU], by rw [hU]; exact hPc, va_K.moved hW.alike c6, hDc, XN.warm hW c10⟩⟩ rfl rfl hl.1 rfl (lv_room hroom) hd hcs) hS (fun q _ h => hFc q h) hFc (fun u t H1 locs1 ht hvm hw hB hz1 hk1 hS => ?_)
  obtain ⟨hP1, hK1, hD1⟩ := hB
  rw [ht] at hP1
  obtain ⟨hP2, hD2⟩ := va_joinQ (X := [(a, e0)]) (cx := [(a, e0)]) (wr := []) (w1 := w1 u) (pl := pl) hP hD [0] [] rfl rfl rfl (fun _ h => absurd h List.not_mem_nil) hk1 hFc hP1 hD1
  exact kk u H1 locs1 ls hP2 hD2 hS hl
set_option maxHeartbeats 1000000 in
theorem X_callI2 (C : XC D cs K nL R cc own Ts rt) {index maxL a mc ms : Nat} {y : MethodName} {bytes : ByteArray} {wds wds1 : List Cond} {rm : Room} {e0 : va_E} {w1 : (Nat → Nat) → va_W} {pl : va_W} (hM : CTn l D cs y wds rm [.ref a] [(a, e0)] w1 mc ms) (hT : GoodIn Ts wds) (hN : Cond.methodLink own index y ∈ Ts) (hini : Cond.initialized y.cls ∈ Ts) (hinst : Cond.instanceMethod y ∈ Ts) (hw : wds = Cond.code y bytes maxL none :: wds1) (hrc : rm.cells = mc) (hrs : rm.slots = ms) (hy1 : y.name = "<init>") (hdd : y.cls ≠ "java/lang/invoke/MethodHandle" ∧ y.cls ≠ "java/lang/invoke/VarHandle" ∧ (parseMethodDescriptor y.desc).map (fun d => d.parameters.length) = some 0) (hR : rm.frames + 1 ≤ R.frames ∧ 8 + (maxL + 11) + rm.locals ≤ R.locals) (hcs : cells + mc ≤ R.cells ∧ slots + ms ≤ R.slots) (hroom : (st.map fun v => v.category).sum ≤ 8) (hd : decode cc pc = .ok (.invokespecial index, 3)) (kk : ∀ u, XW l D K (cells + mc) (slots + ms) (w1 u ++ pl) (pc + 3) vs st) : XW l D K cells slots ([(a, e0)] ++ pl) pc vs (.ref a :: st) := by
  obtain ⟨p, e, R0, s, m, args, below, meth, c, A, nL0, Q⟩ := K
  intro H locs ls hP hD hS hl
  obtain ⟨c1, c2, c3, c4, c5, c6, c7, c8, c9, c10, c11, rfl⟩ := C
  have hFc := va_free (wc := [(a, e0)]) hD hS c8 [0] rfl
  have hPc : va_P D vwCl [(a, e0)] H := by
    intro k q hk
    obtain ⟨i, hi⟩ := List.getElem?_of_mem (List.mem_append_left pl (List.mem_of_getElem? hk))
    exact hP i q hi
  have hDc : va_D (fun _ => True) [(a, e0)] := by
    refine ⟨fun i j p q hi hj _ => ?_, fun _ _ _ => trivial⟩
    have h1 : i < 1 := (List.getElem?_eq_some_iff.mp hi).1
    have h2 : j < 1 := (List.getElem?_eq_some_iff.mp hj).1
    omega
  refine va_callv (va_runI (As := []) (rest := st) (b := a) ⟨c1, c2, c3, c4, c5⟩ (hM H.size) (cwI 0 c5 hT hw hrc hrs (c5 _ hini) (c5 _ hN) (c5 _ hinst) hy1 hdd hR) ⟨fun a U g mk q => by obtain ⟨q0, q1, qP, qK, qD, qN⟩ := q; exact ⟨q0, q1, qP, va_K.moved (u := U) (U := U.calling g mk a) (Vm.Alike.refl U.vm) qK, qD, XN.same (u := U) (U := U.calling g mk a) rfl qN⟩, fun U hU hW => ⟨rfl, by rw [hU], by rw [hU]; exact hPc, va_K.moved hW.alike c6, hDc, XN.warm hW c10⟩⟩ rfl rfl hl.1 rfl (lv_room hroom) hd hcs) hS (fun q _ h => hFc q h) hFc (fun u t H1 locs1 ht hvm hw hB hz1 hk1 hS => ?_)
  obtain ⟨hP1, hK1, hD1⟩ := hB
  rw [ht] at hP1
  obtain ⟨hP2, hD2⟩ := va_joinQ (X := [(a, e0)]) (cx := [(a, e0)]) (wr := []) (w1 := w1 u) (pl := pl) hP hD [0] [] rfl rfl rfl (fun _ h => absurd h List.not_mem_nil) hk1 hFc hP1 hD1
  exact kk u H1 locs1 ls hP2 hD2 hS hl
set_option maxHeartbeats 1000000 in
theorem X_callVm (C : XC D cs K nL R cc own Ts rt) {C0 : String} {index n maxL a q0 ci mc ms : Nat} {y : MethodName} {bytes : ByteArray} {ret : Option FieldType} {wds wds1 : List Cond} {rm : Room} {av As st0 : List Value} {w1 : (Nat → Nat) → va_W} {fs : List Value} {r : Int32} (hM : CTm l D cs y wds rm av ws r w1 mc ms) (hav : av = .ref a :: As) (hT : GoodIn Ts (wsV own index C0 y wds)) (hw : wds = Cond.code y bytes maxL ret :: wds1) (hcl : vwCl[ci]?.map (fun q => q.1) = some C0) (he : ws[q0]? = some (a, .inr (ci, fs))) (hrc : rm.cells = mc) (hrs : rm.slots = ms) (hdd : y.cls = C0 ∧ y.cls ≠ "java/lang/invoke/MethodHandle" ∧ y.cls ≠ "java/lang/invoke/VarHandle" ∧ (parseMethodDescriptor y.desc).map (fun d => d.parameters.length) = some n) (hR : rm.frames + 1 ≤ R.frames ∧ 8 + (maxL + 11) + rm.locals ≤ R.locals) (hcs : cells + mc ≤ R.cells ∧ slots + ms ≤ R.slots) (hst : st0 = As.reverse ++ .ref a :: st) (hn : As.length = n) (hroom : (st.map fun v => v.category).sum ≤ 8) (hd : decode cc pc = .ok (.invokevirtual index, 3)) (kk : ∀ u, XW l D K (cells + mc) (slots + ms) (w1 u) (pc + 3) vs (.int r :: st)) : XW l D K cells slots ws pc vs st0 := by
  subst hst; subst hav
  obtain ⟨p, e, R0, s, m, args, below, meth, c, A, nL0, Q⟩ := K
  intro H locs ls hP hD hS hl
  obtain ⟨c1, c2, c3, c4, c5, c6, c7, c8, c9, c10, c11, rfl⟩ := C
  have hf : ∀ q, va_A ws H.size q → A q := fun q h => by
    rcases h with ⟨k, e, hk⟩ | h
    · exact hD.2 k _ hk
    · exact c8 q (Nat.le_trans hS.1 h)
  refine va_calli (va_runV (As := As) (rest := st) (b := a) ⟨c1, c2, c3, c4, c5⟩ (hM H.size) (cwV n c5 hT hw hrc hrs hdd hR) ⟨fun a U g mk q => by obtain ⟨q0, q1, qP, qK, qD, qN⟩ := q; exact ⟨q0, q1, qP, va_K.moved (u := U) (U := U.calling g mk a) (Vm.Alike.refl U.vm) qK, qD, XN.same (u := U) (U := U.calling g mk a) rfl qN⟩, (by obtain ⟨q, hq, rfl⟩ : ∃ q, vwCl[ci]? = some q ∧ q.1 = C0 := (by cases hh : vwCl[ci]? with | none => (rw [hh] at hcl; cases hcl) | some q => (rw [hh] at hcl; exact ⟨q, rfl, by simpa using hcl⟩)); exact va_recv c6 hP hq he), fun U hU hW => ⟨rfl, by rw [hU], by rw [hU]; exact hP, va_K.moved hW.alike c6, hD.weaken (fun _ _ _ _ => trivial), XN.warm hW c10⟩⟩ rfl hn hl.1 rfl (lv_room hroom) hd hcs) hS (fun q _ h => hf q h) hf (fun r' u t H1 locs1 ht hvm hw hB hz1 hk1 hS => ?_)
  obtain ⟨hP1, hK1, hD1⟩ := hB
  rw [ht] at hP1
  subst hw
  exact kk u H1 locs1 ls hP1 ⟨hD1.1, fun k q h => hf q.1 (hD1.2 k q h)⟩ hS hl
end XIM
/-- an image's cells -/
def wB (cs : Nat → ClassId) (b : Nat → Nat) (τ : ST) (rest : va_W) : va_W :=
  (b 1, .inr (0, [.ref (b 2), .ref (b 6), .int (τ.1 66)])) ::
  (b 2, .inr (2, [.int (τ.1 128), .int (τ.1 129), .ref (b 3), .ref (b 4), .ref (b 5)])) ::
  (b 3, .inl (cs 0, 16, .inl (τ.2 3))) ::
  (b 4, .inl (cs 0, 16, .inl (τ.2 4))) ::
  (b 5, .inl (cs 0, 16, .inl (τ.2 5))) ::
  (b 6, .inr (1, [.int (τ.1 384), .int (τ.1 385), .ref (b 7), .ref (b 8)])) ::
  (b 7, .inl (cs 0, 256, .inl (τ.2 7))) ::
  (b 8, .inl (cs 0, 16, .inl (τ.2 8))) ::
  rest
def mgS (σ τ : ST) : ST := (fun k => if k < 1408 then σ.1 k else τ.1 (k - 1344), fun q => if q < 22 then σ.2 q else τ.2 (q - 21))
def mgA (ad b : Nat → Nat) : Nat → Nat := fun k => if k < 22 then ad k else b (k - 21)
theorem mg_world (cs : Nat → ClassId) (ad b : Nat → Nat) (σ τ : ST) (im : Nat → Option Nat) (rest : va_W) : wX cs ad σ im (wB cs b τ rest) = wY cs (mgA ad b) (mgS σ τ) im rest := rfl
/-- all that an image keeps, from τ into σ -/
def cpx (σ τ : ST) : ST := sS (sA (sA (sS (sS (sA (sA (sA (sS (sS σ 128 (τ.1 128)) 129 (τ.1 129)) 3 (va_cpy (τ.2 3) (σ.2 3) 0 0 16)) 4 (va_cpy (τ.2 4) (σ.2 4) 0 0 16)) 5 (va_cpy (τ.2 5) (σ.2 5) 0 0 16)) 384 (τ.1 384)) 385 (τ.1 385)) 7 (va_cpy (τ.2 7) (σ.2 7) 0 0 256)) 8 (va_cpy (τ.2 8) (σ.2 8) 0 0 16)) 66 (τ.1 66)
theorem copy_xi {σ τ : ST} (hz : jz (τ.1 384) = true) : ∃ o, f_copyB_xi (mgS σ τ) = some o ∧ ∀ (cs : Nat → ClassId) (ad b : Nat → Nat) (im : Nat → Option Nat) (rest : va_W), wY cs (mgA ad b) o im rest = wX cs ad (cpx σ τ) im (wB cs b τ rest) := by
  refine ⟨sS (sA (sA (sS (sS (sA (sA (sA (sS (sS (mgS σ τ) 128 (τ.1 128)) 129 (τ.1 129)) 3 (va_cpy (τ.2 3) (σ.2 3) 0 0 16)) 4 (va_cpy (τ.2 4) (σ.2 4) 0 0 16)) 5 (va_cpy (τ.2 5) (σ.2 5) 0 0 16)) 384 (τ.1 384)) 385 (τ.1 385)) 7 (va_cpy (τ.2 7) (σ.2 7) 0 0 256)) 8 (va_cpy (τ.2 8) (σ.2 8) 0 0 16)) 66 (τ.1 66), ?_, fun _ _ _ _ _ => rfl⟩
  have h1 : f_copyN_xi (mgS σ τ) = some (sA (sA (sA (sS (sS (mgS σ τ) 128 (τ.1 128)) 129 (τ.1 129)) 3 (va_cpy (τ.2 3) (σ.2 3) 0 0 16)) 4 (va_cpy (τ.2 4) (σ.2 4) 0 0 16)) 5 (va_cpy (τ.2 5) (σ.2 5) 0 0 16)) := rfl
  unfold f_copyB_xi
  rw [h1]
  show bnd (grd (jz (τ.1 384)) _) _ = _
  rw [hz]
  rfl
theorem copy_ix {σ τ : ST} (hz : jz (σ.1 384) = true) : ∃ o, f_copyB_ix (mgS σ τ) = some o ∧ ∀ (cs : Nat → ClassId) (ad b : Nat → Nat) (im : Nat → Option Nat) (rest : va_W), wY cs (mgA ad b) o im rest = wX cs ad σ im (wB cs b (cpx τ σ) rest) := by
  refine ⟨sS (sA (sA (sS (sS (sA (sA (sA (sS (sS (mgS σ τ) 1472 (σ.1 128)) 1473 (σ.1 129)) 24 (va_cpy (σ.2 3) (τ.2 3) 0 0 16)) 25 (va_cpy (σ.2 4) (τ.2 4) 0 0 16)) 26 (va_cpy (σ.2 5) (τ.2 5) 0 0 16)) 1728 (σ.1 384)) 1729 (σ.1 385)) 28 (va_cpy (σ.2 7) (τ.2 7) 0 0 256)) 29 (va_cpy (σ.2 8) (τ.2 8) 0 0 16)) 1410 (σ.1 66), ?_, fun _ _ _ _ _ => rfl⟩
  have h1 : f_copyN_ix (mgS σ τ) = some (sA (sA (sA (sS (sS (mgS σ τ) 1472 (σ.1 128)) 1473 (σ.1 129)) 24 (va_cpy (σ.2 3) (τ.2 3) 0 0 16)) 25 (va_cpy (σ.2 4) (τ.2 4) 0 0 16)) 26 (va_cpy (σ.2 5) (τ.2 5) 0 0 16)) := rfl
  unfold f_copyB_ix
  rw [h1]
  show bnd (grd (jz (σ.1 384)) _) _ = _
  rw [hz]
  rfl
theorem wX_perm {cs : Nat → ClassId} {ad : Nat → Nat} {σ : ST} {im : Nat → Option Nat} {r r1 : va_W} (h : r.Perm r1) : (wX cs ad σ im r).Perm (wX cs ad σ im r1) := h.append_left (wX cs ad σ im [])
theorem wB_perm {cs : Nat → ClassId} {b : Nat → Nat} {τ : ST} {r r1 : va_W} (h : r.Perm r1) : (wB cs b τ r).Perm (wB cs b τ r1) := h.append_left (wB cs b τ [])
theorem rf_some {im : Nat → Option Nat} {k a : Nat} (h : im k = some a) : va_rf (im k) = .ref a := by rw [h]; rfl
theorem rf_none {im : Nat → Option Nat} {k : Nat} (h : im k = none) : va_rf (im k) = .null := by rw [h]; rfl
abbrev rm_x_again : Room := { frames := 3, cells := 0, slots := 0, locals := 120 }
abbrev rm_x_image : Room := { frames := 3, cells := 8, slots := 332, locals := 120 }
/-- does it find an image? -/
def f_x_again (im : Nat → Option Nat) (k : Int32) : Option Bool := if k < 0 then some false else if 4 ≤ k then some false else grd (jin k 4) (if (im (jix k)).isSome = true then some true else some false)
def f_x_image (k : Int32) : Option Bool := if k < 0 then some false else if k < 4 then grd (jin k 4) (some true) else some false
theorem hi6_x_again : ∀ w ∈ u_ws RX6 TX6 5, w ∈ wsX6_again := by decide +kernel
theorem hf16_x_again : Cond.fieldLink RX6 16 (TX6 1).1 (TX6 1).2.1 (TX6 1).2.2.1 ∈ wsX6_again := by decide +kernel
theorem hf10_x_again : Cond.fieldLink RX6 10 (TX6 0).1 (TX6 0).2.1 (TX6 0).2.2.1 ∈ wsX6_again := by decide +kernel
theorem hi6_x_image : ∀ w ∈ u_ws RX6 TX6 5, w ∈ wsX6_image := by decide +kernel
theorem hf16_x_image : Cond.fieldLink RX6 16 (TX6 1).1 (TX6 1).2.1 (TX6 1).2.2.1 ∈ wsX6_image := by decide +kernel
theorem hf10_x_image : Cond.fieldLink RX6 10 (TX6 0).1 (TX6 0).2.1 (TX6 0).2.2.1 ∈ wsX6_image := by decide +kernel
theorem hi0_x_image : ∀ w ∈ u_ws RX0 TX0 3, w ∈ wsX6_image := by decide +kernel
theorem hk7_x_image : Cond.classLink RX6 7 RX0 ∈ wsX6_image := by decide +kernel
theorem hb0_x_image : Cond.instantiable RX0 3 ∈ wsX6_image := by decide +kernel
theorem hn0_x_image : Cond.initialized RX0 ∈ wsX6_image := by decide +kernel
theorem hz_x_image : Cond.initialized yX0_init.cls ∈ wsX6_image := by decide +kernel
theorem hj_x_image : Cond.instanceMethod yX0_init ∈ wsX6_image := by decide +kernel
set_option maxHeartbeats 4000000 in
set_option maxRecDepth 100000 in
theorem c_again_f {l : Launch} {D : va_G} {cs : Nat → ClassId} {ad : Nat → Nat} {im : Nat → Option Nat} {rest : va_W} {σ : ST} {k : Int32} (h : f_x_again im k = some false) : CTi l D cs yX6_again wsX6_again rm_x_again [.ref (ad 0), .int k] (wX cs ad σ im rest) 0 (wX cs ad σ im rest) := by
  refine CTz_of (cc := cX6_again) (nL := 2) (by decide) rfl (Nat.le_of_ble_eq_true rfl) ?_
  intro K C hret
  unfold f_x_again at h
  refine X_loc (vs1 := [(0, .ref (ad 0)), (1, .int k)]) [0, 1] rfl ?_
  have fin : XW l D K 0 0 (wX cs ad σ im rest) 18 [(0, .ref (ad 0)), (1, .int k)] [] := by
    refine X_iconst (v := 0) C (by decide) dX6_again_18 ?_
    exact hret _ _ jz_0 dX6_again_19
  refine X_iload_n C 1 rfl rfl dX6_again_0 ?_
  refine X_iflt C (tgt := 18) (by decide) dX6_again_1 h (fun h => ?_) (fun h => ?_)
  · exact fin
  refine X_iload_n C 1 rfl rfl dX6_again_4 ?_
  refine X_iconst (v := 4) C (by decide) dX6_again_5 ?_
  refine X_icmpge C (tgt := 18) (by decide) dX6_again_6 h (fun h => ?_) (fun h => ?_)
  · exact fin
  refine X_aload_n C 0 rfl rfl dX6_again_9 ?_
  refine X_get C 0 1 hi6_x_again hf16_x_again (xe_0 _ _ _ _ _) rfl (by decide) rfl dX6_again_10 ?_
  refine X_iload_n C 1 rfl rfl dX6_again_13 ?_
  refine X_aald C 9 (xe_9 _ _ _ _ _) h dX6_again_14 (fun h => ?_)
  cases hi : im (jix k) with
  | some a => rw [hi] at h; simp at h
  | none =>
    refine X_nnN C dX6_again_15 ?_
    exact fin
set_option maxHeartbeats 4000000 in
set_option maxRecDepth 100000 in
theorem c_again_t {l : Launch} {D : va_G} {cs : Nat → ClassId} {ad : Nat → Nat} {im : Nat → Option Nat} {rest rest1 : va_W} {σ τ : ST} {b : Nat → Nat} {k : Int32} (h : f_x_again im k = some true) (hb : im (jix k) = some (b 1)) (hz : jz (τ.1 384) = true) (hp : rest.Perm (wB cs b τ rest1)) : CTi l D cs yX6_again wsX6_again rm_x_again [.ref (ad 0), .int k] (wX cs ad σ im rest) 1 (wX cs ad (cpx σ τ) im rest) := by
  obtain ⟨o, ho, hw⟩ := copy_xi (σ := σ) hz
  refine CTz_of (cc := cX6_again) (nL := 2) (by decide) rfl (Nat.le_of_ble_eq_true rfl) ?_
  intro K C hret
  unfold f_x_again at h
  refine X_loc (vs1 := [(0, .ref (ad 0)), (1, .int k)]) [0, 1] rfl ?_
  refine X_iload_n C 1 rfl rfl dX6_again_0 ?_
  refine X_iflt C (tgt := 18) (by decide) dX6_again_1 h (fun h => ?_) (fun h => ?_)
  · cases h
  refine X_iload_n C 1 rfl rfl dX6_again_4 ?_
  refine X_iconst (v := 4) C (by decide) dX6_again_5 ?_
  refine X_icmpge C (tgt := 18) (by decide) dX6_again_6 h (fun h => ?_) (fun h => ?_)
  · cases h
  refine X_aload_n C 0 rfl rfl dX6_again_9 ?_
  refine X_get C 0 1 hi6_x_again hf16_x_again (xe_0 _ _ _ _ _) rfl (by decide) rfl dX6_again_10 ?_
  refine X_iload_n C 1 rfl rfl dX6_again_13 ?_
  have hj := (grd_some h).1
  refine X_aaldR C 9 (xe_9 _ _ _ _ _) hj dX6_again_14 ?_
  rw [rf_some hb]
  refine X_nnR C (tgt := 20) (by decide) dX6_again_15 ?_
  refine X_aload_n C 0 rfl rfl dX6_again_20 ?_
  refine X_get C 0 0 hi6_x_again hf10_x_again (xe_0 _ _ _ _ _) rfl (by decide) rfl dX6_again_21 ?_
  refine X_aload_n C 0 rfl rfl dX6_again_24 ?_
  refine X_get C 0 1 hi6_x_again hf16_x_again (xe_0 _ _ _ _ _) rfl (by decide) rfl dX6_again_25 ?_
  refine X_iload_n C 1 rfl rfl dX6_again_28 ?_
  refine X_aaldR C 9 (xe_9 _ _ _ _ _) hj dX6_again_29 ?_
  rw [rf_some hb]
  refine X_perm (wX_perm hp) ?_
  refine X_world (mg_world cs ad b σ τ im rest1) ?_
  refine X_callVv C (n := 1) (As := [.ref (b 1)]) (a := ad 1) (c_copyB_xi (ad := mgA ad b) ho) rfl gX6_again_X0_copyFrom rfl rfl (ye_1 _ _ _ _ _) rfl rfl (by decide +kernel) ⟨Nat.le_of_ble_eq_true rfl, Nat.le_of_ble_eq_true rfl⟩ ⟨Nat.zero_le _, Nat.zero_le _⟩ rfl rfl (Nat.le_of_ble_eq_true rfl) dX6_again_30 ?_
  refine X_world (hw cs ad b im rest1) ?_
  refine X_perm (wX_perm hp.symm) ?_
  refine X_iconst (v := 1) C (by decide) dX6_again_33 ?_
  exact hret _ _ jz_1 dX6_again_34
set_option maxHeartbeats 4000000 in
set_option maxRecDepth 100000 in
theorem c_image_f {l : Launch} {D : va_G} {cs : Nat → ClassId} {ad : Nat → Nat} {im : Nat → Option Nat} {rest : va_W} {σ : ST} {k : Int32} (h : f_x_image k = some false) : CTm l D cs yX6_image wsX6_image rm_x_image [.ref (ad 0), .int k] (wX cs ad σ im rest) 0 (fun _ => wX cs ad σ im rest) 8 332 := by
  refine CTm_of (cc := cX6_image) (nL := 2) (by decide) rfl (Nat.le_of_ble_eq_true rfl) ?_
  intro K C hret
  unfold f_x_image at h
  refine X_loc (vs1 := [(0, .ref (ad 0)), (1, .int k)]) [0, 1] rfl ?_
  have fin : XW l D K 0 0 (wX cs ad σ im rest) 9 [(0, .ref (ad 0)), (1, .int k)] [] := by
    refine X_iconst (v := 0) C (by decide) dX6_image_9 ?_
    refine X_widen 8 332 (Nat.zero_le _) (Nat.zero_le _) ?_
    exact hret (fun _ => 0) _ _ jz_0 dX6_image_10
  refine X_iload_n C 1 rfl rfl dX6_image_0 ?_
  refine X_iflt C (tgt := 9) (by decide) dX6_image_1 h (fun h => ?_) (fun h => ?_)
  · exact fin
  refine X_iload_n C 1 rfl rfl dX6_image_4 ?_
  refine X_iconst (v := 4) C (by decide) dX6_image_5 ?_
  refine X_icmplt C (tgt := 11) (by decide) dX6_image_6 h (fun h => ?_) (fun h => ?_)
  · exact absurd (grd_some h).2 (by simp)
  · exact fin
set_option maxHeartbeats 4000000 in
set_option maxRecDepth 100000 in
theorem c_image_old {l : Launch} {D : va_G} {cs : Nat → ClassId} {ad : Nat → Nat} {im : Nat → Option Nat} {rest rest1 rest2 : va_W} {σ τ : ST} {b : Nat → Nat} {k : Int32} (h : f_x_image k = some true) (hb : im (jix k) = some (b 1)) (hz : jz (σ.1 384) = true) (hp : rest.Perm (wB cs b τ rest1)) (hp2 : rest2.Perm (wB cs b (cpx τ σ) rest1)) : CTm l D cs yX6_image wsX6_image rm_x_image [.ref (ad 0), .int k] (wX cs ad σ im rest) 1 (fun _ => wX cs ad σ im rest2) 8 332 := by
  obtain ⟨o, ho, hw⟩ := copy_ix (τ := τ) hz
  refine CTm_of (cc := cX6_image) (nL := 2) (by decide) rfl (Nat.le_of_ble_eq_true rfl) ?_
  intro K C hret
  unfold f_x_image at h
  refine X_loc (vs1 := [(0, .ref (ad 0)), (1, .int k)]) [0, 1] rfl ?_
  refine X_iload_n C 1 rfl rfl dX6_image_0 ?_
  refine X_iflt C (tgt := 9) (by decide) dX6_image_1 h (fun h => ?_) (fun h => ?_)
  · cases h
  refine X_iload_n C 1 rfl rfl dX6_image_4 ?_
  refine X_iconst (v := 4) C (by decide) dX6_image_5 ?_
  refine X_icmplt C (tgt := 11) (by decide) dX6_image_6 h (fun h => ?_) (fun h => ?_)
  rotate_left
  · cases h
  have hj := (grd_some h).1
  refine X_aload_n C 0 rfl rfl dX6_image_11 ?_
  refine X_get C 0 1 hi6_x_image hf16_x_image (xe_0 _ _ _ _ _) rfl (by decide) rfl dX6_image_12 ?_
  refine X_iload_n C 1 rfl rfl dX6_image_15 ?_
  refine X_aaldR C 9 (xe_9 _ _ _ _ _) hj dX6_image_16 ?_
  rw [rf_some hb]
  refine X_nnR C (tgt := 33) (by decide) dX6_image_17 ?_
  refine X_aload_n C 0 rfl rfl dX6_image_33 ?_
  refine X_get C 0 1 hi6_x_image hf16_x_image (xe_0 _ _ _ _ _) rfl (by decide) rfl dX6_image_34 ?_
  refine X_iload_n C 1 rfl rfl dX6_image_37 ?_
  refine X_aaldR C 9 (xe_9 _ _ _ _ _) hj dX6_image_38 ?_
  rw [rf_some hb]
  refine X_aload_n C 0 rfl rfl dX6_image_39 ?_
  refine X_get C 0 0 hi6_x_image hf10_x_image (xe_0 _ _ _ _ _) rfl (by decide) rfl dX6_image_40 ?_
  refine X_perm (wX_perm hp) ?_
  refine X_world (mg_world cs ad b σ τ im rest1) ?_
  refine X_callVv C (n := 1) (As := [.ref (ad 1)]) (a := b 1) (c_copyB_ix (ad := mgA ad b) ho) rfl gX6_image_X0_copyFrom rfl rfl (ye_22 _ _ _ _ _) rfl rfl (by decide +kernel) ⟨Nat.le_of_ble_eq_true rfl, Nat.le_of_ble_eq_true rfl⟩ ⟨Nat.zero_le _, Nat.zero_le _⟩ rfl rfl (Nat.le_of_ble_eq_true rfl) dX6_image_43 ?_
  refine X_world (hw cs ad b im rest1) ?_
  refine X_iconst (v := 1) C (by decide) dX6_image_46 ?_
  refine X_perm (wX_perm hp2.symm) ?_
  refine X_widen 8 332 (Nat.zero_le _) (Nat.zero_le _) ?_
  exact hret (fun _ => 0) _ _ jz_1 dX6_image_47
def bA (q : Nat) (u : Nat → Nat) : Nat → Nat := fun j => match j with | 0 => 0 | 1 => q | i + 2 => u i
set_option maxHeartbeats 4000000 in
set_option maxRecDepth 100000 in
theorem c_image_new {l : Launch} {D : va_G} {cs : Nat → ClassId} {ad : Nat → Nat} {im : Nat → Option Nat} {rest : va_W} {σ : ST} {k : Int32} (h : f_x_image k = some true) (hb : im (jix k) = none) (hz : jz (σ.1 384) = true) : CTm l D cs yX6_image wsX6_image rm_x_image [.ref (ad 0), .int k] (wX cs ad σ im rest) 1 (fun u => wX cs ad σ (va_up im (jix k) (some (u 1))) (wB cs u (cpx z0 σ) rest)) 8 332 := by
  obtain ⟨o, ho, hw⟩ := copy_ix (τ := z0) hz
  refine CTm_of (cc := cX6_image) (nL := 2) (by decide) rfl (Nat.le_of_ble_eq_true rfl) ?_
  intro K C hret
  unfold f_x_image at h
  refine X_loc (vs1 := [(0, .ref (ad 0)), (1, .int k)]) [0, 1] rfl ?_
  refine X_iload_n C 1 rfl rfl dX6_image_0 ?_
  refine X_iflt C (tgt := 9) (by decide) dX6_image_1 h (fun h => ?_) (fun h => ?_)
  · cases h
  refine X_iload_n C 1 rfl rfl dX6_image_4 ?_
  refine X_iconst (v := 4) C (by decide) dX6_image_5 ?_
  refine X_icmplt C (tgt := 11) (by decide) dX6_image_6 h (fun h => ?_) (fun h => ?_)
  rotate_left
  · cases h
  have hj := (grd_some h).1
  refine X_aload_n C 0 rfl rfl dX6_image_11 ?_
  refine X_get C 0 1 hi6_x_image hf16_x_image (xe_0 _ _ _ _ _) rfl (by decide) rfl dX6_image_12 ?_
  refine X_iload_n C 1 rfl rfl dX6_image_15 ?_
  refine X_aaldR C 9 (xe_9 _ _ _ _ _) hj dX6_image_16 ?_
  rw [rf_none hb]
  refine X_nnN C dX6_image_17 ?_
  refine X_aload_n C 0 rfl rfl dX6_image_20 ?_
  refine X_get C 0 1 hi6_x_image hf16_x_image (xe_0 _ _ _ _ _) rfl (by decide) rfl dX6_image_21 ?_
  refine X_iload_n C 1 rfl rfl dX6_image_24 ?_
  refine X_new C (fs := [.null, .null, .int 0]) hi0_x_image tyX0 tyX0_ok hk7_x_image hb0_x_image hn0_x_image (ci := 0) rfl (fun j hj => by rcases (show j = 0 ∨ j = 1 ∨ j = 2 by omega) with rfl | rfl | rfl <;> rfl) (Nat.le_of_ble_eq_true rfl) (Nat.le_of_ble_eq_true rfl) dX6_image_25 (fun q => ?_)
  refine X_dup C rfl dX6_image_28 ?_
  refine X_perm List.perm_append_comm ?_
  refine X_callIN2 C (c_init_Bench (h0 := q)) gX6_image_X0_init_n9 (by decide +kernel) hz_x_image hj_x_image rfl rfl rfl rfl (by decide +kernel) ⟨Nat.le_of_ble_eq_true rfl, Nat.le_of_ble_eq_true rfl⟩ ⟨Nat.le_of_ble_eq_true rfl, Nat.le_of_ble_eq_true rfl⟩ (Nat.le_of_ble_eq_true rfl) dX6_image_29 (fun u => ?_)
  refine X_perm (ws1 := wX cs ad σ im (wB cs (bA q u) z0 rest)) (List.perm_append_comm_assoc (wB cs (bA q u) z0 []) (wX cs ad σ im []) rest) ?_
  refine X_aast (ws1 := wX cs ad σ (va_up im (jix k) (some q)) (wB cs (bA q u) z0 rest)) C 9 22 (xe_9 _ _ _ _ _) rfl hj rfl dX6_image_32 ?_
  refine X_aload_n C 0 rfl rfl dX6_image_33 ?_
  refine X_get C 0 1 hi6_x_image hf16_x_image (xe_0 _ _ _ _ _) rfl (by decide) rfl dX6_image_34 ?_
  refine X_iload_n C 1 rfl rfl dX6_image_37 ?_
  refine X_aaldR C 9 (xe_9 _ _ _ _ _) hj dX6_image_38 ?_
  rw [rf_some (show va_up im (jix k) (some q) (jix k) = some (bA q u 1) from if_pos rfl)]
  refine X_aload_n C 0 rfl rfl dX6_image_39 ?_
  refine X_get C 0 0 hi6_x_image hf10_x_image (xe_0 _ _ _ _ _) rfl (by decide) rfl dX6_image_40 ?_
  refine X_perm (wX_perm (List.Perm.refl _)) ?_
  refine X_world (mg_world cs ad (bA q u) σ z0 (va_up im (jix k) (some q)) rest) ?_
  refine X_callVv C (n := 1) (As := [.ref (ad 1)]) (a := bA q u 1) (c_copyB_ix (ad := mgA ad (bA q u)) ho) rfl gX6_image_X0_copyFrom rfl rfl (ye_22 _ _ _ _ _) rfl rfl (by decide +kernel) ⟨Nat.le_of_ble_eq_true rfl, Nat.le_of_ble_eq_true rfl⟩ ⟨Nat.le_of_ble_eq_true rfl, Nat.le_of_ble_eq_true rfl⟩ rfl rfl (Nat.le_of_ble_eq_true rfl) dX6_image_43 ?_
  refine X_world (hw cs ad (bA q u) (va_up im (jix k) (some q)) rest) ?_
  refine X_iconst (v := 1) C (by decide) dX6_image_46 ?_
  exact hret (bA q u) _ _ jz_1 dX6_image_47
