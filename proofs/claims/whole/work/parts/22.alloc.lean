/-! rows that make cells, and the constructors' contracts -/
def CTn (l : Launch) (D : va_G) (cs : Nat → ClassId) (y : MethodName) (wds : List Cond) (rm : Room) (av : List Value) (w0 : va_W) (w1 : (Nat → Nat) → va_W) (mc ms : Nat) : Prop :=
  ∀ sz, Met l y wds rm (va_Pc av (XPre D cs w0 sz)) (va_Qv (fun (_ : Nat → Nat) => True) (fun u t => va_P D vwCl (w1 u) t.heap ∧ va_K D vwCl (xT cs) t ∧ va_D (va_A w0 sz) (w1 u)) (va_A w0 sz)) mc ms (va_A w0 sz)
def XRn (l : Launch) (D : va_G) (K : XK) (cc : ByteArray) (w1 : (Nat → Nat) → va_W) (mc ms : Nat) : Prop := ∀ u pc vs, decode cc pc = .ok (.return_, 1) → XW l D K mc ms (w1 u) pc vs []
def XIn (K : XK) : Prop := K.2.2.2.2.2.2.2.1.name = "<init>"
set_option maxHeartbeats 1000000 in
theorem CTn_of {l : Launch} {D : va_G} {cs : Nat → ClassId} {y : MethodName} {wds wds' : List Cond} {rm : Room} {av : List Value} {w0 : va_W} {w1 : (Nat → Nat) → va_W} {mc ms : Nat} {cc : ByteArray} {nL : Nat} (hy : plainName y.cls = true) (hyn : y.name = "<init>") (hw : wds = Cond.code y cc nL none :: wds') (hlen : (lg_sl av).length ≤ nL)
    (body : ∀ K : XK, XC D cs K nL rm cc y.cls wds none → XIn K → XRn l D K cc w1 mc ms → XW l D K 0 0 w0 0 (lv_args 0 av) []) : CTn l D cs y wds rm av w0 w1 mc ms := by
  intro sz
  refine Met.ofW (cc := cc) (maxL := nL) (ret := none) hy hw ?_
  intro p e s m args below meth c s₁ B hml hv
  obtain ⟨rfl, hsz, hP, hK, hD0, hN⟩ := hv
  have hlocks := B.notSynchronized
  subst hsz
  have hD := hD0.self (sz := s.heap.size)
  have hA : ∀ q : Nat, s.heap.size ≤ q → va_A w0 s.heap.size q := fun q h => Or.inr h
  have hl := lv_entry av hlen
  rw [lg_entry_eq]
  refine body (p, e, rm, s, m, av.toArray, below, meth, c, va_A w0 s.heap.size, nL, MQ below (va_Qv (fun (_ : Nat → Nat) => True) (fun u t => va_P D vwCl (w1 u) t.heap ∧ va_K D vwCl (xT cs) t ∧ va_D (va_A w0 s.heap.size) (w1 u)) (va_A w0 s.heap.size)) av.toArray s mc ms (va_A w0 s.heap.size)) ⟨B.exec, B.bytes, hml, findClass_of_methodNamed B.named, atoms_spec (ws := wds) B.pre, hK, hlocks, hA, B.returns, hN, rfl, rfl⟩ ?_ ?_ s.heap [] _ hP hD va_S.rf hl
  · exact ((name_of_methodNamed B.named B.method).1).trans hyn
  intro u pc vs hd H locs ls hP1 hD1 hS1 _
  exact W.vret B.exec B.bytes B.returns (fun t ht hW => ⟨⟨u, rfl, trivial, by rw [ht]; exact hP1, va_K.moved hW.alike hK, hD1⟩, hS1.F ht⟩) hS1.2.2 hd
section XALLOC
variable {l : Launch} {D : va_G} {cs : Nat → ClassId} {K : XK} {nL : Nat} {R : Room} {cc : ByteArray} {own : String} {Ts : List Cond} {rt : Option FieldType} {cells slots pc : Nat} {ws : va_W} {vs : List (Nat × Value)} {st : List Value}
theorem X_widen (k n : Nat) (h1 : cells ≤ k) (h2 : slots ≤ n) (kk : XW l D K k n ws pc vs st) : XW l D K cells slots ws pc vs st := by
  obtain ⟨p, e, R0, s, m, args, below, meth, c, A, nL0, Q⟩ := K
  intro H locs ls hP hD hS hl
  exact W.widen h1 h2 (kk H locs ls hP hD hS hl)
theorem X_world {ws1 : va_W} (h : ws = ws1) (kk : XW l D K cells slots ws1 pc vs st) : XW l D K cells slots ws pc vs st := h ▸ kk
theorem X_objInit (C : XC D cs K nL R cc own Ts rt) {index a : Nat} (h1 : Cond.methodLink own index objectInit ∈ Ts) (h2 : Cond.instanceMethod objectInit ∈ Ts) (h3 : Cond.code objectInit ⟨#[0xb1]⟩ 1 none ∈ Ts) (hf : 1 ≤ R.frames) (hlo : 20 ≤ R.locals) (hr : (st.map fun v => v.category).sum ≤ 8) (hd : decode cc pc = .ok (.invokespecial index, 3)) (k : XW l D K cells slots ws (pc + 3) vs st) : XW l D K cells slots ws pc vs (.ref a :: st) := by
  obtain ⟨p, e, R0, s, m, args, below, meth, c, A, nL0, Q⟩ := K
  intro H locs ls hP hD hS hl
  obtain ⟨c1, c2, c3, c4, c5, c6, c7, c8, c9, c10, c11, rfl⟩ := C
  refine W.objInit c1 c2 c4 (c5 _ h1) (c5 _ h2) (c5 _ h3) rfl (by rw [c3]; exact hl.1) rfl hd hf ?_ ?_
  · have := lv_room (m := m) (pc := pc) (ls := ls) (rest := .ref a :: st) hr
    omega
  · exact W.eq (g2 := F0 m (pc + 3) ls st) rfl (k H locs ls hP hD hS hl)
theorem X_new (C : XC D cs K nL R cc own Ts rt) {C0 : String} {T : u_T} {N ci index : Nat} {fs : List Value} (hin : ∀ w ∈ u_ws C0 T N, w ∈ Ts) (ty : Nat → FieldType) (hty : ∀ k, k < N → parseFieldDescriptor (T k).2.2.1 = some (ty k)) (hcl : Cond.classLink own index C0 ∈ Ts) (hinst : Cond.instantiable C0 N ∈ Ts) (hini : Cond.initialized C0 ∈ Ts) (hc : vwCl[ci]? = some (C0, T, N)) (hfs : ∀ j, j < N → defaultValue (ty j) = vp_V fs j) (hcells : cells + 1 ≤ R.cells) (hslots : slots + N ≤ R.slots) (hd : decode cc pc = .ok (.new index, 3)) (kk : ∀ q : Nat, XW l D K (cells + 1) (slots + N) (ws ++ [(q, .inr (ci, fs))]) (pc + 3) vs (.ref q :: st)) : XW l D K cells slots ws pc vs st := by
  obtain ⟨p, e, R0, s, m, args, below, meth, c, A, nL0, Q⟩ := K
  intro H locs ls hP hD hS hl
  obtain ⟨c1, c2, c3, c4, c5, c6, c7, c8, c9, c10, c11, rfl⟩ := C
  exact va_new c1 c2 c5 hin ty hty c4 (c5 _ hcl) (c5 _ hinst) (c5 _ hini) c6 hP hD hS c8 hc hfs hcells hslots hd (fun q H1 hP1 hD1 hS1 => kk q H1 locs ls hP1 hD1 hS1 hl)
theorem xT_int {D : va_G} {cs : Nat → ClassId} {s : State} {cA : ClassId} (h : va_K D vwCl (xT cs ++ [(cA, .int)]) s) : cA = cs 0 := by
  have h1 : s.vm.findClass ("[" ++ FieldType.int.toString) = some cA := (h.2 3 (cA, .int) rfl).2
  have h2 : s.vm.findClass ("[" ++ FieldType.int.toString) = some (cs 0) := (h.2 0 (cs 0, .int) rfl).2
  exact Option.some.inj (h1.symm.trans h2)
theorem xT_bool {D : va_G} {cs : Nat → ClassId} {s : State} {cA : ClassId} (h : va_K D vwCl (xT cs ++ [(cA, .boolean)]) s) : cA = cs 1 := by
  have h1 : s.vm.findClass ("[" ++ FieldType.boolean.toString) = some cA := (h.2 3 (cA, .boolean) rfl).2
  have h2 : s.vm.findClass ("[" ++ FieldType.boolean.toString) = some (cs 1) := (h.2 1 (cs 1, .boolean) rfl).2
  exact Option.some.inj (h1.symm.trans h2)
theorem xT_obj {D : va_G} {cs : Nat → ClassId} {s : State} {cA : ClassId} (h : va_K D vwCl (xT cs ++ [(cA, .object "NetBorders$Bench")]) s) : cA = cs 2 := by
  obtain ⟨_, _, _, _, _, h1⟩ := (h.2 3 (cA, .object "NetBorders$Bench") rfl).2
  obtain ⟨_, _, _, _, _, h2⟩ := (h.2 2 (cs 2, .object "NetBorders$Bench") rfl).2
  exact Option.some.inj (h1.symm.trans h2)
theorem X_newI (C : XC D cs K nL R cc own Ts rt) {n : Int32} (N : Nat) (harr : Cond.arrayClass .int ∈ Ts) (hn : ¬ n < 0) (hN : n.toNatClampNeg = N) (hb : N * componentBytes .int ≤ 536870912) (hcells : cells + 1 ≤ R.cells) (hslots : slots + N ≤ R.slots) (hd : decode cc pc = .ok (.newarray .int, 2)) (kk : ∀ q : Nat, XW l D K (cells + 1) (slots + N) (ws ++ [(q, .inl (cs 0, N, .inl (fun _ => 0)))]) (pc + 2) vs (.ref q :: st)) : XW l D K cells slots ws pc vs (.int n :: st) := by
  obtain ⟨p, e, R0, s, m, args, below, meth, c, A, nL0, Q⟩ := K
  intro H locs ls hP hD hS hl
  obtain ⟨c1, c2, c3, c4, c5, c6, c7, c8, c9, c10, c11, rfl⟩ := C
  refine va_newa (atype := .int) (a0 := (N, .inl (fun _ => 0))) c1 c2 (c5 _ harr) (ty := .int) rfl c6 hP hD hS c8 (fun cA => rfl) hn hN hb hcells hslots hd (fun q cA H1 hK1 hP1 hD1 hS1 => ?_)
  obtain rfl := xT_int hK1
  exact kk q H1 locs ls hP1 hD1 hS1 hl
theorem X_newZ (C : XC D cs K nL R cc own Ts rt) {n : Int32} (N : Nat) (harr : Cond.arrayClass .boolean ∈ Ts) (hn : ¬ n < 0) (hN : n.toNatClampNeg = N) (hb : N * componentBytes .boolean ≤ 536870912) (hcells : cells + 1 ≤ R.cells) (hslots : slots + N ≤ R.slots) (hd : decode cc pc = .ok (.newarray .boolean, 2)) (kk : ∀ q : Nat, XW l D K (cells + 1) (slots + N) (ws ++ [(q, .inl (cs 1, N, .inl (fun _ => 0)))]) (pc + 2) vs (.ref q :: st)) : XW l D K cells slots ws pc vs (.int n :: st) := by
  obtain ⟨p, e, R0, s, m, args, below, meth, c, A, nL0, Q⟩ := K
  intro H locs ls hP hD hS hl
  obtain ⟨c1, c2, c3, c4, c5, c6, c7, c8, c9, c10, c11, rfl⟩ := C
  refine va_newa (atype := .boolean) (a0 := (N, .inl (fun _ => 0))) c1 c2 (c5 _ harr) (ty := .boolean) rfl c6 hP hD hS c8 (fun cA => rfl) hn hN hb hcells hslots hd (fun q cA H1 hK1 hP1 hD1 hS1 => ?_)
  obtain rfl := xT_bool hK1
  exact kk q H1 locs ls hP1 hD1 hS1 hl
theorem X_newB (C : XC D cs K nL R cc own Ts rt) {n : Int32} {index : Nat} (N : Nat) (hcl : Cond.classLink own index "NetBorders$Bench" ∈ Ts) (hn : ¬ n < 0) (hN : n.toNatClampNeg = N) (hb : N * 4 ≤ 536870912) (hcells : cells + 1 ≤ R.cells) (hslots : slots + N ≤ R.slots) (hd : decode cc pc = .ok (.anewarray index, 3)) (kk : ∀ q : Nat, XW l D K (cells + 1) (slots + N) (ws ++ [(q, .inl (cs 2, N, .inr (.inr (.inr (.inr (fun _ => none))))))]) (pc + 3) vs (.ref q :: st)) : XW l D K cells slots ws pc vs (.int n :: st) := by
  obtain ⟨p, e, R0, s, m, args, below, meth, c, A, nL0, Q⟩ := K
  intro H locs ls hP hD hS hl
  obtain ⟨c1, c2, c3, c4, c5, c6, c7, c8, c9, c10, c11, rfl⟩ := C
  refine va_newq c1 c2 c4 (c5 _ hcl) c10.2 c6 hP hD hS c8 hn hN hb hcells hslots hd (fun q cA H1 hK1 hP1 hD1 hS1 => ?_)
  obtain rfl := xT_obj hK1
  exact kk q H1 locs ls hP1 hD1 hS1 hl
theorem X_putF (C : XC D cs K nL R cc own Ts rt) (hI : XIn K) {C0 : String} {T : u_T} {N ci index : Nat} {a : Nat} {fs : List Value} {v : Value} {ty : FieldType} {ws1 : va_W} (q0 k : Nat) (hin : ∀ w ∈ u_ws C0 T N, w ∈ Ts) (hl0 : Cond.fieldLink own index (T k).1 (T k).2.1 (T k).2.2.1 ∈ Ts) (ty0 : Nat → FieldType) (hty : ∀ k, k < N → parseFieldDescriptor (T k).2.2.1 = some (ty0 k)) (hnm : ∀ a, a < N → ∀ b, b < N → a ≠ b → (T a).2.1 ≠ (T b).2.1) (he : ws[q0]? = some (a, .inr (ci, fs))) (hc : vwCl[ci]? = some (C0, T, N)) (hk : k < N) (hfin : (T k).2.2.2 = true) (hdecl : (T k).1 = own) (hd0 : parseFieldDescriptor (T k).2.2.1 = some ty) (hn : narrow ty v = v) (hfit : fits ty v = true) (hlen : k < fs.length) (hs : ws.set q0 (a, .inr (ci, fs.set k v)) = ws1) (hd : decode cc pc = .ok (.putfield index, 3)) (kk : XW l D K cells slots ws1 (pc + 3) vs st) : XW l D K cells slots ws pc vs (v :: .ref a :: st) := by
  subst hs
  obtain ⟨p, e, R0, s, m, args, below, meth, c, A, nL0, Q⟩ := K
  intro H locs ls hP hD hS hl
  exact va_putF C.1 C.2.1 C.2.2.2.2.1 hin ty0 hty hnm C.2.2.2.1 C.2.2.2.2.2.1 hP hD hS q0 he hc k hk (C.2.2.2.2.1 _ hl0) (fun _ h => h) hfin hI hdecl hd0 hn hfit hlen hd (fun H1 locs1 hP hD hS => kk H1 locs1 ls hP hD hS hl)
set_option maxHeartbeats 1000000 in
theorem X_callIN (C : XC D cs K nL R cc own Ts rt) {index maxL a mc ms : Nat} {y : MethodName} {bytes : ByteArray} {wds wds1 : List Cond} {rm : Room} {e0 : va_E} {w1 : (Nat → Nat) → va_W} {wr : va_W} (hM : CTn l D cs y wds rm [.ref a] [(a, e0)] w1 mc ms) (isC isR : List Nat) (hC : isC.map (fun i => ws[i]?) = [(a, e0)].map some) (hR0 : isR.map (fun i => ws[i]?) = wr.map some) (hnd : va_nd isR = true) (hdis : ∀ i ∈ isR, i ∉ isC) (hT : GoodIn Ts wds) (hN : Cond.methodLinkNest own index y "NetBorders" ∈ xNest) (hini : Cond.initialized y.cls ∈ Ts) (hinst : Cond.instanceMethod y ∈ Ts) (hw : wds = Cond.code y bytes maxL none :: wds1) (hrc : rm.cells = mc) (hrs : rm.slots = ms) (hy1 : y.name = "<init>") (hdd : y.cls ≠ "java/lang/invoke/MethodHandle" ∧ y.cls ≠ "java/lang/invoke/VarHandle" ∧ (parseMethodDescriptor y.desc).map (fun d => d.parameters.length) = some 0) (hR : rm.frames + 1 ≤ R.frames ∧ 8 + (maxL + 11) + rm.locals ≤ R.locals) (hcs : cells + mc ≤ R.cells ∧ slots + ms ≤ R.slots) (hroom : (st.map fun v => v.category).sum ≤ 8) (hd : decode cc pc = .ok (.invokespecial index, 3)) (kk : ∀ u, XW l D K (cells + mc) (slots + ms) (wr ++ w1 u) (pc + 3) vs st) : XW l D K cells slots ws pc vs (.ref a :: st) := by
  obtain ⟨p, e, R0, s, m, args, below, meth, c, A, nL0, Q⟩ := K
  intro H locs ls hP hD hS hl
  obtain ⟨c1, c2, c3, c4, c5, c6, c7, c8, c9, c10, c11, rfl⟩ := C
  have hFc := va_free (wc := [(a, e0)]) hD hS c8 isC hC
  have hPc : va_P D vwCl [(a, e0)] H := by
    intro k q hk
    have hm : some q ∈ isC.map (fun i => ws[i]?) := by rw [hC]; exact List.mem_map.mpr ⟨q, List.mem_of_getElem? hk, rfl⟩
    obtain ⟨i, _, hi⟩ := List.mem_map.mp hm
    exact hP i q hi
  have hDc : va_D (fun _ => True) [(a, e0)] := by
    refine ⟨fun i j p q hi hj _ => ?_, fun _ _ _ => trivial⟩
    have h1 : i < 1 := (List.getElem?_eq_some_iff.mp hi).1
    have h2 : j < 1 := (List.getElem?_eq_some_iff.mp hj).1
    omega
  refine va_callv (va_runIN (As := []) (rest := st) (b := a) (host := "NetBorders") ⟨c1, c2, c3, c4, c5⟩ (hM H.size) ⟨va_cnB 0 c5 hT hw hrc hrs (c10.1 _ hN) (c5 _ hini) hdd hR, hy1, c5 _ hinst⟩ ⟨fun a U g mk q => by obtain ⟨q0, q1, qP, qK, qD, qN⟩ := q; exact ⟨q0, q1, qP, va_K.moved (u := U) (U := U.calling g mk a) (Vm.Alike.refl U.vm) qK, qD, XN.same (u := U) (U := U.calling g mk a) rfl qN⟩, fun U hU hW => ⟨rfl, by rw [hU], by rw [hU]; exact hPc, va_K.moved hW.alike c6, hDc, XN.warm hW c10⟩⟩ rfl rfl hl.1 rfl (lv_room hroom) hd hcs) hS (fun q _ h => hFc q h) hFc (fun u t H1 locs1 ht hvm hw hB hz1 hk1 hS => ?_)
  obtain ⟨hP1, hK1, hD1⟩ := hB
  rw [ht] at hP1
  obtain ⟨hP2, hD2⟩ := va_join (wr := wr) (w1 := w1 u) hP hD isC isR hC hR0 hnd hdis hk1 hFc hP1 hD1
  exact kk u H1 locs1 ls hP2 hD2 hS hl
set_option maxHeartbeats 1000000 in
theorem X_callI (C : XC D cs K nL R cc own Ts rt) {index maxL a mc ms : Nat} {y : MethodName} {bytes : ByteArray} {wds wds1 : List Cond} {rm : Room} {e0 : va_E} {w1 : (Nat → Nat) → va_W} {wr : va_W} (hM : CTn l D cs y wds rm [.ref a] [(a, e0)] w1 mc ms) (isC isR : List Nat) (hC : isC.map (fun i => ws[i]?) = [(a, e0)].map some) (hR0 : isR.map (fun i => ws[i]?) = wr.map some) (hnd : va_nd isR = true) (hdis : ∀ i ∈ isR, i ∉ isC) (hT : GoodIn Ts wds) (hN : Cond.methodLink own index y ∈ Ts) (hini : Cond.initialized y.cls ∈ Ts) (hinst : Cond.instanceMethod y ∈ Ts) (hw : wds = Cond.code y bytes maxL none :: wds1) (hrc : rm.cells = mc) (hrs : rm.slots = ms) (hy1 : y.name = "<init>") (hdd : y.cls ≠ "java/lang/invoke/MethodHandle" ∧ y.cls ≠ "java/lang/invoke/VarHandle" ∧ (parseMethodDescriptor y.desc).map (fun d => d.parameters.length) = some 0) (hR : rm.frames + 1 ≤ R.frames ∧ 8 + (maxL + 11) + rm.locals ≤ R.locals) (hcs : cells + mc ≤ R.cells ∧ slots + ms ≤ R.slots) (hroom : (st.map fun v => v.category).sum ≤ 8) (hd : decode cc pc = .ok (.invokespecial index, 3)) (kk : ∀ u, XW l D K (cells + mc) (slots + ms) (wr ++ w1 u) (pc + 3) vs st) : XW l D K cells slots ws pc vs (.ref a :: st) := by
  obtain ⟨p, e, R0, s, m, args, below, meth, c, A, nL0, Q⟩ := K
  intro H locs ls hP hD hS hl
  obtain ⟨c1, c2, c3, c4, c5, c6, c7, c8, c9, c10, c11, rfl⟩ := C
  have hFc := va_free (wc := [(a, e0)]) hD hS c8 isC hC
  have hPc : va_P D vwCl [(a, e0)] H := by
    intro k q hk
    have hm : some q ∈ isC.map (fun i => ws[i]?) := by rw [hC]; exact List.mem_map.mpr ⟨q, List.mem_of_getElem? hk, rfl⟩
    obtain ⟨i, _, hi⟩ := List.mem_map.mp hm
    exact hP i q hi
  have hDc : va_D (fun _ => True) [(a, e0)] := by
    refine ⟨fun i j p q hi hj _ => ?_, fun _ _ _ => trivial⟩
    have h1 : i < 1 := (List.getElem?_eq_some_iff.mp hi).1
    have h2 : j < 1 := (List.getElem?_eq_some_iff.mp hj).1
    omega
  refine va_callv (va_runI (As := []) (rest := st) (b := a) ⟨c1, c2, c3, c4, c5⟩ (hM H.size) (cwI 0 c5 hT hw hrc hrs (c5 _ hini) (c5 _ hN) (c5 _ hinst) hy1 hdd hR) ⟨fun a U g mk q => by obtain ⟨q0, q1, qP, qK, qD, qN⟩ := q; exact ⟨q0, q1, qP, va_K.moved (u := U) (U := U.calling g mk a) (Vm.Alike.refl U.vm) qK, qD, XN.same (u := U) (U := U.calling g mk a) rfl qN⟩, fun U hU hW => ⟨rfl, by rw [hU], by rw [hU]; exact hPc, va_K.moved hW.alike c6, hDc, XN.warm hW c10⟩⟩ rfl rfl hl.1 rfl (lv_room hroom) hd hcs) hS (fun q _ h => hFc q h) hFc (fun u t H1 locs1 ht hvm hw hB hz1 hk1 hS => ?_)
  obtain ⟨hP1, hK1, hD1⟩ := hB
  rw [ht] at hP1
  obtain ⟨hP2, hD2⟩ := va_join (wr := wr) (w1 := w1 u) hP hD isC isR hC hR0 hnd hdis hk1 hFc hP1 hD1
  exact kk u H1 locs1 ls hP2 hD2 hS hl
end XALLOC
