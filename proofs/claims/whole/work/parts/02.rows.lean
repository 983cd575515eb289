/-! rows of the kit in one form: a context K, a world ws, a place pc, known places of the frame vs, a stack st -/
abbrev XK : Type := Program × Env × Room × State × MethodId × Array Value × List Frame × Method × Code × (Nat → Prop) × Nat × (State → Prop)
def xT (cs : Nat → ClassId) : List (ClassId × FieldType) := [(cs 0, .int), (cs 1, .boolean), (cs 2, .object "NetBorders$Bench")]
def xNest : List Cond := [.methodLinkNest "NetBorders" 9 ⟨"NetBorders$Bench", "<init>", "()V"⟩ "NetBorders", .methodLinkNest "NetBorders$Bench" 9 ⟨"NetBorders$Net", "<init>", "()V"⟩ "NetBorders", .methodLinkNest "NetBorders$Bench" 18 ⟨"NetBorders$Family", "<init>", "()V"⟩ "NetBorders", .methodLinkNest "NetBorders" 22 ⟨"NetBorders$Paths", "<init>", "()V"⟩ "NetBorders", .methodLinkNest "NetBorders" 29 ⟨"NetBorders$Sides", "<init>", "()V"⟩ "NetBorders", .methodLinkNest "NetBorders" 36 ⟨"NetBorders$Search", "<init>", "()V"⟩ "NetBorders", .methodLinkNest "NetBorders$Paths" 34 ⟨"NetBorders", "contains", "(II)Z"⟩ "NetBorders", .methodLinkNest "NetBorders$Search" 51 ⟨"NetBorders", "contains", "(II)Z"⟩ "NetBorders", .methodLinkNest "NetBorders$Search" 102 ⟨"NetBorders", "sumOver", "([II)I"⟩ "NetBorders", .methodLinkNest "NetBorders$Family" 36 ⟨"NetBorders", "contains", "(II)Z"⟩ "NetBorders", .methodLinkNest "NetBorders$Net" 40 ⟨"NetBorders", "contains", "(II)Z"⟩ "NetBorders"]
def XN (U : State) : Prop := (∀ w ∈ xNest, va_Nw w U) ∧ va_AO "NetBorders$Bench" U
theorem XN.same {u U : State} (h : u.vm = U.vm) (hN : XN u) : XN U := by
  refine ⟨?_, va_AO.moved (u := u) (U := U) (by rw [h]; exact Vm.Alike.refl _) hN.2⟩
  intro w hw
  have hh := hN.1 w hw
  simp only [xNest, List.mem_cons, List.not_mem_nil, or_false] at hw
  rcases hw with rfl | rfl | rfl | rfl | rfl | rfl | rfl | rfl | rfl | rfl | rfl <;> exact va_Nw.same rfl h hh
theorem XN.warm {s U : State} (hW : s.WarmedH U.vm) (hN : XN s) : XN U := by
  refine ⟨?_, va_AO.moved hW.alike hN.2⟩
  intro w hw
  have hh := hN.1 w hw
  simp only [xNest, List.mem_cons, List.not_mem_nil, or_false] at hw
  rcases hw with rfl | rfl | rfl | rfl | rfl | rfl | rfl | rfl | rfl | rfl | rfl <;> exact va_Nw.warmM hW hh
def XW (l : Launch) (D : va_G) (K : XK) (cells slots : Nat) (ws : va_W) (pc : Nat) (vs : List (Nat × Value)) (st : List Value) : Prop :=
  match K with
  | (p, e, R, s, m, args, below, meth, c, A, nL, Q) => ∀ (H : Heap) (locs : List Loc) (ls : Array Slot), va_P D vwCl ws H → va_D A ws → va_S A s.heap H locs → lv_has ls nL vs → W p l e R s m args below meth c H locs cells slots Q (F0 m pc ls st)
def XC (D : va_G) (cs : Nat → ClassId) (K : XK) (nL : Nat) (R : Room) (cc : ByteArray) (own : String) (Ts : List Cond) (rt : Option FieldType) : Prop :=
  match K with
  | (p, _, R0, s, m, args, _, meth, c, A, nL0, _) => p.tables.exec = Jvm.exec ∧ c.code = cc ∧ c.maxLocals = nL0 ∧ s.vm.findClass own = some m.cls ∧ (∀ w ∈ Ts, w.before args s = true) ∧ va_K D vwCl (xT cs) s ∧ meth.locks = false ∧ (∀ q, s.heap.size ≤ q → A q) ∧ meth.sig.returnType = rt ∧ XN s ∧ nL0 = nL ∧ R0 = R
def jshl (x y : Int32) : Int32 := x <<< (y &&& 31)
def jshr (x y : Int32) : Int32 := x >>> (y &&& 31)
def jushr (x y : Int32) : Int32 := (x.toUInt32 >>> (y.toUInt32 &&& Int32.toUInt32 31)).toInt32
def jrem (x y : Int32) : Int32 := x - x / y * y
def jmin (x y : Int32) : Int32 := if y < x then y else x
def jin (i : Int32) (n : Nat) : Bool := decide (0 ≤ i.toInt) && decide (i.toInt < n)
def jix (i : Int32) : Nat := i.toNatClampNeg
def jz (v : Int32) : Bool := decide (v = 0) || decide (v = 1)
def jnz (x : Int32) : Int32 := vp_nar .boolean x
theorem jin_in {i : Int32} {n : Nat} (h : jin i n = true) : vp_in i n := by
  simp only [jin, Bool.and_eq_true, decide_eq_true_eq] at h
  exact vp_in_iff.mpr h
theorem jz_nar {v : Int32} (h : jz v = true) : narrow .boolean (.int v) = .int v := by
  simp only [jz, Bool.or_eq_true, decide_eq_true_eq] at h
  rcases h with rfl | rfl <;> decide
theorem jz_fit {v : Int32} (h : jz v = true) : fits .boolean (.int v) = true := by
  simp only [jz, Bool.or_eq_true, decide_eq_true_eq] at h
  rcases h with rfl | rfl <;> decide
def grd {α : Type} (b : Bool) (t : Option α) : Option α := if b then t else none
theorem grd_some {α : Type} {b : Bool} {t : Option α} {o : α} (h : grd b t = some o) : b = true ∧ t = some o := by
  unfold grd at h
  split at h
  · rename_i q; exact ⟨q, h⟩
  · cases h
def bnd {α β : Type} (x : Option α) (f : α → Option β) : Option β := match x with
  | none => none
  | some a => f a
theorem bnd_some {α β : Type} {x : Option α} {f : α → Option β} {o : β} (h : bnd x f = some o) : ∃ a, x = some a ∧ f a = some o := by
  cases x with
  | none => cases h
  | some a => exact ⟨a, rfl, h⟩
def nam {α β : Type} (x : α) (f : α → Option β) : Option β := f x
/-- a loop: the body says how it goes on, or what comes out -/
def lp {S E : Type} (body : S → Option (S ⊕ E)) : Nat → S → Option E
  | 0, _ => none
  | n + 1, s => match body s with
    | none => none
    | some (.inl s') => lp body n s'
    | some (.inr e) => some e
theorem lp_walk {S E : Type} {body : S → Option (S ⊕ E)} {G : S → Prop} {e : E} (hb : ∀ s o, body s = some o → (∀ s', o = .inl s' → G s') → (∀ e', o = .inr e' → e' = e) → G s) : ∀ n s, lp body n s = some e → G s := by
  intro n
  induction n with
  | zero => intro s h; cases h
  | succ n ih =>
    intro s h
    unfold lp at h
    cases hs : body s with
    | none => rw [hs] at h; cases h
    | some o =>
      rw [hs] at h
      cases o with
      | inl s' => exact hb s _ hs (fun s'' q => by cases q; exact ih s' h) (fun e' q => by cases q)
      | inr e1 =>
        cases h
        exact hb s _ hs (fun s'' q => by cases q) (fun e' q => by cases q; rfl)
theorem X_case {α : Type} {P : Prop} [Decidable P] {t1 t2 : Option α} {o : α} {G : Prop} (h : (if P then t1 else t2) = some o) (k1 : P → t1 = some o → G) (k2 : ¬ P → t2 = some o → G) : G := by
  by_cases q : P
  · rw [if_pos q] at h; exact k1 q h
  · rw [if_neg q] at h; exact k2 q h
def XPre (D : va_G) (cs : Nat → ClassId) (w0 : va_W) (sz : Nat) : State → Prop := fun U => U.heap.size = sz ∧ va_P D vwCl w0 U.heap ∧ va_K D vwCl (xT cs) U ∧ va_D (fun _ => True) w0 ∧ XN U
def XB (D : va_G) (cs : Nat → ClassId) (A : Nat → Prop) (w1 : va_W) : Unit → State → Prop := fun _ t => va_P D vwCl w1 t.heap ∧ va_K D vwCl (xT cs) t ∧ va_D A w1
/-- a contract: from the world w0 the method answers r and leaves the world w1 -/
def CTi (l : Launch) (D : va_G) (cs : Nat → ClassId) (y : MethodName) (wds : List Cond) (rm : Room) (av : List Value) (w0 : va_W) (r : Int32) (w1 : va_W) : Prop :=
  ∀ sz, Met l y wds rm (va_Pc av (XPre D cs w0 sz)) (va_Qi (fun r' (_ : Unit) => r' = r) (XB D cs (va_A w0 sz) w1) (va_A w0 sz)) 0 0 (va_A w0 sz)
def CTv (l : Launch) (D : va_G) (cs : Nat → ClassId) (y : MethodName) (wds : List Cond) (rm : Room) (av : List Value) (w0 : va_W) (w1 : va_W) : Prop :=
  ∀ sz, Met l y wds rm (va_Pc av (XPre D cs w0 sz)) (va_Qv (fun (_ : Unit) => True) (XB D cs (va_A w0 sz) w1) (va_A w0 sz)) 0 0 (va_A w0 sz)
/-- how it may leave -/
def XRi (l : Launch) (D : va_G) (K : XK) (cc : ByteArray) (r : Int32) (w1 : va_W) : Prop := ∀ pc vs, decode cc pc = .ok (.ireturn, 1) → XW l D K 0 0 w1 pc vs [.int r]
def XRz (l : Launch) (D : va_G) (K : XK) (cc : ByteArray) (r : Int32) (w1 : va_W) : Prop := ∀ pc vs, jz r = true → decode cc pc = .ok (.ireturn, 1) → XW l D K 0 0 w1 pc vs [.int r]
def XRv (l : Launch) (D : va_G) (K : XK) (cc : ByteArray) (w1 : va_W) : Prop := ∀ pc vs, decode cc pc = .ok (.return_, 1) → XW l D K 0 0 w1 pc vs []
set_option maxHeartbeats 1000000 in
theorem CTi_of {l : Launch} {D : va_G} {cs : Nat → ClassId} {y : MethodName} {wds wds' : List Cond} {rm : Room} {av : List Value} {w0 w1 : va_W} {r : Int32} {cc : ByteArray} {nL : Nat} (hy : plainName y.cls = true) (hw : wds = Cond.code y cc nL (some .int) :: wds') (hlen : (lg_sl av).length ≤ nL)
    (body : ∀ K : XK, XC D cs K nL rm cc y.cls wds (some .int) → XRi l D K cc r w1 → XW l D K 0 0 w0 0 (lv_args 0 av) []) : CTi l D cs y wds rm av w0 r w1 := by
  intro sz
  refine Met.ofW (cc := cc) (maxL := nL) (ret := some .int) hy hw ?_
  intro p e s m args below meth c s₁ B hml hv
  obtain ⟨rfl, hsz, hP, hK, hD0, hN⟩ := hv
  have hlocks := B.notSynchronized
  subst hsz
  have hD := hD0.self (sz := s.heap.size)
  have hA : ∀ q : Nat, s.heap.size ≤ q → va_A w0 s.heap.size q := fun q h => Or.inr h
  have hl := lv_entry av hlen
  rw [lg_entry_eq]
  refine body (p, e, rm, s, m, av.toArray, below, meth, c, va_A w0 s.heap.size, nL, MQ below (va_Qi (fun r' (_ : Unit) => r' = r) (XB D cs (va_A w0 s.heap.size) w1) (va_A w0 s.heap.size)) av.toArray s 0 0 (va_A w0 s.heap.size)) ⟨B.exec, B.bytes, hml, findClass_of_methodNamed B.named, atoms_spec (ws := wds) B.pre, hK, hlocks, hA, B.returns, hN, rfl, rfl⟩ ?_ s.heap [] _ hP hD va_S.rf hl
  intro pc vs hd H locs ls hP1 hD1 hS1 _
  exact W.iret (v := r) B.exec B.bytes B.returns (fun t ht hW => ⟨⟨r, (), rfl, rfl, by rw [ht]; exact hP1, va_K.moved hW.alike hK, hD1⟩, hS1.F ht⟩) hS1.2.2 hd
set_option maxHeartbeats 1000000 in
theorem CTz_of {l : Launch} {D : va_G} {cs : Nat → ClassId} {y : MethodName} {wds wds' : List Cond} {rm : Room} {av : List Value} {w0 w1 : va_W} {r : Int32} {cc : ByteArray} {nL : Nat} (hy : plainName y.cls = true) (hw : wds = Cond.code y cc nL (some .boolean) :: wds') (hlen : (lg_sl av).length ≤ nL)
    (body : ∀ K : XK, XC D cs K nL rm cc y.cls wds (some .boolean) → XRz l D K cc r w1 → XW l D K 0 0 w0 0 (lv_args 0 av) []) : CTi l D cs y wds rm av w0 r w1 := by
  intro sz
  refine Met.ofW (cc := cc) (maxL := nL) (ret := some .boolean) hy hw ?_
  intro p e s m args below meth c s₁ B hml hv
  obtain ⟨rfl, hsz, hP, hK, hD0, hN⟩ := hv
  have hlocks := B.notSynchronized
  subst hsz
  have hD := hD0.self (sz := s.heap.size)
  have hA : ∀ q : Nat, s.heap.size ≤ q → va_A w0 s.heap.size q := fun q h => Or.inr h
  have hl := lv_entry av hlen
  rw [lg_entry_eq]
  refine body (p, e, rm, s, m, av.toArray, below, meth, c, va_A w0 s.heap.size, nL, MQ below (va_Qi (fun r' (_ : Unit) => r' = r) (XB D cs (va_A w0 s.heap.size) w1) (va_A w0 s.heap.size)) av.toArray s 0 0 (va_A w0 s.heap.size)) ⟨B.exec, B.bytes, hml, findClass_of_methodNamed B.named, atoms_spec (ws := wds) B.pre, hK, hlocks, hA, B.returns, hN, rfl, rfl⟩ ?_ s.heap [] _ hP hD va_S.rf hl
  intro pc vs hz hd H locs ls hP1 hD1 hS1 _
  exact W.zret (v := r) B.exec B.bytes B.returns (jz_nar hz) (fun t ht hW => ⟨⟨r, (), rfl, rfl, by rw [ht]; exact hP1, va_K.moved hW.alike hK, hD1⟩, hS1.F ht⟩) hS1.2.2 hd
set_option maxHeartbeats 1000000 in
theorem CTv_of {l : Launch} {D : va_G} {cs : Nat → ClassId} {y : MethodName} {wds wds' : List Cond} {rm : Room} {av : List Value} {w0 w1 : va_W} {cc : ByteArray} {nL : Nat} (hy : plainName y.cls = true) (hw : wds = Cond.code y cc nL none :: wds') (hlen : (lg_sl av).length ≤ nL)
    (body : ∀ K : XK, XC D cs K nL rm cc y.cls wds none → XRv l D K cc w1 → XW l D K 0 0 w0 0 (lv_args 0 av) []) : CTv l D cs y wds rm av w0 w1 := by
  intro sz
  refine Met.ofW (cc := cc) (maxL := nL) (ret := none) hy hw ?_
  intro p e s m args below meth c s₁ B hml hv
  obtain ⟨rfl, hsz, hP, hK, hD0, hN⟩ := hv
  have hlocks := B.notSynchronized
  subst hsz
  have hD := hD0.self (sz := s.heap.size)
  have hA : ∀ q : Nat, s.heap.size ≤ q → va_A w0 s.heap.size q := fun q h => Or.inr h
  have hl := lv_entry av hlen
  rw [lg_entry_eq]
  refine body (p, e, rm, s, m, av.toArray, below, meth, c, va_A w0 s.heap.size, nL, MQ below (va_Qv (fun (_ : Unit) => True) (XB D cs (va_A w0 s.heap.size) w1) (va_A w0 s.heap.size)) av.toArray s 0 0 (va_A w0 s.heap.size)) ⟨B.exec, B.bytes, hml, findClass_of_methodNamed B.named, atoms_spec (ws := wds) B.pre, hK, hlocks, hA, B.returns, hN, rfl, rfl⟩ ?_ s.heap [] _ hP hD va_S.rf hl
  intro pc vs hd H locs ls hP1 hD1 hS1 _
  exact W.vret B.exec B.bytes B.returns (fun t ht hW => ⟨⟨(), rfl, trivial, by rw [ht]; exact hP1, va_K.moved hW.alike hK, hD1⟩, hS1.F ht⟩) hS1.2.2 hd
section XROWS
variable {l : Launch} {D : va_G} {cs : Nat → ClassId} {K : XK} {nL : Nat} {R : Room} {cc : ByteArray} {own : String} {Ts : List Cond} {rt : Option FieldType} {cells slots pc : Nat} {ws : va_W} {vs : List (Nat × Value)} {st : List Value}
theorem X_iconst (C : XC D cs K nL R cc own Ts rt) {n : Int} {v : Int32} (hv : Int32.ofInt n = v) (hd : decode cc pc = .ok (.iconst n, 1)) (k : XW l D K cells slots ws (pc + 1) vs (.int v :: st)) : XW l D K cells slots ws pc vs (st) := by
  obtain ⟨p, e, R0, s, m, args, below, meth, c, A, nL0, Q⟩ := K
  intro H locs ls hP hD hS hl
  exact lv_iconst C.1 C.2.1 hd hv (k H locs ls hP hD hS hl)
theorem X_bipush (C : XC D cs K nL R cc own Ts rt) {n : Int} {v : Int32} (hv : (Int8.ofInt n).toInt32 = v) (hd : decode cc pc = .ok (.bipush n, 2)) (k : XW l D K cells slots ws (pc + 2) vs (.int v :: st)) : XW l D K cells slots ws pc vs (st) := by
  obtain ⟨p, e, R0, s, m, args, below, meth, c, A, nL0, Q⟩ := K
  intro H locs ls hP hD hS hl
  exact lv_bipush C.1 C.2.1 hd hv (k H locs ls hP hD hS hl)
theorem X_sipush (C : XC D cs K nL R cc own Ts rt) {n : Int} {v : Int32} (hv : (Int16.ofInt n).toInt32 = v) (hd : decode cc pc = .ok (.sipush n, 3)) (k : XW l D K cells slots ws (pc + 3) vs (.int v :: st)) : XW l D K cells slots ws pc vs (st) := by
  obtain ⟨p, e, R0, s, m, args, below, meth, c, A, nL0, Q⟩ := K
  intro H locs ls hP hD hS hl
  exact lv_sipush C.1 C.2.1 hd hv (k H locs ls hP hD hS hl)
theorem X_lconst (C : XC D cs K nL R cc own Ts rt) {n : Fin 2} {v : Int64} (hv : Int64.ofNat (n : Nat) = v) (hd : decode cc pc = .ok (.lconst n, 1)) (k : XW l D K cells slots ws (pc + 1) vs (.long v :: st)) : XW l D K cells slots ws pc vs (st) := by
  obtain ⟨p, e, R0, s, m, args, below, meth, c, A, nL0, Q⟩ := K
  intro H locs ls hP hD hS hl
  exact lv_lconst C.1 C.2.1 hd hv (k H locs ls hP hD hS hl)
theorem X_ldc (C : XC D cs K nL R cc own Ts rt) {index : Nat} {v : Int32} (hc : Cond.constant own index v ∈ Ts) (hd : decode cc pc = .ok (.ldc index, 2)) (k : XW l D K cells slots ws (pc + 2) vs (.int v :: st)) : XW l D K cells slots ws pc vs st := by
  obtain ⟨p, e, R0, s, m, args, below, meth, c, A, nL0, Q⟩ := K
  intro H locs ls hP hD hS hl
  exact lv_ldc C.1 C.2.1 C.2.2.2.1 (C.2.2.2.2.1 _ hc) hd (k H locs ls hP hD hS hl)
theorem X_ldcw (C : XC D cs K nL R cc own Ts rt) {index : Nat} {v : Int32} (hc : Cond.constant own index v ∈ Ts) (hd : decode cc pc = .ok (.ldc_w index, 3)) (k : XW l D K cells slots ws (pc + 3) vs (.int v :: st)) : XW l D K cells slots ws pc vs st := by
  obtain ⟨p, e, R0, s, m, args, below, meth, c, A, nL0, Q⟩ := K
  intro H locs ls hP hD hS hl
  exact lv_ldcw C.1 C.2.1 C.2.2.2.1 (C.2.2.2.2.1 _ hc) hd (k H locs ls hP hD hS hl)
theorem X_ldc2 (C : XC D cs K nL R cc own Ts rt) {index : Nat} {v : Int64} (hc : Cond.constantLong own index v ∈ Ts) (hd : decode cc pc = .ok (.ldc2_w index, 3)) (k : XW l D K cells slots ws (pc + 3) vs (.long v :: st)) : XW l D K cells slots ws pc vs st := by
  obtain ⟨p, e, R0, s, m, args, below, meth, c, A, nL0, Q⟩ := K
  intro H locs ls hP hD hS hl
  exact lv_ldc2 C.1 C.2.1 C.2.2.2.1 (C.2.2.2.2.1 _ hc) hd (k H locs ls hP hD hS hl)
theorem X_iload_n (C : XC D cs K nL R cc own Ts rt) {k : Fin 4} {i : Nat} {x : Int32} (j : Nat) (hj : vs[j]? = some (i, .int x)) (hi : (k : Nat) = i) (hd : decode cc pc = .ok (.iload_n k, 1)) (kk : XW l D K cells slots ws (pc + 1) vs (.int x :: st)) : XW l D K cells slots ws pc vs st := by
  obtain ⟨p, e, R0, s, m, args, below, meth, c, A, nL0, Q⟩ := K
  intro H locs ls hP hD hS hl
  exact lv_iload_n C.1 C.2.1 hd hi (lv_at hl j hj) (kk H locs ls hP hD hS hl)
theorem X_iload (C : XC D cs K nL R cc own Ts rt) {i : Nat} {x : Int32} (j : Nat) (hj : vs[j]? = some (i, .int x)) (hd : decode cc pc = .ok (.iload i, 2)) (kk : XW l D K cells slots ws (pc + 2) vs (.int x :: st)) : XW l D K cells slots ws pc vs st := by
  obtain ⟨p, e, R0, s, m, args, below, meth, c, A, nL0, Q⟩ := K
  intro H locs ls hP hD hS hl
  exact lv_iload C.1 C.2.1 hd (lv_at hl j hj) (kk H locs ls hP hD hS hl)
theorem X_aload_n (C : XC D cs K nL R cc own Ts rt) {k : Fin 4} {i : Nat} {x : Nat} (j : Nat) (hj : vs[j]? = some (i, .ref x)) (hi : (k : Nat) = i) (hd : decode cc pc = .ok (.aload_n k, 1)) (kk : XW l D K cells slots ws (pc + 1) vs (.ref x :: st)) : XW l D K cells slots ws pc vs st := by
  obtain ⟨p, e, R0, s, m, args, below, meth, c, A, nL0, Q⟩ := K
  intro H locs ls hP hD hS hl
  exact lv_aload_n C.1 C.2.1 hd hi (lv_at hl j hj) (kk H locs ls hP hD hS hl)
theorem X_aload (C : XC D cs K nL R cc own Ts rt) {i : Nat} {x : Nat} (j : Nat) (hj : vs[j]? = some (i, .ref x)) (hd : decode cc pc = .ok (.aload i, 2)) (kk : XW l D K cells slots ws (pc + 2) vs (.ref x :: st)) : XW l D K cells slots ws pc vs st := by
  obtain ⟨p, e, R0, s, m, args, below, meth, c, A, nL0, Q⟩ := K
  intro H locs ls hP hD hS hl
  exact lv_aload C.1 C.2.1 hd (lv_at hl j hj) (kk H locs ls hP hD hS hl)
theorem X_lload_n (C : XC D cs K nL R cc own Ts rt) {k : Fin 4} {i : Nat} {x : Int64} (j : Nat) (hj : vs[j]? = some (i, .long x)) (hi : (k : Nat) = i) (hd : decode cc pc = .ok (.lload_n k, 1)) (kk : XW l D K cells slots ws (pc + 1) vs (.long x :: st)) : XW l D K cells slots ws pc vs st := by
  obtain ⟨p, e, R0, s, m, args, below, meth, c, A, nL0, Q⟩ := K
  intro H locs ls hP hD hS hl
  exact lv_lload_n C.1 C.2.1 hd hi (lv_at hl j hj) (kk H locs ls hP hD hS hl)
theorem X_lload (C : XC D cs K nL R cc own Ts rt) {i : Nat} {x : Int64} (j : Nat) (hj : vs[j]? = some (i, .long x)) (hd : decode cc pc = .ok (.lload i, 2)) (kk : XW l D K cells slots ws (pc + 2) vs (.long x :: st)) : XW l D K cells slots ws pc vs st := by
  obtain ⟨p, e, R0, s, m, args, below, meth, c, A, nL0, Q⟩ := K
  intro H locs ls hP hD hS hl
  exact lv_lload C.1 C.2.1 hd (lv_at hl j hj) (kk H locs ls hP hD hS hl)
theorem X_istore_n (C : XC D cs K nL R cc own Ts rt) {k : Fin 4} {i : Nat} {x : Int32} {vs1 : List (Nat × Value)} (hi : (k : Nat) = i) (hn : i < nL) (hv : (i, Value.int x) :: vs.filter (fun q => !(q.1 == i) && !(q.1 + 1 == i && q.2.category == 2)) = vs1) (hd : decode cc pc = .ok (.istore_n k, 1)) (kk : XW l D K cells slots ws (pc + 1) vs1 st) : XW l D K cells slots ws pc vs (.int x :: st) := by
  obtain ⟨p, e, R0, s, m, args, below, meth, c, A, nL0, Q⟩ := K
  intro H locs ls hP hD hS hl
  exact lv_istore_n C.1 C.2.1 hd hi hl (by rw [C.2.2.2.2.2.2.2.2.2.2.1]; exact hn) hv (fun ls hl => kk H locs ls hP hD hS hl)
theorem X_istore (C : XC D cs K nL R cc own Ts rt) {i : Nat} {x : Int32} {vs1 : List (Nat × Value)} (hn : i < nL) (hv : (i, Value.int x) :: vs.filter (fun q => !(q.1 == i) && !(q.1 + 1 == i && q.2.category == 2)) = vs1) (hd : decode cc pc = .ok (.istore i, 2)) (kk : XW l D K cells slots ws (pc + 2) vs1 st) : XW l D K cells slots ws pc vs (.int x :: st) := by
  obtain ⟨p, e, R0, s, m, args, below, meth, c, A, nL0, Q⟩ := K
  intro H locs ls hP hD hS hl
  exact lv_istore C.1 C.2.1 hd hl (by rw [C.2.2.2.2.2.2.2.2.2.2.1]; exact hn) hv (fun ls hl => kk H locs ls hP hD hS hl)
theorem X_astore_n (C : XC D cs K nL R cc own Ts rt) {k : Fin 4} {i : Nat} {x : Nat} {vs1 : List (Nat × Value)} (hi : (k : Nat) = i) (hn : i < nL) (hv : (i, Value.ref x) :: vs.filter (fun q => !(q.1 == i) && !(q.1 + 1 == i && q.2.category == 2)) = vs1) (hd : decode cc pc = .ok (.astore_n k, 1)) (kk : XW l D K cells slots ws (pc + 1) vs1 st) : XW l D K cells slots ws pc vs (.ref x :: st) := by
  obtain ⟨p, e, R0, s, m, args, below, meth, c, A, nL0, Q⟩ := K
  intro H locs ls hP hD hS hl
  exact lv_astore_n C.1 C.2.1 hd hi hl (by rw [C.2.2.2.2.2.2.2.2.2.2.1]; exact hn) hv (fun ls hl => kk H locs ls hP hD hS hl)
theorem X_astore (C : XC D cs K nL R cc own Ts rt) {i : Nat} {x : Nat} {vs1 : List (Nat × Value)} (hn : i < nL) (hv : (i, Value.ref x) :: vs.filter (fun q => !(q.1 == i) && !(q.1 + 1 == i && q.2.category == 2)) = vs1) (hd : decode cc pc = .ok (.astore i, 2)) (kk : XW l D K cells slots ws (pc + 2) vs1 st) : XW l D K cells slots ws pc vs (.ref x :: st) := by
  obtain ⟨p, e, R0, s, m, args, below, meth, c, A, nL0, Q⟩ := K
  intro H locs ls hP hD hS hl
  exact lv_astore C.1 C.2.1 hd hl (by rw [C.2.2.2.2.2.2.2.2.2.2.1]; exact hn) hv (fun ls hl => kk H locs ls hP hD hS hl)
theorem X_lstore (C : XC D cs K nL R cc own Ts rt) {i : Nat} {x : Int64} {vs1 : List (Nat × Value)} (hn : i + 1 < nL) (hv : (i, Value.long x) :: vs.filter (fun q => !(q.1 == i) && (!(q.1 == i + 1) && !(q.1 + 1 == i && q.2.category == 2))) = vs1) (hd : decode cc pc = .ok (.lstore i, 2)) (kk : XW l D K cells slots ws (pc + 2) vs1 st) : XW l D K cells slots ws pc vs (.long x :: st) := by
  obtain ⟨p, e, R0, s, m, args, below, meth, c, A, nL0, Q⟩ := K
  intro H locs ls hP hD hS hl
  exact lv_lstore C.1 C.2.1 hd hl (by rw [C.2.2.2.2.2.2.2.2.2.2.1]; exact hn) hv (fun ls hl => kk H locs ls hP hD hS hl)
theorem X_iinc (C : XC D cs K nL R cc own Ts rt) {i : Nat} {n : Int} {x v : Int32} {vs1 : List (Nat × Value)} (j : Nat) (hj : vs[j]? = some (i, .int x)) (he : x + Int32.ofInt n = v) (hn : i < nL) (hv : (i, Value.int v) :: vs.filter (fun q => !(q.1 == i) && !(q.1 + 1 == i && q.2.category == 2)) = vs1) (hd : decode cc pc = .ok (.iinc i n, 3)) (kk : XW l D K cells slots ws (pc + 3) vs1 st) : XW l D K cells slots ws pc vs st := by
  obtain ⟨p, e, R0, s, m, args, below, meth, c, A, nL0, Q⟩ := K
  intro H locs ls hP hD hS hl
  exact lv_iinc C.1 C.2.1 hd hl hj he (by rw [C.2.2.2.2.2.2.2.2.2.2.1]; exact hn) hv (fun ls hl => kk H locs ls hP hD hS hl)
theorem X_iadd (C : XC D cs K nL R cc own Ts rt) {x y : Int32}  (hd : decode cc pc = .ok (.iadd, 1)) (k : XW l D K cells slots ws (pc + 1) vs (.int (x + y) :: st)) : XW l D K cells slots ws pc vs (.int y :: .int x :: st) := by
  obtain ⟨p, e, R0, s, m, args, below, meth, c, A, nL0, Q⟩ := K
  intro H locs ls hP hD hS hl
  exact lv_iadd C.1 C.2.1 hd  (k H locs ls hP hD hS hl)
theorem X_isub (C : XC D cs K nL R cc own Ts rt) {x y : Int32}  (hd : decode cc pc = .ok (.isub, 1)) (k : XW l D K cells slots ws (pc + 1) vs (.int (x - y) :: st)) : XW l D K cells slots ws pc vs (.int y :: .int x :: st) := by
  obtain ⟨p, e, R0, s, m, args, below, meth, c, A, nL0, Q⟩ := K
  intro H locs ls hP hD hS hl
  exact lv_isub C.1 C.2.1 hd  (k H locs ls hP hD hS hl)
theorem X_imul (C : XC D cs K nL R cc own Ts rt) {x y : Int32}  (hd : decode cc pc = .ok (.imul, 1)) (k : XW l D K cells slots ws (pc + 1) vs (.int (x * y) :: st)) : XW l D K cells slots ws pc vs (.int y :: .int x :: st) := by
  obtain ⟨p, e, R0, s, m, args, below, meth, c, A, nL0, Q⟩ := K
  intro H locs ls hP hD hS hl
  exact lv_imul C.1 C.2.1 hd  (k H locs ls hP hD hS hl)
theorem X_iand (C : XC D cs K nL R cc own Ts rt) {x y : Int32}  (hd : decode cc pc = .ok (.iand, 1)) (k : XW l D K cells slots ws (pc + 1) vs (.int (x &&& y) :: st)) : XW l D K cells slots ws pc vs (.int y :: .int x :: st) := by
  obtain ⟨p, e, R0, s, m, args, below, meth, c, A, nL0, Q⟩ := K
  intro H locs ls hP hD hS hl
  exact lv_iand C.1 C.2.1 hd  (k H locs ls hP hD hS hl)
theorem X_ior (C : XC D cs K nL R cc own Ts rt) {x y : Int32}  (hd : decode cc pc = .ok (.ior, 1)) (k : XW l D K cells slots ws (pc + 1) vs (.int (x ||| y) :: st)) : XW l D K cells slots ws pc vs (.int y :: .int x :: st) := by
  obtain ⟨p, e, R0, s, m, args, below, meth, c, A, nL0, Q⟩ := K
  intro H locs ls hP hD hS hl
  exact lv_ior C.1 C.2.1 hd  (k H locs ls hP hD hS hl)
theorem X_ixor (C : XC D cs K nL R cc own Ts rt) {x y : Int32}  (hd : decode cc pc = .ok (.ixor, 1)) (k : XW l D K cells slots ws (pc + 1) vs (.int (x ^^^ y) :: st)) : XW l D K cells slots ws pc vs (.int y :: .int x :: st) := by
  obtain ⟨p, e, R0, s, m, args, below, meth, c, A, nL0, Q⟩ := K
  intro H locs ls hP hD hS hl
  exact lv_ixor C.1 C.2.1 hd  (k H locs ls hP hD hS hl)
theorem X_ishl (C : XC D cs K nL R cc own Ts rt) {x y : Int32}  (hd : decode cc pc = .ok (.ishl, 1)) (k : XW l D K cells slots ws (pc + 1) vs (.int (jshl x y) :: st)) : XW l D K cells slots ws pc vs (.int y :: .int x :: st) := by
  obtain ⟨p, e, R0, s, m, args, below, meth, c, A, nL0, Q⟩ := K
  intro H locs ls hP hD hS hl
  exact lv_ishl C.1 C.2.1 hd  (k H locs ls hP hD hS hl)
theorem X_ishr (C : XC D cs K nL R cc own Ts rt) {x y : Int32}  (hd : decode cc pc = .ok (.ishr, 1)) (k : XW l D K cells slots ws (pc + 1) vs (.int (jshr x y) :: st)) : XW l D K cells slots ws pc vs (.int y :: .int x :: st) := by
  obtain ⟨p, e, R0, s, m, args, below, meth, c, A, nL0, Q⟩ := K
  intro H locs ls hP hD hS hl
  exact lv_ishr C.1 C.2.1 hd  (k H locs ls hP hD hS hl)
theorem X_iushr (C : XC D cs K nL R cc own Ts rt) {x y : Int32} (hd : decode cc pc = .ok (.iushr, 1)) (k : XW l D K cells slots ws (pc + 1) vs (.int (jushr x y) :: st)) : XW l D K cells slots ws pc vs (.int y :: .int x :: st) := by
  obtain ⟨p, e, R0, s, m, args, below, meth, c, A, nL0, Q⟩ := K
  intro H locs ls hP hD hS hl
  exact lv_iushr C.1 C.2.1 hd rfl (k H locs ls hP hD hS hl)
theorem X_ineg (C : XC D cs K nL R cc own Ts rt) {x : Int32}  (hd : decode cc pc = .ok (.ineg, 1)) (k : XW l D K cells slots ws (pc + 1) vs (.int (-x) :: st)) : XW l D K cells slots ws pc vs (.int x :: st) := by
  obtain ⟨p, e, R0, s, m, args, below, meth, c, A, nL0, Q⟩ := K
  intro H locs ls hP hD hS hl
  exact lv_ineg C.1 C.2.1 hd  (k H locs ls hP hD hS hl)
theorem X_ladd (C : XC D cs K nL R cc own Ts rt) {x y : Int64}  (hd : decode cc pc = .ok (.ladd, 1)) (k : XW l D K cells slots ws (pc + 1) vs (.long (x + y) :: st)) : XW l D K cells slots ws pc vs (.long y :: .long x :: st) := by
  obtain ⟨p, e, R0, s, m, args, below, meth, c, A, nL0, Q⟩ := K
  intro H locs ls hP hD hS hl
  exact lv_ladd C.1 C.2.1 hd  (k H locs ls hP hD hS hl)
theorem X_lcmp (C : XC D cs K nL R cc own Ts rt) {x y : Int64}  (hd : decode cc pc = .ok (.lcmp, 1)) (k : XW l D K cells slots ws (pc + 1) vs (.int (lg_cmp x y) :: st)) : XW l D K cells slots ws pc vs (.long y :: .long x :: st) := by
  obtain ⟨p, e, R0, s, m, args, below, meth, c, A, nL0, Q⟩ := K
  intro H locs ls hP hD hS hl
  exact W.lcmp C.1 C.2.1 hd  (k H locs ls hP hD hS hl)
theorem X_i2l (C : XC D cs K nL R cc own Ts rt) {x : Int32}  (hd : decode cc pc = .ok (.i2l, 1)) (k : XW l D K cells slots ws (pc + 1) vs (.long (x.toInt64) :: st)) : XW l D K cells slots ws pc vs (.int x :: st) := by
  obtain ⟨p, e, R0, s, m, args, below, meth, c, A, nL0, Q⟩ := K
  intro H locs ls hP hD hS hl
  exact lv_i2l C.1 C.2.1 hd rfl (k H locs ls hP hD hS hl)
theorem X_l2i (C : XC D cs K nL R cc own Ts rt) {x : Int64}  (hd : decode cc pc = .ok (.l2i, 1)) (k : XW l D K cells slots ws (pc + 1) vs (.int (x.toInt32) :: st)) : XW l D K cells slots ws pc vs (.long x :: st) := by
  obtain ⟨p, e, R0, s, m, args, below, meth, c, A, nL0, Q⟩ := K
  intro H locs ls hP hD hS hl
  exact lv_l2i C.1 C.2.1 hd rfl (k H locs ls hP hD hS hl)
theorem X_idiv (C : XC D cs K nL R cc own Ts rt) {x y : Int32} {α : Type} {t : Option α} {o : α} (h : grd (!decide (y = 0)) t = some o) (hd : decode cc pc = .ok (.idiv, 1)) (k : t = some o → XW l D K cells slots ws (pc + 1) vs (.int (x / y) :: st)) : XW l D K cells slots ws pc vs (.int y :: .int x :: st) := by
  obtain ⟨h0, h1⟩ := grd_some h
  obtain ⟨p, e, R0, s, m, args, below, meth, c, A, nL0, Q⟩ := K
  intro H locs ls hP hD hS hl
  exact lv_idiv C.1 C.2.1 hd (by simpa using h0) (k h1 H locs ls hP hD hS hl)
theorem X_irem (C : XC D cs K nL R cc own Ts rt) {x y : Int32} {α : Type} {t : Option α} {o : α} (h : grd (!decide (y = 0)) t = some o) (hd : decode cc pc = .ok (.irem, 1)) (k : t = some o → XW l D K cells slots ws (pc + 1) vs (.int (jrem x y) :: st)) : XW l D K cells slots ws pc vs (.int y :: .int x :: st) := by
  obtain ⟨h0, h1⟩ := grd_some h
  obtain ⟨p, e, R0, s, m, args, below, meth, c, A, nL0, Q⟩ := K
  intro H locs ls hP hD hS hl
  exact lv_irem C.1 C.2.1 hd (by simpa using h0) (k h1 H locs ls hP hD hS hl)
theorem X_dup (C : XC D cs K nL R cc own Ts rt) {v : Value} (hc : v.category = 1) (hd : decode cc pc = .ok (.dup, 1)) (k : XW l D K cells slots ws (pc + 1) vs (v :: v :: st)) : XW l D K cells slots ws pc vs (v :: st) := by
  obtain ⟨p, e, R0, s, m, args, below, meth, c, A, nL0, Q⟩ := K
  intro H locs ls hP hD hS hl
  exact lv_dup C.1 C.2.1 hd hc (k H locs ls hP hD hS hl)
theorem X_pop (C : XC D cs K nL R cc own Ts rt) {v : Value} (hc : v.category = 1) (hd : decode cc pc = .ok (.pop, 1)) (k : XW l D K cells slots ws (pc + 1) vs (st)) : XW l D K cells slots ws pc vs (v :: st) := by
  obtain ⟨p, e, R0, s, m, args, below, meth, c, A, nL0, Q⟩ := K
  intro H locs ls hP hD hS hl
  exact lv_pop C.1 C.2.1 hd hc (k H locs ls hP hD hS hl)
theorem X_dup2 (C : XC D cs K nL R cc own Ts rt) {v w : Value} (hc : v.category = 1) (hc2 : w.category = 1) (hd : decode cc pc = .ok (.dup2, 1)) (k : XW l D K cells slots ws (pc + 1) vs (v :: w :: v :: w :: st)) : XW l D K cells slots ws pc vs (v :: w :: st) := by
  obtain ⟨p, e, R0, s, m, args, below, meth, c, A, nL0, Q⟩ := K
  intro H locs ls hP hD hS hl
  exact lv_dup2_11 C.1 C.2.1 hd hc hc2 (k H locs ls hP hD hS hl)
theorem X_goto (C : XC D cs K nL R cc own Ts rt) {off : Int} {tgt : Nat} (ht : (pc : Int) + off = (tgt : Int)) (hd : decode cc pc = .ok (.goto off, 3)) (k : XW l D K cells slots ws tgt vs st) : XW l D K cells slots ws pc vs st := by
  obtain ⟨p, e, R0, s, m, args, below, meth, c, A, nL0, Q⟩ := K
  intro H locs ls hP hD hS hl
  exact lv_goto C.1 C.2.1 hd ht (k H locs ls hP hD hS hl)
theorem X_ifeq (C : XC D cs K nL R cc own Ts rt) {x : Int32} {α : Type} {t1 t2 : Option α} {o : α} {off : Int} {tgt : Nat} (ht : (pc : Int) + off = (tgt : Int)) (hd : decode cc pc = .ok (.ifCond .eq off, 3)) (h : (if x = 0 then t1 else t2) = some o) (k1 : t1 = some o → XW l D K cells slots ws tgt vs st) (k2 : t2 = some o → XW l D K cells slots ws (pc + 3) vs st) : XW l D K cells slots ws pc vs (.int x :: st) := by
  obtain ⟨p, e, R0, s, m, args, below, meth, c, A, nL0, Q⟩ := K
  intro H locs ls hP hD hS hl
  exact lv_if_eq C.1 C.2.1 hd ht (fun q => k1 (by rw [if_pos q] at h; exact h) H locs ls hP hD hS hl) (fun q => k2 (by rw [if_neg q] at h; exact h) H locs ls hP hD hS hl)
theorem X_ifne (C : XC D cs K nL R cc own Ts rt) {x : Int32} {α : Type} {t1 t2 : Option α} {o : α} {off : Int} {tgt : Nat} (ht : (pc : Int) + off = (tgt : Int)) (hd : decode cc pc = .ok (.ifCond .ne off, 3)) (h : (if x = 0 then t2 else t1) = some o) (k1 : t1 = some o → XW l D K cells slots ws tgt vs st) (k2 : t2 = some o → XW l D K cells slots ws (pc + 3) vs st) : XW l D K cells slots ws pc vs (.int x :: st) := by
  obtain ⟨p, e, R0, s, m, args, below, meth, c, A, nL0, Q⟩ := K
  intro H locs ls hP hD hS hl
  exact lv_if_ne C.1 C.2.1 hd ht (fun q => k1 (by rw [if_neg q] at h; exact h) H locs ls hP hD hS hl) (fun q => k2 (by rw [if_pos q] at h; exact h) H locs ls hP hD hS hl)
theorem X_iflt (C : XC D cs K nL R cc own Ts rt) {x : Int32} {α : Type} {t1 t2 : Option α} {o : α} {off : Int} {tgt : Nat} (ht : (pc : Int) + off = (tgt : Int)) (hd : decode cc pc = .ok (.ifCond .lt off, 3)) (h : (if x < 0 then t1 else t2) = some o) (k1 : t1 = some o → XW l D K cells slots ws tgt vs st) (k2 : t2 = some o → XW l D K cells slots ws (pc + 3) vs st) : XW l D K cells slots ws pc vs (.int x :: st) := by
  obtain ⟨p, e, R0, s, m, args, below, meth, c, A, nL0, Q⟩ := K
  intro H locs ls hP hD hS hl
  exact lv_if_lt C.1 C.2.1 hd ht (fun q => k1 (by rw [if_pos q] at h; exact h) H locs ls hP hD hS hl) (fun q => k2 (by rw [if_neg q] at h; exact h) H locs ls hP hD hS hl)
theorem X_ifge (C : XC D cs K nL R cc own Ts rt) {x : Int32} {α : Type} {t1 t2 : Option α} {o : α} {off : Int} {tgt : Nat} (ht : (pc : Int) + off = (tgt : Int)) (hd : decode cc pc = .ok (.ifCond .ge off, 3)) (h : (if 0 ≤ x then t1 else t2) = some o) (k1 : t1 = some o → XW l D K cells slots ws tgt vs st) (k2 : t2 = some o → XW l D K cells slots ws (pc + 3) vs st) : XW l D K cells slots ws pc vs (.int x :: st) := by
  obtain ⟨p, e, R0, s, m, args, below, meth, c, A, nL0, Q⟩ := K
  intro H locs ls hP hD hS hl
  exact lv_if_ge C.1 C.2.1 hd ht (fun q => k1 (by rw [if_pos q] at h; exact h) H locs ls hP hD hS hl) (fun q => k2 (by rw [if_neg q] at h; exact h) H locs ls hP hD hS hl)
theorem X_ifgt (C : XC D cs K nL R cc own Ts rt) {x : Int32} {α : Type} {t1 t2 : Option α} {o : α} {off : Int} {tgt : Nat} (ht : (pc : Int) + off = (tgt : Int)) (hd : decode cc pc = .ok (.ifCond .gt off, 3)) (h : (if 0 < x then t1 else t2) = some o) (k1 : t1 = some o → XW l D K cells slots ws tgt vs st) (k2 : t2 = some o → XW l D K cells slots ws (pc + 3) vs st) : XW l D K cells slots ws pc vs (.int x :: st) := by
  obtain ⟨p, e, R0, s, m, args, below, meth, c, A, nL0, Q⟩ := K
  intro H locs ls hP hD hS hl
  exact lv_if_gt C.1 C.2.1 hd ht (fun q => k1 (by rw [if_pos q] at h; exact h) H locs ls hP hD hS hl) (fun q => k2 (by rw [if_neg q] at h; exact h) H locs ls hP hD hS hl)
theorem X_ifle (C : XC D cs K nL R cc own Ts rt) {x : Int32} {α : Type} {t1 t2 : Option α} {o : α} {off : Int} {tgt : Nat} (ht : (pc : Int) + off = (tgt : Int)) (hd : decode cc pc = .ok (.ifCond .le off, 3)) (h : (if x ≤ 0 then t1 else t2) = some o) (k1 : t1 = some o → XW l D K cells slots ws tgt vs st) (k2 : t2 = some o → XW l D K cells slots ws (pc + 3) vs st) : XW l D K cells slots ws pc vs (.int x :: st) := by
  obtain ⟨p, e, R0, s, m, args, below, meth, c, A, nL0, Q⟩ := K
  intro H locs ls hP hD hS hl
  exact lv_if_le C.1 C.2.1 hd ht (fun q => k1 (by rw [if_pos q] at h; exact h) H locs ls hP hD hS hl) (fun q => k2 (by rw [if_neg q] at h; exact h) H locs ls hP hD hS hl)
theorem X_icmpeq (C : XC D cs K nL R cc own Ts rt) {x y : Int32} {α : Type} {t1 t2 : Option α} {o : α} {off : Int} {tgt : Nat} (ht : (pc : Int) + off = (tgt : Int)) (hd : decode cc pc = .ok (.if_icmp .eq off, 3)) (h : (if x = y then t1 else t2) = some o) (k1 : t1 = some o → XW l D K cells slots ws tgt vs st) (k2 : t2 = some o → XW l D K cells slots ws (pc + 3) vs st) : XW l D K cells slots ws pc vs (.int y :: .int x :: st) := by
  obtain ⟨p, e, R0, s, m, args, below, meth, c, A, nL0, Q⟩ := K
  intro H locs ls hP hD hS hl
  exact lv_icmp_eq C.1 C.2.1 hd ht (fun q => k1 (by rw [if_pos q] at h; exact h) H locs ls hP hD hS hl) (fun q => k2 (by rw [if_neg q] at h; exact h) H locs ls hP hD hS hl)
theorem X_icmpne (C : XC D cs K nL R cc own Ts rt) {x y : Int32} {α : Type} {t1 t2 : Option α} {o : α} {off : Int} {tgt : Nat} (ht : (pc : Int) + off = (tgt : Int)) (hd : decode cc pc = .ok (.if_icmp .ne off, 3)) (h : (if x = y then t2 else t1) = some o) (k1 : t1 = some o → XW l D K cells slots ws tgt vs st) (k2 : t2 = some o → XW l D K cells slots ws (pc + 3) vs st) : XW l D K cells slots ws pc vs (.int y :: .int x :: st) := by
  obtain ⟨p, e, R0, s, m, args, below, meth, c, A, nL0, Q⟩ := K
  intro H locs ls hP hD hS hl
  exact lv_icmp_ne C.1 C.2.1 hd ht (fun q => k1 (by rw [if_neg q] at h; exact h) H locs ls hP hD hS hl) (fun q => k2 (by rw [if_pos q] at h; exact h) H locs ls hP hD hS hl)
theorem X_icmplt (C : XC D cs K nL R cc own Ts rt) {x y : Int32} {α : Type} {t1 t2 : Option α} {o : α} {off : Int} {tgt : Nat} (ht : (pc : Int) + off = (tgt : Int)) (hd : decode cc pc = .ok (.if_icmp .lt off, 3)) (h : (if x < y then t1 else t2) = some o) (k1 : t1 = some o → XW l D K cells slots ws tgt vs st) (k2 : t2 = some o → XW l D K cells slots ws (pc + 3) vs st) : XW l D K cells slots ws pc vs (.int y :: .int x :: st) := by
  obtain ⟨p, e, R0, s, m, args, below, meth, c, A, nL0, Q⟩ := K
  intro H locs ls hP hD hS hl
  exact lv_icmp_lt C.1 C.2.1 hd ht (fun q => k1 (by rw [if_pos q] at h; exact h) H locs ls hP hD hS hl) (fun q => k2 (by rw [if_neg q] at h; exact h) H locs ls hP hD hS hl)
theorem X_icmpge (C : XC D cs K nL R cc own Ts rt) {x y : Int32} {α : Type} {t1 t2 : Option α} {o : α} {off : Int} {tgt : Nat} (ht : (pc : Int) + off = (tgt : Int)) (hd : decode cc pc = .ok (.if_icmp .ge off, 3)) (h : (if y ≤ x then t1 else t2) = some o) (k1 : t1 = some o → XW l D K cells slots ws tgt vs st) (k2 : t2 = some o → XW l D K cells slots ws (pc + 3) vs st) : XW l D K cells slots ws pc vs (.int y :: .int x :: st) := by
  obtain ⟨p, e, R0, s, m, args, below, meth, c, A, nL0, Q⟩ := K
  intro H locs ls hP hD hS hl
  exact lv_icmp_ge C.1 C.2.1 hd ht (fun q => k1 (by rw [if_pos q] at h; exact h) H locs ls hP hD hS hl) (fun q => k2 (by rw [if_neg q] at h; exact h) H locs ls hP hD hS hl)
theorem X_icmpgt (C : XC D cs K nL R cc own Ts rt) {x y : Int32} {α : Type} {t1 t2 : Option α} {o : α} {off : Int} {tgt : Nat} (ht : (pc : Int) + off = (tgt : Int)) (hd : decode cc pc = .ok (.if_icmp .gt off, 3)) (h : (if y < x then t1 else t2) = some o) (k1 : t1 = some o → XW l D K cells slots ws tgt vs st) (k2 : t2 = some o → XW l D K cells slots ws (pc + 3) vs st) : XW l D K cells slots ws pc vs (.int y :: .int x :: st) := by
  obtain ⟨p, e, R0, s, m, args, below, meth, c, A, nL0, Q⟩ := K
  intro H locs ls hP hD hS hl
  exact lv_icmp_gt C.1 C.2.1 hd ht (fun q => k1 (by rw [if_pos q] at h; exact h) H locs ls hP hD hS hl) (fun q => k2 (by rw [if_neg q] at h; exact h) H locs ls hP hD hS hl)
theorem X_icmple (C : XC D cs K nL R cc own Ts rt) {x y : Int32} {α : Type} {t1 t2 : Option α} {o : α} {off : Int} {tgt : Nat} (ht : (pc : Int) + off = (tgt : Int)) (hd : decode cc pc = .ok (.if_icmp .le off, 3)) (h : (if x ≤ y then t1 else t2) = some o) (k1 : t1 = some o → XW l D K cells slots ws tgt vs st) (k2 : t2 = some o → XW l D K cells slots ws (pc + 3) vs st) : XW l D K cells slots ws pc vs (.int y :: .int x :: st) := by
  obtain ⟨p, e, R0, s, m, args, below, meth, c, A, nL0, Q⟩ := K
  intro H locs ls hP hD hS hl
  exact lv_icmp_le C.1 C.2.1 hd ht (fun q => k1 (by rw [if_pos q] at h; exact h) H locs ls hP hD hS hl) (fun q => k2 (by rw [if_neg q] at h; exact h) H locs ls hP hD hS hl)
theorem X_tblIn (C : XC D cs K nL R cc own Ts rt) {x : Int32} {dflt lo hi off : Int} {offs : Array Int} {len tgt : Nat} (h1 : ¬ x.toInt < lo) (h2 : ¬ hi < x.toInt) (ho : offs[(x.toInt - lo).toNat]? = some off) (ht : (pc : Int) + off = (tgt : Int)) (hd : decode cc pc = .ok (.tableswitch dflt lo hi offs, len)) (k : XW l D K cells slots ws tgt vs st) : XW l D K cells slots ws pc vs (.int x :: st) := by
  obtain ⟨p, e, R0, s, m, args, below, meth, c, A, nL0, Q⟩ := K
  intro H locs ls hP hD hS hl
  exact lv_tableIn C.1 C.2.1 hd h1 h2 ho ht (k H locs ls hP hD hS hl)
theorem X_tblOut (C : XC D cs K nL R cc own Ts rt) {x : Int32} {dflt lo hi : Int} {offs : Array Int} {len tgt : Nat} (h : x.toInt < lo ∨ hi < x.toInt) (ht : (pc : Int) + dflt = (tgt : Int)) (hd : decode cc pc = .ok (.tableswitch dflt lo hi offs, len)) (k : XW l D K cells slots ws tgt vs st) : XW l D K cells slots ws pc vs (.int x :: st) := by
  obtain ⟨p, e, R0, s, m, args, below, meth, c, A, nL0, Q⟩ := K
  intro H locs ls hP hD hS hl
  exact lv_tableOut C.1 C.2.1 hd h ht (k H locs ls hP hD hS hl)
theorem X_lkp (C : XC D cs K nL R cc own Ts rt) {x : Int32} {dflt off : Int} {ps : Array (Int × Int)} {len tgt : Nat} (hp : (ps.toList.zip (ps.toList.drop 1)).all (fun (a, next) => a.1 < next.1) = true) (ho : Op.lookupswitch.offset ps.toList dflt x.toInt = off) (ht : (pc : Int) + off = (tgt : Int)) (hd : decode cc pc = .ok (.lookupswitch dflt ps, len)) (k : XW l D K cells slots ws tgt vs st) : XW l D K cells slots ws pc vs (.int x :: st) := by
  obtain ⟨p, e, R0, s, m, args, below, meth, c, A, nL0, Q⟩ := K
  intro H locs ls hP hD hS hl
  exact lv_lookup C.1 C.2.1 hd hp ho ht (k H locs ls hP hD hS hl)
theorem X_loc {vs1 : List (Nat × Value)} (ks : List Nat) (hk : lv_pick vs ks = vs1) (k : XW l D K cells slots ws pc vs1 st) : XW l D K cells slots ws pc vs st := by
  obtain ⟨p, e, R0, s, m, args, below, meth, c, A, nL0, Q⟩ := K
  intro H locs ls hP hD hS hl
  exact k H locs ls hP hD hS (lv_sub hl ks hk)
theorem X_get (C : XC D cs K nL R cc own Ts rt) {C0 : String} {T : u_T} {N ci index : Nat} {a : Nat} {fs : List Value} {v : Value} (q0 k : Nat) (hin : ∀ w ∈ u_ws C0 T N, w ∈ Ts) (hl0 : Cond.fieldLink own index (T k).1 (T k).2.1 (T k).2.2.1 ∈ Ts) (he : ws[q0]? = some (a, .inr (ci, fs))) (hc : vwCl[ci]? = some (C0, T, N)) (hk : k < N) (hv : fs[k]? = some v) (hd : decode cc pc = .ok (.getfield index, 3)) (kk : XW l D K cells slots ws (pc + 3) vs (v :: st)) : XW l D K cells slots ws pc vs (.ref a :: st) := by
  obtain ⟨p, e, R0, s, m, args, below, meth, c, A, nL0, Q⟩ := K
  intro H locs ls hP hD hS hl
  exact va_get C.1 C.2.1 C.2.2.2.2.1 hin C.2.2.2.1 C.2.2.2.2.2.1 hP q0 he hc k hk (C.2.2.2.2.1 _ hl0) (fun _ h => h) hv hd (kk H locs ls hP hD hS hl)
theorem X_put (C : XC D cs K nL R cc own Ts rt) {C0 : String} {T : u_T} {N ci index : Nat} {a : Nat} {fs : List Value} {v : Value} {ty : FieldType} {ws1 : va_W} (q0 k : Nat) (hin : ∀ w ∈ u_ws C0 T N, w ∈ Ts) (hl0 : Cond.fieldLink own index (T k).1 (T k).2.1 (T k).2.2.1 ∈ Ts) (ty0 : Nat → FieldType) (hty : ∀ k, k < N → parseFieldDescriptor (T k).2.2.1 = some (ty0 k)) (hnm : ∀ a, a < N → ∀ b, b < N → a ≠ b → (T a).2.1 ≠ (T b).2.1) (he : ws[q0]? = some (a, .inr (ci, fs))) (hc : vwCl[ci]? = some (C0, T, N)) (hk : k < N) (hfin : (T k).2.2.2 = false) (hd0 : parseFieldDescriptor (T k).2.2.1 = some ty) (hn : narrow ty v = v) (hfit : fits ty v = true) (hlen : k < fs.length) (hs : ws.set q0 (a, .inr (ci, fs.set k v)) = ws1) (hd : decode cc pc = .ok (.putfield index, 3)) (kk : XW l D K cells slots ws1 (pc + 3) vs st) : XW l D K cells slots ws pc vs (v :: .ref a :: st) := by
  subst hs
  obtain ⟨p, e, R0, s, m, args, below, meth, c, A, nL0, Q⟩ := K
  intro H locs ls hP hD hS hl
  exact va_put C.1 C.2.1 C.2.2.2.2.1 hin ty0 hty hnm C.2.2.2.1 C.2.2.2.2.2.1 hP hD hS q0 he hc k hk (C.2.2.2.2.1 _ hl0) (fun _ h => h) hfin hd0 hn hfit hlen hd (fun H1 locs1 hP hD hS => kk H1 locs1 ls hP hD hS hl)
theorem X_iald (C : XC D cs K nL R cc own Ts rt) {a n : Nat} {f : Nat → Int32} {i : Int32} {α : Type} {t : Option α} {o : α} (q0 : Nat) (ha : ws[q0]? = some (a, .inl (cs 0, n, .inl f))) (h : grd (jin i n) t = some o) (hd : decode cc pc = .ok (.iaload, 1)) (kk : t = some o → XW l D K cells slots ws (pc + 1) vs (.int (f (jix i)) :: st)) : XW l D K cells slots ws pc vs (.int i :: .ref a :: st) := by
  obtain ⟨h0, h1⟩ := grd_some h
  obtain ⟨p, e, R0, s, m, args, below, meth, c, A, nL0, Q⟩ := K
  intro H locs ls hP hD hS hl
  exact va_iald C.1 C.2.1 C.2.2.2.2.2.1 hP q0 0 ha rfl (jin_in h0) hd (kk h1 H locs ls hP hD hS hl)
theorem X_zald (C : XC D cs K nL R cc own Ts rt) {a n : Nat} {f : Nat → Int32} {i : Int32} {α : Type} {t : Option α} {o : α} (q0 : Nat) (ha : ws[q0]? = some (a, .inl (cs 1, n, .inl f))) (h : grd (jin i n) t = some o) (hd : decode cc pc = .ok (.baload, 1)) (kk : t = some o → XW l D K cells slots ws (pc + 1) vs (.int (f (jix i)) :: st)) : XW l D K cells slots ws pc vs (.int i :: .ref a :: st) := by
  obtain ⟨h0, h1⟩ := grd_some h
  obtain ⟨p, e, R0, s, m, args, below, meth, c, A, nL0, Q⟩ := K
  intro H locs ls hP hD hS hl
  exact va_zald C.1 C.2.1 C.2.2.2.2.2.1 hP q0 1 ha rfl (jin_in h0) hd (kk h1 H locs ls hP hD hS hl)
theorem X_iast (C : XC D cs K nL R cc own Ts rt) {a n : Nat} {f : Nat → Int32} {i x : Int32} {ws1 : va_W} {α : Type} {t : Option α} {o : α} (q0 : Nat) (ha : ws[q0]? = some (a, .inl (cs 0, n, .inl f))) (hs : ws.set q0 (a, .inl (cs 0, n, .inl (upd f (jix i) x))) = ws1) (h : grd (jin i n) t = some o) (hd : decode cc pc = .ok (.iastore, 1)) (kk : t = some o → XW l D K cells slots ws1 (pc + 1) vs st) : XW l D K cells slots ws pc vs (.int x :: .int i :: .ref a :: st) := by
  subst hs
  obtain ⟨h0, h1⟩ := grd_some h
  obtain ⟨p, e, R0, s, m, args, below, meth, c, A, nL0, Q⟩ := K
  intro H locs ls hP hD hS hl
  exact va_iast C.1 C.2.1 C.2.2.2.2.2.1 hP hD hS q0 0 ha rfl (jin_in h0) hd (fun H1 locs1 hP hD hS => kk h1 H1 locs1 ls hP hD hS hl)
theorem X_zast (C : XC D cs K nL R cc own Ts rt) {a n : Nat} {f : Nat → Int32} {i x : Int32} {ws1 : va_W} {α : Type} {t : Option α} {o : α} (q0 : Nat) (ha : ws[q0]? = some (a, .inl (cs 1, n, .inl f))) (hs : ws.set q0 (a, .inl (cs 1, n, .inl (upd f (jix i) (jnz x)))) = ws1) (h : grd (jin i n) t = some o) (hd : decode cc pc = .ok (.bastore, 1)) (kk : t = some o → XW l D K cells slots ws1 (pc + 1) vs st) : XW l D K cells slots ws pc vs (.int x :: .int i :: .ref a :: st) := by
  subst hs
  obtain ⟨h0, h1⟩ := grd_some h
  obtain ⟨p, e, R0, s, m, args, below, meth, c, A, nL0, Q⟩ := K
  intro H locs ls hP hD hS hl
  exact va_zast C.1 C.2.1 C.2.2.2.2.2.1 hP hD hS q0 1 ha rfl (jin_in h0) hd (fun H1 locs1 hP hD hS => kk h1 H1 locs1 ls hP hD hS hl)
theorem X_alen (C : XC D cs K nL R cc own Ts rt) {a n : Nat} {f : Nat → Int32} {v : Int32} (q0 : Nat) (ha : ws[q0]? = some (a, .inl (cs 0, n, .inl f))) (hv : Int32.ofNat n = v) (hd : decode cc pc = .ok (.arraylength, 1)) (kk : XW l D K cells slots ws (pc + 1) vs (.int v :: st)) : XW l D K cells slots ws pc vs (.ref a :: st) := by
  obtain ⟨p, e, R0, s, m, args, below, meth, c, A, nL0, Q⟩ := K
  intro H locs ls hP hD hS hl
  exact va_alen C.1 C.2.1 C.2.2.2.2.2.1 hP q0 0 ha rfl hv hd (kk H locs ls hP hD hS hl)
theorem X_copy (C : XC D cs K nL R cc own Ts rt) {index a0 a1 n0 n1 : Nat} {f g : Nat → Int32} {sp dp n : Int32} {ws1 : va_W} (q0 q1 : Nat) (hlink : Cond.methodLink own index arraycopyName ∈ Ts) (hnat : Cond.native arraycopyName ∈ Ts) (hstat : Cond.static arraycopyName ∈ Ts) (hini : Cond.initialized "java/lang/System" ∈ Ts) (ha0 : ws[q0]? = some (a0, .inl (cs 0, n0, .inl f))) (ha1 : ws[q1]? = some (a1, .inl (cs 0, n1, .inl g))) (h1 : ¬ sp < 0) (h2 : ¬ dp < 0) (h3 : ¬ n < 0) (h4 : sp.toNatClampNeg + n.toNatClampNeg ≤ n0) (h5 : dp.toNatClampNeg + n.toNatClampNeg ≤ n1) (hf : 1 ≤ R.frames) (hlo : (st.map fun v => v.category).sum + (nativeFrameWords "java/lang/System" "arraycopy" 5 + 11) ≤ R.locals) (hs : ws.set q1 (a1, .inl (cs 0, n1, .inl (va_cpy f g sp.toNatClampNeg dp.toNatClampNeg n.toNatClampNeg))) = ws1) (hd : decode cc pc = .ok (.invokestatic index, 3)) (kk : XW l D K cells slots ws1 (pc + 3) vs st) : XW l D K cells slots ws pc vs (.int n :: .int dp :: .ref a1 :: .int sp :: .ref a0 :: st) := by
  subst hs
  obtain ⟨p, e, R0, s, m, args, below, meth, c, A, nL0, Q⟩ := K
  intro H locs ls hP hD hS hl
  obtain ⟨c1, c2, c3, c4, c5, c6, c7, c8, c9, c10, c11, rfl⟩ := C
  exact va_copyi c1 c2 (by rw [c3]; exact hl.1.symm) c4 (c5 _ hlink) (c5 _ hnat) (c5 _ hstat) (c5 _ hini) c6 hP hD hS q0 q1 0 0 ha0 ha1 rfl rfl rfl h1 h2 h3 h4 h5 (fun _ _ => rfl) hf hlo hd (fun H1 locs1 hP hD hS => kk H1 locs1 ls hP hD hS hl)
theorem X_mmin (C : XC D cs K nL R cc own Ts rt) {index : Nat} {x y : Int32} (hlink : Cond.methodLink own index Lib.Math.min.name ∈ Ts) (hstat : Cond.static Lib.Math.min.name ∈ Ts) (hini : Cond.initialized "java/lang/Math" ∈ Ts) (hcode : Cond.code Lib.Math.min.name Lib.Math.min.code 2 (some .int) ∈ Ts) (hf : 1 ≤ R.frames) (hlo : (st.map fun v => v.category).sum + 13 ≤ R.locals) (hcl : cells ≤ R.cells) (hsl : slots ≤ R.slots) (hd : decode cc pc = .ok (.invokestatic index, 3)) (kk : XW l D K cells slots ws (pc + 3) vs (.int (jmin x y) :: st)) : XW l D K cells slots ws pc vs (.int y :: .int x :: st) := by
  obtain ⟨p, e, R0, s, m, args, below, meth, c, A, nL0, Q⟩ := K
  intro H locs ls hP hD hS hl
  obtain ⟨c1, c2, c3, c4, c5, c6, c7, c8, c9, c10, c11, rfl⟩ := C
  exact va_mmin c1 c2 (by rw [c3]; exact hl.1.symm) c4 (c5 _ hlink) (c5 _ hstat) (c5 _ hini) (c5 _ hcode) hf hlo hcl hsl hd (kk H locs ls hP hD hS hl)
set_option maxHeartbeats 1000000 in
theorem X_callVi (C : XC D cs K nL R cc own Ts rt) {C0 : String} {index n maxL a q0 ci : Nat} {y : MethodName} {bytes : ByteArray} {ret : Option FieldType} {wds wds1 : List Cond} {rm : Room} {av As st0 : List Value} {ws1 : va_W} {fs : List Value} {r : Int32} (hM : CTi l D cs y wds rm av ws r ws1) (hav : av = .ref a :: As) (hT : GoodIn Ts (wsV own index C0 y wds)) (hw : wds = Cond.code y bytes maxL ret :: wds1) (hcl : vwCl[ci]?.map (fun q => q.1) = some C0) (he : ws[q0]? = some (a, .inr (ci, fs))) (hrc : rm.cells = 0) (hrs : rm.slots = 0) (hdd : y.cls = C0 ∧ y.cls ≠ "java/lang/invoke/MethodHandle" ∧ y.cls ≠ "java/lang/invoke/VarHandle" ∧ (parseMethodDescriptor y.desc).map (fun d => d.parameters.length) = some n) (hR : rm.frames + 1 ≤ R.frames ∧ 8 + (maxL + 11) + rm.locals ≤ R.locals) (hcs : cells ≤ R.cells ∧ slots ≤ R.slots) (hst : st0 = As.reverse ++ .ref a :: st) (hn : As.length = n) (hroom : (st.map fun v => v.category).sum ≤ 8) (hd : decode cc pc = .ok (.invokevirtual index, 3)) (kk : XW l D K cells slots ws1 (pc + 3) vs (.int r :: st)) : XW l D K cells slots ws pc vs st0 := by
  subst hst; subst hav
  obtain ⟨p, e, R0, s, m, args, below, meth, c, A, nL0, Q⟩ := K
  intro H locs ls hP hD hS hl
  obtain ⟨c1, c2, c3, c4, c5, c6, c7, c8, c9, c10, c11, rfl⟩ := C
  have hf : ∀ q, va_A ws H.size q → A q := fun q h => by
    rcases h with ⟨k, e, hk⟩ | h
    · exact hD.2 k _ hk
    · exact c8 q (Nat.le_trans hS.1 h)
  refine va_calli (va_runV (As := As) (rest := st) (b := a) ⟨c1, c2, c3, c4, c5⟩ (hM H.size) (cwV n c5 hT hw hrc hrs hdd hR) ⟨fun a U g mk q => by obtain ⟨q0, q1, qP, qK, qD, qN⟩ := q; exact ⟨q0, q1, qP, va_K.moved (u := U) (U := U.calling g mk a) (Vm.Alike.refl U.vm) qK, qD, XN.same (u := U) (U := U.calling g mk a) rfl qN⟩, (by obtain ⟨q, hq, rfl⟩ : ∃ q, vwCl[ci]? = some q ∧ q.1 = C0 := (by cases hh : vwCl[ci]? with | none => (rw [hh] at hcl; cases hcl) | some q => (rw [hh] at hcl; exact ⟨q, rfl, by simpa using hcl⟩)); exact va_recv c6 hP hq he), fun U hU hW => ⟨rfl, by rw [hU], by rw [hU]; exact hP, va_K.moved hW.alike c6, hD.weaken (fun _ _ _ _ => trivial), XN.warm hW c10⟩⟩ rfl hn hl.1 rfl (lv_room hroom) hd hcs) hS (fun q _ h => hf q h) hf (fun r' _ t H1 locs1 ht hvm hw hB hz1 hk1 hS => ?_)
  obtain ⟨hP1, hK1, hD1⟩ := hB
  rw [ht] at hP1
  subst hw
  exact kk H1 locs1 ls hP1 ⟨hD1.1, fun k q h => hf q.1 (hD1.2 k q h)⟩ hS hl
set_option maxHeartbeats 1000000 in
theorem X_callVv (C : XC D cs K nL R cc own Ts rt) {C0 : String} {index n maxL a q0 ci : Nat} {y : MethodName} {bytes : ByteArray} {ret : Option FieldType} {wds wds1 : List Cond} {rm : Room} {av As st0 : List Value} {ws1 : va_W} {fs : List Value}  (hM : CTv l D cs y wds rm av ws ws1) (hav : av = .ref a :: As) (hT : GoodIn Ts (wsV own index C0 y wds)) (hw : wds = Cond.code y bytes maxL ret :: wds1) (hcl : vwCl[ci]?.map (fun q => q.1) = some C0) (he : ws[q0]? = some (a, .inr (ci, fs))) (hrc : rm.cells = 0) (hrs : rm.slots = 0) (hdd : y.cls = C0 ∧ y.cls ≠ "java/lang/invoke/MethodHandle" ∧ y.cls ≠ "java/lang/invoke/VarHandle" ∧ (parseMethodDescriptor y.desc).map (fun d => d.parameters.length) = some n) (hR : rm.frames + 1 ≤ R.frames ∧ 8 + (maxL + 11) + rm.locals ≤ R.locals) (hcs : cells ≤ R.cells ∧ slots ≤ R.slots) (hst : st0 = As.reverse ++ .ref a :: st) (hn : As.length = n) (hroom : (st.map fun v => v.category).sum ≤ 8) (hd : decode cc pc = .ok (.invokevirtual index, 3)) (kk : XW l D K cells slots ws1 (pc + 3) vs st) : XW l D K cells slots ws pc vs st0 := by
  subst hst; subst hav
  obtain ⟨p, e, R0, s, m, args, below, meth, c, A, nL0, Q⟩ := K
  intro H locs ls hP hD hS hl
  obtain ⟨c1, c2, c3, c4, c5, c6, c7, c8, c9, c10, c11, rfl⟩ := C
  have hf : ∀ q, va_A ws H.size q → A q := fun q h => by
    rcases h with ⟨k, e, hk⟩ | h
    · exact hD.2 k _ hk
    · exact c8 q (Nat.le_trans hS.1 h)
  refine va_callv (va_runV (As := As) (rest := st) (b := a) ⟨c1, c2, c3, c4, c5⟩ (hM H.size) (cwV n c5 hT hw hrc hrs hdd hR) ⟨fun a U g mk q => by obtain ⟨q0, q1, qP, qK, qD, qN⟩ := q; exact ⟨q0, q1, qP, va_K.moved (u := U) (U := U.calling g mk a) (Vm.Alike.refl U.vm) qK, qD, XN.same (u := U) (U := U.calling g mk a) rfl qN⟩, (by obtain ⟨q, hq, rfl⟩ : ∃ q, vwCl[ci]? = some q ∧ q.1 = C0 := (by cases hh : vwCl[ci]? with | none => (rw [hh] at hcl; cases hcl) | some q => (rw [hh] at hcl; exact ⟨q, rfl, by simpa using hcl⟩)); exact va_recv c6 hP hq he), fun U hU hW => ⟨rfl, by rw [hU], by rw [hU]; exact hP, va_K.moved hW.alike c6, hD.weaken (fun _ _ _ _ => trivial), XN.warm hW c10⟩⟩ rfl hn hl.1 rfl (lv_room hroom) hd hcs) hS (fun q _ h => hf q h) hf (fun _ t H1 locs1 ht hvm hw hB hz1 hk1 hS => ?_)
  obtain ⟨hP1, hK1, hD1⟩ := hB
  rw [ht] at hP1
  exact kk H1 locs1 ls hP1 ⟨hD1.1, fun k q h => hf q.1 (hD1.2 k q h)⟩ hS hl
set_option maxHeartbeats 1000000 in
theorem X_callSi (C : XC D cs K nL R cc own Ts rt) {index n maxL : Nat} {y : MethodName} {bytes : ByteArray} {ret : Option FieldType} {wds wds1 : List Cond} {rm : Room} {As st0 : List Value} {ws1 : va_W} {r : Int32} (hM : CTi l D cs y wds rm As ws r ws1) (hT : GoodIn Ts (va_wsS own index y wds)) (hw : wds = Cond.code y bytes maxL ret :: wds1) (hrc : rm.cells = 0) (hrs : rm.slots = 0) (hdd : y.cls ≠ "java/lang/invoke/MethodHandle" ∧ y.cls ≠ "java/lang/invoke/VarHandle" ∧ (parseMethodDescriptor y.desc).map (fun d => d.parameters.length) = some n) (hR : rm.frames + 1 ≤ R.frames ∧ 8 + (maxL + 11) + rm.locals ≤ R.locals) (hcs : cells ≤ R.cells ∧ slots ≤ R.slots) (hst : st0 = As.reverse ++ st) (hn : As.length = n) (hroom : (st.map fun v => v.category).sum ≤ 8) (hd : decode cc pc = .ok (.invokestatic index, 3)) (kk : XW l D K cells slots ws1 (pc + 3) vs (.int r :: st)) : XW l D K cells slots ws pc vs st0 := by
  subst hst
  obtain ⟨p, e, R0, s, m, args, below, meth, c, A, nL0, Q⟩ := K
  intro H locs ls hP hD hS hl
  obtain ⟨c1, c2, c3, c4, c5, c6, c7, c8, c9, c10, c11, rfl⟩ := C
  have hf : ∀ q, va_A ws H.size q → A q := fun q h => by
    rcases h with ⟨k, e, hk⟩ | h
    · exact hD.2 k _ hk
    · exact c8 q (Nat.le_trans hS.1 h)
  refine va_calli (va_runS (As := As) (rest := st) ⟨c1, c2, c3, c4, c5⟩ (hM H.size) (va_cwS n c5 hT hw hrc hrs hdd hR) ⟨fun a U g mk q => by obtain ⟨q0, q1, qP, qK, qD, qN⟩ := q; exact ⟨q0, q1, qP, va_K.moved (u := U) (U := U.calling g mk a) (Vm.Alike.refl U.vm) qK, qD, XN.same (u := U) (U := U.calling g mk a) rfl qN⟩, fun U hU hW => ⟨rfl, by rw [hU], by rw [hU]; exact hP, va_K.moved hW.alike c6, hD.weaken (fun _ _ _ _ => trivial), XN.warm hW c10⟩⟩ rfl hn hl.1 rfl (lv_room hroom) hd hcs) hS (fun q _ h => hf q h) hf (fun r' _ t H1 locs1 ht hvm hw hB hz1 hk1 hS => ?_)
  obtain ⟨hP1, hK1, hD1⟩ := hB
  rw [ht] at hP1
  subst hw
  exact kk H1 locs1 ls hP1 ⟨hD1.1, fun k q h => hf q.1 (hD1.2 k q h)⟩ hS hl
set_option maxHeartbeats 1000000 in
theorem X_callSv (C : XC D cs K nL R cc own Ts rt) {index n maxL : Nat} {y : MethodName} {bytes : ByteArray} {ret : Option FieldType} {wds wds1 : List Cond} {rm : Room} {As st0 : List Value} {ws1 : va_W}  (hM : CTv l D cs y wds rm As ws ws1) (hT : GoodIn Ts (va_wsS own index y wds)) (hw : wds = Cond.code y bytes maxL ret :: wds1) (hrc : rm.cells = 0) (hrs : rm.slots = 0) (hdd : y.cls ≠ "java/lang/invoke/MethodHandle" ∧ y.cls ≠ "java/lang/invoke/VarHandle" ∧ (parseMethodDescriptor y.desc).map (fun d => d.parameters.length) = some n) (hR : rm.frames + 1 ≤ R.frames ∧ 8 + (maxL + 11) + rm.locals ≤ R.locals) (hcs : cells ≤ R.cells ∧ slots ≤ R.slots) (hst : st0 = As.reverse ++ st) (hn : As.length = n) (hroom : (st.map fun v => v.category).sum ≤ 8) (hd : decode cc pc = .ok (.invokestatic index, 3)) (kk : XW l D K cells slots ws1 (pc + 3) vs st) : XW l D K cells slots ws pc vs st0 := by
  subst hst
  obtain ⟨p, e, R0, s, m, args, below, meth, c, A, nL0, Q⟩ := K
  intro H locs ls hP hD hS hl
  obtain ⟨c1, c2, c3, c4, c5, c6, c7, c8, c9, c10, c11, rfl⟩ := C
  have hf : ∀ q, va_A ws H.size q → A q := fun q h => by
    rcases h with ⟨k, e, hk⟩ | h
    · exact hD.2 k _ hk
    · exact c8 q (Nat.le_trans hS.1 h)
  refine va_callv (va_runS (As := As) (rest := st) ⟨c1, c2, c3, c4, c5⟩ (hM H.size) (va_cwS n c5 hT hw hrc hrs hdd hR) ⟨fun a U g mk q => by obtain ⟨q0, q1, qP, qK, qD, qN⟩ := q; exact ⟨q0, q1, qP, va_K.moved (u := U) (U := U.calling g mk a) (Vm.Alike.refl U.vm) qK, qD, XN.same (u := U) (U := U.calling g mk a) rfl qN⟩, fun U hU hW => ⟨rfl, by rw [hU], by rw [hU]; exact hP, va_K.moved hW.alike c6, hD.weaken (fun _ _ _ _ => trivial), XN.warm hW c10⟩⟩ rfl hn hl.1 rfl (lv_room hroom) hd hcs) hS (fun q _ h => hf q h) hf (fun _ t H1 locs1 ht hvm hw hB hz1 hk1 hS => ?_)
  obtain ⟨hP1, hK1, hD1⟩ := hB
  rw [ht] at hP1
  exact kk H1 locs1 ls hP1 ⟨hD1.1, fun k q h => hf q.1 (hD1.2 k q h)⟩ hS hl
set_option maxHeartbeats 1000000 in
theorem X_callSNi (C : XC D cs K nL R cc own Ts rt) {index n maxL : Nat} {y : MethodName} {bytes : ByteArray} {ret : Option FieldType} {wds wds1 : List Cond} {rm : Room} {As st0 : List Value} {ws1 : va_W} {r : Int32} (hM : CTi l D cs y wds rm As ws r ws1) (hT : GoodIn Ts wds) (hN : Cond.methodLinkNest own index y "NetBorders" ∈ xNest) (hini : Cond.initialized y.cls ∈ Ts) (hstat : Cond.static y ∈ Ts) (hw : wds = Cond.code y bytes maxL ret :: wds1) (hrc : rm.cells = 0) (hrs : rm.slots = 0) (hdd : y.cls ≠ "java/lang/invoke/MethodHandle" ∧ y.cls ≠ "java/lang/invoke/VarHandle" ∧ (parseMethodDescriptor y.desc).map (fun d => d.parameters.length) = some n) (hR : rm.frames + 1 ≤ R.frames ∧ 8 + (maxL + 11) + rm.locals ≤ R.locals) (hcs : cells ≤ R.cells ∧ slots ≤ R.slots) (hst : st0 = As.reverse ++ st) (hn : As.length = n) (hroom : (st.map fun v => v.category).sum ≤ 8) (hd : decode cc pc = .ok (.invokestatic index, 3)) (kk : XW l D K cells slots ws1 (pc + 3) vs (.int r :: st)) : XW l D K cells slots ws pc vs st0 := by
  subst hst
  obtain ⟨p, e, R0, s, m, args, below, meth, c, A, nL0, Q⟩ := K
  intro H locs ls hP hD hS hl
  obtain ⟨c1, c2, c3, c4, c5, c6, c7, c8, c9, c10, c11, rfl⟩ := C
  have hf : ∀ q, va_A ws H.size q → A q := fun q h => by
    rcases h with ⟨k, e, hk⟩ | h
    · exact hD.2 k _ hk
    · exact c8 q (Nat.le_trans hS.1 h)
  refine va_calli (va_runSN (As := As) (rest := st) (host := "NetBorders") ⟨c1, c2, c3, c4, c5⟩ (hM H.size) ⟨va_cnB n c5 hT hw hrc hrs (c10.1 _ hN) (c5 _ hini) hdd hR, c5 _ hstat, trivial⟩ ⟨fun a U g mk q => by obtain ⟨q0, q1, qP, qK, qD, qN⟩ := q; exact ⟨q0, q1, qP, va_K.moved (u := U) (U := U.calling g mk a) (Vm.Alike.refl U.vm) qK, qD, XN.same (u := U) (U := U.calling g mk a) rfl qN⟩, fun U hU hW => ⟨rfl, by rw [hU], by rw [hU]; exact hP, va_K.moved hW.alike c6, hD.weaken (fun _ _ _ _ => trivial), XN.warm hW c10⟩⟩ rfl hn hl.1 rfl (lv_room hroom) hd hcs) hS (fun q _ h => hf q h) hf (fun r' _ t H1 locs1 ht hvm hw hB hz1 hk1 hS => ?_)
  obtain ⟨hP1, hK1, hD1⟩ := hB
  rw [ht] at hP1
  subst hw
  exact kk H1 locs1 ls hP1 ⟨hD1.1, fun k q h => hf q.1 (hD1.2 k q h)⟩ hS hl
set_option maxHeartbeats 1000000 in
theorem X_callSNv (C : XC D cs K nL R cc own Ts rt) {index n maxL : Nat} {y : MethodName} {bytes : ByteArray} {ret : Option FieldType} {wds wds1 : List Cond} {rm : Room} {As st0 : List Value} {ws1 : va_W}  (hM : CTv l D cs y wds rm As ws ws1) (hT : GoodIn Ts wds) (hN : Cond.methodLinkNest own index y "NetBorders" ∈ xNest) (hini : Cond.initialized y.cls ∈ Ts) (hstat : Cond.static y ∈ Ts) (hw : wds = Cond.code y bytes maxL ret :: wds1) (hrc : rm.cells = 0) (hrs : rm.slots = 0) (hdd : y.cls ≠ "java/lang/invoke/MethodHandle" ∧ y.cls ≠ "java/lang/invoke/VarHandle" ∧ (parseMethodDescriptor y.desc).map (fun d => d.parameters.length) = some n) (hR : rm.frames + 1 ≤ R.frames ∧ 8 + (maxL + 11) + rm.locals ≤ R.locals) (hcs : cells ≤ R.cells ∧ slots ≤ R.slots) (hst : st0 = As.reverse ++ st) (hn : As.length = n) (hroom : (st.map fun v => v.category).sum ≤ 8) (hd : decode cc pc = .ok (.invokestatic index, 3)) (kk : XW l D K cells slots ws1 (pc + 3) vs st) : XW l D K cells slots ws pc vs st0 := by
  subst hst
  obtain ⟨p, e, R0, s, m, args, below, meth, c, A, nL0, Q⟩ := K
  intro H locs ls hP hD hS hl
  obtain ⟨c1, c2, c3, c4, c5, c6, c7, c8, c9, c10, c11, rfl⟩ := C
  have hf : ∀ q, va_A ws H.size q → A q := fun q h => by
    rcases h with ⟨k, e, hk⟩ | h
    · exact hD.2 k _ hk
    · exact c8 q (Nat.le_trans hS.1 h)
  refine va_callv (va_runSN (As := As) (rest := st) (host := "NetBorders") ⟨c1, c2, c3, c4, c5⟩ (hM H.size) ⟨va_cnB n c5 hT hw hrc hrs (c10.1 _ hN) (c5 _ hini) hdd hR, c5 _ hstat, trivial⟩ ⟨fun a U g mk q => by obtain ⟨q0, q1, qP, qK, qD, qN⟩ := q; exact ⟨q0, q1, qP, va_K.moved (u := U) (U := U.calling g mk a) (Vm.Alike.refl U.vm) qK, qD, XN.same (u := U) (U := U.calling g mk a) rfl qN⟩, fun U hU hW => ⟨rfl, by rw [hU], by rw [hU]; exact hP, va_K.moved hW.alike c6, hD.weaken (fun _ _ _ _ => trivial), XN.warm hW c10⟩⟩ rfl hn hl.1 rfl (lv_room hroom) hd hcs) hS (fun q _ h => hf q h) hf (fun _ t H1 locs1 ht hvm hw hB hz1 hk1 hS => ?_)
  obtain ⟨hP1, hK1, hD1⟩ := hB
  rw [ht] at hP1
  exact kk H1 locs1 ls hP1 ⟨hD1.1, fun k q h => hf q.1 (hD1.2 k q h)⟩ hS hl
end XROWS
