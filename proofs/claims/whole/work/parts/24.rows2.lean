/-! worlds in another order; the row of images; answers with new cells -/
theorem va_P_perm {D : va_G} {cl : List vw_C} {ws ws1 : va_W} {H : Heap} (hp : ws.Perm ws1) (h : va_P D cl ws H) : va_P D cl ws1 H := by
  intro k q hk
  obtain ⟨i, hi⟩ := List.getElem?_of_mem (hp.mem_iff.mpr (List.mem_of_getElem? hk))
  exact h i q hi
theorem va_D_pw {ws : va_W} : (∀ (i j : Nat) (p q : Nat × va_E), ws[i]? = some p → ws[j]? = some q → p.1 = q.1 → i = j) ↔ ws.Pairwise (fun p q => p.1 ≠ q.1) := by
  rw [List.pairwise_iff_getElem]
  constructor
  · intro h i j hi hj hij he
    have := h i j _ _ (List.getElem?_eq_getElem hi) (List.getElem?_eq_getElem hj) he
    omega
  · intro h i j p q hi hj he
    obtain ⟨hi1, rfl⟩ := List.getElem?_eq_some_iff.mp hi
    obtain ⟨hj1, rfl⟩ := List.getElem?_eq_some_iff.mp hj
    rcases Nat.lt_trichotomy i j with q | q | q
    · exact absurd he (h i j hi1 hj1 q)
    · exact q
    · exact absurd he.symm (h j i hj1 hi1 q)
theorem va_D_perm {A : Nat → Prop} {ws ws1 : va_W} (hp : ws.Perm ws1) (h : va_D A ws) : va_D A ws1 := by
  refine ⟨va_D_pw.mpr ((hp.pairwise_iff (fun h => Ne.symm h)).mp (va_D_pw.mp h.1)), ?_⟩
  intro k q hk
  obtain ⟨i, hi⟩ := List.getElem?_of_mem (hp.mem_iff.mpr (List.mem_of_getElem? hk))
  exact h.2 i q hi
section XROWS2
variable {l : Launch} {D : va_G} {cs : Nat → ClassId} {K : XK} {nL : Nat} {R : Room} {cc : ByteArray} {own : String} {Ts : List Cond} {rt : Option FieldType} {cells slots pc : Nat} {ws : va_W} {vs : List (Nat × Value)} {st : List Value}
theorem X_perm {ws1 : va_W} (hp : ws.Perm ws1) (kk : XW l D K cells slots ws1 pc vs st) : XW l D K cells slots ws pc vs st := by
  obtain ⟨p, e, R0, s, m, args, below, meth, c, A, nL0, Q⟩ := K
  intro H locs ls hP hD hS hl
  exact kk H locs ls (va_P_perm hp hP) (va_D_perm hp hD) hS hl
theorem X_aaldR (C : XC D cs K nL R cc own Ts rt) {a n : Nat} {f : Nat → Option Nat} {i : Int32} (q0 : Nat) (ha : ws[q0]? = some (a, .inl (cs 2, n, .inr (.inr (.inr (.inr f)))))) (h : jin i n = true) (hd : decode cc pc = .ok (.aaload, 1)) (kk : XW l D K cells slots ws (pc + 1) vs (va_rf (f (jix i)) :: st)) : XW l D K cells slots ws pc vs (.int i :: .ref a :: st) := by
  obtain ⟨p, e, R0, s, m, args, below, meth, c, A, nL0, Q⟩ := K
  intro H locs ls hP hD hS hl
  exact va_aldq C.1 C.2.1 C.2.2.2.2.2.1 hP q0 2 (C := "NetBorders$Bench") ha rfl (jin_in h) hd (kk H locs ls hP hD hS hl)
theorem X_aald (C : XC D cs K nL R cc own Ts rt) {a n : Nat} {f : Nat → Option Nat} {i : Int32} {α : Type} {t : Option α} {o : α} (q0 : Nat) (ha : ws[q0]? = some (a, .inl (cs 2, n, .inr (.inr (.inr (.inr f)))))) (h : grd (jin i n) t = some o) (hd : decode cc pc = .ok (.aaload, 1)) (kk : t = some o → XW l D K cells slots ws (pc + 1) vs (va_rf (f (jix i)) :: st)) : XW l D K cells slots ws pc vs (.int i :: .ref a :: st) :=
  X_aaldR C q0 ha (grd_some h).1 hd (kk (grd_some h).2)
theorem X_nnR (C : XC D cs K nL R cc own Ts rt) {x : Nat} {off : Int} {tgt : Nat} (ht : (pc : Int) + off = (tgt : Int)) (hd : decode cc pc = .ok (.ifnonnull off, 3)) (k : XW l D K cells slots ws tgt vs st) : XW l D K cells slots ws pc vs (.ref x :: st) := by
  obtain ⟨p, e, R0, s, m, args, below, meth, c, A, nL0, Q⟩ := K
  intro H locs ls hP hD hS hl
  exact lv_ifnonnull C.1 C.2.1 hd ht (k H locs ls hP hD hS hl)
theorem X_nnN (C : XC D cs K nL R cc own Ts rt) {off : Int} (hd : decode cc pc = .ok (.ifnonnull off, 3)) (k : XW l D K cells slots ws (pc + 3) vs st) : XW l D K cells slots ws pc vs (.null :: st) := by
  obtain ⟨p, e, R0, s, m, args, below, meth, c, A, nL0, Q⟩ := K
  intro H locs ls hP hD hS hl
  exact lv_ifnonnullN C.1 C.2.1 hd (k H locs ls hP hD hS hl)
theorem X_ifnull (C : XC D cs K nL R cc own Ts rt) {r : Option Nat} {α : Type} {t1 t2 : Option α} {o : α} {off : Int} {tgt : Nat} (ht : (pc : Int) + off = (tgt : Int)) (hd : decode cc pc = .ok (.ifnull off, 3)) (h : (if r.isSome = true then t2 else t1) = some o) (k1 : t1 = some o → XW l D K cells slots ws tgt vs st) (k2 : t2 = some o → XW l D K cells slots ws (pc + 3) vs st) : XW l D K cells slots ws pc vs (va_rf r :: st) := by
  cases r with
  | none =>
    obtain ⟨p, e, R0, s, m, args, below, meth, c, A, nL0, Q⟩ := K
    intro H locs ls hP hD hS hl
    exact lv_ifnullN C.1 C.2.1 hd ht (k1 (by simpa using h) H locs ls hP hD hS hl)
  | some x =>
    obtain ⟨p, e, R0, s, m, args, below, meth, c, A, nL0, Q⟩ := K
    intro H locs ls hP hD hS hl
    exact lv_ifnull C.1 C.2.1 hd (k2 (by simpa using h) H locs ls hP hD hS hl)
theorem X_aast (C : XC D cs K nL R cc own Ts rt) {a n v : Nat} {f : Nat → Option Nat} {i : Int32} {vs0 : List Value} {ws1 : va_W} (q0 qk : Nat) (ha : ws[q0]? = some (a, .inl (cs 2, n, .inr (.inr (.inr (.inr f)))))) (hv : ws[qk]? = some (v, .inr (0, vs0))) (h : jin i n = true) (hs : ws.set q0 (a, .inl (cs 2, n, .inr (.inr (.inr (.inr (va_up f (jix i) (some v))))))) = ws1) (hd : decode cc pc = .ok (.aastore, 1)) (kk : XW l D K cells slots ws1 (pc + 1) vs st) : XW l D K cells slots ws pc vs (.ref v :: .int i :: .ref a :: st) := by
  subst hs
  obtain ⟨p, e, R0, s, m, args, below, meth, c, A, nL0, Q⟩ := K
  intro H locs ls hP hD hS hl
  exact va_astq C.1 C.2.1 C.2.2.2.2.2.1 hP hD hS q0 2 qk 0 (r := (RX0, TX0, 3)) ha rfl hv rfl (jin_in h) hd (fun H1 locs1 hP hD hS => kk H1 locs1 ls hP hD hS hl)
end XROWS2
/-- a contract with an answer and new cells -/
def CTm (l : Launch) (D : va_G) (cs : Nat → ClassId) (y : MethodName) (wds : List Cond) (rm : Room) (av : List Value) (w0 : va_W) (r : Int32) (w1 : (Nat → Nat) → va_W) (mc ms : Nat) : Prop :=
  ∀ sz, Met l y wds rm (va_Pc av (XPre D cs w0 sz)) (va_Qi (fun r' (_ : Nat → Nat) => r' = r) (fun u t => va_P D vwCl (w1 u) t.heap ∧ va_K D vwCl (xT cs) t ∧ va_D (va_A w0 sz) (w1 u)) (va_A w0 sz)) mc ms (va_A w0 sz)
def XRm (l : Launch) (D : va_G) (K : XK) (cc : ByteArray) (r : Int32) (w1 : (Nat → Nat) → va_W) (mc ms : Nat) : Prop := ∀ u pc vs, jz r = true → decode cc pc = .ok (.ireturn, 1) → XW l D K mc ms (w1 u) pc vs [.int r]
set_option maxHeartbeats 1000000 in
theorem CTm_of {l : Launch} {D : va_G} {cs : Nat → ClassId} {y : MethodName} {wds wds' : List Cond} {rm : Room} {av : List Value} {w0 : va_W} {r : Int32} {w1 : (Nat → Nat) → va_W} {mc ms : Nat} {cc : ByteArray} {nL : Nat} (hy : plainName y.cls = true) (hw : wds = Cond.code y cc nL (some .boolean) :: wds') (hlen : (lg_sl av).length ≤ nL)
    (body : ∀ K : XK, XC D cs K nL rm cc y.cls wds (some .boolean) → XRm l D K cc r w1 mc ms → XW l D K 0 0 w0 0 (lv_args 0 av) []) : CTm l D cs y wds rm av w0 r w1 mc ms := by
  intro sz
  refine Met.ofW (cc := cc) (maxL := nL) (ret := some .boolean) hy hw ?_
  intro p e s m args below meth c s₁ B hml hv
  obtain ⟨rfl, hsz, hP, hK, hD0, hN⟩ := hv
  have hlocks := B.notSynchronized
  subst hsz
  have hD := hD0.self (sz := s.heap.size)
  have hA : ∀ q : Nat, s.heap.size ≤ q → va_A w0 s.heap.size q := fun q h => Or.inr h
  have hl := lv_entry av hlen
  rw [lg_entry_eq]
  refine body (p, e, rm, s, m, av.toArray, below, meth, c, va_A w0 s.heap.size, nL, MQ below (va_Qi (fun r' (_ : Nat → Nat) => r' = r) (fun u t => va_P D vwCl (w1 u) t.heap ∧ va_K D vwCl (xT cs) t ∧ va_D (va_A w0 s.heap.size) (w1 u)) (va_A w0 s.heap.size)) av.toArray s mc ms (va_A w0 s.heap.size)) ⟨B.exec, B.bytes, hml, findClass_of_methodNamed B.named, atoms_spec (ws := wds) B.pre, hK, hlocks, hA, B.returns, hN, rfl, rfl⟩ ?_ s.heap [] _ hP hD va_S.rf hl
  intro u pc vs hz hd H locs ls hP1 hD1 hS1 _
  exact W.zret (v := r) B.exec B.bytes B.returns (jz_nar hz) (fun t ht hW => ⟨⟨r, u, rfl, rfl, by rw [ht]; exact hP1, va_K.moved hW.alike hK, hD1⟩, hS1.F ht⟩) hS1.2.2 hd
