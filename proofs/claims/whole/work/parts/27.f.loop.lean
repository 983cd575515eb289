/-! THE CLAIM OUT OF ONE WALK OF THE LAW'S BODY. Your part is whole_start (and what it stands on); all else here is the same for every law, but numbers. -/
def R_law : String := "NetBordersLaw"
def lw_P (b : Addr) (xs : List Int32) (args : Array Value) (s : State) : Prop := args = #[.ref b] ∧ s.IntsAt b xs ∧ xs.length ≤ 2048 ∧ (Jvm.Cond.and given_1 narrow_1).before args s = true
def lw_Q (_ : Array Value) (s : State) (o : Outcome) (t : State) : Prop := o = .returned (some (.int 1)) ∧ Framed s o t [] 600000 7302250
def lw_Z (below : List Frame) (a : Array Value) (s : State) : State → Prop := fun t => ∃ o, t.status = .running ∧ Ended t below o ∧ lw_Q a s o t
/-- the law's own end, with 1 on the stack, nothing written that was there before, its room as the claim has it -/
theorem lw_ret {p : Program} {l : Launch} {e : Env} {s : State} {m : MethodId} {below : List Frame} {meth : Method} {c : Code} {b : Nat} (hx : p.tables.exec = Jvm.exec) (hb : c.code = code) (hr : meth.sig.returnType = ret) (hlocks : meth.locks = false) {pc : Nat} {H : Heap} {ls : Array Slot} (hdg : decode code pc = .ok (.ireturn, 1)) : W p l e room_1 s m #[Value.ref b] below meth c H [] 600000 7302250 (lw_Z below #[Value.ref b] s) (F0 m pc ls [.int 1]) := by
  intro T hT X
  obtain ⟨fs, hret, hrun, hended, hW, hframe⟩ := X.leave (v := some (.int 1)) (hlocks := hlocks) (fun h => by rw [hr] at h; cases h)
  have hmeth' : T.vm.method? m = some meth := X.method'
  refine ⟨T.setFrames fs, ?_, .returned (some (.int 1)), hrun, hended, rfl, ⟨_, rfl⟩, hW, hframe⟩
  jvm_step X.here [X.here.top, hx, hb, hdg, hmeth', hr, ret, narrow_b1]
  (try refine ⟨rfl, ?_⟩); (try refine ⟨rfl, ?_⟩)
  first | (intro acts; rw [hret _ acts rfl rfl rfl]) | rw [hret _ _ rfl rfl rfl]
  exact Steps.refl _
/-- what holds at the law's entry: the machine, the code, the tables' words (any of lw_tbl by 'hts w (by decide +kernel)'), the script of L ints xs at the cell b, what the Statement gives of the start (any of its parts by flat_of_before) -/
def lw_At (p : Program) (s : State) (m : MethodId) (meth : Method) (c : Code) (b L : Nat) (xs : Nat → Int32) : Prop :=
  p.tables.exec = Jvm.exec ∧ c.code = code ∧ meth.sig.returnType = ret ∧ c.maxLocals = 4 ∧ s.vm.findClass R_law = some m.cls ∧ (∀ w ∈ lw_tbl, w.before #[Value.ref b] s = true) ∧ va_X b L xs s s.heap ∧ b < s.heap.size ∧ meth.locks = false ∧ (Jvm.Cond.and given_1 narrow_1).before #[Value.ref b] s = true
abbrev InvT : Type := Nat → ST → (Nat → Option ST) → ST → Prop
def Sim_begin (n : Nat) (Inv : InvT) : Prop := ∀ (j : Nat) (σ : ST) (it : Nat → Option ST) (τ : ST) (bb : Nat → Nat → Nat) (a1 : Int32), j < 512 → Inv j σ it τ → ∃ (r : Int32) (σ1 : ST) (τ1 : ST), f_x_begin n σ a1 = some (r, σ1) ∧ f_m_begin n τ a1 = some (r, τ1) ∧ Inv (j + 1) σ1 it τ1
def Sim_arc (n : Nat) (Inv : InvT) : Prop := ∀ (j : Nat) (σ : ST) (it : Nat → Option ST) (τ : ST) (bb : Nat → Nat → Nat) (a1 a2 a3 : Int32), j < 512 → Inv j σ it τ → ∃ (r : Int32) (σ1 : ST) (τ1 : ST), f_x_arc n σ a1 a2 a3 = some (r, σ1) ∧ f_m_arc n τ a1 a2 a3 = some (r, τ1) ∧ Inv (j + 1) σ1 it τ1
def Sim_drop (n : Nat) (Inv : InvT) : Prop := ∀ (j : Nat) (σ : ST) (it : Nat → Option ST) (τ : ST) (bb : Nat → Nat → Nat) (a1 : Int32), j < 512 → Inv j σ it τ → ∃ (r : Int32) (σ1 : ST) (τ1 : ST), f_x_drop n σ a1 = some (r, σ1) ∧ f_m_drop n τ a1 = some (r, τ1) ∧ Inv (j + 1) σ1 it τ1
def Sim_weigh (n : Nat) (Inv : InvT) : Prop := ∀ (j : Nat) (σ : ST) (it : Nat → Option ST) (τ : ST) (bb : Nat → Nat → Nat) (a1 a2 : Int32), j < 512 → Inv j σ it τ → ∃ (r : Int32) (σ1 : ST) (τ1 : ST), f_x_weigh n σ a1 a2 = some (r, σ1) ∧ f_m_weigh n τ a1 a2 = some (r, τ1) ∧ Inv (j + 1) σ1 it τ1
def Sim_turn (n : Nat) (Inv : InvT) : Prop := ∀ (j : Nat) (σ : ST) (it : Nat → Option ST) (τ : ST) (bb : Nat → Nat → Nat) (a1 : Int32), j < 512 → Inv j σ it τ → ∃ (r : Int32) (σ1 : ST) (τ1 : ST), f_x_turn n σ a1 = some (r, σ1) ∧ f_m_turn n τ a1 = some (r, τ1) ∧ Inv (j + 1) σ1 it τ1
def Sim_join (n : Nat) (Inv : InvT) : Prop := ∀ (j : Nat) (σ : ST) (it : Nat → Option ST) (τ : ST) (bb : Nat → Nat → Nat) (a1 a2 : Int32), j < 512 → Inv j σ it τ → ∃ (r : Int32) (σ1 : ST) (τ1 : ST), f_x_join n σ a1 a2 = some (r, σ1) ∧ f_m_join n τ a1 a2 = some (r, τ1) ∧ Inv (j + 1) σ1 it τ1
def Sim_tell (n : Nat) (Inv : InvT) : Prop := ∀ (j : Nat) (σ : ST) (it : Nat → Option ST) (τ : ST) (bb : Nat → Nat → Nat) (a1 a2 : Int32), j < 512 → Inv j σ it τ → ∃ (r : Int32) (τ1 : ST), f_x_tell n σ a1 a2 = some r ∧ f_m_tell n τ a1 a2 = some (r, τ1) ∧ Inv (j + 1) σ it τ1
def Sim_node (n : Nat) (Inv : InvT) : Prop := ∀ (j : Nat) (σ : ST) (it : Nat → Option ST) (τ : ST) (bb : Nat → Nat → Nat) (a1 a2 : Int32), j < 512 → Inv j σ it τ → ∃ (r : Int32) (σ1 : ST) (τ1 : ST), f_x_node n σ a1 a2 = some (r, σ1) ∧ f_m_node n τ a1 a2 = some (r, τ1) ∧ Inv (j + 1) σ1 it τ1
def Sim_count (n : Nat) (Inv : InvT) : Prop := ∀ (j : Nat) (σ : ST) (it : Nat → Option ST) (τ : ST) (bb : Nat → Nat → Nat) (a1 : Int32), j < 512 → Inv j σ it τ → ∃ (r : Int32) (σ1 : ST) (τ1 : ST), f_x_count (imF bb it) n σ a1 = some (r, σ1) ∧ f_m_count n τ a1 = some (r, τ1) ∧ Inv (j + 1) σ1 it τ1
def Sim_side (n : Nat) (Inv : InvT) : Prop := ∀ (j : Nat) (σ : ST) (it : Nat → Option ST) (τ : ST) (bb : Nat → Nat → Nat) (a1 a2 : Int32), j < 512 → Inv j σ it τ → ∃ (r : Int32) (σ1 : ST) (τ1 : ST), f_x_side n σ a1 a2 = some (r, σ1) ∧ f_m_side n τ a1 a2 = some (r, τ1) ∧ Inv (j + 1) σ1 it τ1
def Sim_bounds (n : Nat) (Inv : InvT) : Prop := ∀ (j : Nat) (σ : ST) (it : Nat → Option ST) (τ : ST) (bb : Nat → Nat → Nat) (a1 a2 : Int32), j < 512 → Inv j σ it τ → a2 = 0 ∨ a2 = 1 → ∃ (r : Int32) (σ1 : ST) (τ1 : ST), f_x_bounds n σ a1 a2 = some (r, σ1) ∧ f_m_bounds n τ a1 a2 = some (r, τ1) ∧ Inv (j + 1) σ1 it τ1
def Sim_isDijoin (n : Nat) (Inv : InvT) : Prop := ∀ (j : Nat) (σ : ST) (it : Nat → Option ST) (τ : ST) (bb : Nat → Nat → Nat) (a1 : Int32), j < 512 → Inv j σ it τ → ∃ (r : Int32) (σ1 : ST) (τ1 : ST), f_x_isDijoin n σ a1 = some (r, σ1) ∧ f_m_isDijoin n τ a1 = some (r, τ1) ∧ Inv (j + 1) σ1 it τ1
def Sim_isStrong (n : Nat) (Inv : InvT) : Prop := ∀ (j : Nat) (σ : ST) (it : Nat → Option ST) (τ : ST) (bb : Nat → Nat → Nat) (a1 : Int32), j < 512 → Inv j σ it τ → ∃ (r : Int32) (σ1 : ST) (τ1 : ST), f_x_isStrong n σ a1 = some (r, σ1) ∧ f_m_isStrong n τ a1 = some (r, τ1) ∧ Inv (j + 1) σ1 it τ1
def Sim_dijoin (n : Nat) (Inv : InvT) : Prop := ∀ (j : Nat) (σ : ST) (it : Nat → Option ST) (τ : ST) (bb : Nat → Nat → Nat), j < 512 → Inv j σ it τ → ∃ (r : Int32) (σ1 : ST) (τ1 : ST), f_x_dijoin n σ  = some (r, σ1) ∧ f_m_dijoin n τ  = some (r, τ1) ∧ Inv (j + 1) σ1 it τ1
def Sim_chosen (n : Nat) (Inv : InvT) : Prop := ∀ (j : Nat) (σ : ST) (it : Nat → Option ST) (τ : ST) (bb : Nat → Nat → Nat), j < 512 → Inv j σ it τ → ∃ (r : Int32) (τ1 : ST), f_x_chosen σ  = some r ∧ f_m_chosen n τ  = some (r, τ1) ∧ Inv (j + 1) σ it τ1
def Sim_cost (n : Nat) (Inv : InvT) : Prop := ∀ (j : Nat) (σ : ST) (it : Nat → Option ST) (τ : ST) (bb : Nat → Nat → Nat) (a1 a2 : Int32), j < 512 → Inv j σ it τ → ∃ (r : Int32) (σ1 : ST) (τ1 : ST), f_x_cost n σ a1 a2 = some (r, σ1) ∧ f_m_cost n τ a1 a2 = some (r, τ1) ∧ Inv (j + 1) σ1 it τ1
def Sim_packing (n : Nat) (Inv : InvT) : Prop := ∀ (j : Nat) (σ : ST) (it : Nat → Option ST) (τ : ST) (bb : Nat → Nat → Nat), j < 512 → Inv j σ it τ → ∃ (r : Int32) (σ1 : ST) (τ1 : ST), f_x_packing n σ  = some (r, σ1) ∧ f_m_packing n τ  = some (r, τ1) ∧ Inv (j + 1) σ1 it τ1
def Sim_draw (n : Nat) (Inv : InvT) : Prop := ∀ (j : Nat) (σ : ST) (it : Nat → Option ST) (τ : ST) (bb : Nat → Nat → Nat) (a1 a2 : Int32), j < 512 → Inv j σ it τ → ∃ (r : Int32) (σ1 : ST) (τ1 : ST), f_x_draw n σ a1 a2 = some (r, σ1) ∧ f_m_draw n τ a1 a2 = some (r, τ1) ∧ Inv (j + 1) σ1 it τ1
def Sim_uncross (n : Nat) (Inv : InvT) : Prop := ∀ (j : Nat) (σ : ST) (it : Nat → Option ST) (τ : ST) (bb : Nat → Nat → Nat), j < 512 → Inv j σ it τ → ∃ (r : Int32) (σ1 : ST) (τ1 : ST), f_x_uncross n σ  = some (r, σ1) ∧ f_m_uncross n τ  = some (r, τ1) ∧ Inv (j + 1) σ1 it τ1
def Sim_member (n : Nat) (Inv : InvT) : Prop := ∀ (j : Nat) (σ : ST) (it : Nat → Option ST) (τ : ST) (bb : Nat → Nat → Nat) (a1 a2 : Int32), j < 512 → Inv j σ it τ → ∃ (r : Int32) (τ1 : ST), f_x_member n σ a1 a2 = some r ∧ f_m_member n τ a1 a2 = some (r, τ1) ∧ Inv (j + 1) σ it τ1
def Sim_image (n : Nat) (Inv : InvT) : Prop := ∀ (j : Nat) (σ : ST) (it : Nat → Option ST) (τ : ST) (bb : Nat → Nat → Nat) (a1 : Int32), j < 512 → Inv j σ it τ → ∃ (r : Int32) (τ1 : ST), f_m_image n τ a1 = some (r, τ1) ∧ ((f_x_image a1 = some false ∧ r = 0 ∧ Inv (j + 1) σ it τ1) ∨ (f_x_image a1 = some true ∧ r = 1 ∧ jin a1 4 = true ∧ jz (σ.1 384) = true ∧ ((∃ τi, it (jix a1) = some τi ∧ Inv (j + 1) σ (va_up it (jix a1) (some (cpx τi σ))) τ1) ∨ (it (jix a1) = none ∧ Inv (j + 1) σ (va_up it (jix a1) (some (cpx z0 σ))) τ1))))
def Sim_again (n : Nat) (Inv : InvT) : Prop := ∀ (j : Nat) (σ : ST) (it : Nat → Option ST) (τ : ST) (bb : Nat → Nat → Nat) (a1 : Int32), j < 512 → Inv j σ it τ → ∃ (r : Int32) (τ1 : ST), f_m_again n τ a1 = some (r, τ1) ∧ ((f_x_again (imF bb it) a1 = some false ∧ r = 0 ∧ Inv (j + 1) σ it τ1) ∨ (f_x_again (imF bb it) a1 = some true ∧ r = 1 ∧ jin a1 4 = true ∧ ∃ τi, it (jix a1) = some τi ∧ jz (τi.1 384) = true ∧ Inv (j + 1) (cpx σ τi) it τ1))
/-- what is owed of the pure functions: the relation is kept and the answers are the same -/
def Sims (n : Nat) (Inv : InvT) : Prop := (∀ j σ it τ, Inv j σ it τ → Inv (j + 1) σ it τ) ∧ Sim_begin n Inv ∧ Sim_arc n Inv ∧ Sim_drop n Inv ∧ Sim_weigh n Inv ∧ Sim_turn n Inv ∧ Sim_join n Inv ∧ Sim_tell n Inv ∧ Sim_node n Inv ∧ Sim_count n Inv ∧ Sim_side n Inv ∧ Sim_bounds n Inv ∧ Sim_isDijoin n Inv ∧ Sim_isStrong n Inv ∧ Sim_dijoin n Inv ∧ Sim_chosen n Inv ∧ Sim_cost n Inv ∧ Sim_packing n Inv ∧ Sim_draw n Inv ∧ Sim_uncross n Inv ∧ Sim_member n Inv ∧ Sim_image n Inv ∧ Sim_again n Inv
theorem gt_end {j L : Nat} (hL : L ≤ 2048) (hj : 4 * j ≤ L + 4) : (nI L - 4 < nI (4 * j)) ↔ L < 4 * j + 4 := by
  have h4 : (4 : Int32) = nI 4 := rfl
  rw [h4, Int32.lt_iff_toInt_lt, pk_sub_toInt (by omega) (by omega), nI_toInt (by omega)]
  omega
theorem X_top {l : Launch} {D : va_G} {K : XK} {cells slots pc : Nat} {ws : va_W} {vs : List (Nat × Value)} {st : List Value} {x : Int32} (k : ∀ y : Int32, XW l D K cells slots ws pc vs (.int y :: st)) : XW l D K cells slots ws pc vs (.int x :: st) := k x
set_option maxHeartbeats 8000000 in
set_option maxRecDepth 100000 in
theorem law_loop {l : Launch} {D : va_G} {cs : Nat → ClassId} {K : XK} {b L : Nat} {xs : Nat → Int32} {ad am : Nat → Nat} {n : Nat} {Inv : InvT} (H : Sims n Inv) (C : XC D cs K 4 room_1 cL_law RL lw_tbl ret) (S : XS K b L xs) (hL : L ≤ 2048) (hQ : ∀ ws vs, XW l D K 600000 7302250 ws 735 vs [.int 1]) : ∀ (k j : Nat) (σ : ST) (it : Nat → Option ST) (τ : ST) (bb : Nat → Nat → Nat) (cN sN : Nat), L / 4 < j + k → 4 * j ≤ L → cN ≤ 50 + 8 * j → sN ≤ 96000 + 332 * j → Inv j σ it τ → XW l D K cN sN (wL cs ad am bb σ it τ) 18 [(0, .ref b), (1, .ref (ad 0)), (2, .ref (am 0)), (3, .int (nI (4 * j)))] [] := by
  intro k
  induction k with
  | zero => intro j σ it τ bb cN sN h1 h2; omega
  | succ k ih =>
    intro j σ it τ bb cN sN h1 h2 hc hs hI
    have hcs : cN + 8 ≤ room_1.cells ∧ sN + 332 ≤ room_1.slots := by
      show cN + 8 ≤ 600000 ∧ sN + 332 ≤ 7302250
      omega
    refine X_iload_n C 3 rfl rfl dL_law_18 ?_
    refine X_aload_n C 0 rfl rfl dL_law_19 ?_
    refine X_slen C S dL_law_20 ?_
    refine X_iconst (v := 4) C (by decide) dL_law_21 ?_
    refine X_isub C dL_law_22 ?_
    have hfin : XW l D K cN sN (wL cs ad am bb σ it τ) 734 [(0, .ref b), (1, .ref (ad 0)), (2, .ref (am 0)), (3, .int (nI (4 * j)))] [] := by
      refine X_iconst (v := 1) C (by decide) dL_law_734 ?_
      refine X_widen 600000 7302250 (by omega) (by omega) ?_
      exact hQ _ _
    by_cases hg : nI L - 4 < nI (4 * j)
    · exact X_icmpgt C (t1 := some ()) (t2 := none) (o := ()) (tgt := 734) (by decide) dL_law_23 (if_pos hg) (fun _ => hfin) (fun h => by cases h)
    have hj : 4 * j + 4 ≤ L := by
      have : ¬ L < 4 * j + 4 := fun q => hg ((gt_end (j := j) hL (by omega)).mpr q)
      omega
    have hj5 : j < 512 := by omega
    refine X_icmpgt C (t1 := none) (t2 := some ()) (o := ()) (tgt := 734) (by decide) dL_law_23 (if_neg hg) (fun h => by cases h) (fun _ => ?_)
    refine X_aload_n C 0 rfl rfl dL_law_26 ?_
    refine X_iload_n C 3 rfl rfl dL_law_27 ?_
    refine X_sld C S (sc_in0 hj hL) dL_law_28 ?_
    refine X_bipush (v := 31) C (by decide) dL_law_29 ?_
    refine X_iand C dL_law_31 ?_
    refine X_top (fun x => ?_)
    have kn : ∀ σ1 it1 τ1 bb1, Inv (j + 1) σ1 it1 τ1 → XW l D K (cN + 8) (sN + 332) (wL cs ad am bb1 σ1 it1 τ1) 728 [(0, .ref b), (1, .ref (ad 0)), (2, .ref (am 0)), (3, .int (nI (4 * j)))] [] := by
      intro σ1 it1 τ1 bb1 hI1
      refine X_iinc (v := nI (4 * (j + 1))) (vs1 := [(3, .int (nI (4 * (j + 1)))), (0, .ref b), (1, .ref (ad 0)), (2, .ref (am 0))]) C 3 rfl (by rw [show Int32.ofInt 4 = nI 4 from by decide, nI_add]; rfl) (by decide) rfl dL_law_728 ?_
      refine X_goto C (tgt := 18) (by decide) dL_law_731 ?_
      refine X_loc (vs1 := [(0, .ref b), (1, .ref (ad 0)), (2, .ref (am 0)), (3, .int (nI (4 * (j + 1))))]) [1, 2, 3, 0] rfl ?_
      exact ih (j + 1) σ1 it1 τ1 bb1 _ _ (by omega) (by omega) (by omega) (by omega) hI1
    by_cases h0 : x = 0
    · refine X_tblIn C (tgt := 136) (by rw [h0]; decide) (by rw [h0]; decide) (by rw [h0]; rfl) (by decide) dL_law_32 ?_
      exact lc_begin (Pn := Inv (j + 1)) C S hj hL hcs (H.2.1 j σ it τ bb (ar xs j 1) hj5 hI) kn
    by_cases h1 : x = 1
    · refine X_tblIn C (tgt := 159) (by rw [h1]; decide) (by rw [h1]; decide) (by rw [h1]; rfl) (by decide) dL_law_32 ?_
      exact lc_arc (Pn := Inv (j + 1)) C S hj hL hcs (H.2.2.1 j σ it τ bb (ar xs j 1) (ar xs j 2) (ar xs j 3) hj5 hI) kn
    by_cases h2 : x = 2
    · refine X_tblIn C (tgt := 202) (by rw [h2]; decide) (by rw [h2]; decide) (by rw [h2]; rfl) (by decide) dL_law_32 ?_
      exact lc_drop (Pn := Inv (j + 1)) C S hj hL hcs (H.2.2.2.1 j σ it τ bb (ar xs j 1) hj5 hI) kn
    by_cases h3 : x = 3
    · refine X_tblIn C (tgt := 225) (by rw [h3]; decide) (by rw [h3]; decide) (by rw [h3]; rfl) (by decide) dL_law_32 ?_
      exact lc_weigh (Pn := Inv (j + 1)) C S hj hL hcs (H.2.2.2.2.1 j σ it τ bb (ar xs j 1) (ar xs j 2) hj5 hI) kn
    by_cases h4 : x = 4
    · refine X_tblIn C (tgt := 258) (by rw [h4]; decide) (by rw [h4]; decide) (by rw [h4]; rfl) (by decide) dL_law_32 ?_
      exact lc_turn (Pn := Inv (j + 1)) C S hj hL hcs (H.2.2.2.2.2.1 j σ it τ bb (ar xs j 1) hj5 hI) kn
    by_cases h5 : x = 5
    · refine X_tblIn C (tgt := 281) (by rw [h5]; decide) (by rw [h5]; decide) (by rw [h5]; rfl) (by decide) dL_law_32 ?_
      exact lc_join (Pn := Inv (j + 1)) C S hj hL hcs (H.2.2.2.2.2.2.1 j σ it τ bb (ar xs j 1) (ar xs j 2) hj5 hI) kn
    by_cases h6 : x = 6
    · refine X_tblIn C (tgt := 314) (by rw [h6]; decide) (by rw [h6]; decide) (by rw [h6]; rfl) (by decide) dL_law_32 ?_
      exact lc_tell (Pn := Inv (j + 1)) C S hj hL hcs (H.2.2.2.2.2.2.2.1 j σ it τ bb (ar xs j 1) (ar xs j 2) hj5 hI) kn
    by_cases h7 : x = 7
    · refine X_tblIn C (tgt := 347) (by rw [h7]; decide) (by rw [h7]; decide) (by rw [h7]; rfl) (by decide) dL_law_32 ?_
      exact lc_node (Pn := Inv (j + 1)) C S hj hL hcs (H.2.2.2.2.2.2.2.2.1 j σ it τ bb (ar xs j 1) (ar xs j 2) hj5 hI) kn
    by_cases h8 : x = 8
    · refine X_tblIn C (tgt := 380) (by rw [h8]; decide) (by rw [h8]; decide) (by rw [h8]; rfl) (by decide) dL_law_32 ?_
      exact lc_count (Pn := Inv (j + 1)) C S hj hL hcs (H.2.2.2.2.2.2.2.2.2.1 j σ it τ bb (ar xs j 1) hj5 hI) kn
    by_cases h9 : x = 9
    · refine X_tblIn C (tgt := 403) (by rw [h9]; decide) (by rw [h9]; decide) (by rw [h9]; rfl) (by decide) dL_law_32 ?_
      exact lc_side (Pn := Inv (j + 1)) C S hj hL hcs (H.2.2.2.2.2.2.2.2.2.2.1 j σ it τ bb (ar xs j 1) (ar xs j 2) hj5 hI) kn
    by_cases h10 : x = 10
    · refine X_tblIn C (tgt := 436) (by rw [h10]; decide) (by rw [h10]; decide) (by rw [h10]; rfl) (by decide) dL_law_32 ?_
      exact lc_bounds (Pn := Inv (j + 1)) C S hj hL hcs rfl (H.2.2.2.2.2.2.2.2.2.2.2.1 j σ it τ bb (ar xs j 1) (if ar xs j 2 = 0 then 0 else 1) hj5 hI (by split; exact Or.inl rfl; exact Or.inr rfl)) kn
    by_cases h11 : x = 11
    · refine X_tblIn C (tgt := 485) (by rw [h11]; decide) (by rw [h11]; decide) (by rw [h11]; rfl) (by decide) dL_law_32 ?_
      exact lc_isDijoin (Pn := Inv (j + 1)) C S hj hL hcs (H.2.2.2.2.2.2.2.2.2.2.2.2.1 j σ it τ bb (ar xs j 1) hj5 hI) kn
    by_cases h12 : x = 12
    · refine X_tblIn C (tgt := 508) (by rw [h12]; decide) (by rw [h12]; decide) (by rw [h12]; rfl) (by decide) dL_law_32 ?_
      exact lc_isStrong (Pn := Inv (j + 1)) C S hj hL hcs (H.2.2.2.2.2.2.2.2.2.2.2.2.2.1 j σ it τ bb (ar xs j 1) hj5 hI) kn
    by_cases h13 : x = 13
    · refine X_tblIn C (tgt := 531) (by rw [h13]; decide) (by rw [h13]; decide) (by rw [h13]; rfl) (by decide) dL_law_32 ?_
      exact lc_dijoin (Pn := Inv (j + 1)) C S hj hL hcs (H.2.2.2.2.2.2.2.2.2.2.2.2.2.2.1 j σ it τ bb hj5 hI) kn
    by_cases h14 : x = 14
    · refine X_tblIn C (tgt := 544) (by rw [h14]; decide) (by rw [h14]; decide) (by rw [h14]; rfl) (by decide) dL_law_32 ?_
      exact lc_chosen (Pn := Inv (j + 1)) C S hj hL hcs (H.2.2.2.2.2.2.2.2.2.2.2.2.2.2.2.1 j σ it τ bb hj5 hI) kn
    by_cases h15 : x = 15
    · refine X_tblIn C (tgt := 557) (by rw [h15]; decide) (by rw [h15]; decide) (by rw [h15]; rfl) (by decide) dL_law_32 ?_
      exact lc_cost (Pn := Inv (j + 1)) C S hj hL hcs (H.2.2.2.2.2.2.2.2.2.2.2.2.2.2.2.2.1 j σ it τ bb (ar xs j 1) (ar xs j 2) hj5 hI) kn
    by_cases h16 : x = 16
    · refine X_tblIn C (tgt := 590) (by rw [h16]; decide) (by rw [h16]; decide) (by rw [h16]; rfl) (by decide) dL_law_32 ?_
      exact lc_packing (Pn := Inv (j + 1)) C S hj hL hcs (H.2.2.2.2.2.2.2.2.2.2.2.2.2.2.2.2.2.1 j σ it τ bb hj5 hI) kn
    by_cases h17 : x = 17
    · refine X_tblIn C (tgt := 603) (by rw [h17]; decide) (by rw [h17]; decide) (by rw [h17]; rfl) (by decide) dL_law_32 ?_
      exact lc_draw (Pn := Inv (j + 1)) C S hj hL hcs (H.2.2.2.2.2.2.2.2.2.2.2.2.2.2.2.2.2.2.1 j σ it τ bb (ar xs j 1) (ar xs j 2) hj5 hI) kn
    by_cases h18 : x = 18
    · refine X_tblIn C (tgt := 636) (by rw [h18]; decide) (by rw [h18]; decide) (by rw [h18]; rfl) (by decide) dL_law_32 ?_
      exact lc_uncross (Pn := Inv (j + 1)) C S hj hL hcs (H.2.2.2.2.2.2.2.2.2.2.2.2.2.2.2.2.2.2.2.1 j σ it τ bb hj5 hI) kn
    by_cases h19 : x = 19
    · refine X_tblIn C (tgt := 649) (by rw [h19]; decide) (by rw [h19]; decide) (by rw [h19]; rfl) (by decide) dL_law_32 ?_
      exact lc_member (Pn := Inv (j + 1)) C S hj hL hcs (H.2.2.2.2.2.2.2.2.2.2.2.2.2.2.2.2.2.2.2.2.1 j σ it τ bb (ar xs j 1) (ar xs j 2) hj5 hI) kn
    by_cases h20 : x = 20
    · refine X_tblIn C (tgt := 682) (by rw [h20]; decide) (by rw [h20]; decide) (by rw [h20]; rfl) (by decide) dL_law_32 ?_
      exact lc_image (Pn := Inv (j + 1)) C S hj hL hcs (H.2.2.2.2.2.2.2.2.2.2.2.2.2.2.2.2.2.2.2.2.2.1 j σ it τ bb (ar xs j 1) hj5 hI) kn
    by_cases h21 : x = 21
    · refine X_tblIn C (tgt := 705) (by rw [h21]; decide) (by rw [h21]; decide) (by rw [h21]; rfl) (by decide) dL_law_32 ?_
      exact lc_again (Pn := Inv (j + 1)) C S hj hL hcs (H.2.2.2.2.2.2.2.2.2.2.2.2.2.2.2.2.2.2.2.2.2.2 j σ it τ bb (ar xs j 1) hj5 hI) kn
    have h0t := lv_neT (a := 0) h0 (by decide)
    have h1t := lv_neT (a := 1) h1 (by decide)
    have h2t := lv_neT (a := 2) h2 (by decide)
    have h3t := lv_neT (a := 3) h3 (by decide)
    have h4t := lv_neT (a := 4) h4 (by decide)
    have h5t := lv_neT (a := 5) h5 (by decide)
    have h6t := lv_neT (a := 6) h6 (by decide)
    have h7t := lv_neT (a := 7) h7 (by decide)
    have h8t := lv_neT (a := 8) h8 (by decide)
    have h9t := lv_neT (a := 9) h9 (by decide)
    have h10t := lv_neT (a := 10) h10 (by decide)
    have h11t := lv_neT (a := 11) h11 (by decide)
    have h12t := lv_neT (a := 12) h12 (by decide)
    have h13t := lv_neT (a := 13) h13 (by decide)
    have h14t := lv_neT (a := 14) h14 (by decide)
    have h15t := lv_neT (a := 15) h15 (by decide)
    have h16t := lv_neT (a := 16) h16 (by decide)
    have h17t := lv_neT (a := 17) h17 (by decide)
    have h18t := lv_neT (a := 18) h18 (by decide)
    have h19t := lv_neT (a := 19) h19 (by decide)
    have h20t := lv_neT (a := 20) h20 (by decide)
    have h21t := lv_neT (a := 21) h21 (by decide)
    refine X_tblOut C (tgt := 728) (by omega) (by decide) dL_law_32 ?_
    refine X_widen (cN + 8) (sN + 332) (Nat.le_add_right _ _) (Nat.le_add_right _ _) ?_
    exact kn σ it τ bb (H.1 _ _ _ _ hI)
set_option maxHeartbeats 8000000 in
set_option maxRecDepth 100000 in
theorem xn_start {s : State} {b : Nat} (hts : ∀ w ∈ lw_tbl, w.before #[Value.ref b] s = true) : XN s := by
  refine ⟨?_, va_AO.of (hts (.arrayOver (.object "NetBorders$Bench")) (by decide +kernel))⟩
  intro w hw
  have hm : ∀ w ∈ xNest, w ∈ lw_tbl := by decide +kernel
  have h1 := hts w (hm w hw)
  simp only [xNest, List.mem_cons, List.not_mem_nil, or_false] at hw
  rcases hw with rfl | rfl | rfl | rfl | rfl | rfl | rfl | rfl | rfl | rfl | rfl <;> exact va_Nw.of rfl h1
set_option maxHeartbeats 8000000 in
set_option maxRecDepth 100000 in
theorem k_start {s : State} {b : Nat} (hts : ∀ w ∈ lw_tbl, w.before #[Value.ref b] s = true) : ∃ (D : va_G) (cs : Nat → ClassId), va_K D vwCl (xT cs) s := by
  obtain ⟨c0, i0, k0⟩ := u_known (C := RX0) (T := TX0) (N := 3) (n := 3) hts inX00 (hts (.instantiable RX0 3) (by decide +kernel))
  obtain ⟨c1, i1, k1⟩ := u_known (C := RX1) (T := TX1) (N := 4) (n := 4) hts inX10 (hts (.instantiable RX1 4) (by decide +kernel))
  obtain ⟨c2, i2, k2⟩ := u_known (C := RX2) (T := TX2) (N := 5) (n := 5) hts inX20 (hts (.instantiable RX2 5) (by decide +kernel))
  obtain ⟨c3, i3, k3⟩ := u_known (C := RX3) (T := TX3) (N := 3) (n := 3) hts inX30 (hts (.instantiable RX3 3) (by decide +kernel))
  obtain ⟨c4, i4, k4⟩ := u_known (C := RX4) (T := TX4) (N := 10) (n := 10) hts inX40 (hts (.instantiable RX4 10) (by decide +kernel))
  obtain ⟨c5, i5, k5⟩ := u_known (C := RX5) (T := TX5) (N := 5) (n := 5) hts inX50 (hts (.instantiable RX5 5) (by decide +kernel))
  obtain ⟨c6, i6, k6⟩ := u_known (C := RX6) (T := TX6) (N := 5) (n := 5) hts inX60 (hts (.instantiable RX6 5) (by decide +kernel))
  obtain ⟨c7, i7, k7⟩ := u_known (C := RX7) (T := TX7) (N := 34) (n := 34) hts inX70 (hts (.instantiable RX7 34) (by decide +kernel))
  obtain ⟨cI, kI, pI, a1, a2, a3⟩ := Cond.arrayClass_spec (hts (.arrayClass .int) (by decide +kernel))
  obtain ⟨cZ, kZ, pZ, b1, b2, b3⟩ := Cond.arrayClass_spec (hts (.arrayClass .boolean) (by decide +kernel))
  obtain ⟨pB, cB, kB, d1, d2, d3, d4, d5⟩ := Cond.arrayOver_spec (hts (.arrayOver (.object "NetBorders$Bench")) (by decide +kernel))
  refine ⟨(fun k => if k = 0 then c0 else if k = 1 then c1 else if k = 2 then c2 else if k = 3 then c3 else if k = 4 then c4 else if k = 5 then c5 else if k = 6 then c6 else c7, fun k => if k = 0 then i0 else if k = 1 then i1 else if k = 2 then i2 else if k = 3 then i3 else if k = 4 then i4 else if k = 5 then i5 else if k = 6 then i6 else i7), (fun k => if k = 0 then cI else if k = 1 then cZ else cB), ?_, ?_⟩
  · intro k q hq
    match k, hq with
    | 0, hq => cases hq; exact k0
    | 1, hq => cases hq; exact k1
    | 2, hq => cases hq; exact k2
    | 3, hq => cases hq; exact k3
    | 4, hq => cases hq; exact k4
    | 5, hq => cases hq; exact k5
    | 6, hq => cases hq; exact k6
    | 7, hq => cases hq; exact k7
    | k + 8, hq => simp [vwCl] at hq
  · intro k q hq
    match k, hq with
    | 0, hq => cases hq; exact ⟨fun n z => ⟨fun k h => (by cases h), kI, a2, pI, a3⟩, a1⟩
    | 1, hq => cases hq; exact ⟨fun n z => ⟨fun k h => (by cases h), kZ, b2, pZ, b3⟩, b1⟩
    | 2, hq => cases hq; exact ⟨fun n z => ⟨fun k h => (by cases h), kB, d3, pB, d4⟩, kB, pB, d3, d4, d1, d5⟩
    | k + 3, hq => simp [xT] at hq
set_option maxHeartbeats 8000000 in
set_option maxRecDepth 100000 in
theorem whole_open {p : Program} {e : Env} {s : State} {m : MethodId} {below : List Frame} {meth : Method} {c : Code} (l : Launch) {b L : Nat} {xs : Nat → Int32} {n : Nat} {Inv : InvT} (H : Sims n Inv) (H0 : Inv 0 (sS (sS z0 128 1) 129 0) (fun _ => none) (sS z0 1 1)) (hL : L ≤ 2048) (C0 : lw_At p s m meth c b L xs) : W p l e room_1 s m #[Value.ref b] below meth c s.heap [] 0 0 (lw_Z below #[Value.ref b] s) (entryFrame m ([Value.ref b] : List Value).toArray 4) := by
  obtain ⟨hx, hb, hr, hml, hown, hts, hX, hbl, hlocks, hgv⟩ := id C0
  obtain ⟨D, cs, hK⟩ := k_start hts
  have hA : ∀ q : Nat, s.heap.size ≤ q → (fun q : Nat => s.heap.size ≤ q) q := fun _ h => h
  have hbA : ¬ (fun q : Nat => s.heap.size ≤ q) b := Nat.not_le.mpr hbl
  generalize hKd : ((p, e, room_1, s, m, #[Value.ref b], below, meth, c, (fun q : Nat => s.heap.size ≤ q), 4, lw_Z below #[Value.ref b] s) : XK) = K
  have C : XC D cs K 4 room_1 cL_law RL lw_tbl ret := by rw [← hKd]; exact ⟨hx, hb, hml, hown, hts, hK, hlocks, hA, hr, xn_start hts, rfl, rfl⟩
  have S : XS K b L xs := by rw [← hKd]; exact ⟨hX, hbl, hbA⟩
  have hQ : ∀ ws vs, XW l D K 600000 7302250 ws 735 vs [.int 1] := by
    intro ws vs
    rw [← hKd]
    intro H locs ls hP hD hS hl
    exact va_forget (fun q hq => hS.2.2 q hq) (lw_ret hx hb hr hlocks dL_law_735)
  have main : XW l D K 0 0 [] 0 [(0, .ref b)] [] := by
    refine X_new C (fs := [.null, .null, .null, .null, .null]) inX60 tyX6 tyX6_ok (by decide +kernel) (by decide +kernel) (by decide +kernel) (ci := 6) rfl (fun j hj => by rcases (show j = 0 ∨ j = 1 ∨ j = 2 ∨ j = 3 ∨ j = 4 by omega) with rfl | rfl | rfl | rfl | rfl <;> rfl) (Nat.le_of_ble_eq_true rfl) (Nat.le_of_ble_eq_true rfl) dL_law_0 (fun q => ?_)
    refine X_dup C rfl dL_law_3 ?_
    refine X_world (ws1 := [(q, .inr (6, [.null, .null, .null, .null, .null]))] ++ []) rfl ?_
    refine X_callI2 C (c_init_NetBorders (h0 := q)) (fun w h => ⟨t_wsX6_init w h, (gi_X6_init w h).2⟩) (by decide +kernel) (by decide +kernel) (by decide +kernel) rfl rfl rfl rfl (by decide +kernel) ⟨Nat.le_of_ble_eq_true rfl, Nat.le_of_ble_eq_true rfl⟩ ⟨Nat.le_of_ble_eq_true rfl, Nat.le_of_ble_eq_true rfl⟩ (Nat.le_of_ble_eq_true rfl) dL_law_4 (fun u => ?_)
    refine X_astore_n (vs1 := [(1, .ref q), (0, .ref b)]) C rfl (by decide) rfl dL_law_7 ?_
    refine X_new C (fs := [.int 0, .int 0, .int 0, .null, .null, .null, .int 0, .int 0, .int 0, .int 0, .null, .null, .null, .null, .null, .null, .null, .null, .null, .null, .null, .null, .null, .null, .int 0, .int 0, .null, .null, .null, .int 0, .null, .int 0, .null, .null]) inX70 tyX7 tyX7_ok (by decide +kernel) (by decide +kernel) (by decide +kernel) (ci := 7) rfl (fun j hj => by rcases (show j = 0 ∨ j = 1 ∨ j = 2 ∨ j = 3 ∨ j = 4 ∨ j = 5 ∨ j = 6 ∨ j = 7 ∨ j = 8 ∨ j = 9 ∨ j = 10 ∨ j = 11 ∨ j = 12 ∨ j = 13 ∨ j = 14 ∨ j = 15 ∨ j = 16 ∨ j = 17 ∨ j = 18 ∨ j = 19 ∨ j = 20 ∨ j = 21 ∨ j = 22 ∨ j = 23 ∨ j = 24 ∨ j = 25 ∨ j = 26 ∨ j = 27 ∨ j = 28 ∨ j = 29 ∨ j = 30 ∨ j = 31 ∨ j = 32 ∨ j = 33 by omega) with rfl | rfl | rfl | rfl | rfl | rfl | rfl | rfl | rfl | rfl | rfl | rfl | rfl | rfl | rfl | rfl | rfl | rfl | rfl | rfl | rfl | rfl | rfl | rfl | rfl | rfl | rfl | rfl | rfl | rfl | rfl | rfl | rfl | rfl <;> rfl) (Nat.le_of_ble_eq_true rfl) (Nat.le_of_ble_eq_true rfl) dL_law_8 (fun q2 => ?_)
    refine X_dup C rfl dL_law_11 ?_
    refine X_perm List.perm_append_comm ?_
    refine X_callI2 C (c_init_NetBordersModel (h0 := q2)) (fun w h => ⟨t_wsX7_init w h, (gi_X7_init w h).2⟩) (by decide +kernel) (by decide +kernel) (by decide +kernel) rfl rfl rfl rfl (by decide +kernel) ⟨Nat.le_of_ble_eq_true rfl, Nat.le_of_ble_eq_true rfl⟩ ⟨Nat.le_of_ble_eq_true rfl, Nat.le_of_ble_eq_true rfl⟩ (Nat.le_of_ble_eq_true rfl) dL_law_12 (fun v => ?_)
    refine X_perm List.perm_append_comm ?_
    refine X_astore_n (vs1 := [(2, .ref q2), (1, .ref q), (0, .ref b)]) C rfl (by decide) rfl dL_law_15 ?_
    refine X_iconst (v := 0) C (by decide) dL_law_16 ?_
    refine X_istore_n (vs1 := [(3, .int 0), (2, .ref q2), (1, .ref q), (0, .ref b)]) C rfl (by decide) rfl dL_law_17 ?_
    refine X_loc (vs1 := [(0, .ref b), (1, .ref (ad0 q u 0)), (2, .ref (ad0 q2 v 0)), (3, .int (nI (4 * 0)))]) [3, 2, 1, 0] rfl ?_
    refine X_world (ws1 := wL cs (ad0 q u) (ad0 q2 v) (fun _ _ => 0) (sS (sS z0 128 1) 129 0) (fun _ => none) (sS z0 1 1)) rfl ?_
    exact law_loop H C S hL hQ (L / 4 + 1) 0 _ _ _ _ _ _ (by omega) (by omega) (by decide) (by decide) H0
  have hl := lv_entry ([.ref b]) (n := 4) (Nat.le_of_ble_eq_true rfl)
  rw [lg_entry_eq]
  rw [← hKd] at main
  exact main s.heap [] _ (fun k q h => by simp at h) ⟨fun i j p q h => by simp at h, fun k q h => by simp at h⟩ va_S.rf hl
