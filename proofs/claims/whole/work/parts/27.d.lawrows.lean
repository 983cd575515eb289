/-! rows for the law: its script, its two objects side by side -/
def XS (K : XK) (b L : Nat) (xs : Nat → Int32) : Prop :=
  match K with
  | (_, _, _, s, _, _, _, _, _, A, _, _) => va_X b L xs s s.heap ∧ b < s.heap.size ∧ ¬ A b
section XLAW
variable {l : Launch} {D : va_G} {cs : Nat → ClassId} {K : XK} {nL : Nat} {R : Room} {cc : ByteArray} {own : String} {Ts : List Cond} {rt : Option FieldType} {cells slots pc : Nat} {ws : va_W} {vs : List (Nat × Value)} {st : List Value}
theorem XC_sub {Ts1 : List Cond} (C : XC D cs K nL R cc own Ts rt) (h : ∀ w ∈ Ts1, w ∈ Ts) : XC D cs K nL R cc own Ts1 rt := by
  obtain ⟨p, e, R0, s, m, args, below, meth, c, A, nL0, Q⟩ := K
  obtain ⟨c1, c2, c3, c4, c5, c6, c7, c8, c9, c10, c11, c12⟩ := C
  exact ⟨c1, c2, c3, c4, fun w hw => c5 w (h w hw), c6, c7, c8, c9, c10, c11, c12⟩
theorem X_sld (C : XC D cs K nL R cc own Ts rt) {b L : Nat} {xs : Nat → Int32} {i : Int32} (S : XS K b L xs) (hin : vp_in i L) (hd : decode cc pc = .ok (.iaload, 1)) (kk : XW l D K cells slots ws (pc + 1) vs (.int (xs i.toNatClampNeg) :: st)) : XW l D K cells slots ws pc vs (.int i :: .ref b :: st) := by
  obtain ⟨p, e, R0, s, m, args, below, meth, c, A, nL0, Q⟩ := K
  intro H locs ls hP hD hS hl
  exact va_sld C.1 C.2.1 S.1 S.2.1 S.2.2 hS hin hd (kk H locs ls hP hD hS hl)
theorem X_slen (C : XC D cs K nL R cc own Ts rt) {b L : Nat} {xs : Nat → Int32} (S : XS K b L xs) (hd : decode cc pc = .ok (.arraylength, 1)) (kk : XW l D K cells slots ws (pc + 1) vs (.int (nI L) :: st)) : XW l D K cells slots ws pc vs (.ref b :: st) := by
  obtain ⟨p, e, R0, s, m, args, below, meth, c, A, nL0, Q⟩ := K
  intro H locs ls hP hD hS hl
  exact va_slen C.1 C.2.1 S.1 S.2.1 S.2.2 hS hd (kk H locs ls hP hD hS hl)
theorem X_eqT (C : XC D cs K nL R cc own Ts rt) {x : Int32} {off : Int} {tgt : Nat} (ht : (pc : Int) + off = (tgt : Int)) (hd : decode cc pc = .ok (.if_icmp .eq off, 3)) (k : XW l D K cells slots ws tgt vs st) : XW l D K cells slots ws pc vs (.int x :: .int x :: st) :=
  X_icmpeq C (t1 := some ()) (t2 := none) (o := ()) ht hd (if_pos rfl) (fun _ => k) (fun h => by cases h)
end XLAW
theorem sc_in {j L k : Nat} {c : Int32} (hc : c = nI k) (h : 4 * j + 4 ≤ L) (hL : L ≤ 2048) (hk : k < 4) : vp_in (nI (4 * j) + c) L := by
  rw [hc, nI_add]; exact vp_in_nI (by omega) (by omega)
theorem sc_in0 {j L : Nat} (h : 4 * j + 4 ≤ L) (hL : L ≤ 2048) : vp_in (nI (4 * j)) L := vp_in_nI (by omega) (by omega)
def ar (xs : Nat → Int32) (j : Nat) (k : Int32) : Int32 := xs (nI (4 * j) + k).toNatClampNeg
def imF (bb : Nat → Nat → Nat) (it : Nat → Option ST) : Nat → Option Nat := fun k => (it k).map (fun _ => bb k 1)
def blk (cs : Nat → ClassId) (bb : Nat → Nat → Nat) (it : Nat → Option ST) (k : Nat) : va_W := match it k with
  | none => []
  | some τ => wB cs (bb k) τ []
def imR (cs : Nat → ClassId) (bb : Nat → Nat → Nat) (it : Nat → Option ST) : va_W := blk cs bb it 0 ++ (blk cs bb it 1 ++ (blk cs bb it 2 ++ blk cs bb it 3))
abbrev wL (cs : Nat → ClassId) (ad am : Nat → Nat) (bb : Nat → Nat → Nat) (σ : ST) (it : Nat → Option ST) (τ : ST) : va_W := wX cs ad σ (imF bb it) (imR cs bb it ++ wM cs am τ [])
theorem wL_perm {cs : Nat → ClassId} {ad am : Nat → Nat} {im : Nat → Option Nat} {σ τ : ST} {r : va_W} : (wX cs ad σ im (r ++ wM cs am τ [])).Perm (wM cs am τ (wX cs ad σ im r)) := by
  have h : (wX cs ad σ im (r ++ wM cs am τ [])) = (wX cs ad σ im r) ++ wM cs am τ [] := rfl
  rw [h]
  exact List.perm_append_comm
theorem jin_lt {i : Int32} {n : Nat} (h : jin i n = true) : jix i < n := by
  have h1 := jin_in h
  unfold vp_in at h1
  unfold jix
  omega
theorem imF_some {bb : Nat → Nat → Nat} {it : Nat → Option ST} {k : Nat} {τ : ST} (h : it k = some τ) : imF bb it k = some (bb k 1) := by unfold imF; rw [h]; rfl
theorem imF_none {bb : Nat → Nat → Nat} {it : Nat → Option ST} {k : Nat} (h : it k = none) : imF bb it k = none := by unfold imF; rw [h]; rfl
theorem imF_is (bb : Nat → Nat → Nat) (it : Nat → Option ST) (k : Nat) : (imF bb it k).isSome = (it k).isSome := by unfold imF; cases it k <;> rfl
theorem imF_old {bb : Nat → Nat → Nat} {it : Nat → Option ST} {k : Nat} {τ τ1 : ST} (h : it k = some τ) : imF bb (va_up it k (some τ1)) = imF bb it := by
  funext j
  unfold imF va_up
  by_cases hj : j = k
  · subst hj; rw [if_pos rfl, h]; rfl
  · rw [if_neg hj]
theorem imF_new {bb : Nat → Nat → Nat} {it : Nat → Option ST} {k : Nat} {τ1 : ST} {u : Nat → Nat} : imF (va_up bb k u) (va_up it k (some τ1)) = va_up (imF bb it) k (some (u 1)) := by
  funext j
  unfold imF va_up
  by_cases hj : j = k
  · subst hj; rw [if_pos rfl, if_pos rfl, if_pos rfl]; rfl
  · rw [if_neg hj, if_neg hj, if_neg hj]
theorem blk_up {cs : Nat → ClassId} {bb bb1 : Nat → Nat → Nat} {it it1 : Nat → Option ST} {j : Nat} (h : bb1 j = bb j) (h1 : it1 j = it j) : blk cs bb1 it1 j = blk cs bb it j := by unfold blk; rw [h, h1]
theorem blk_at {cs : Nat → ClassId} {bb : Nat → Nat → Nat} {it : Nat → Option ST} {k : Nat} {τ : ST} (h : it k = some τ) : blk cs bb it k = wB cs (bb k) τ [] := by unfold blk; rw [h]
theorem blk_no {cs : Nat → ClassId} {bb : Nat → Nat → Nat} {it : Nat → Option ST} {k : Nat} (h : it k = none) : blk cs bb it k = [] := by unfold blk; rw [h]
theorem pm1 {α : Type} {a b c d : List α} : (a ++ (b ++ (c ++ d))).Perm (b ++ (a ++ (c ++ d))) := List.perm_append_comm_assoc a b (c ++ d)
theorem pm2 {α : Type} {a b c d : List α} : (a ++ (b ++ (c ++ d))).Perm (c ++ (a ++ (b ++ d))) := ((List.perm_append_comm_assoc b c d).append_left a).trans (List.perm_append_comm_assoc a c (b ++ d))
theorem pm3 {α : Type} {a b c d : List α} : (a ++ (b ++ (c ++ d))).Perm (d ++ (a ++ (b ++ c))) := by
  have h : a ++ (b ++ (c ++ d)) = (a ++ (b ++ c)) ++ d := by simp
  rw [h]; exact List.perm_append_comm
/-- the block of image k to the front, and back with other contents -/
theorem imR_old {cs : Nat → ClassId} {bb : Nat → Nat → Nat} {it : Nat → Option ST} {k : Nat} {τ : ST} (hk : k < 4) (h : it k = some τ) : ∃ r, (imR cs bb it).Perm (wB cs (bb k) τ r) ∧ ∀ τ1, (imR cs bb (va_up it k (some τ1))).Perm (wB cs (bb k) τ1 r) := by
  have hu : ∀ τ1, va_up it k (some τ1) k = some τ1 := fun τ1 => if_pos rfl
  have hn : ∀ τ1 j, j ≠ k → va_up it k (some τ1) j = it j := fun τ1 j hj => if_neg hj
  rcases (show k = 0 ∨ k = 1 ∨ k = 2 ∨ k = 3 by omega) with rfl | rfl | rfl | rfl
  · refine ⟨blk cs bb it 1 ++ (blk cs bb it 2 ++ blk cs bb it 3), ?_, fun τ1 => ?_⟩
    · unfold imR; rw [blk_at h]; exact List.Perm.refl _
    · unfold imR; rw [blk_at (hu τ1), blk_up rfl (hn τ1 1 (by decide)), blk_up rfl (hn τ1 2 (by decide)), blk_up rfl (hn τ1 3 (by decide))]; exact List.Perm.refl _
  · refine ⟨blk cs bb it 0 ++ (blk cs bb it 2 ++ blk cs bb it 3), ?_, fun τ1 => ?_⟩
    · unfold imR; rw [blk_at h]; exact pm1
    · unfold imR; rw [blk_at (hu τ1), blk_up rfl (hn τ1 0 (by decide)), blk_up rfl (hn τ1 2 (by decide)), blk_up rfl (hn τ1 3 (by decide))]; exact pm1
  · refine ⟨blk cs bb it 0 ++ (blk cs bb it 1 ++ blk cs bb it 3), ?_, fun τ1 => ?_⟩
    · unfold imR; rw [blk_at h]; exact pm2
    · unfold imR; rw [blk_at (hu τ1), blk_up rfl (hn τ1 0 (by decide)), blk_up rfl (hn τ1 1 (by decide)), blk_up rfl (hn τ1 3 (by decide))]; exact pm2
  · refine ⟨blk cs bb it 0 ++ (blk cs bb it 1 ++ blk cs bb it 2), ?_, fun τ1 => ?_⟩
    · unfold imR; rw [blk_at h]; exact pm3
    · unfold imR; rw [blk_at (hu τ1), blk_up rfl (hn τ1 0 (by decide)), blk_up rfl (hn τ1 1 (by decide)), blk_up rfl (hn τ1 2 (by decide))]; exact pm3
theorem imR_new {cs : Nat → ClassId} {bb : Nat → Nat → Nat} {it : Nat → Option ST} {k : Nat} {τ1 : ST} {u : Nat → Nat} (hk : k < 4) (h : it k = none) : (imR cs (va_up bb k u) (va_up it k (some τ1))).Perm (wB cs u τ1 (imR cs bb it)) := by
  have hu : va_up it k (some τ1) k = some τ1 := if_pos rfl
  have hb : va_up bb k u k = u := if_pos rfl
  have hn : ∀ j, j ≠ k → va_up it k (some τ1) j = it j := fun j hj => if_neg hj
  have hm : ∀ j, j ≠ k → va_up bb k u j = bb j := fun j hj => if_neg hj
  have h0 := blk_no (cs := cs) (bb := bb) h
  have h1 : blk cs (va_up bb k u) (va_up it k (some τ1)) k = wB cs u τ1 [] := by rw [blk_at hu, hb]
  rcases (show k = 0 ∨ k = 1 ∨ k = 2 ∨ k = 3 by omega) with rfl | rfl | rfl | rfl
  · unfold imR
    rw [h1, h0, blk_up (hm 1 (by decide)) (hn 1 (by decide)), blk_up (hm 2 (by decide)) (hn 2 (by decide)), blk_up (hm 3 (by decide)) (hn 3 (by decide))]
    exact List.Perm.refl _
  · unfold imR
    rw [h1, h0, blk_up (hm 0 (by decide)) (hn 0 (by decide)), blk_up (hm 2 (by decide)) (hn 2 (by decide)), blk_up (hm 3 (by decide)) (hn 3 (by decide))]
    exact pm1
  · unfold imR
    rw [h1, h0, blk_up (hm 0 (by decide)) (hn 0 (by decide)), blk_up (hm 1 (by decide)) (hn 1 (by decide)), blk_up (hm 3 (by decide)) (hn 3 (by decide))]
    exact pm2
  · unfold imR
    rw [h1, h0, blk_up (hm 0 (by decide)) (hn 0 (by decide)), blk_up (hm 1 (by decide)) (hn 1 (by decide)), blk_up (hm 2 (by decide)) (hn 2 (by decide))]
    rw [List.append_nil]
    exact pm3
