theorem jz_0 : jz 0 = true := by decide
theorem jz_1 : jz 1 = true := by decide
/-! the worlds: all cells of the class's objects, and of the reference's; a state is its numbers and its rows -/
abbrev ST : Type := (Nat → Int32) × (Nat → Nat → Int32)
def sS (σ : ST) (k : Nat) (v : Int32) : ST := (upd σ.1 k v, σ.2)
def sA (σ : ST) (q : Nat) (f : Nat → Int32) : ST := (σ.1, fun j => if j = q then f else σ.2 j)
theorem X_nam {α β : Type} {x : α} {f : α → Option β} {o : β} {G : α → Prop} (h : nam x f = some o) (k : ∀ y, f y = some o → G y) : G x := k x h
def wX (cs : Nat → ClassId) (ad : Nat → Nat) (σ : ST) (im : Nat → Option Nat) (rest : va_W) : va_W :=
  (ad 0, .inr (6, [.ref (ad 1), .ref (ad 9), .ref (ad 10), .ref (ad 13), .ref (ad 18)])) ::
  (ad 1, .inr (0, [.ref (ad 2), .ref (ad 6), .int (σ.1 66)])) ::
  (ad 2, .inr (2, [.int (σ.1 128), .int (σ.1 129), .ref (ad 3), .ref (ad 4), .ref (ad 5)])) ::
  (ad 3, .inl (cs 0, 16, .inl (σ.2 3))) ::
  (ad 4, .inl (cs 0, 16, .inl (σ.2 4))) ::
  (ad 5, .inl (cs 0, 16, .inl (σ.2 5))) ::
  (ad 6, .inr (1, [.int (σ.1 384), .int (σ.1 385), .ref (ad 7), .ref (ad 8)])) ::
  (ad 7, .inl (cs 0, 256, .inl (σ.2 7))) ::
  (ad 8, .inl (cs 0, 16, .inl (σ.2 8))) ::
  (ad 9, .inl (cs 2, 4, .inr (.inr (.inr (.inr im))))) ::
  (ad 10, .inr (3, [.ref (ad 11), .ref (ad 12), .int (σ.1 642)])) ::
  (ad 11, .inl (cs 0, 8, .inl (σ.2 11))) ::
  (ad 12, .inl (cs 0, 8, .inl (σ.2 12))) ::
  (ad 13, .inr (5, [.int (σ.1 832), .ref (ad 14), .ref (ad 15), .ref (ad 16), .ref (ad 17)])) ::
  (ad 14, .inl (cs 0, 256, .inl (σ.2 14))) ::
  (ad 15, .inl (cs 0, 256, .inl (σ.2 15))) ::
  (ad 16, .inl (cs 0, 256, .inl (σ.2 16))) ::
  (ad 17, .inl (cs 0, 256, .inl (σ.2 17))) ::
  (ad 18, .inr (4, [.int (σ.1 1152), .int (σ.1 1153), .int (σ.1 1154), .int (σ.1 1155), .int (σ.1 1156), .int (σ.1 1157), .int (σ.1 1158), .ref (ad 19), .ref (ad 20), .ref (ad 21)])) ::
  (ad 19, .inl (cs 0, 256, .inl (σ.2 19))) ::
  (ad 20, .inl (cs 0, 16, .inl (σ.2 20))) ::
  (ad 21, .inl (cs 0, 16, .inl (σ.2 21))) ::
  rest
theorem xe_0 (cs : Nat → ClassId) (ad : Nat → Nat) (σ : ST) (im : Nat → Option Nat) (rest : va_W) : (wX cs ad σ im rest)[0]? = some (ad 0, .inr (6, [.ref (ad 1), .ref (ad 9), .ref (ad 10), .ref (ad 13), .ref (ad 18)])) := rfl
theorem xe_1 (cs : Nat → ClassId) (ad : Nat → Nat) (σ : ST) (im : Nat → Option Nat) (rest : va_W) : (wX cs ad σ im rest)[1]? = some (ad 1, .inr (0, [.ref (ad 2), .ref (ad 6), .int (σ.1 66)])) := rfl
theorem xe_2 (cs : Nat → ClassId) (ad : Nat → Nat) (σ : ST) (im : Nat → Option Nat) (rest : va_W) : (wX cs ad σ im rest)[2]? = some (ad 2, .inr (2, [.int (σ.1 128), .int (σ.1 129), .ref (ad 3), .ref (ad 4), .ref (ad 5)])) := rfl
theorem xe_3 (cs : Nat → ClassId) (ad : Nat → Nat) (σ : ST) (im : Nat → Option Nat) (rest : va_W) : (wX cs ad σ im rest)[3]? = some (ad 3, .inl (cs 0, 16, .inl (σ.2 3))) := rfl
theorem xe_4 (cs : Nat → ClassId) (ad : Nat → Nat) (σ : ST) (im : Nat → Option Nat) (rest : va_W) : (wX cs ad σ im rest)[4]? = some (ad 4, .inl (cs 0, 16, .inl (σ.2 4))) := rfl
theorem xe_5 (cs : Nat → ClassId) (ad : Nat → Nat) (σ : ST) (im : Nat → Option Nat) (rest : va_W) : (wX cs ad σ im rest)[5]? = some (ad 5, .inl (cs 0, 16, .inl (σ.2 5))) := rfl
theorem xe_6 (cs : Nat → ClassId) (ad : Nat → Nat) (σ : ST) (im : Nat → Option Nat) (rest : va_W) : (wX cs ad σ im rest)[6]? = some (ad 6, .inr (1, [.int (σ.1 384), .int (σ.1 385), .ref (ad 7), .ref (ad 8)])) := rfl
theorem xe_7 (cs : Nat → ClassId) (ad : Nat → Nat) (σ : ST) (im : Nat → Option Nat) (rest : va_W) : (wX cs ad σ im rest)[7]? = some (ad 7, .inl (cs 0, 256, .inl (σ.2 7))) := rfl
theorem xe_8 (cs : Nat → ClassId) (ad : Nat → Nat) (σ : ST) (im : Nat → Option Nat) (rest : va_W) : (wX cs ad σ im rest)[8]? = some (ad 8, .inl (cs 0, 16, .inl (σ.2 8))) := rfl
theorem xe_9 (cs : Nat → ClassId) (ad : Nat → Nat) (σ : ST) (im : Nat → Option Nat) (rest : va_W) : (wX cs ad σ im rest)[9]? = some (ad 9, .inl (cs 2, 4, .inr (.inr (.inr (.inr im))))) := rfl
theorem xe_10 (cs : Nat → ClassId) (ad : Nat → Nat) (σ : ST) (im : Nat → Option Nat) (rest : va_W) : (wX cs ad σ im rest)[10]? = some (ad 10, .inr (3, [.ref (ad 11), .ref (ad 12), .int (σ.1 642)])) := rfl
theorem xe_11 (cs : Nat → ClassId) (ad : Nat → Nat) (σ : ST) (im : Nat → Option Nat) (rest : va_W) : (wX cs ad σ im rest)[11]? = some (ad 11, .inl (cs 0, 8, .inl (σ.2 11))) := rfl
theorem xe_12 (cs : Nat → ClassId) (ad : Nat → Nat) (σ : ST) (im : Nat → Option Nat) (rest : va_W) : (wX cs ad σ im rest)[12]? = some (ad 12, .inl (cs 0, 8, .inl (σ.2 12))) := rfl
theorem xe_13 (cs : Nat → ClassId) (ad : Nat → Nat) (σ : ST) (im : Nat → Option Nat) (rest : va_W) : (wX cs ad σ im rest)[13]? = some (ad 13, .inr (5, [.int (σ.1 832), .ref (ad 14), .ref (ad 15), .ref (ad 16), .ref (ad 17)])) := rfl
theorem xe_14 (cs : Nat → ClassId) (ad : Nat → Nat) (σ : ST) (im : Nat → Option Nat) (rest : va_W) : (wX cs ad σ im rest)[14]? = some (ad 14, .inl (cs 0, 256, .inl (σ.2 14))) := rfl
theorem xe_15 (cs : Nat → ClassId) (ad : Nat → Nat) (σ : ST) (im : Nat → Option Nat) (rest : va_W) : (wX cs ad σ im rest)[15]? = some (ad 15, .inl (cs 0, 256, .inl (σ.2 15))) := rfl
theorem xe_16 (cs : Nat → ClassId) (ad : Nat → Nat) (σ : ST) (im : Nat → Option Nat) (rest : va_W) : (wX cs ad σ im rest)[16]? = some (ad 16, .inl (cs 0, 256, .inl (σ.2 16))) := rfl
theorem xe_17 (cs : Nat → ClassId) (ad : Nat → Nat) (σ : ST) (im : Nat → Option Nat) (rest : va_W) : (wX cs ad σ im rest)[17]? = some (ad 17, .inl (cs 0, 256, .inl (σ.2 17))) := rfl
theorem xe_18 (cs : Nat → ClassId) (ad : Nat → Nat) (σ : ST) (im : Nat → Option Nat) (rest : va_W) : (wX cs ad σ im rest)[18]? = some (ad 18, .inr (4, [.int (σ.1 1152), .int (σ.1 1153), .int (σ.1 1154), .int (σ.1 1155), .int (σ.1 1156), .int (σ.1 1157), .int (σ.1 1158), .ref (ad 19), .ref (ad 20), .ref (ad 21)])) := rfl
theorem xe_19 (cs : Nat → ClassId) (ad : Nat → Nat) (σ : ST) (im : Nat → Option Nat) (rest : va_W) : (wX cs ad σ im rest)[19]? = some (ad 19, .inl (cs 0, 256, .inl (σ.2 19))) := rfl
theorem xe_20 (cs : Nat → ClassId) (ad : Nat → Nat) (σ : ST) (im : Nat → Option Nat) (rest : va_W) : (wX cs ad σ im rest)[20]? = some (ad 20, .inl (cs 0, 16, .inl (σ.2 20))) := rfl
theorem xe_21 (cs : Nat → ClassId) (ad : Nat → Nat) (σ : ST) (im : Nat → Option Nat) (rest : va_W) : (wX cs ad σ im rest)[21]? = some (ad 21, .inl (cs 0, 16, .inl (σ.2 21))) := rfl
theorem xs_1_2 (cs : Nat → ClassId) (ad : Nat → Nat) (σ : ST) (im : Nat → Option Nat) (rest : va_W) (v : Int32) : (wX cs ad σ im rest).set 1 (ad 1, .inr (0, ([.ref (ad 2), .ref (ad 6), .int (σ.1 66)] : List Value).set 2 (.int v))) = wX cs ad (sS σ 66 v) im rest := rfl
theorem xs_2_0 (cs : Nat → ClassId) (ad : Nat → Nat) (σ : ST) (im : Nat → Option Nat) (rest : va_W) (v : Int32) : (wX cs ad σ im rest).set 2 (ad 2, .inr (2, ([.int (σ.1 128), .int (σ.1 129), .ref (ad 3), .ref (ad 4), .ref (ad 5)] : List Value).set 0 (.int v))) = wX cs ad (sS σ 128 v) im rest := rfl
theorem xs_2_1 (cs : Nat → ClassId) (ad : Nat → Nat) (σ : ST) (im : Nat → Option Nat) (rest : va_W) (v : Int32) : (wX cs ad σ im rest).set 2 (ad 2, .inr (2, ([.int (σ.1 128), .int (σ.1 129), .ref (ad 3), .ref (ad 4), .ref (ad 5)] : List Value).set 1 (.int v))) = wX cs ad (sS σ 129 v) im rest := rfl
theorem xa_3 (cs : Nat → ClassId) (ad : Nat → Nat) (σ : ST) (im : Nat → Option Nat) (rest : va_W) (f : Nat → Int32) : (wX cs ad σ im rest).set 3 (ad 3, .inl (cs 0, 16, .inl f)) = wX cs ad (sA σ 3 f) im rest := rfl
theorem xa_4 (cs : Nat → ClassId) (ad : Nat → Nat) (σ : ST) (im : Nat → Option Nat) (rest : va_W) (f : Nat → Int32) : (wX cs ad σ im rest).set 4 (ad 4, .inl (cs 0, 16, .inl f)) = wX cs ad (sA σ 4 f) im rest := rfl
theorem xa_5 (cs : Nat → ClassId) (ad : Nat → Nat) (σ : ST) (im : Nat → Option Nat) (rest : va_W) (f : Nat → Int32) : (wX cs ad σ im rest).set 5 (ad 5, .inl (cs 0, 16, .inl f)) = wX cs ad (sA σ 5 f) im rest := rfl
theorem xs_6_0 (cs : Nat → ClassId) (ad : Nat → Nat) (σ : ST) (im : Nat → Option Nat) (rest : va_W) (v : Int32) : (wX cs ad σ im rest).set 6 (ad 6, .inr (1, ([.int (σ.1 384), .int (σ.1 385), .ref (ad 7), .ref (ad 8)] : List Value).set 0 (.int v))) = wX cs ad (sS σ 384 v) im rest := rfl
theorem xs_6_1 (cs : Nat → ClassId) (ad : Nat → Nat) (σ : ST) (im : Nat → Option Nat) (rest : va_W) (v : Int32) : (wX cs ad σ im rest).set 6 (ad 6, .inr (1, ([.int (σ.1 384), .int (σ.1 385), .ref (ad 7), .ref (ad 8)] : List Value).set 1 (.int v))) = wX cs ad (sS σ 385 v) im rest := rfl
theorem xa_7 (cs : Nat → ClassId) (ad : Nat → Nat) (σ : ST) (im : Nat → Option Nat) (rest : va_W) (f : Nat → Int32) : (wX cs ad σ im rest).set 7 (ad 7, .inl (cs 0, 256, .inl f)) = wX cs ad (sA σ 7 f) im rest := rfl
theorem xa_8 (cs : Nat → ClassId) (ad : Nat → Nat) (σ : ST) (im : Nat → Option Nat) (rest : va_W) (f : Nat → Int32) : (wX cs ad σ im rest).set 8 (ad 8, .inl (cs 0, 16, .inl f)) = wX cs ad (sA σ 8 f) im rest := rfl
theorem xs_10_2 (cs : Nat → ClassId) (ad : Nat → Nat) (σ : ST) (im : Nat → Option Nat) (rest : va_W) (v : Int32) : (wX cs ad σ im rest).set 10 (ad 10, .inr (3, ([.ref (ad 11), .ref (ad 12), .int (σ.1 642)] : List Value).set 2 (.int v))) = wX cs ad (sS σ 642 v) im rest := rfl
theorem xa_11 (cs : Nat → ClassId) (ad : Nat → Nat) (σ : ST) (im : Nat → Option Nat) (rest : va_W) (f : Nat → Int32) : (wX cs ad σ im rest).set 11 (ad 11, .inl (cs 0, 8, .inl f)) = wX cs ad (sA σ 11 f) im rest := rfl
theorem xa_12 (cs : Nat → ClassId) (ad : Nat → Nat) (σ : ST) (im : Nat → Option Nat) (rest : va_W) (f : Nat → Int32) : (wX cs ad σ im rest).set 12 (ad 12, .inl (cs 0, 8, .inl f)) = wX cs ad (sA σ 12 f) im rest := rfl
theorem xs_13_0 (cs : Nat → ClassId) (ad : Nat → Nat) (σ : ST) (im : Nat → Option Nat) (rest : va_W) (v : Int32) : (wX cs ad σ im rest).set 13 (ad 13, .inr (5, ([.int (σ.1 832), .ref (ad 14), .ref (ad 15), .ref (ad 16), .ref (ad 17)] : List Value).set 0 (.int v))) = wX cs ad (sS σ 832 v) im rest := rfl
theorem xa_14 (cs : Nat → ClassId) (ad : Nat → Nat) (σ : ST) (im : Nat → Option Nat) (rest : va_W) (f : Nat → Int32) : (wX cs ad σ im rest).set 14 (ad 14, .inl (cs 0, 256, .inl f)) = wX cs ad (sA σ 14 f) im rest := rfl
theorem xa_15 (cs : Nat → ClassId) (ad : Nat → Nat) (σ : ST) (im : Nat → Option Nat) (rest : va_W) (f : Nat → Int32) : (wX cs ad σ im rest).set 15 (ad 15, .inl (cs 0, 256, .inl f)) = wX cs ad (sA σ 15 f) im rest := rfl
theorem xa_16 (cs : Nat → ClassId) (ad : Nat → Nat) (σ : ST) (im : Nat → Option Nat) (rest : va_W) (f : Nat → Int32) : (wX cs ad σ im rest).set 16 (ad 16, .inl (cs 0, 256, .inl f)) = wX cs ad (sA σ 16 f) im rest := rfl
theorem xa_17 (cs : Nat → ClassId) (ad : Nat → Nat) (σ : ST) (im : Nat → Option Nat) (rest : va_W) (f : Nat → Int32) : (wX cs ad σ im rest).set 17 (ad 17, .inl (cs 0, 256, .inl f)) = wX cs ad (sA σ 17 f) im rest := rfl
theorem xs_18_0 (cs : Nat → ClassId) (ad : Nat → Nat) (σ : ST) (im : Nat → Option Nat) (rest : va_W) (v : Int32) : (wX cs ad σ im rest).set 18 (ad 18, .inr (4, ([.int (σ.1 1152), .int (σ.1 1153), .int (σ.1 1154), .int (σ.1 1155), .int (σ.1 1156), .int (σ.1 1157), .int (σ.1 1158), .ref (ad 19), .ref (ad 20), .ref (ad 21)] : List Value).set 0 (.int v))) = wX cs ad (sS σ 1152 v) im rest := rfl
theorem xs_18_1 (cs : Nat → ClassId) (ad : Nat → Nat) (σ : ST) (im : Nat → Option Nat) (rest : va_W) (v : Int32) : (wX cs ad σ im rest).set 18 (ad 18, .inr (4, ([.int (σ.1 1152), .int (σ.1 1153), .int (σ.1 1154), .int (σ.1 1155), .int (σ.1 1156), .int (σ.1 1157), .int (σ.1 1158), .ref (ad 19), .ref (ad 20), .ref (ad 21)] : List Value).set 1 (.int v))) = wX cs ad (sS σ 1153 v) im rest := rfl
theorem xs_18_2 (cs : Nat → ClassId) (ad : Nat → Nat) (σ : ST) (im : Nat → Option Nat) (rest : va_W) (v : Int32) : (wX cs ad σ im rest).set 18 (ad 18, .inr (4, ([.int (σ.1 1152), .int (σ.1 1153), .int (σ.1 1154), .int (σ.1 1155), .int (σ.1 1156), .int (σ.1 1157), .int (σ.1 1158), .ref (ad 19), .ref (ad 20), .ref (ad 21)] : List Value).set 2 (.int v))) = wX cs ad (sS σ 1154 v) im rest := rfl
theorem xs_18_3 (cs : Nat → ClassId) (ad : Nat → Nat) (σ : ST) (im : Nat → Option Nat) (rest : va_W) (v : Int32) : (wX cs ad σ im rest).set 18 (ad 18, .inr (4, ([.int (σ.1 1152), .int (σ.1 1153), .int (σ.1 1154), .int (σ.1 1155), .int (σ.1 1156), .int (σ.1 1157), .int (σ.1 1158), .ref (ad 19), .ref (ad 20), .ref (ad 21)] : List Value).set 3 (.int v))) = wX cs ad (sS σ 1155 v) im rest := rfl
theorem xs_18_4 (cs : Nat → ClassId) (ad : Nat → Nat) (σ : ST) (im : Nat → Option Nat) (rest : va_W) (v : Int32) : (wX cs ad σ im rest).set 18 (ad 18, .inr (4, ([.int (σ.1 1152), .int (σ.1 1153), .int (σ.1 1154), .int (σ.1 1155), .int (σ.1 1156), .int (σ.1 1157), .int (σ.1 1158), .ref (ad 19), .ref (ad 20), .ref (ad 21)] : List Value).set 4 (.int v))) = wX cs ad (sS σ 1156 v) im rest := rfl
theorem xs_18_5 (cs : Nat → ClassId) (ad : Nat → Nat) (σ : ST) (im : Nat → Option Nat) (rest : va_W) (v : Int32) : (wX cs ad σ im rest).set 18 (ad 18, .inr (4, ([.int (σ.1 1152), .int (σ.1 1153), .int (σ.1 1154), .int (σ.1 1155), .int (σ.1 1156), .int (σ.1 1157), .int (σ.1 1158), .ref (ad 19), .ref (ad 20), .ref (ad 21)] : List Value).set 5 (.int v))) = wX cs ad (sS σ 1157 v) im rest := rfl
theorem xs_18_6 (cs : Nat → ClassId) (ad : Nat → Nat) (σ : ST) (im : Nat → Option Nat) (rest : va_W) (v : Int32) : (wX cs ad σ im rest).set 18 (ad 18, .inr (4, ([.int (σ.1 1152), .int (σ.1 1153), .int (σ.1 1154), .int (σ.1 1155), .int (σ.1 1156), .int (σ.1 1157), .int (σ.1 1158), .ref (ad 19), .ref (ad 20), .ref (ad 21)] : List Value).set 6 (.int v))) = wX cs ad (sS σ 1158 v) im rest := rfl
theorem xa_19 (cs : Nat → ClassId) (ad : Nat → Nat) (σ : ST) (im : Nat → Option Nat) (rest : va_W) (f : Nat → Int32) : (wX cs ad σ im rest).set 19 (ad 19, .inl (cs 0, 256, .inl f)) = wX cs ad (sA σ 19 f) im rest := rfl
theorem xa_20 (cs : Nat → ClassId) (ad : Nat → Nat) (σ : ST) (im : Nat → Option Nat) (rest : va_W) (f : Nat → Int32) : (wX cs ad σ im rest).set 20 (ad 20, .inl (cs 0, 16, .inl f)) = wX cs ad (sA σ 20 f) im rest := rfl
theorem xa_21 (cs : Nat → ClassId) (ad : Nat → Nat) (σ : ST) (im : Nat → Option Nat) (rest : va_W) (f : Nat → Int32) : (wX cs ad σ im rest).set 21 (ad 21, .inl (cs 0, 16, .inl f)) = wX cs ad (sA σ 21 f) im rest := rfl
def wM (cs : Nat → ClassId) (ad : Nat → Nat) (σ : ST) (rest : va_W) : va_W :=
  (ad 0, .inr (7, [.int (σ.1 0), .int (σ.1 1), .int (σ.1 2), .ref (ad 1), .ref (ad 2), .ref (ad 3), .int (σ.1 6), .int (σ.1 7), .int (σ.1 8), .int (σ.1 9), .ref (ad 4), .ref (ad 5), .ref (ad 6), .ref (ad 7), .ref (ad 8), .ref (ad 9), .ref (ad 10), .ref (ad 11), .ref (ad 12), .ref (ad 13), .ref (ad 14), .ref (ad 15), .ref (ad 16), .ref (ad 17), .int (σ.1 24), .int (σ.1 25), .ref (ad 18), .ref (ad 19), .ref (ad 20), .int (σ.1 29), .ref (ad 21), .int (σ.1 31), .ref (ad 22), .ref (ad 23)])) ::
  (ad 1, .inl (cs 0, 16, .inl (σ.2 1))) ::
  (ad 2, .inl (cs 0, 16, .inl (σ.2 2))) ::
  (ad 3, .inl (cs 0, 16, .inl (σ.2 3))) ::
  (ad 4, .inl (cs 0, 16, .inl (σ.2 4))) ::
  (ad 5, .inl (cs 0, 256, .inl (σ.2 5))) ::
  (ad 6, .inl (cs 1, 4, .inl (σ.2 6))) ::
  (ad 7, .inl (cs 0, 4, .inl (σ.2 7))) ::
  (ad 8, .inl (cs 0, 4, .inl (σ.2 8))) ::
  (ad 9, .inl (cs 0, 64, .inl (σ.2 9))) ::
  (ad 10, .inl (cs 0, 64, .inl (σ.2 10))) ::
  (ad 11, .inl (cs 0, 64, .inl (σ.2 11))) ::
  (ad 12, .inl (cs 1, 4, .inl (σ.2 12))) ::
  (ad 13, .inl (cs 0, 4, .inl (σ.2 13))) ::
  (ad 14, .inl (cs 1, 4, .inl (σ.2 14))) ::
  (ad 15, .inl (cs 0, 4, .inl (σ.2 15))) ::
  (ad 16, .inl (cs 0, 64, .inl (σ.2 16))) ::
  (ad 17, .inl (cs 0, 1024, .inl (σ.2 17))) ::
  (ad 18, .inl (cs 0, 256, .inl (σ.2 18))) ::
  (ad 19, .inl (cs 0, 256, .inl (σ.2 19))) ::
  (ad 20, .inl (cs 1, 65536, .inl (σ.2 20))) ::
  (ad 21, .inl (cs 0, 13000, .inl (σ.2 21))) ::
  (ad 22, .inl (cs 0, 13000, .inl (σ.2 22))) ::
  (ad 23, .inl (cs 0, 16, .inl (σ.2 23))) ::
  rest
theorem me_0 (cs : Nat → ClassId) (ad : Nat → Nat) (σ : ST) (rest : va_W) : (wM cs ad σ rest)[0]? = some (ad 0, .inr (7, [.int (σ.1 0), .int (σ.1 1), .int (σ.1 2), .ref (ad 1), .ref (ad 2), .ref (ad 3), .int (σ.1 6), .int (σ.1 7), .int (σ.1 8), .int (σ.1 9), .ref (ad 4), .ref (ad 5), .ref (ad 6), .ref (ad 7), .ref (ad 8), .ref (ad 9), .ref (ad 10), .ref (ad 11), .ref (ad 12), .ref (ad 13), .ref (ad 14), .ref (ad 15), .ref (ad 16), .ref (ad 17), .int (σ.1 24), .int (σ.1 25), .ref (ad 18), .ref (ad 19), .ref (ad 20), .int (σ.1 29), .ref (ad 21), .int (σ.1 31), .ref (ad 22), .ref (ad 23)])) := rfl
theorem me_1 (cs : Nat → ClassId) (ad : Nat → Nat) (σ : ST) (rest : va_W) : (wM cs ad σ rest)[1]? = some (ad 1, .inl (cs 0, 16, .inl (σ.2 1))) := rfl
theorem me_2 (cs : Nat → ClassId) (ad : Nat → Nat) (σ : ST) (rest : va_W) : (wM cs ad σ rest)[2]? = some (ad 2, .inl (cs 0, 16, .inl (σ.2 2))) := rfl
theorem me_3 (cs : Nat → ClassId) (ad : Nat → Nat) (σ : ST) (rest : va_W) : (wM cs ad σ rest)[3]? = some (ad 3, .inl (cs 0, 16, .inl (σ.2 3))) := rfl
theorem me_4 (cs : Nat → ClassId) (ad : Nat → Nat) (σ : ST) (rest : va_W) : (wM cs ad σ rest)[4]? = some (ad 4, .inl (cs 0, 16, .inl (σ.2 4))) := rfl
theorem me_5 (cs : Nat → ClassId) (ad : Nat → Nat) (σ : ST) (rest : va_W) : (wM cs ad σ rest)[5]? = some (ad 5, .inl (cs 0, 256, .inl (σ.2 5))) := rfl
theorem me_6 (cs : Nat → ClassId) (ad : Nat → Nat) (σ : ST) (rest : va_W) : (wM cs ad σ rest)[6]? = some (ad 6, .inl (cs 1, 4, .inl (σ.2 6))) := rfl
theorem me_7 (cs : Nat → ClassId) (ad : Nat → Nat) (σ : ST) (rest : va_W) : (wM cs ad σ rest)[7]? = some (ad 7, .inl (cs 0, 4, .inl (σ.2 7))) := rfl
theorem me_8 (cs : Nat → ClassId) (ad : Nat → Nat) (σ : ST) (rest : va_W) : (wM cs ad σ rest)[8]? = some (ad 8, .inl (cs 0, 4, .inl (σ.2 8))) := rfl
theorem me_9 (cs : Nat → ClassId) (ad : Nat → Nat) (σ : ST) (rest : va_W) : (wM cs ad σ rest)[9]? = some (ad 9, .inl (cs 0, 64, .inl (σ.2 9))) := rfl
theorem me_10 (cs : Nat → ClassId) (ad : Nat → Nat) (σ : ST) (rest : va_W) : (wM cs ad σ rest)[10]? = some (ad 10, .inl (cs 0, 64, .inl (σ.2 10))) := rfl
theorem me_11 (cs : Nat → ClassId) (ad : Nat → Nat) (σ : ST) (rest : va_W) : (wM cs ad σ rest)[11]? = some (ad 11, .inl (cs 0, 64, .inl (σ.2 11))) := rfl
theorem me_12 (cs : Nat → ClassId) (ad : Nat → Nat) (σ : ST) (rest : va_W) : (wM cs ad σ rest)[12]? = some (ad 12, .inl (cs 1, 4, .inl (σ.2 12))) := rfl
theorem me_13 (cs : Nat → ClassId) (ad : Nat → Nat) (σ : ST) (rest : va_W) : (wM cs ad σ rest)[13]? = some (ad 13, .inl (cs 0, 4, .inl (σ.2 13))) := rfl
theorem me_14 (cs : Nat → ClassId) (ad : Nat → Nat) (σ : ST) (rest : va_W) : (wM cs ad σ rest)[14]? = some (ad 14, .inl (cs 1, 4, .inl (σ.2 14))) := rfl
theorem me_15 (cs : Nat → ClassId) (ad : Nat → Nat) (σ : ST) (rest : va_W) : (wM cs ad σ rest)[15]? = some (ad 15, .inl (cs 0, 4, .inl (σ.2 15))) := rfl
theorem me_16 (cs : Nat → ClassId) (ad : Nat → Nat) (σ : ST) (rest : va_W) : (wM cs ad σ rest)[16]? = some (ad 16, .inl (cs 0, 64, .inl (σ.2 16))) := rfl
theorem me_17 (cs : Nat → ClassId) (ad : Nat → Nat) (σ : ST) (rest : va_W) : (wM cs ad σ rest)[17]? = some (ad 17, .inl (cs 0, 1024, .inl (σ.2 17))) := rfl
theorem me_18 (cs : Nat → ClassId) (ad : Nat → Nat) (σ : ST) (rest : va_W) : (wM cs ad σ rest)[18]? = some (ad 18, .inl (cs 0, 256, .inl (σ.2 18))) := rfl
theorem me_19 (cs : Nat → ClassId) (ad : Nat → Nat) (σ : ST) (rest : va_W) : (wM cs ad σ rest)[19]? = some (ad 19, .inl (cs 0, 256, .inl (σ.2 19))) := rfl
theorem me_20 (cs : Nat → ClassId) (ad : Nat → Nat) (σ : ST) (rest : va_W) : (wM cs ad σ rest)[20]? = some (ad 20, .inl (cs 1, 65536, .inl (σ.2 20))) := rfl
theorem me_21 (cs : Nat → ClassId) (ad : Nat → Nat) (σ : ST) (rest : va_W) : (wM cs ad σ rest)[21]? = some (ad 21, .inl (cs 0, 13000, .inl (σ.2 21))) := rfl
theorem me_22 (cs : Nat → ClassId) (ad : Nat → Nat) (σ : ST) (rest : va_W) : (wM cs ad σ rest)[22]? = some (ad 22, .inl (cs 0, 13000, .inl (σ.2 22))) := rfl
theorem me_23 (cs : Nat → ClassId) (ad : Nat → Nat) (σ : ST) (rest : va_W) : (wM cs ad σ rest)[23]? = some (ad 23, .inl (cs 0, 16, .inl (σ.2 23))) := rfl
theorem ms_0_0 (cs : Nat → ClassId) (ad : Nat → Nat) (σ : ST) (rest : va_W) (v : Int32) : (wM cs ad σ rest).set 0 (ad 0, .inr (7, ([.int (σ.1 0), .int (σ.1 1), .int (σ.1 2), .ref (ad 1), .ref (ad 2), .ref (ad 3), .int (σ.1 6), .int (σ.1 7), .int (σ.1 8), .int (σ.1 9), .ref (ad 4), .ref (ad 5), .ref (ad 6), .ref (ad 7), .ref (ad 8), .ref (ad 9), .ref (ad 10), .ref (ad 11), .ref (ad 12), .ref (ad 13), .ref (ad 14), .ref (ad 15), .ref (ad 16), .ref (ad 17), .int (σ.1 24), .int (σ.1 25), .ref (ad 18), .ref (ad 19), .ref (ad 20), .int (σ.1 29), .ref (ad 21), .int (σ.1 31), .ref (ad 22), .ref (ad 23)] : List Value).set 0 (.int v))) = wM cs ad (sS σ 0 v) rest := rfl
theorem ms_0_1 (cs : Nat → ClassId) (ad : Nat → Nat) (σ : ST) (rest : va_W) (v : Int32) : (wM cs ad σ rest).set 0 (ad 0, .inr (7, ([.int (σ.1 0), .int (σ.1 1), .int (σ.1 2), .ref (ad 1), .ref (ad 2), .ref (ad 3), .int (σ.1 6), .int (σ.1 7), .int (σ.1 8), .int (σ.1 9), .ref (ad 4), .ref (ad 5), .ref (ad 6), .ref (ad 7), .ref (ad 8), .ref (ad 9), .ref (ad 10), .ref (ad 11), .ref (ad 12), .ref (ad 13), .ref (ad 14), .ref (ad 15), .ref (ad 16), .ref (ad 17), .int (σ.1 24), .int (σ.1 25), .ref (ad 18), .ref (ad 19), .ref (ad 20), .int (σ.1 29), .ref (ad 21), .int (σ.1 31), .ref (ad 22), .ref (ad 23)] : List Value).set 1 (.int v))) = wM cs ad (sS σ 1 v) rest := rfl
theorem ms_0_2 (cs : Nat → ClassId) (ad : Nat → Nat) (σ : ST) (rest : va_W) (v : Int32) : (wM cs ad σ rest).set 0 (ad 0, .inr (7, ([.int (σ.1 0), .int (σ.1 1), .int (σ.1 2), .ref (ad 1), .ref (ad 2), .ref (ad 3), .int (σ.1 6), .int (σ.1 7), .int (σ.1 8), .int (σ.1 9), .ref (ad 4), .ref (ad 5), .ref (ad 6), .ref (ad 7), .ref (ad 8), .ref (ad 9), .ref (ad 10), .ref (ad 11), .ref (ad 12), .ref (ad 13), .ref (ad 14), .ref (ad 15), .ref (ad 16), .ref (ad 17), .int (σ.1 24), .int (σ.1 25), .ref (ad 18), .ref (ad 19), .ref (ad 20), .int (σ.1 29), .ref (ad 21), .int (σ.1 31), .ref (ad 22), .ref (ad 23)] : List Value).set 2 (.int v))) = wM cs ad (sS σ 2 v) rest := rfl
theorem ms_0_6 (cs : Nat → ClassId) (ad : Nat → Nat) (σ : ST) (rest : va_W) (v : Int32) : (wM cs ad σ rest).set 0 (ad 0, .inr (7, ([.int (σ.1 0), .int (σ.1 1), .int (σ.1 2), .ref (ad 1), .ref (ad 2), .ref (ad 3), .int (σ.1 6), .int (σ.1 7), .int (σ.1 8), .int (σ.1 9), .ref (ad 4), .ref (ad 5), .ref (ad 6), .ref (ad 7), .ref (ad 8), .ref (ad 9), .ref (ad 10), .ref (ad 11), .ref (ad 12), .ref (ad 13), .ref (ad 14), .ref (ad 15), .ref (ad 16), .ref (ad 17), .int (σ.1 24), .int (σ.1 25), .ref (ad 18), .ref (ad 19), .ref (ad 20), .int (σ.1 29), .ref (ad 21), .int (σ.1 31), .ref (ad 22), .ref (ad 23)] : List Value).set 6 (.int v))) = wM cs ad (sS σ 6 v) rest := rfl
theorem ms_0_7 (cs : Nat → ClassId) (ad : Nat → Nat) (σ : ST) (rest : va_W) (v : Int32) : (wM cs ad σ rest).set 0 (ad 0, .inr (7, ([.int (σ.1 0), .int (σ.1 1), .int (σ.1 2), .ref (ad 1), .ref (ad 2), .ref (ad 3), .int (σ.1 6), .int (σ.1 7), .int (σ.1 8), .int (σ.1 9), .ref (ad 4), .ref (ad 5), .ref (ad 6), .ref (ad 7), .ref (ad 8), .ref (ad 9), .ref (ad 10), .ref (ad 11), .ref (ad 12), .ref (ad 13), .ref (ad 14), .ref (ad 15), .ref (ad 16), .ref (ad 17), .int (σ.1 24), .int (σ.1 25), .ref (ad 18), .ref (ad 19), .ref (ad 20), .int (σ.1 29), .ref (ad 21), .int (σ.1 31), .ref (ad 22), .ref (ad 23)] : List Value).set 7 (.int v))) = wM cs ad (sS σ 7 v) rest := rfl
theorem ms_0_8 (cs : Nat → ClassId) (ad : Nat → Nat) (σ : ST) (rest : va_W) (v : Int32) : (wM cs ad σ rest).set 0 (ad 0, .inr (7, ([.int (σ.1 0), .int (σ.1 1), .int (σ.1 2), .ref (ad 1), .ref (ad 2), .ref (ad 3), .int (σ.1 6), .int (σ.1 7), .int (σ.1 8), .int (σ.1 9), .ref (ad 4), .ref (ad 5), .ref (ad 6), .ref (ad 7), .ref (ad 8), .ref (ad 9), .ref (ad 10), .ref (ad 11), .ref (ad 12), .ref (ad 13), .ref (ad 14), .ref (ad 15), .ref (ad 16), .ref (ad 17), .int (σ.1 24), .int (σ.1 25), .ref (ad 18), .ref (ad 19), .ref (ad 20), .int (σ.1 29), .ref (ad 21), .int (σ.1 31), .ref (ad 22), .ref (ad 23)] : List Value).set 8 (.int v))) = wM cs ad (sS σ 8 v) rest := rfl
theorem ms_0_9 (cs : Nat → ClassId) (ad : Nat → Nat) (σ : ST) (rest : va_W) (v : Int32) : (wM cs ad σ rest).set 0 (ad 0, .inr (7, ([.int (σ.1 0), .int (σ.1 1), .int (σ.1 2), .ref (ad 1), .ref (ad 2), .ref (ad 3), .int (σ.1 6), .int (σ.1 7), .int (σ.1 8), .int (σ.1 9), .ref (ad 4), .ref (ad 5), .ref (ad 6), .ref (ad 7), .ref (ad 8), .ref (ad 9), .ref (ad 10), .ref (ad 11), .ref (ad 12), .ref (ad 13), .ref (ad 14), .ref (ad 15), .ref (ad 16), .ref (ad 17), .int (σ.1 24), .int (σ.1 25), .ref (ad 18), .ref (ad 19), .ref (ad 20), .int (σ.1 29), .ref (ad 21), .int (σ.1 31), .ref (ad 22), .ref (ad 23)] : List Value).set 9 (.int v))) = wM cs ad (sS σ 9 v) rest := rfl
theorem ms_0_24 (cs : Nat → ClassId) (ad : Nat → Nat) (σ : ST) (rest : va_W) (v : Int32) : (wM cs ad σ rest).set 0 (ad 0, .inr (7, ([.int (σ.1 0), .int (σ.1 1), .int (σ.1 2), .ref (ad 1), .ref (ad 2), .ref (ad 3), .int (σ.1 6), .int (σ.1 7), .int (σ.1 8), .int (σ.1 9), .ref (ad 4), .ref (ad 5), .ref (ad 6), .ref (ad 7), .ref (ad 8), .ref (ad 9), .ref (ad 10), .ref (ad 11), .ref (ad 12), .ref (ad 13), .ref (ad 14), .ref (ad 15), .ref (ad 16), .ref (ad 17), .int (σ.1 24), .int (σ.1 25), .ref (ad 18), .ref (ad 19), .ref (ad 20), .int (σ.1 29), .ref (ad 21), .int (σ.1 31), .ref (ad 22), .ref (ad 23)] : List Value).set 24 (.int v))) = wM cs ad (sS σ 24 v) rest := rfl
theorem ms_0_25 (cs : Nat → ClassId) (ad : Nat → Nat) (σ : ST) (rest : va_W) (v : Int32) : (wM cs ad σ rest).set 0 (ad 0, .inr (7, ([.int (σ.1 0), .int (σ.1 1), .int (σ.1 2), .ref (ad 1), .ref (ad 2), .ref (ad 3), .int (σ.1 6), .int (σ.1 7), .int (σ.1 8), .int (σ.1 9), .ref (ad 4), .ref (ad 5), .ref (ad 6), .ref (ad 7), .ref (ad 8), .ref (ad 9), .ref (ad 10), .ref (ad 11), .ref (ad 12), .ref (ad 13), .ref (ad 14), .ref (ad 15), .ref (ad 16), .ref (ad 17), .int (σ.1 24), .int (σ.1 25), .ref (ad 18), .ref (ad 19), .ref (ad 20), .int (σ.1 29), .ref (ad 21), .int (σ.1 31), .ref (ad 22), .ref (ad 23)] : List Value).set 25 (.int v))) = wM cs ad (sS σ 25 v) rest := rfl
theorem ms_0_29 (cs : Nat → ClassId) (ad : Nat → Nat) (σ : ST) (rest : va_W) (v : Int32) : (wM cs ad σ rest).set 0 (ad 0, .inr (7, ([.int (σ.1 0), .int (σ.1 1), .int (σ.1 2), .ref (ad 1), .ref (ad 2), .ref (ad 3), .int (σ.1 6), .int (σ.1 7), .int (σ.1 8), .int (σ.1 9), .ref (ad 4), .ref (ad 5), .ref (ad 6), .ref (ad 7), .ref (ad 8), .ref (ad 9), .ref (ad 10), .ref (ad 11), .ref (ad 12), .ref (ad 13), .ref (ad 14), .ref (ad 15), .ref (ad 16), .ref (ad 17), .int (σ.1 24), .int (σ.1 25), .ref (ad 18), .ref (ad 19), .ref (ad 20), .int (σ.1 29), .ref (ad 21), .int (σ.1 31), .ref (ad 22), .ref (ad 23)] : List Value).set 29 (.int v))) = wM cs ad (sS σ 29 v) rest := rfl
theorem ms_0_31 (cs : Nat → ClassId) (ad : Nat → Nat) (σ : ST) (rest : va_W) (v : Int32) : (wM cs ad σ rest).set 0 (ad 0, .inr (7, ([.int (σ.1 0), .int (σ.1 1), .int (σ.1 2), .ref (ad 1), .ref (ad 2), .ref (ad 3), .int (σ.1 6), .int (σ.1 7), .int (σ.1 8), .int (σ.1 9), .ref (ad 4), .ref (ad 5), .ref (ad 6), .ref (ad 7), .ref (ad 8), .ref (ad 9), .ref (ad 10), .ref (ad 11), .ref (ad 12), .ref (ad 13), .ref (ad 14), .ref (ad 15), .ref (ad 16), .ref (ad 17), .int (σ.1 24), .int (σ.1 25), .ref (ad 18), .ref (ad 19), .ref (ad 20), .int (σ.1 29), .ref (ad 21), .int (σ.1 31), .ref (ad 22), .ref (ad 23)] : List Value).set 31 (.int v))) = wM cs ad (sS σ 31 v) rest := rfl
theorem ma_1 (cs : Nat → ClassId) (ad : Nat → Nat) (σ : ST) (rest : va_W) (f : Nat → Int32) : (wM cs ad σ rest).set 1 (ad 1, .inl (cs 0, 16, .inl f)) = wM cs ad (sA σ 1 f) rest := rfl
theorem ma_2 (cs : Nat → ClassId) (ad : Nat → Nat) (σ : ST) (rest : va_W) (f : Nat → Int32) : (wM cs ad σ rest).set 2 (ad 2, .inl (cs 0, 16, .inl f)) = wM cs ad (sA σ 2 f) rest := rfl
theorem ma_3 (cs : Nat → ClassId) (ad : Nat → Nat) (σ : ST) (rest : va_W) (f : Nat → Int32) : (wM cs ad σ rest).set 3 (ad 3, .inl (cs 0, 16, .inl f)) = wM cs ad (sA σ 3 f) rest := rfl
theorem ma_4 (cs : Nat → ClassId) (ad : Nat → Nat) (σ : ST) (rest : va_W) (f : Nat → Int32) : (wM cs ad σ rest).set 4 (ad 4, .inl (cs 0, 16, .inl f)) = wM cs ad (sA σ 4 f) rest := rfl
theorem ma_5 (cs : Nat → ClassId) (ad : Nat → Nat) (σ : ST) (rest : va_W) (f : Nat → Int32) : (wM cs ad σ rest).set 5 (ad 5, .inl (cs 0, 256, .inl f)) = wM cs ad (sA σ 5 f) rest := rfl
theorem ma_6 (cs : Nat → ClassId) (ad : Nat → Nat) (σ : ST) (rest : va_W) (f : Nat → Int32) : (wM cs ad σ rest).set 6 (ad 6, .inl (cs 1, 4, .inl f)) = wM cs ad (sA σ 6 f) rest := rfl
theorem ma_7 (cs : Nat → ClassId) (ad : Nat → Nat) (σ : ST) (rest : va_W) (f : Nat → Int32) : (wM cs ad σ rest).set 7 (ad 7, .inl (cs 0, 4, .inl f)) = wM cs ad (sA σ 7 f) rest := rfl
theorem ma_8 (cs : Nat → ClassId) (ad : Nat → Nat) (σ : ST) (rest : va_W) (f : Nat → Int32) : (wM cs ad σ rest).set 8 (ad 8, .inl (cs 0, 4, .inl f)) = wM cs ad (sA σ 8 f) rest := rfl
theorem ma_9 (cs : Nat → ClassId) (ad : Nat → Nat) (σ : ST) (rest : va_W) (f : Nat → Int32) : (wM cs ad σ rest).set 9 (ad 9, .inl (cs 0, 64, .inl f)) = wM cs ad (sA σ 9 f) rest := rfl
theorem ma_10 (cs : Nat → ClassId) (ad : Nat → Nat) (σ : ST) (rest : va_W) (f : Nat → Int32) : (wM cs ad σ rest).set 10 (ad 10, .inl (cs 0, 64, .inl f)) = wM cs ad (sA σ 10 f) rest := rfl
theorem ma_11 (cs : Nat → ClassId) (ad : Nat → Nat) (σ : ST) (rest : va_W) (f : Nat → Int32) : (wM cs ad σ rest).set 11 (ad 11, .inl (cs 0, 64, .inl f)) = wM cs ad (sA σ 11 f) rest := rfl
theorem ma_12 (cs : Nat → ClassId) (ad : Nat → Nat) (σ : ST) (rest : va_W) (f : Nat → Int32) : (wM cs ad σ rest).set 12 (ad 12, .inl (cs 1, 4, .inl f)) = wM cs ad (sA σ 12 f) rest := rfl
theorem ma_13 (cs : Nat → ClassId) (ad : Nat → Nat) (σ : ST) (rest : va_W) (f : Nat → Int32) : (wM cs ad σ rest).set 13 (ad 13, .inl (cs 0, 4, .inl f)) = wM cs ad (sA σ 13 f) rest := rfl
theorem ma_14 (cs : Nat → ClassId) (ad : Nat → Nat) (σ : ST) (rest : va_W) (f : Nat → Int32) : (wM cs ad σ rest).set 14 (ad 14, .inl (cs 1, 4, .inl f)) = wM cs ad (sA σ 14 f) rest := rfl
theorem ma_15 (cs : Nat → ClassId) (ad : Nat → Nat) (σ : ST) (rest : va_W) (f : Nat → Int32) : (wM cs ad σ rest).set 15 (ad 15, .inl (cs 0, 4, .inl f)) = wM cs ad (sA σ 15 f) rest := rfl
theorem ma_16 (cs : Nat → ClassId) (ad : Nat → Nat) (σ : ST) (rest : va_W) (f : Nat → Int32) : (wM cs ad σ rest).set 16 (ad 16, .inl (cs 0, 64, .inl f)) = wM cs ad (sA σ 16 f) rest := rfl
theorem ma_17 (cs : Nat → ClassId) (ad : Nat → Nat) (σ : ST) (rest : va_W) (f : Nat → Int32) : (wM cs ad σ rest).set 17 (ad 17, .inl (cs 0, 1024, .inl f)) = wM cs ad (sA σ 17 f) rest := rfl
theorem ma_18 (cs : Nat → ClassId) (ad : Nat → Nat) (σ : ST) (rest : va_W) (f : Nat → Int32) : (wM cs ad σ rest).set 18 (ad 18, .inl (cs 0, 256, .inl f)) = wM cs ad (sA σ 18 f) rest := rfl
theorem ma_19 (cs : Nat → ClassId) (ad : Nat → Nat) (σ : ST) (rest : va_W) (f : Nat → Int32) : (wM cs ad σ rest).set 19 (ad 19, .inl (cs 0, 256, .inl f)) = wM cs ad (sA σ 19 f) rest := rfl
theorem ma_20 (cs : Nat → ClassId) (ad : Nat → Nat) (σ : ST) (rest : va_W) (f : Nat → Int32) : (wM cs ad σ rest).set 20 (ad 20, .inl (cs 1, 65536, .inl f)) = wM cs ad (sA σ 20 f) rest := rfl
theorem ma_21 (cs : Nat → ClassId) (ad : Nat → Nat) (σ : ST) (rest : va_W) (f : Nat → Int32) : (wM cs ad σ rest).set 21 (ad 21, .inl (cs 0, 13000, .inl f)) = wM cs ad (sA σ 21 f) rest := rfl
theorem ma_22 (cs : Nat → ClassId) (ad : Nat → Nat) (σ : ST) (rest : va_W) (f : Nat → Int32) : (wM cs ad σ rest).set 22 (ad 22, .inl (cs 0, 13000, .inl f)) = wM cs ad (sA σ 22 f) rest := rfl
theorem ma_23 (cs : Nat → ClassId) (ad : Nat → Nat) (σ : ST) (rest : va_W) (f : Nat → Int32) : (wM cs ad σ rest).set 23 (ad 23, .inl (cs 0, 16, .inl f)) = wM cs ad (sA σ 23 f) rest := rfl
