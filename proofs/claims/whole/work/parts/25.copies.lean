def wY (cs : Nat → ClassId) (ad : Nat → Nat) (σ : ST) (im : Nat → Option Nat) (rest : va_W) : va_W :=
  (ad 0, .inr (6, [.ref (ad 1), .ref (ad 9), .ref (ad 10), .ref (ad 13), .ref (ad 18)])) ::
  (ad 1, .inr (0, [.ref (ad 2), .ref (ad 6), .int (σ.1 66)])) ::
  (ad 2, .inr (2, [.int (σ.1 128), .int (σ.1 129), .ref (ad 3), .ref (ad 4), .ref (ad 5)])) ::
  (ad 3, .inl (cs 0, 16, .inl (σ.2 3))) ::
  (ad 4, .inl (cs 0, 16, .inl (σ.2 4))) ::
  (ad 5, .inl (cs 0, 16, .inl (σ.2 5))) ::
  (ad 6, .inr (1, [.int (σ.1 384), .int (σ.1 385), .ref (ad 7), .ref (ad 8)])) ::
  (ad 7, .inl (cs 0, 256, .inl (σ.2 7))) ::
  (ad 8, .inl (cs 0, 16, .inl (σ.2 8))) ::
  (ad 9, .inl (cs 2, 4, .inr (.inr (.inr (.inr im))))) ::
  (ad 10, .inr (3, [.ref (ad 11), .ref (ad 12), .int (σ.1 642)])) ::
  (ad 11, .inl (cs 0, 8, .inl (σ.2 11))) ::
  (ad 12, .inl (cs 0, 8, .inl (σ.2 12))) ::
  (ad 13, .inr (5, [.int (σ.1 832), .ref (ad 14), .ref (ad 15), .ref (ad 16), .ref (ad 17)])) ::
  (ad 14, .inl (cs 0, 256, .inl (σ.2 14))) ::
  (ad 15, .inl (cs 0, 256, .inl (σ.2 15))) ::
  (ad 16, .inl (cs 0, 256, .inl (σ.2 16))) ::
  (ad 17, .inl (cs 0, 256, .inl (σ.2 17))) ::
  (ad 18, .inr (4, [.int (σ.1 1152), .int (σ.1 1153), .int (σ.1 1154), .int (σ.1 1155), .int (σ.1 1156), .int (σ.1 1157), .int (σ.1 1158), .ref (ad 19), .ref (ad 20), .ref (ad 21)])) ::
  (ad 19, .inl (cs 0, 256, .inl (σ.2 19))) ::
  (ad 20, .inl (cs 0, 16, .inl (σ.2 20))) ::
  (ad 21, .inl (cs 0, 16, .inl (σ.2 21))) ::
  (ad 22, .inr (0, [.ref (ad 23), .ref (ad 27), .int (σ.1 1410)])) ::
  (ad 23, .inr (2, [.int (σ.1 1472), .int (σ.1 1473), .ref (ad 24), .ref (ad 25), .ref (ad 26)])) ::
  (ad 24, .inl (cs 0, 16, .inl (σ.2 24))) ::
  (ad 25, .inl (cs 0, 16, .inl (σ.2 25))) ::
  (ad 26, .inl (cs 0, 16, .inl (σ.2 26))) ::
  (ad 27, .inr (1, [.int (σ.1 1728), .int (σ.1 1729), .ref (ad 28), .ref (ad 29)])) ::
  (ad 28, .inl (cs 0, 256, .inl (σ.2 28))) ::
  (ad 29, .inl (cs 0, 16, .inl (σ.2 29))) ::
  rest
theorem ye_0 (cs : Nat → ClassId) (ad : Nat → Nat) (σ : ST) (im : Nat → Option Nat) (rest : va_W) : (wY cs ad σ im rest)[0]? = some (ad 0, .inr (6, [.ref (ad 1), .ref (ad 9), .ref (ad 10), .ref (ad 13), .ref (ad 18)])) := rfl
theorem ye_1 (cs : Nat → ClassId) (ad : Nat → Nat) (σ : ST) (im : Nat → Option Nat) (rest : va_W) : (wY cs ad σ im rest)[1]? = some (ad 1, .inr (0, [.ref (ad 2), .ref (ad 6), .int (σ.1 66)])) := rfl
theorem ye_2 (cs : Nat → ClassId) (ad : Nat → Nat) (σ : ST) (im : Nat → Option Nat) (rest : va_W) : (wY cs ad σ im rest)[2]? = some (ad 2, .inr (2, [.int (σ.1 128), .int (σ.1 129), .ref (ad 3), .ref (ad 4), .ref (ad 5)])) := rfl
theorem ye_3 (cs : Nat → ClassId) (ad : Nat → Nat) (σ : ST) (im : Nat → Option Nat) (rest : va_W) : (wY cs ad σ im rest)[3]? = some (ad 3, .inl (cs 0, 16, .inl (σ.2 3))) := rfl
theorem ye_4 (cs : Nat → ClassId) (ad : Nat → Nat) (σ : ST) (im : Nat → Option Nat) (rest : va_W) : (wY cs ad σ im rest)[4]? = some (ad 4, .inl (cs 0, 16, .inl (σ.2 4))) := rfl
theorem ye_5 (cs : Nat → ClassId) (ad : Nat → Nat) (σ : ST) (im : Nat → Option Nat) (rest : va_W) : (wY cs ad σ im rest)[5]? = some (ad 5, .inl (cs 0, 16, .inl (σ.2 5))) := rfl
theorem ye_6 (cs : Nat → ClassId) (ad : Nat → Nat) (σ : ST) (im : Nat → Option Nat) (rest : va_W) : (wY cs ad σ im rest)[6]? = some (ad 6, .inr (1, [.int (σ.1 384), .int (σ.1 385), .ref (ad 7), .ref (ad 8)])) := rfl
theorem ye_7 (cs : Nat → ClassId) (ad : Nat → Nat) (σ : ST) (im : Nat → Option Nat) (rest : va_W) : (wY cs ad σ im rest)[7]? = some (ad 7, .inl (cs 0, 256, .inl (σ.2 7))) := rfl
theorem ye_8 (cs : Nat → ClassId) (ad : Nat → Nat) (σ : ST) (im : Nat → Option Nat) (rest : va_W) : (wY cs ad σ im rest)[8]? = some (ad 8, .inl (cs 0, 16, .inl (σ.2 8))) := rfl
theorem ye_9 (cs : Nat → ClassId) (ad : Nat → Nat) (σ : ST) (im : Nat → Option Nat) (rest : va_W) : (wY cs ad σ im rest)[9]? = some (ad 9, .inl (cs 2, 4, .inr (.inr (.inr (.inr im))))) := rfl
theorem ye_10 (cs : Nat → ClassId) (ad : Nat → Nat) (σ : ST) (im : Nat → Option Nat) (rest : va_W) : (wY cs ad σ im rest)[10]? = some (ad 10, .inr (3, [.ref (ad 11), .ref (ad 12), .int (σ.1 642)])) := rfl
theorem ye_11 (cs : Nat → ClassId) (ad : Nat → Nat) (σ : ST) (im : Nat → Option Nat) (rest : va_W) : (wY cs ad σ im rest)[11]? = some (ad 11, .inl (cs 0, 8, .inl (σ.2 11))) := rfl
theorem ye_12 (cs : Nat → ClassId) (ad : Nat → Nat) (σ : ST) (im : Nat → Option Nat) (rest : va_W) : (wY cs ad σ im rest)[12]? = some (ad 12, .inl (cs 0, 8, .inl (σ.2 12))) := rfl
theorem ye_13 (cs : Nat → ClassId) (ad : Nat → Nat) (σ : ST) (im : Nat → Option Nat) (rest : va_W) : (wY cs ad σ im rest)[13]? = some (ad 13, .inr (5, [.int (σ.1 832), .ref (ad 14), .ref (ad 15), .ref (ad 16), .ref (ad 17)])) := rfl
theorem ye_14 (cs : Nat → ClassId) (ad : Nat → Nat) (σ : ST) (im : Nat → Option Nat) (rest : va_W) : (wY cs ad σ im rest)[14]? = some (ad 14, .inl (cs 0, 256, .inl (σ.2 14))) := rfl
theorem ye_15 (cs : Nat → ClassId) (ad : Nat → Nat) (σ : ST) (im : Nat → Option Nat) (rest : va_W) : (wY cs ad σ im rest)[15]? = some (ad 15, .inl (cs 0, 256, .inl (σ.2 15))) := rfl
theorem ye_16 (cs : Nat → ClassId) (ad : Nat → Nat) (σ : ST) (im : Nat → Option Nat) (rest : va_W) : (wY cs ad σ im rest)[16]? = some (ad 16, .inl (cs 0, 256, .inl (σ.2 16))) := rfl
theorem ye_17 (cs : Nat → ClassId) (ad : Nat → Nat) (σ : ST) (im : Nat → Option Nat) (rest : va_W) : (wY cs ad σ im rest)[17]? = some (ad 17, .inl (cs 0, 256, .inl (σ.2 17))) := rfl
theorem ye_18 (cs : Nat → ClassId) (ad : Nat → Nat) (σ : ST) (im : Nat → Option Nat) (rest : va_W) : (wY cs ad σ im rest)[18]? = some (ad 18, .inr (4, [.int (σ.1 1152), .int (σ.1 1153), .int (σ.1 1154), .int (σ.1 1155), .int (σ.1 1156), .int (σ.1 1157), .int (σ.1 1158), .ref (ad 19), .ref (ad 20), .ref (ad 21)])) := rfl
theorem ye_19 (cs : Nat → ClassId) (ad : Nat → Nat) (σ : ST) (im : Nat → Option Nat) (rest : va_W) : (wY cs ad σ im rest)[19]? = some (ad 19, .inl (cs 0, 256, .inl (σ.2 19))) := rfl
theorem ye_20 (cs : Nat → ClassId) (ad : Nat → Nat) (σ : ST) (im : Nat → Option Nat) (rest : va_W) : (wY cs ad σ im rest)[20]? = some (ad 20, .inl (cs 0, 16, .inl (σ.2 20))) := rfl
theorem ye_21 (cs : Nat → ClassId) (ad : Nat → Nat) (σ : ST) (im : Nat → Option Nat) (rest : va_W) : (wY cs ad σ im rest)[21]? = some (ad 21, .inl (cs 0, 16, .inl (σ.2 21))) := rfl
theorem ye_22 (cs : Nat → ClassId) (ad : Nat → Nat) (σ : ST) (im : Nat → Option Nat) (rest : va_W) : (wY cs ad σ im rest)[22]? = some (ad 22, .inr (0, [.ref (ad 23), .ref (ad 27), .int (σ.1 1410)])) := rfl
theorem ye_23 (cs : Nat → ClassId) (ad : Nat → Nat) (σ : ST) (im : Nat → Option Nat) (rest : va_W) : (wY cs ad σ im rest)[23]? = some (ad 23, .inr (2, [.int (σ.1 1472), .int (σ.1 1473), .ref (ad 24), .ref (ad 25), .ref (ad 26)])) := rfl
theorem ye_24 (cs : Nat → ClassId) (ad : Nat → Nat) (σ : ST) (im : Nat → Option Nat) (rest : va_W) : (wY cs ad σ im rest)[24]? = some (ad 24, .inl (cs 0, 16, .inl (σ.2 24))) := rfl
theorem ye_25 (cs : Nat → ClassId) (ad : Nat → Nat) (σ : ST) (im : Nat → Option Nat) (rest : va_W) : (wY cs ad σ im rest)[25]? = some (ad 25, .inl (cs 0, 16, .inl (σ.2 25))) := rfl
theorem ye_26 (cs : Nat → ClassId) (ad : Nat → Nat) (σ : ST) (im : Nat → Option Nat) (rest : va_W) : (wY cs ad σ im rest)[26]? = some (ad 26, .inl (cs 0, 16, .inl (σ.2 26))) := rfl
theorem ye_27 (cs : Nat → ClassId) (ad : Nat → Nat) (σ : ST) (im : Nat → Option Nat) (rest : va_W) : (wY cs ad σ im rest)[27]? = some (ad 27, .inr (1, [.int (σ.1 1728), .int (σ.1 1729), .ref (ad 28), .ref (ad 29)])) := rfl
theorem ye_28 (cs : Nat → ClassId) (ad : Nat → Nat) (σ : ST) (im : Nat → Option Nat) (rest : va_W) : (wY cs ad σ im rest)[28]? = some (ad 28, .inl (cs 0, 256, .inl (σ.2 28))) := rfl
theorem ye_29 (cs : Nat → ClassId) (ad : Nat → Nat) (σ : ST) (im : Nat → Option Nat) (rest : va_W) : (wY cs ad σ im rest)[29]? = some (ad 29, .inl (cs 0, 16, .inl (σ.2 29))) := rfl
theorem ys_1_2 (cs : Nat → ClassId) (ad : Nat → Nat) (σ : ST) (im : Nat → Option Nat) (rest : va_W) (v : Int32) : (wY cs ad σ im rest).set 1 (ad 1, .inr (0, ([.ref (ad 2), .ref (ad 6), .int (σ.1 66)] : List Value).set 2 (.int v))) = wY cs ad (sS σ 66 v) im rest := rfl
theorem ys_2_0 (cs : Nat → ClassId) (ad : Nat → Nat) (σ : ST) (im : Nat → Option Nat) (rest : va_W) (v : Int32) : (wY cs ad σ im rest).set 2 (ad 2, .inr (2, ([.int (σ.1 128), .int (σ.1 129), .ref (ad 3), .ref (ad 4), .ref (ad 5)] : List Value).set 0 (.int v))) = wY cs ad (sS σ 128 v) im rest := rfl
theorem ys_2_1 (cs : Nat → ClassId) (ad : Nat → Nat) (σ : ST) (im : Nat → Option Nat) (rest : va_W) (v : Int32) : (wY cs ad σ im rest).set 2 (ad 2, .inr (2, ([.int (σ.1 128), .int (σ.1 129), .ref (ad 3), .ref (ad 4), .ref (ad 5)] : List Value).set 1 (.int v))) = wY cs ad (sS σ 129 v) im rest := rfl
theorem ya_3 (cs : Nat → ClassId) (ad : Nat → Nat) (σ : ST) (im : Nat → Option Nat) (rest : va_W) (f : Nat → Int32) : (wY cs ad σ im rest).set 3 (ad 3, .inl (cs 0, 16, .inl f)) = wY cs ad (sA σ 3 f) im rest := rfl
theorem ya_4 (cs : Nat → ClassId) (ad : Nat → Nat) (σ : ST) (im : Nat → Option Nat) (rest : va_W) (f : Nat → Int32) : (wY cs ad σ im rest).set 4 (ad 4, .inl (cs 0, 16, .inl f)) = wY cs ad (sA σ 4 f) im rest := rfl
theorem ya_5 (cs : Nat → ClassId) (ad : Nat → Nat) (σ : ST) (im : Nat → Option Nat) (rest : va_W) (f : Nat → Int32) : (wY cs ad σ im rest).set 5 (ad 5, .inl (cs 0, 16, .inl f)) = wY cs ad (sA σ 5 f) im rest := rfl
theorem ys_6_0 (cs : Nat → ClassId) (ad : Nat → Nat) (σ : ST) (im : Nat → Option Nat) (rest : va_W) (v : Int32) : (wY cs ad σ im rest).set 6 (ad 6, .inr (1, ([.int (σ.1 384), .int (σ.1 385), .ref (ad 7), .ref (ad 8)] : List Value).set 0 (.int v))) = wY cs ad (sS σ 384 v) im rest := rfl
theorem ys_6_1 (cs : Nat → ClassId) (ad : Nat → Nat) (σ : ST) (im : Nat → Option Nat) (rest : va_W) (v : Int32) : (wY cs ad σ im rest).set 6 (ad 6, .inr (1, ([.int (σ.1 384), .int (σ.1 385), .ref (ad 7), .ref (ad 8)] : List Value).set 1 (.int v))) = wY cs ad (sS σ 385 v) im rest := rfl
theorem ya_7 (cs : Nat → ClassId) (ad : Nat → Nat) (σ : ST) (im : Nat → Option Nat) (rest : va_W) (f : Nat → Int32) : (wY cs ad σ im rest).set 7 (ad 7, .inl (cs 0, 256, .inl f)) = wY cs ad (sA σ 7 f) im rest := rfl
theorem ya_8 (cs : Nat → ClassId) (ad : Nat → Nat) (σ : ST) (im : Nat → Option Nat) (rest : va_W) (f : Nat → Int32) : (wY cs ad σ im rest).set 8 (ad 8, .inl (cs 0, 16, .inl f)) = wY cs ad (sA σ 8 f) im rest := rfl
theorem ys_10_2 (cs : Nat → ClassId) (ad : Nat → Nat) (σ : ST) (im : Nat → Option Nat) (rest : va_W) (v : Int32) : (wY cs ad σ im rest).set 10 (ad 10, .inr (3, ([.ref (ad 11), .ref (ad 12), .int (σ.1 642)] : List Value).set 2 (.int v))) = wY cs ad (sS σ 642 v) im rest := rfl
theorem ya_11 (cs : Nat → ClassId) (ad : Nat → Nat) (σ : ST) (im : Nat → Option Nat) (rest : va_W) (f : Nat → Int32) : (wY cs ad σ im rest).set 11 (ad 11, .inl (cs 0, 8, .inl f)) = wY cs ad (sA σ 11 f) im rest := rfl
theorem ya_12 (cs : Nat → ClassId) (ad : Nat → Nat) (σ : ST) (im : Nat → Option Nat) (rest : va_W) (f : Nat → Int32) : (wY cs ad σ im rest).set 12 (ad 12, .inl (cs 0, 8, .inl f)) = wY cs ad (sA σ 12 f) im rest := rfl
theorem ys_13_0 (cs : Nat → ClassId) (ad : Nat → Nat) (σ : ST) (im : Nat → Option Nat) (rest : va_W) (v : Int32) : (wY cs ad σ im rest).set 13 (ad 13, .inr (5, ([.int (σ.1 832), .ref (ad 14), .ref (ad 15), .ref (ad 16), .ref (ad 17)] : List Value).set 0 (.int v))) = wY cs ad (sS σ 832 v) im rest := rfl
theorem ya_14 (cs : Nat → ClassId) (ad : Nat → Nat) (σ : ST) (im : Nat → Option Nat) (rest : va_W) (f : Nat → Int32) : (wY cs ad σ im rest).set 14 (ad 14, .inl (cs 0, 256, .inl f)) = wY cs ad (sA σ 14 f) im rest := rfl
theorem ya_15 (cs : Nat → ClassId) (ad : Nat → Nat) (σ : ST) (im : Nat → Option Nat) (rest : va_W) (f : Nat → Int32) : (wY cs ad σ im rest).set 15 (ad 15, .inl (cs 0, 256, .inl f)) = wY cs ad (sA σ 15 f) im rest := rfl
theorem ya_16 (cs : Nat → ClassId) (ad : Nat → Nat) (σ : ST) (im : Nat → Option Nat) (rest : va_W) (f : Nat → Int32) : (wY cs ad σ im rest).set 16 (ad 16, .inl (cs 0, 256, .inl f)) = wY cs ad (sA σ 16 f) im rest := rfl
theorem ya_17 (cs : Nat → ClassId) (ad : Nat → Nat) (σ : ST) (im : Nat → Option Nat) (rest : va_W) (f : Nat → Int32) : (wY cs ad σ im rest).set 17 (ad 17, .inl (cs 0, 256, .inl f)) = wY cs ad (sA σ 17 f) im rest := rfl
theorem ys_18_0 (cs : Nat → ClassId) (ad : Nat → Nat) (σ : ST) (im : Nat → Option Nat) (rest : va_W) (v : Int32) : (wY cs ad σ im rest).set 18 (ad 18, .inr (4, ([.int (σ.1 1152), .int (σ.1 1153), .int (σ.1 1154), .int (σ.1 1155), .int (σ.1 1156), .int (σ.1 1157), .int (σ.1 1158), .ref (ad 19), .ref (ad 20), .ref (ad 21)] : List Value).set 0 (.int v))) = wY cs ad (sS σ 1152 v) im rest := rfl
theorem ys_18_1 (cs : Nat → ClassId) (ad : Nat → Nat) (σ : ST) (im : Nat → Option Nat) (rest : va_W) (v : Int32) : (wY cs ad σ im rest).set 18 (ad 18, .inr (4, ([.int (σ.1 1152), .int (σ.1 1153), .int (σ.1 1154), .int (σ.1 1155), .int (σ.1 1156), .int (σ.1 1157), .int (σ.1 1158), .ref (ad 19), .ref (ad 20), .ref (ad 21)] : List Value).set 1 (.int v))) = wY cs ad (sS σ 1153 v) im rest := rfl
theorem ys_18_2 (cs : Nat → ClassId) (ad : Nat → Nat) (σ : ST) (im : Nat → Option Nat) (rest : va_W) (v : Int32) : (wY cs ad σ im rest).set 18 (ad 18, .inr (4, ([.int (σ.1 1152), .int (σ.1 1153), .int (σ.1 1154), .int (σ.1 1155), .int (σ.1 1156), .int (σ.1 1157), .int (σ.1 1158), .ref (ad 19), .ref (ad 20), .ref (ad 21)] : List Value).set 2 (.int v))) = wY cs ad (sS σ 1154 v) im rest := rfl
theorem ys_18_3 (cs : Nat → ClassId) (ad : Nat → Nat) (σ : ST) (im : Nat → Option Nat) (rest : va_W) (v : Int32) : (wY cs ad σ im rest).set 18 (ad 18, .inr (4, ([.int (σ.1 1152), .int (σ.1 1153), .int (σ.1 1154), .int (σ.1 1155), .int (σ.1 1156), .int (σ.1 1157), .int (σ.1 1158), .ref (ad 19), .ref (ad 20), .ref (ad 21)] : List Value).set 3 (.int v))) = wY cs ad (sS σ 1155 v) im rest := rfl
theorem ys_18_4 (cs : Nat → ClassId) (ad : Nat → Nat) (σ : ST) (im : Nat → Option Nat) (rest : va_W) (v : Int32) : (wY cs ad σ im rest).set 18 (ad 18, .inr (4, ([.int (σ.1 1152), .int (σ.1 1153), .int (σ.1 1154), .int (σ.1 1155), .int (σ.1 1156), .int (σ.1 1157), .int (σ.1 1158), .ref (ad 19), .ref (ad 20), .ref (ad 21)] : List Value).set 4 (.int v))) = wY cs ad (sS σ 1156 v) im rest := rfl
theorem ys_18_5 (cs : Nat → ClassId) (ad : Nat → Nat) (σ : ST) (im : Nat → Option Nat) (rest : va_W) (v : Int32) : (wY cs ad σ im rest).set 18 (ad 18, .inr (4, ([.int (σ.1 1152), .int (σ.1 1153), .int (σ.1 1154), .int (σ.1 1155), .int (σ.1 1156), .int (σ.1 1157), .int (σ.1 1158), .ref (ad 19), .ref (ad 20), .ref (ad 21)] : List Value).set 5 (.int v))) = wY cs ad (sS σ 1157 v) im rest := rfl
theorem ys_18_6 (cs : Nat → ClassId) (ad : Nat → Nat) (σ : ST) (im : Nat → Option Nat) (rest : va_W) (v : Int32) : (wY cs ad σ im rest).set 18 (ad 18, .inr (4, ([.int (σ.1 1152), .int (σ.1 1153), .int (σ.1 1154), .int (σ.1 1155), .int (σ.1 1156), .int (σ.1 1157), .int (σ.1 1158), .ref (ad 19), .ref (ad 20), .ref (ad 21)] : List Value).set 6 (.int v))) = wY cs ad (sS σ 1158 v) im rest := rfl
theorem ya_19 (cs : Nat → ClassId) (ad : Nat → Nat) (σ : ST) (im : Nat → Option Nat) (rest : va_W) (f : Nat → Int32) : (wY cs ad σ im rest).set 19 (ad 19, .inl (cs 0, 256, .inl f)) = wY cs ad (sA σ 19 f) im rest := rfl
theorem ya_20 (cs : Nat → ClassId) (ad : Nat → Nat) (σ : ST) (im : Nat → Option Nat) (rest : va_W) (f : Nat → Int32) : (wY cs ad σ im rest).set 20 (ad 20, .inl (cs 0, 16, .inl f)) = wY cs ad (sA σ 20 f) im rest := rfl
theorem ya_21 (cs : Nat → ClassId) (ad : Nat → Nat) (σ : ST) (im : Nat → Option Nat) (rest : va_W) (f : Nat → Int32) : (wY cs ad σ im rest).set 21 (ad 21, .inl (cs 0, 16, .inl f)) = wY cs ad (sA σ 21 f) im rest := rfl
theorem ys_22_2 (cs : Nat → ClassId) (ad : Nat → Nat) (σ : ST) (im : Nat → Option Nat) (rest : va_W) (v : Int32) : (wY cs ad σ im rest).set 22 (ad 22, .inr (0, ([.ref (ad 23), .ref (ad 27), .int (σ.1 1410)] : List Value).set 2 (.int v))) = wY cs ad (sS σ 1410 v) im rest := rfl
theorem ys_23_0 (cs : Nat → ClassId) (ad : Nat → Nat) (σ : ST) (im : Nat → Option Nat) (rest : va_W) (v : Int32) : (wY cs ad σ im rest).set 23 (ad 23, .inr (2, ([.int (σ.1 1472), .int (σ.1 1473), .ref (ad 24), .ref (ad 25), .ref (ad 26)] : List Value).set 0 (.int v))) = wY cs ad (sS σ 1472 v) im rest := rfl
theorem ys_23_1 (cs : Nat → ClassId) (ad : Nat → Nat) (σ : ST) (im : Nat → Option Nat) (rest : va_W) (v : Int32) : (wY cs ad σ im rest).set 23 (ad 23, .inr (2, ([.int (σ.1 1472), .int (σ.1 1473), .ref (ad 24), .ref (ad 25), .ref (ad 26)] : List Value).set 1 (.int v))) = wY cs ad (sS σ 1473 v) im rest := rfl
theorem ya_24 (cs : Nat → ClassId) (ad : Nat → Nat) (σ : ST) (im : Nat → Option Nat) (rest : va_W) (f : Nat → Int32) : (wY cs ad σ im rest).set 24 (ad 24, .inl (cs 0, 16, .inl f)) = wY cs ad (sA σ 24 f) im rest := rfl
theorem ya_25 (cs : Nat → ClassId) (ad : Nat → Nat) (σ : ST) (im : Nat → Option Nat) (rest : va_W) (f : Nat → Int32) : (wY cs ad σ im rest).set 25 (ad 25, .inl (cs 0, 16, .inl f)) = wY cs ad (sA σ 25 f) im rest := rfl
theorem ya_26 (cs : Nat → ClassId) (ad : Nat → Nat) (σ : ST) (im : Nat → Option Nat) (rest : va_W) (f : Nat → Int32) : (wY cs ad σ im rest).set 26 (ad 26, .inl (cs 0, 16, .inl f)) = wY cs ad (sA σ 26 f) im rest := rfl
theorem ys_27_0 (cs : Nat → ClassId) (ad : Nat → Nat) (σ : ST) (im : Nat → Option Nat) (rest : va_W) (v : Int32) : (wY cs ad σ im rest).set 27 (ad 27, .inr (1, ([.int (σ.1 1728), .int (σ.1 1729), .ref (ad 28), .ref (ad 29)] : List Value).set 0 (.int v))) = wY cs ad (sS σ 1728 v) im rest := rfl
theorem ys_27_1 (cs : Nat → ClassId) (ad : Nat → Nat) (σ : ST) (im : Nat → Option Nat) (rest : va_W) (v : Int32) : (wY cs ad σ im rest).set 27 (ad 27, .inr (1, ([.int (σ.1 1728), .int (σ.1 1729), .ref (ad 28), .ref (ad 29)] : List Value).set 1 (.int v))) = wY cs ad (sS σ 1729 v) im rest := rfl
theorem ya_28 (cs : Nat → ClassId) (ad : Nat → Nat) (σ : ST) (im : Nat → Option Nat) (rest : va_W) (f : Nat → Int32) : (wY cs ad σ im rest).set 28 (ad 28, .inl (cs 0, 256, .inl f)) = wY cs ad (sA σ 28 f) im rest := rfl
theorem ya_29 (cs : Nat → ClassId) (ad : Nat → Nat) (σ : ST) (im : Nat → Option Nat) (rest : va_W) (f : Nat → Int32) : (wY cs ad σ im rest).set 29 (ad 29, .inl (cs 0, 16, .inl f)) = wY cs ad (sA σ 29 f) im rest := rfl
abbrev rm_copyN_xi : Room := { frames := 1, cells := 0, slots := 0, locals := 64 }
def f_copyN_xi (σ : ST) : Option (ST) :=
  nam (sS σ 128 (σ.1 1472)) fun σ1 =>
  nam (sS σ1 129 (σ1.1 1473)) fun σ2 =>
  nam (sA σ2 3 (va_cpy (σ2.2 24) (σ2.2 3) 0 0 16)) fun σ3 =>
  nam (sA σ3 4 (va_cpy (σ3.2 25) (σ3.2 4) 0 0 16)) fun σ4 =>
  nam (sA σ4 5 (va_cpy (σ4.2 26) (σ4.2 5) 0 0 16)) fun σ5 =>
  some σ5
theorem hf18_copyN_xi : Cond.fieldLink RX2 18 (TX2 4).1 (TX2 4).2.1 (TX2 4).2.2.1 ∈ wsX2_copyFrom := by decide +kernel
theorem hf15_copyN_xi : Cond.fieldLink RX2 15 (TX2 3).1 (TX2 3).2.1 (TX2 3).2.2.1 ∈ wsX2_copyFrom := by decide +kernel
theorem hyi_copyN_xi : Cond.initialized "java/lang/System" ∈ wsX2_copyFrom := by decide +kernel
theorem hys_copyN_xi : Cond.static arraycopyName ∈ wsX2_copyFrom := by decide +kernel
theorem hyn_copyN_xi : Cond.native arraycopyName ∈ wsX2_copyFrom := by decide +kernel
theorem hy51_copyN_xi : Cond.methodLink RX2 51 arraycopyName ∈ wsX2_copyFrom := by decide +kernel
theorem hf9_copyN_xi : Cond.fieldLink RX2 9 (TX2 2).1 (TX2 2).2.1 (TX2 2).2.2.1 ∈ wsX2_copyFrom := by decide +kernel
theorem hf25_copyN_xi : Cond.fieldLink RX2 25 (TX2 1).1 (TX2 1).2.1 (TX2 1).2.2.1 ∈ wsX2_copyFrom := by decide +kernel
theorem hf21_copyN_xi : Cond.fieldLink RX2 21 (TX2 0).1 (TX2 0).2.1 (TX2 0).2.2.1 ∈ wsX2_copyFrom := by decide +kernel
theorem hi2_copyN_xi : ∀ w ∈ u_ws RX2 TX2 5, w ∈ wsX2_copyFrom := by decide +kernel
set_option maxHeartbeats 4000000 in
set_option maxRecDepth 100000 in
theorem c_copyN_xi {l : Launch} {D : va_G} {cs : Nat → ClassId} {ad : Nat → Nat} {im : Nat → Option Nat} {rest : va_W} {σ : ST} {o : ST} (h : f_copyN_xi σ = some o) : CTv l D cs yX2_copyFrom wsX2_copyFrom rm_copyN_xi [.ref (ad 2), .ref (ad 23)] (wY cs ad σ im rest) (wY cs ad o im rest) := by
  refine CTv_of (cc := cX2_copyFrom) (nL := 2) (by decide) rfl (Nat.le_of_ble_eq_true rfl) ?_
  intro K C hret
  unfold f_copyN_xi at h
  refine X_loc (vs1 := [(0, .ref (ad 2)), (1, .ref (ad 23))]) [0, 1] rfl ?_
  refine X_aload_n C 0 rfl rfl dX2_copyFrom_0 ?_
  refine X_aload_n C 1 rfl rfl dX2_copyFrom_1 ?_
  refine X_get C 23 0 hi2_copyN_xi hf21_copyN_xi (ye_23 _ _ _ _ _) rfl (by decide) rfl dX2_copyFrom_2 ?_
  refine X_put (ty := .int) C 2 0 hi2_copyN_xi hf21_copyN_xi tyX2 tyX2_ok nmX2 (ye_2 _ _ _ _ _) rfl (by decide) rfl (by decide +kernel) rfl rfl (Nat.le_of_ble_eq_true rfl) (ys_2_0 _ _ _ _ _ _) dX2_copyFrom_5 ?_
  refine X_nam (G := fun σ1 => XW l D K 0 0 (wY cs ad σ1 im rest) 8 [(0, .ref (ad 2)), (1, .ref (ad 23))] []) h (fun σ1 h => ?_)
  refine X_aload_n C 0 rfl rfl dX2_copyFrom_8 ?_
  refine X_aload_n C 1 rfl rfl dX2_copyFrom_9 ?_
  refine X_get C 23 1 hi2_copyN_xi hf25_copyN_xi (ye_23 _ _ _ _ _) rfl (by decide) rfl dX2_copyFrom_10 ?_
  refine X_put (ty := .int) C 2 1 hi2_copyN_xi hf25_copyN_xi tyX2 tyX2_ok nmX2 (ye_2 _ _ _ _ _) rfl (by decide) rfl (by decide +kernel) rfl rfl (Nat.le_of_ble_eq_true rfl) (ys_2_1 _ _ _ _ _ _) dX2_copyFrom_13 ?_
  refine X_nam (G := fun σ2 => XW l D K 0 0 (wY cs ad σ2 im rest) 16 [(0, .ref (ad 2)), (1, .ref (ad 23))] []) h (fun σ2 h => ?_)
  refine X_aload_n C 1 rfl rfl dX2_copyFrom_16 ?_
  refine X_get C 23 2 hi2_copyN_xi hf9_copyN_xi (ye_23 _ _ _ _ _) rfl (by decide) rfl dX2_copyFrom_17 ?_
  refine X_iconst (v := 0) C (by decide) dX2_copyFrom_20 ?_
  refine X_aload_n C 0 rfl rfl dX2_copyFrom_21 ?_
  refine X_get C 2 2 hi2_copyN_xi hf9_copyN_xi (ye_2 _ _ _ _ _) rfl (by decide) rfl dX2_copyFrom_22 ?_
  refine X_iconst (v := 0) C (by decide) dX2_copyFrom_25 ?_
  refine X_bipush (v := 16) C (by decide) dX2_copyFrom_26 ?_
  refine X_copy C 24 3 hy51_copyN_xi hyn_copyN_xi hys_copyN_xi hyi_copyN_xi (ye_24 _ _ _ _ _) (ye_3 _ _ _ _ _) (by decide) (by decide) (by decide) (by decide) (by decide) (Nat.le_of_ble_eq_true rfl) (by decide) (ya_3 _ _ _ _ _ _) dX2_copyFrom_28 ?_
  refine X_nam (G := fun σ3 => XW l D K 0 0 (wY cs ad σ3 im rest) 31 [(0, .ref (ad 2)), (1, .ref (ad 23))] []) h (fun σ3 h => ?_)
  refine X_aload_n C 1 rfl rfl dX2_copyFrom_31 ?_
  refine X_get C 23 3 hi2_copyN_xi hf15_copyN_xi (ye_23 _ _ _ _ _) rfl (by decide) rfl dX2_copyFrom_32 ?_
  refine X_iconst (v := 0) C (by decide) dX2_copyFrom_35 ?_
  refine X_aload_n C 0 rfl rfl dX2_copyFrom_36 ?_
  refine X_get C 2 3 hi2_copyN_xi hf15_copyN_xi (ye_2 _ _ _ _ _) rfl (by decide) rfl dX2_copyFrom_37 ?_
  refine X_iconst (v := 0) C (by decide) dX2_copyFrom_40 ?_
  refine X_bipush (v := 16) C (by decide) dX2_copyFrom_41 ?_
  refine X_copy C 25 4 hy51_copyN_xi hyn_copyN_xi hys_copyN_xi hyi_copyN_xi (ye_25 _ _ _ _ _) (ye_4 _ _ _ _ _) (by decide) (by decide) (by decide) (by decide) (by decide) (Nat.le_of_ble_eq_true rfl) (by decide) (ya_4 _ _ _ _ _ _) dX2_copyFrom_43 ?_
  refine X_nam (G := fun σ4 => XW l D K 0 0 (wY cs ad σ4 im rest) 46 [(0, .ref (ad 2)), (1, .ref (ad 23))] []) h (fun σ4 h => ?_)
  refine X_aload_n C 1 rfl rfl dX2_copyFrom_46 ?_
  refine X_get C 23 4 hi2_copyN_xi hf18_copyN_xi (ye_23 _ _ _ _ _) rfl (by decide) rfl dX2_copyFrom_47 ?_
  refine X_iconst (v := 0) C (by decide) dX2_copyFrom_50 ?_
  refine X_aload_n C 0 rfl rfl dX2_copyFrom_51 ?_
  refine X_get C 2 4 hi2_copyN_xi hf18_copyN_xi (ye_2 _ _ _ _ _) rfl (by decide) rfl dX2_copyFrom_52 ?_
  refine X_iconst (v := 0) C (by decide) dX2_copyFrom_55 ?_
  refine X_bipush (v := 16) C (by decide) dX2_copyFrom_56 ?_
  refine X_copy C 26 5 hy51_copyN_xi hyn_copyN_xi hys_copyN_xi hyi_copyN_xi (ye_26 _ _ _ _ _) (ye_5 _ _ _ _ _) (by decide) (by decide) (by decide) (by decide) (by decide) (Nat.le_of_ble_eq_true rfl) (by decide) (ya_5 _ _ _ _ _ _) dX2_copyFrom_58 ?_
  refine X_nam (G := fun σ5 => XW l D K 0 0 (wY cs ad σ5 im rest) 61 [(0, .ref (ad 2)), (1, .ref (ad 23))] []) h (fun σ5 h => ?_)
  obtain rfl := Option.some.inj h
  exact hret _ _ dX2_copyFrom_61

abbrev rm_copyF_xi : Room := { frames := 1, cells := 0, slots := 0, locals := 64 }
def f_copyF_xi (σ : ST) : Option (ST) :=
  grd (jz (σ.1 1728)) <|
  nam (sS σ 384 (σ.1 1728)) fun σ1 =>
  nam (sS σ1 385 (σ1.1 1729)) fun σ2 =>
  nam (sA σ2 7 (va_cpy (σ2.2 28) (σ2.2 7) 0 0 256)) fun σ3 =>
  nam (sA σ3 8 (va_cpy (σ3.2 29) (σ3.2 8) 0 0 16)) fun σ4 =>
  some σ4
theorem hf15_copyF_xi : Cond.fieldLink RX1 15 (TX1 3).1 (TX1 3).2.1 (TX1 3).2.2.1 ∈ wsX1_copyFrom := by decide +kernel
theorem hyi_copyF_xi : Cond.initialized "java/lang/System" ∈ wsX1_copyFrom := by decide +kernel
theorem hys_copyF_xi : Cond.static arraycopyName ∈ wsX1_copyFrom := by decide +kernel
theorem hyn_copyF_xi : Cond.native arraycopyName ∈ wsX1_copyFrom := by decide +kernel
theorem hy61_copyF_xi : Cond.methodLink RX1 61 arraycopyName ∈ wsX1_copyFrom := by decide +kernel
theorem hf9_copyF_xi : Cond.fieldLink RX1 9 (TX1 2).1 (TX1 2).2.1 (TX1 2).2.2.1 ∈ wsX1_copyFrom := by decide +kernel
theorem hf26_copyF_xi : Cond.fieldLink RX1 26 (TX1 1).1 (TX1 1).2.1 (TX1 1).2.2.1 ∈ wsX1_copyFrom := by decide +kernel
theorem hf22_copyF_xi : Cond.fieldLink RX1 22 (TX1 0).1 (TX1 0).2.1 (TX1 0).2.2.1 ∈ wsX1_copyFrom := by decide +kernel
theorem hi1_copyF_xi : ∀ w ∈ u_ws RX1 TX1 4, w ∈ wsX1_copyFrom := by decide +kernel
set_option maxHeartbeats 4000000 in
set_option maxRecDepth 100000 in
theorem c_copyF_xi {l : Launch} {D : va_G} {cs : Nat → ClassId} {ad : Nat → Nat} {im : Nat → Option Nat} {rest : va_W} {σ : ST} {o : ST} (h : f_copyF_xi σ = some o) : CTv l D cs yX1_copyFrom wsX1_copyFrom rm_copyF_xi [.ref (ad 6), .ref (ad 27)] (wY cs ad σ im rest) (wY cs ad o im rest) := by
  refine CTv_of (cc := cX1_copyFrom) (nL := 2) (by decide) rfl (Nat.le_of_ble_eq_true rfl) ?_
  intro K C hret
  unfold f_copyF_xi at h
  refine X_loc (vs1 := [(0, .ref (ad 6)), (1, .ref (ad 27))]) [0, 1] rfl ?_
  refine X_aload_n C 0 rfl rfl dX1_copyFrom_0 ?_
  refine X_aload_n C 1 rfl rfl dX1_copyFrom_1 ?_
  refine X_get C 27 0 hi1_copyF_xi hf22_copyF_xi (ye_27 _ _ _ _ _) rfl (by decide) rfl dX1_copyFrom_2 ?_
  obtain ⟨hz, h⟩ := grd_some h
  refine X_put (ty := .boolean) C 6 0 hi1_copyF_xi hf22_copyF_xi tyX1 tyX1_ok nmX1 (ye_6 _ _ _ _ _) rfl (by decide) rfl (by decide +kernel) (jz_nar hz) (jz_fit hz) (Nat.le_of_ble_eq_true rfl) (ys_6_0 _ _ _ _ _ _) dX1_copyFrom_5 ?_
  refine X_nam (G := fun σ1 => XW l D K 0 0 (wY cs ad σ1 im rest) 8 [(0, .ref (ad 6)), (1, .ref (ad 27))] []) h (fun σ1 h => ?_)
  refine X_aload_n C 0 rfl rfl dX1_copyFrom_8 ?_
  refine X_aload_n C 1 rfl rfl dX1_copyFrom_9 ?_
  refine X_get C 27 1 hi1_copyF_xi hf26_copyF_xi (ye_27 _ _ _ _ _) rfl (by decide) rfl dX1_copyFrom_10 ?_
  refine X_put (ty := .int) C 6 1 hi1_copyF_xi hf26_copyF_xi tyX1 tyX1_ok nmX1 (ye_6 _ _ _ _ _) rfl (by decide) rfl (by decide +kernel) rfl rfl (Nat.le_of_ble_eq_true rfl) (ys_6_1 _ _ _ _ _ _) dX1_copyFrom_13 ?_
  refine X_nam (G := fun σ2 => XW l D K 0 0 (wY cs ad σ2 im rest) 16 [(0, .ref (ad 6)), (1, .ref (ad 27))] []) h (fun σ2 h => ?_)
  refine X_aload_n C 1 rfl rfl dX1_copyFrom_16 ?_
  refine X_get C 27 2 hi1_copyF_xi hf9_copyF_xi (ye_27 _ _ _ _ _) rfl (by decide) rfl dX1_copyFrom_17 ?_
  refine X_iconst (v := 0) C (by decide) dX1_copyFrom_20 ?_
  refine X_aload_n C 0 rfl rfl dX1_copyFrom_21 ?_
  refine X_get C 6 2 hi1_copyF_xi hf9_copyF_xi (ye_6 _ _ _ _ _) rfl (by decide) rfl dX1_copyFrom_22 ?_
  refine X_iconst (v := 0) C (by decide) dX1_copyFrom_25 ?_
  refine X_sipush (v := 256) C (by decide) dX1_copyFrom_26 ?_
  refine X_copy C 28 7 hy61_copyF_xi hyn_copyF_xi hys_copyF_xi hyi_copyF_xi (ye_28 _ _ _ _ _) (ye_7 _ _ _ _ _) (by decide) (by decide) (by decide) (by decide) (by decide) (Nat.le_of_ble_eq_true rfl) (by decide) (ya_7 _ _ _ _ _ _) dX1_copyFrom_29 ?_
  refine X_nam (G := fun σ3 => XW l D K 0 0 (wY cs ad σ3 im rest) 32 [(0, .ref (ad 6)), (1, .ref (ad 27))] []) h (fun σ3 h => ?_)
  refine X_aload_n C 1 rfl rfl dX1_copyFrom_32 ?_
  refine X_get C 27 3 hi1_copyF_xi hf15_copyF_xi (ye_27 _ _ _ _ _) rfl (by decide) rfl dX1_copyFrom_33 ?_
  refine X_iconst (v := 0) C (by decide) dX1_copyFrom_36 ?_
  refine X_aload_n C 0 rfl rfl dX1_copyFrom_37 ?_
  refine X_get C 6 3 hi1_copyF_xi hf15_copyF_xi (ye_6 _ _ _ _ _) rfl (by decide) rfl dX1_copyFrom_38 ?_
  refine X_iconst (v := 0) C (by decide) dX1_copyFrom_41 ?_
  refine X_bipush (v := 16) C (by decide) dX1_copyFrom_42 ?_
  refine X_copy C 29 8 hy61_copyF_xi hyn_copyF_xi hys_copyF_xi hyi_copyF_xi (ye_29 _ _ _ _ _) (ye_8 _ _ _ _ _) (by decide) (by decide) (by decide) (by decide) (by decide) (Nat.le_of_ble_eq_true rfl) (by decide) (ya_8 _ _ _ _ _ _) dX1_copyFrom_44 ?_
  refine X_nam (G := fun σ4 => XW l D K 0 0 (wY cs ad σ4 im rest) 47 [(0, .ref (ad 6)), (1, .ref (ad 27))] []) h (fun σ4 h => ?_)
  obtain rfl := Option.some.inj h
  exact hret _ _ dX1_copyFrom_47

abbrev rm_copyB_xi : Room := { frames := 2, cells := 0, slots := 0, locals := 85 }
def f_copyB_xi (σ : ST) : Option (ST) :=
  bnd (f_copyN_xi σ) fun o1 =>
  bnd (f_copyF_xi o1) fun o2 =>
  nam (sS o2 66 (o2.1 1410)) fun σ3 =>
  some σ3
theorem hf30_copyB_xi : Cond.fieldLink RX0 30 (TX0 2).1 (TX0 2).2.1 (TX0 2).2.2.1 ∈ wsX0_copyFrom := by decide +kernel
theorem hf19_copyB_xi : Cond.fieldLink RX0 19 (TX0 1).1 (TX0 1).2.1 (TX0 1).2.2.1 ∈ wsX0_copyFrom := by decide +kernel
theorem hf10_copyB_xi : Cond.fieldLink RX0 10 (TX0 0).1 (TX0 0).2.1 (TX0 0).2.2.1 ∈ wsX0_copyFrom := by decide +kernel
theorem hi0_copyB_xi : ∀ w ∈ u_ws RX0 TX0 3, w ∈ wsX0_copyFrom := by decide +kernel
set_option maxHeartbeats 4000000 in
set_option maxRecDepth 100000 in
theorem c_copyB_xi {l : Launch} {D : va_G} {cs : Nat → ClassId} {ad : Nat → Nat} {im : Nat → Option Nat} {rest : va_W} {σ : ST} {o : ST} (h : f_copyB_xi σ = some o) : CTv l D cs yX0_copyFrom wsX0_copyFrom rm_copyB_xi [.ref (ad 1), .ref (ad 22)] (wY cs ad σ im rest) (wY cs ad o im rest) := by
  refine CTv_of (cc := cX0_copyFrom) (nL := 2) (by decide) rfl (Nat.le_of_ble_eq_true rfl) ?_
  intro K C hret
  unfold f_copyB_xi at h
  refine X_loc (vs1 := [(0, .ref (ad 1)), (1, .ref (ad 22))]) [0, 1] rfl ?_
  refine X_aload_n C 0 rfl rfl dX0_copyFrom_0 ?_
  refine X_get C 1 0 hi0_copyB_xi hf10_copyB_xi (ye_1 _ _ _ _ _) rfl (by decide) rfl dX0_copyFrom_1 ?_
  refine X_aload_n C 1 rfl rfl dX0_copyFrom_4 ?_
  refine X_get C 22 0 hi0_copyB_xi hf10_copyB_xi (ye_22 _ _ _ _ _) rfl (by decide) rfl dX0_copyFrom_5 ?_
  obtain ⟨o1, eo1, h⟩ := bnd_some h
  refine X_callVv C (n := 1) (As := [.ref (ad 23)]) (c_copyN_xi eo1) rfl gX0_copyFrom_X2_copyFrom rfl rfl (ye_2 _ _ _ _ _) rfl rfl (by decide +kernel) ⟨Nat.le_of_ble_eq_true rfl, Nat.le_of_ble_eq_true rfl⟩ ⟨Nat.zero_le _, Nat.zero_le _⟩ rfl rfl (Nat.le_of_ble_eq_true rfl) dX0_copyFrom_8 ?_
  refine X_aload_n C 0 rfl rfl dX0_copyFrom_11 ?_
  refine X_get C 1 1 hi0_copyB_xi hf19_copyB_xi (ye_1 _ _ _ _ _) rfl (by decide) rfl dX0_copyFrom_12 ?_
  refine X_aload_n C 1 rfl rfl dX0_copyFrom_15 ?_
  refine X_get C 22 1 hi0_copyB_xi hf19_copyB_xi (ye_22 _ _ _ _ _) rfl (by decide) rfl dX0_copyFrom_16 ?_
  obtain ⟨o2, eo2, h⟩ := bnd_some h
  refine X_callVv C (n := 1) (As := [.ref (ad 27)]) (c_copyF_xi eo2) rfl gX0_copyFrom_X1_copyFrom rfl rfl (ye_6 _ _ _ _ _) rfl rfl (by decide +kernel) ⟨Nat.le_of_ble_eq_true rfl, Nat.le_of_ble_eq_true rfl⟩ ⟨Nat.zero_le _, Nat.zero_le _⟩ rfl rfl (Nat.le_of_ble_eq_true rfl) dX0_copyFrom_19 ?_
  refine X_aload_n C 0 rfl rfl dX0_copyFrom_22 ?_
  refine X_aload_n C 1 rfl rfl dX0_copyFrom_23 ?_
  refine X_get C 22 2 hi0_copyB_xi hf30_copyB_xi (ye_22 _ _ _ _ _) rfl (by decide) rfl dX0_copyFrom_24 ?_
  refine X_put (ty := .int) C 1 2 hi0_copyB_xi hf30_copyB_xi tyX0 tyX0_ok nmX0 (ye_1 _ _ _ _ _) rfl (by decide) rfl (by decide +kernel) rfl rfl (Nat.le_of_ble_eq_true rfl) (ys_1_2 _ _ _ _ _ _) dX0_copyFrom_27 ?_
  refine X_nam (G := fun σ3 => XW l D K 0 0 (wY cs ad σ3 im rest) 30 [(0, .ref (ad 1)), (1, .ref (ad 22))] []) h (fun σ3 h => ?_)
  obtain rfl := Option.some.inj h
  exact hret _ _ dX0_copyFrom_30

abbrev rm_copyN_ix : Room := { frames := 1, cells := 0, slots := 0, locals := 64 }
def f_copyN_ix (σ : ST) : Option (ST) :=
  nam (sS σ 1472 (σ.1 128)) fun σ1 =>
  nam (sS σ1 1473 (σ1.1 129)) fun σ2 =>
  nam (sA σ2 24 (va_cpy (σ2.2 3) (σ2.2 24) 0 0 16)) fun σ3 =>
  nam (sA σ3 25 (va_cpy (σ3.2 4) (σ3.2 25) 0 0 16)) fun σ4 =>
  nam (sA σ4 26 (va_cpy (σ4.2 5) (σ4.2 26) 0 0 16)) fun σ5 =>
  some σ5
theorem hf18_copyN_ix : Cond.fieldLink RX2 18 (TX2 4).1 (TX2 4).2.1 (TX2 4).2.2.1 ∈ wsX2_copyFrom := by decide +kernel
theorem hf15_copyN_ix : Cond.fieldLink RX2 15 (TX2 3).1 (TX2 3).2.1 (TX2 3).2.2.1 ∈ wsX2_copyFrom := by decide +kernel
theorem hyi_copyN_ix : Cond.initialized "java/lang/System" ∈ wsX2_copyFrom := by decide +kernel
theorem hys_copyN_ix : Cond.static arraycopyName ∈ wsX2_copyFrom := by decide +kernel
theorem hyn_copyN_ix : Cond.native arraycopyName ∈ wsX2_copyFrom := by decide +kernel
theorem hy51_copyN_ix : Cond.methodLink RX2 51 arraycopyName ∈ wsX2_copyFrom := by decide +kernel
theorem hf9_copyN_ix : Cond.fieldLink RX2 9 (TX2 2).1 (TX2 2).2.1 (TX2 2).2.2.1 ∈ wsX2_copyFrom := by decide +kernel
theorem hf25_copyN_ix : Cond.fieldLink RX2 25 (TX2 1).1 (TX2 1).2.1 (TX2 1).2.2.1 ∈ wsX2_copyFrom := by decide +kernel
theorem hf21_copyN_ix : Cond.fieldLink RX2 21 (TX2 0).1 (TX2 0).2.1 (TX2 0).2.2.1 ∈ wsX2_copyFrom := by decide +kernel
theorem hi2_copyN_ix : ∀ w ∈ u_ws RX2 TX2 5, w ∈ wsX2_copyFrom := by decide +kernel
set_option maxHeartbeats 4000000 in
set_option maxRecDepth 100000 in
theorem c_copyN_ix {l : Launch} {D : va_G} {cs : Nat → ClassId} {ad : Nat → Nat} {im : Nat → Option Nat} {rest : va_W} {σ : ST} {o : ST} (h : f_copyN_ix σ = some o) : CTv l D cs yX2_copyFrom wsX2_copyFrom rm_copyN_ix [.ref (ad 23), .ref (ad 2)] (wY cs ad σ im rest) (wY cs ad o im rest) := by
  refine CTv_of (cc := cX2_copyFrom) (nL := 2) (by decide) rfl (Nat.le_of_ble_eq_true rfl) ?_
  intro K C hret
  unfold f_copyN_ix at h
  refine X_loc (vs1 := [(0, .ref (ad 23)), (1, .ref (ad 2))]) [0, 1] rfl ?_
  refine X_aload_n C 0 rfl rfl dX2_copyFrom_0 ?_
  refine X_aload_n C 1 rfl rfl dX2_copyFrom_1 ?_
  refine X_get C 2 0 hi2_copyN_ix hf21_copyN_ix (ye_2 _ _ _ _ _) rfl (by decide) rfl dX2_copyFrom_2 ?_
  refine X_put (ty := .int) C 23 0 hi2_copyN_ix hf21_copyN_ix tyX2 tyX2_ok nmX2 (ye_23 _ _ _ _ _) rfl (by decide) rfl (by decide +kernel) rfl rfl (Nat.le_of_ble_eq_true rfl) (ys_23_0 _ _ _ _ _ _) dX2_copyFrom_5 ?_
  refine X_nam (G := fun σ1 => XW l D K 0 0 (wY cs ad σ1 im rest) 8 [(0, .ref (ad 23)), (1, .ref (ad 2))] []) h (fun σ1 h => ?_)
  refine X_aload_n C 0 rfl rfl dX2_copyFrom_8 ?_
  refine X_aload_n C 1 rfl rfl dX2_copyFrom_9 ?_
  refine X_get C 2 1 hi2_copyN_ix hf25_copyN_ix (ye_2 _ _ _ _ _) rfl (by decide) rfl dX2_copyFrom_10 ?_
  refine X_put (ty := .int) C 23 1 hi2_copyN_ix hf25_copyN_ix tyX2 tyX2_ok nmX2 (ye_23 _ _ _ _ _) rfl (by decide) rfl (by decide +kernel) rfl rfl (Nat.le_of_ble_eq_true rfl) (ys_23_1 _ _ _ _ _ _) dX2_copyFrom_13 ?_
  refine X_nam (G := fun σ2 => XW l D K 0 0 (wY cs ad σ2 im rest) 16 [(0, .ref (ad 23)), (1, .ref (ad 2))] []) h (fun σ2 h => ?_)
  refine X_aload_n C 1 rfl rfl dX2_copyFrom_16 ?_
  refine X_get C 2 2 hi2_copyN_ix hf9_copyN_ix (ye_2 _ _ _ _ _) rfl (by decide) rfl dX2_copyFrom_17 ?_
  refine X_iconst (v := 0) C (by decide) dX2_copyFrom_20 ?_
  refine X_aload_n C 0 rfl rfl dX2_copyFrom_21 ?_
  refine X_get C 23 2 hi2_copyN_ix hf9_copyN_ix (ye_23 _ _ _ _ _) rfl (by decide) rfl dX2_copyFrom_22 ?_
  refine X_iconst (v := 0) C (by decide) dX2_copyFrom_25 ?_
  refine X_bipush (v := 16) C (by decide) dX2_copyFrom_26 ?_
  refine X_copy C 3 24 hy51_copyN_ix hyn_copyN_ix hys_copyN_ix hyi_copyN_ix (ye_3 _ _ _ _ _) (ye_24 _ _ _ _ _) (by decide) (by decide) (by decide) (by decide) (by decide) (Nat.le_of_ble_eq_true rfl) (by decide) (ya_24 _ _ _ _ _ _) dX2_copyFrom_28 ?_
  refine X_nam (G := fun σ3 => XW l D K 0 0 (wY cs ad σ3 im rest) 31 [(0, .ref (ad 23)), (1, .ref (ad 2))] []) h (fun σ3 h => ?_)
  refine X_aload_n C 1 rfl rfl dX2_copyFrom_31 ?_
  refine X_get C 2 3 hi2_copyN_ix hf15_copyN_ix (ye_2 _ _ _ _ _) rfl (by decide) rfl dX2_copyFrom_32 ?_
  refine X_iconst (v := 0) C (by decide) dX2_copyFrom_35 ?_
  refine X_aload_n C 0 rfl rfl dX2_copyFrom_36 ?_
  refine X_get C 23 3 hi2_copyN_ix hf15_copyN_ix (ye_23 _ _ _ _ _) rfl (by decide) rfl dX2_copyFrom_37 ?_
  refine X_iconst (v := 0) C (by decide) dX2_copyFrom_40 ?_
  refine X_bipush (v := 16) C (by decide) dX2_copyFrom_41 ?_
  refine X_copy C 4 25 hy51_copyN_ix hyn_copyN_ix hys_copyN_ix hyi_copyN_ix (ye_4 _ _ _ _ _) (ye_25 _ _ _ _ _) (by decide) (by decide) (by decide) (by decide) (by decide) (Nat.le_of_ble_eq_true rfl) (by decide) (ya_25 _ _ _ _ _ _) dX2_copyFrom_43 ?_
  refine X_nam (G := fun σ4 => XW l D K 0 0 (wY cs ad σ4 im rest) 46 [(0, .ref (ad 23)), (1, .ref (ad 2))] []) h (fun σ4 h => ?_)
  refine X_aload_n C 1 rfl rfl dX2_copyFrom_46 ?_
  refine X_get C 2 4 hi2_copyN_ix hf18_copyN_ix (ye_2 _ _ _ _ _) rfl (by decide) rfl dX2_copyFrom_47 ?_
  refine X_iconst (v := 0) C (by decide) dX2_copyFrom_50 ?_
  refine X_aload_n C 0 rfl rfl dX2_copyFrom_51 ?_
  refine X_get C 23 4 hi2_copyN_ix hf18_copyN_ix (ye_23 _ _ _ _ _) rfl (by decide) rfl dX2_copyFrom_52 ?_
  refine X_iconst (v := 0) C (by decide) dX2_copyFrom_55 ?_
  refine X_bipush (v := 16) C (by decide) dX2_copyFrom_56 ?_
  refine X_copy C 5 26 hy51_copyN_ix hyn_copyN_ix hys_copyN_ix hyi_copyN_ix (ye_5 _ _ _ _ _) (ye_26 _ _ _ _ _) (by decide) (by decide) (by decide) (by decide) (by decide) (Nat.le_of_ble_eq_true rfl) (by decide) (ya_26 _ _ _ _ _ _) dX2_copyFrom_58 ?_
  refine X_nam (G := fun σ5 => XW l D K 0 0 (wY cs ad σ5 im rest) 61 [(0, .ref (ad 23)), (1, .ref (ad 2))] []) h (fun σ5 h => ?_)
  obtain rfl := Option.some.inj h
  exact hret _ _ dX2_copyFrom_61

abbrev rm_copyF_ix : Room := { frames := 1, cells := 0, slots := 0, locals := 64 }
def f_copyF_ix (σ : ST) : Option (ST) :=
  grd (jz (σ.1 384)) <|
  nam (sS σ 1728 (σ.1 384)) fun σ1 =>
  nam (sS σ1 1729 (σ1.1 385)) fun σ2 =>
  nam (sA σ2 28 (va_cpy (σ2.2 7) (σ2.2 28) 0 0 256)) fun σ3 =>
  nam (sA σ3 29 (va_cpy (σ3.2 8) (σ3.2 29) 0 0 16)) fun σ4 =>
  some σ4
theorem hf15_copyF_ix : Cond.fieldLink RX1 15 (TX1 3).1 (TX1 3).2.1 (TX1 3).2.2.1 ∈ wsX1_copyFrom := by decide +kernel
theorem hyi_copyF_ix : Cond.initialized "java/lang/System" ∈ wsX1_copyFrom := by decide +kernel
theorem hys_copyF_ix : Cond.static arraycopyName ∈ wsX1_copyFrom := by decide +kernel
theorem hyn_copyF_ix : Cond.native arraycopyName ∈ wsX1_copyFrom := by decide +kernel
theorem hy61_copyF_ix : Cond.methodLink RX1 61 arraycopyName ∈ wsX1_copyFrom := by decide +kernel
theorem hf9_copyF_ix : Cond.fieldLink RX1 9 (TX1 2).1 (TX1 2).2.1 (TX1 2).2.2.1 ∈ wsX1_copyFrom := by decide +kernel
theorem hf26_copyF_ix : Cond.fieldLink RX1 26 (TX1 1).1 (TX1 1).2.1 (TX1 1).2.2.1 ∈ wsX1_copyFrom := by decide +kernel
theorem hf22_copyF_ix : Cond.fieldLink RX1 22 (TX1 0).1 (TX1 0).2.1 (TX1 0).2.2.1 ∈ wsX1_copyFrom := by decide +kernel
theorem hi1_copyF_ix : ∀ w ∈ u_ws RX1 TX1 4, w ∈ wsX1_copyFrom := by decide +kernel
set_option maxHeartbeats 4000000 in
set_option maxRecDepth 100000 in
theorem c_copyF_ix {l : Launch} {D : va_G} {cs : Nat → ClassId} {ad : Nat → Nat} {im : Nat → Option Nat} {rest : va_W} {σ : ST} {o : ST} (h : f_copyF_ix σ = some o) : CTv l D cs yX1_copyFrom wsX1_copyFrom rm_copyF_ix [.ref (ad 27), .ref (ad 6)] (wY cs ad σ im rest) (wY cs ad o im rest) := by
  refine CTv_of (cc := cX1_copyFrom) (nL := 2) (by decide) rfl (Nat.le_of_ble_eq_true rfl) ?_
  intro K C hret
  unfold f_copyF_ix at h
  refine X_loc (vs1 := [(0, .ref (ad 27)), (1, .ref (ad 6))]) [0, 1] rfl ?_
  refine X_aload_n C 0 rfl rfl dX1_copyFrom_0 ?_
  refine X_aload_n C 1 rfl rfl dX1_copyFrom_1 ?_
  refine X_get C 6 0 hi1_copyF_ix hf22_copyF_ix (ye_6 _ _ _ _ _) rfl (by decide) rfl dX1_copyFrom_2 ?_
  obtain ⟨hz, h⟩ := grd_some h
  refine X_put (ty := .boolean) C 27 0 hi1_copyF_ix hf22_copyF_ix tyX1 tyX1_ok nmX1 (ye_27 _ _ _ _ _) rfl (by decide) rfl (by decide +kernel) (jz_nar hz) (jz_fit hz) (Nat.le_of_ble_eq_true rfl) (ys_27_0 _ _ _ _ _ _) dX1_copyFrom_5 ?_
  refine X_nam (G := fun σ1 => XW l D K 0 0 (wY cs ad σ1 im rest) 8 [(0, .ref (ad 27)), (1, .ref (ad 6))] []) h (fun σ1 h => ?_)
  refine X_aload_n C 0 rfl rfl dX1_copyFrom_8 ?_
  refine X_aload_n C 1 rfl rfl dX1_copyFrom_9 ?_
  refine X_get C 6 1 hi1_copyF_ix hf26_copyF_ix (ye_6 _ _ _ _ _) rfl (by decide) rfl dX1_copyFrom_10 ?_
  refine X_put (ty := .int) C 27 1 hi1_copyF_ix hf26_copyF_ix tyX1 tyX1_ok nmX1 (ye_27 _ _ _ _ _) rfl (by decide) rfl (by decide +kernel) rfl rfl (Nat.le_of_ble_eq_true rfl) (ys_27_1 _ _ _ _ _ _) dX1_copyFrom_13 ?_
  refine X_nam (G := fun σ2 => XW l D K 0 0 (wY cs ad σ2 im rest) 16 [(0, .ref (ad 27)), (1, .ref (ad 6))] []) h (fun σ2 h => ?_)
  refine X_aload_n C 1 rfl rfl dX1_copyFrom_16 ?_
  refine X_get C 6 2 hi1_copyF_ix hf9_copyF_ix (ye_6 _ _ _ _ _) rfl (by decide) rfl dX1_copyFrom_17 ?_
  refine X_iconst (v := 0) C (by decide) dX1_copyFrom_20 ?_
  refine X_aload_n C 0 rfl rfl dX1_copyFrom_21 ?_
  refine X_get C 27 2 hi1_copyF_ix hf9_copyF_ix (ye_27 _ _ _ _ _) rfl (by decide) rfl dX1_copyFrom_22 ?_
  refine X_iconst (v := 0) C (by decide) dX1_copyFrom_25 ?_
  refine X_sipush (v := 256) C (by decide) dX1_copyFrom_26 ?_
  refine X_copy C 7 28 hy61_copyF_ix hyn_copyF_ix hys_copyF_ix hyi_copyF_ix (ye_7 _ _ _ _ _) (ye_28 _ _ _ _ _) (by decide) (by decide) (by decide) (by decide) (by decide) (Nat.le_of_ble_eq_true rfl) (by decide) (ya_28 _ _ _ _ _ _) dX1_copyFrom_29 ?_
  refine X_nam (G := fun σ3 => XW l D K 0 0 (wY cs ad σ3 im rest) 32 [(0, .ref (ad 27)), (1, .ref (ad 6))] []) h (fun σ3 h => ?_)
  refine X_aload_n C 1 rfl rfl dX1_copyFrom_32 ?_
  refine X_get C 6 3 hi1_copyF_ix hf15_copyF_ix (ye_6 _ _ _ _ _) rfl (by decide) rfl dX1_copyFrom_33 ?_
  refine X_iconst (v := 0) C (by decide) dX1_copyFrom_36 ?_
  refine X_aload_n C 0 rfl rfl dX1_copyFrom_37 ?_
  refine X_get C 27 3 hi1_copyF_ix hf15_copyF_ix (ye_27 _ _ _ _ _) rfl (by decide) rfl dX1_copyFrom_38 ?_
  refine X_iconst (v := 0) C (by decide) dX1_copyFrom_41 ?_
  refine X_bipush (v := 16) C (by decide) dX1_copyFrom_42 ?_
  refine X_copy C 8 29 hy61_copyF_ix hyn_copyF_ix hys_copyF_ix hyi_copyF_ix (ye_8 _ _ _ _ _) (ye_29 _ _ _ _ _) (by decide) (by decide) (by decide) (by decide) (by decide) (Nat.le_of_ble_eq_true rfl) (by decide) (ya_29 _ _ _ _ _ _) dX1_copyFrom_44 ?_
  refine X_nam (G := fun σ4 => XW l D K 0 0 (wY cs ad σ4 im rest) 47 [(0, .ref (ad 27)), (1, .ref (ad 6))] []) h (fun σ4 h => ?_)
  obtain rfl := Option.some.inj h
  exact hret _ _ dX1_copyFrom_47

abbrev rm_copyB_ix : Room := { frames := 2, cells := 0, slots := 0, locals := 85 }
def f_copyB_ix (σ : ST) : Option (ST) :=
  bnd (f_copyN_ix σ) fun o1 =>
  bnd (f_copyF_ix o1) fun o2 =>
  nam (sS o2 1410 (o2.1 66)) fun σ3 =>
  some σ3
theorem hf30_copyB_ix : Cond.fieldLink RX0 30 (TX0 2).1 (TX0 2).2.1 (TX0 2).2.2.1 ∈ wsX0_copyFrom := by decide +kernel
theorem hf19_copyB_ix : Cond.fieldLink RX0 19 (TX0 1).1 (TX0 1).2.1 (TX0 1).2.2.1 ∈ wsX0_copyFrom := by decide +kernel
theorem hf10_copyB_ix : Cond.fieldLink RX0 10 (TX0 0).1 (TX0 0).2.1 (TX0 0).2.2.1 ∈ wsX0_copyFrom := by decide +kernel
theorem hi0_copyB_ix : ∀ w ∈ u_ws RX0 TX0 3, w ∈ wsX0_copyFrom := by decide +kernel
set_option maxHeartbeats 4000000 in
set_option maxRecDepth 100000 in
theorem c_copyB_ix {l : Launch} {D : va_G} {cs : Nat → ClassId} {ad : Nat → Nat} {im : Nat → Option Nat} {rest : va_W} {σ : ST} {o : ST} (h : f_copyB_ix σ = some o) : CTv l D cs yX0_copyFrom wsX0_copyFrom rm_copyB_ix [.ref (ad 22), .ref (ad 1)] (wY cs ad σ im rest) (wY cs ad o im rest) := by
  refine CTv_of (cc := cX0_copyFrom) (nL := 2) (by decide) rfl (Nat.le_of_ble_eq_true rfl) ?_
  intro K C hret
  unfold f_copyB_ix at h
  refine X_loc (vs1 := [(0, .ref (ad 22)), (1, .ref (ad 1))]) [0, 1] rfl ?_
  refine X_aload_n C 0 rfl rfl dX0_copyFrom_0 ?_
  refine X_get C 22 0 hi0_copyB_ix hf10_copyB_ix (ye_22 _ _ _ _ _) rfl (by decide) rfl dX0_copyFrom_1 ?_
  refine X_aload_n C 1 rfl rfl dX0_copyFrom_4 ?_
  refine X_get C 1 0 hi0_copyB_ix hf10_copyB_ix (ye_1 _ _ _ _ _) rfl (by decide) rfl dX0_copyFrom_5 ?_
  obtain ⟨o1, eo1, h⟩ := bnd_some h
  refine X_callVv C (n := 1) (As := [.ref (ad 2)]) (c_copyN_ix eo1) rfl gX0_copyFrom_X2_copyFrom rfl rfl (ye_23 _ _ _ _ _) rfl rfl (by decide +kernel) ⟨Nat.le_of_ble_eq_true rfl, Nat.le_of_ble_eq_true rfl⟩ ⟨Nat.zero_le _, Nat.zero_le _⟩ rfl rfl (Nat.le_of_ble_eq_true rfl) dX0_copyFrom_8 ?_
  refine X_aload_n C 0 rfl rfl dX0_copyFrom_11 ?_
  refine X_get C 22 1 hi0_copyB_ix hf19_copyB_ix (ye_22 _ _ _ _ _) rfl (by decide) rfl dX0_copyFrom_12 ?_
  refine X_aload_n C 1 rfl rfl dX0_copyFrom_15 ?_
  refine X_get C 1 1 hi0_copyB_ix hf19_copyB_ix (ye_1 _ _ _ _ _) rfl (by decide) rfl dX0_copyFrom_16 ?_
  obtain ⟨o2, eo2, h⟩ := bnd_some h
  refine X_callVv C (n := 1) (As := [.ref (ad 6)]) (c_copyF_ix eo2) rfl gX0_copyFrom_X1_copyFrom rfl rfl (ye_27 _ _ _ _ _) rfl rfl (by decide +kernel) ⟨Nat.le_of_ble_eq_true rfl, Nat.le_of_ble_eq_true rfl⟩ ⟨Nat.zero_le _, Nat.zero_le _⟩ rfl rfl (Nat.le_of_ble_eq_true rfl) dX0_copyFrom_19 ?_
  refine X_aload_n C 0 rfl rfl dX0_copyFrom_22 ?_
  refine X_aload_n C 1 rfl rfl dX0_copyFrom_23 ?_
  refine X_get C 1 2 hi0_copyB_ix hf30_copyB_ix (ye_1 _ _ _ _ _) rfl (by decide) rfl dX0_copyFrom_24 ?_
  refine X_put (ty := .int) C 22 2 hi0_copyB_ix hf30_copyB_ix tyX0 tyX0_ok nmX0 (ye_22 _ _ _ _ _) rfl (by decide) rfl (by decide +kernel) rfl rfl (Nat.le_of_ble_eq_true rfl) (ys_22_2 _ _ _ _ _ _) dX0_copyFrom_27 ?_
  refine X_nam (G := fun σ3 => XW l D K 0 0 (wY cs ad σ3 im rest) 30 [(0, .ref (ad 22)), (1, .ref (ad 1))] []) h (fun σ3 h => ?_)
  obtain rfl := Option.some.inj h
  exact hret _ _ dX0_copyFrom_30

abbrev rm_x_imagesMade : Room := { frames := 0, cells := 0, slots := 0, locals := 0 }
def j_x_imagesMade_21_4 (im : Nat → Option Nat) (n : Nat) (σ : ST) (v1 : Int32) (v2 : Int32) : Option ((Int32 × Int32) ⊕ (Int32)) :=
  some (.inl (v1, v2 + (1 : Int32)))
def b_x_imagesMade_4 (im : Nat → Option Nat) (n : Nat) (σ : ST) (s : Int32 × Int32) : Option ((Int32 × Int32) ⊕ (Int32)) :=
  if (4 : Int32) ≤ s.2 then
    some (.inr s.1)
  else
    grd (jin s.2 4) <|
    if (im (jix s.2)).isSome = true then
      j_x_imagesMade_21_4 im n σ (s.1 + (1 : Int32)) s.2
    else
      j_x_imagesMade_21_4 im n σ s.1 s.2
def f_x_imagesMade (im : Nat → Option Nat) (n : Nat) (σ : ST) : Option (Int32) :=
  bnd (lp (b_x_imagesMade_4 im n σ) n ((0 : Int32), (0 : Int32))) fun e1 =>
  some e1
theorem hf16_x_imagesMade : Cond.fieldLink RX6 16 (TX6 1).1 (TX6 1).2.1 (TX6 1).2.2.1 ∈ wsX6_imagesMade := by decide +kernel
theorem hi6_x_imagesMade : ∀ w ∈ u_ws RX6 TX6 5, w ∈ wsX6_imagesMade := by decide +kernel
set_option maxHeartbeats 4000000 in
set_option maxRecDepth 100000 in
theorem wj_x_imagesMade_21_4 {l : Launch} {D : va_G} {cs : Nat → ClassId} {K : XK} {ad : Nat → Nat} {im : Nat → Option Nat} {rest : va_W} (C : XC D cs K 3 rm_x_imagesMade cX6_imagesMade RX6 wsX6_imagesMade (some .int)) {n : Nat} {σ : ST} {v1 : Int32} {v2 : Int32} {o : (Int32 × Int32) ⊕ (Int32)} {e : (Int32)} (h : j_x_imagesMade_21_4 im n σ v1 v2 = some o) (kin : ∀ (s : Int32 × Int32), o = .inl s → XW l D K 0 0 (wX cs ad σ im rest) 4 [(0, .ref (ad 0)), (1, .int s.1), (2, .int s.2)] []) (kex : ∀ e1, o = .inr e1 → e1 = e) (kx : ∀ (t : Int32), e = t → XW l D K 0 0 (wX cs ad σ im rest) 27 [(1, .int t)] []) : XW l D K 0 0 (wX cs ad σ im rest) 21 [(0, .ref (ad 0)), (1, .int v1), (2, .int v2)] [] := by
  unfold j_x_imagesMade_21_4 at h
  refine X_iinc (v := v2 + (1 : Int32)) (vs1 := [(2, .int (v2 + (1 : Int32))), (0, .ref (ad 0)), (1, .int v1)]) C 2 rfl rfl (by decide) rfl dX6_imagesMade_21 ?_
  refine X_goto C (tgt := 4) (by decide) dX6_imagesMade_24 ?_
  obtain rfl := Option.some.inj h
  refine X_loc (vs1 := [(0, .ref (ad 0)), (1, .int v1), (2, .int (v2 + (1 : Int32)))]) [1, 2, 0] rfl ?_
  exact kin _ rfl
set_option maxHeartbeats 4000000 in
set_option maxRecDepth 100000 in
theorem wb_x_imagesMade_4 {l : Launch} {D : va_G} {cs : Nat → ClassId} {K : XK} {ad : Nat → Nat} {im : Nat → Option Nat} {rest : va_W} (C : XC D cs K 3 rm_x_imagesMade cX6_imagesMade RX6 wsX6_imagesMade (some .int)) {n : Nat} {σ : ST} {e : (Int32)} (kx : ∀ (t : Int32), e = t → XW l D K 0 0 (wX cs ad σ im rest) 27 [(1, .int t)] []) : ∀ (q : Nat) (s : Int32 × Int32), lp (b_x_imagesMade_4 im n σ) q s = some e → XW l D K 0 0 (wX cs ad σ im rest) 4 [(0, .ref (ad 0)), (1, .int s.1), (2, .int s.2)] [] := by
  refine lp_walk (G := fun (s : Int32 × Int32) => XW l D K 0 0 (wX cs ad σ im rest) 4 [(0, .ref (ad 0)), (1, .int s.1), (2, .int s.2)] []) ?_
  intro s o h kin kex
  unfold b_x_imagesMade_4 at h
  refine X_iload_n C 2 rfl rfl dX6_imagesMade_4 ?_
  refine X_iconst (v := 4) C (by decide) dX6_imagesMade_5 ?_
  refine X_icmpge C (tgt := 27) (by decide) dX6_imagesMade_6 h (fun h => ?_) (fun h => ?_)
  · obtain rfl := Option.some.inj h
    refine X_loc (vs1 := [(1, .int s.1)]) [1] rfl ?_
    exact kx _ (kex _ rfl).symm
  · refine X_aload_n C 0 rfl rfl dX6_imagesMade_9 ?_
    refine X_get C 0 1 hi6_x_imagesMade hf16_x_imagesMade (xe_0 _ _ _ _ _) rfl (by decide) rfl dX6_imagesMade_10 ?_
    refine X_iload_n C 2 rfl rfl dX6_imagesMade_13 ?_
    refine X_aald C 9 (xe_9 _ _ _ _ _) h dX6_imagesMade_14 (fun h => ?_)
    refine X_ifnull C (tgt := 21) (by decide) dX6_imagesMade_15 h (fun h => ?_) (fun h => ?_)
    · exact wj_x_imagesMade_21_4 C h kin kex kx
    · refine X_iinc (v := s.1 + (1 : Int32)) (vs1 := [(1, .int (s.1 + (1 : Int32))), (0, .ref (ad 0)), (2, .int s.2)]) C 1 rfl rfl (by decide) rfl dX6_imagesMade_18 ?_
      refine X_loc (vs1 := [(0, .ref (ad 0)), (1, .int (s.1 + (1 : Int32))), (2, .int s.2)]) [1, 0, 2] rfl ?_
      exact wj_x_imagesMade_21_4 C h kin kex kx
set_option maxHeartbeats 4000000 in
set_option maxRecDepth 100000 in
theorem c_x_imagesMade {l : Launch} {D : va_G} {cs : Nat → ClassId} {ad : Nat → Nat} {im : Nat → Option Nat} {rest : va_W} {n : Nat} {σ : ST} {o : Int32} (h : f_x_imagesMade im n σ = some o) : CTi l D cs yX6_imagesMade wsX6_imagesMade rm_x_imagesMade [.ref (ad 0)] (wX cs ad σ im rest) o (wX cs ad σ im rest) := by
  refine CTi_of (cc := cX6_imagesMade) (nL := 3) (by decide) rfl (Nat.le_of_ble_eq_true rfl) ?_
  intro K C hret
  unfold f_x_imagesMade at h
  refine X_loc (vs1 := [(0, .ref (ad 0))]) [0] rfl ?_
  refine X_iconst (v := 0) C (by decide) dX6_imagesMade_0 ?_
  refine X_istore_n (vs1 := [(1, .int (0 : Int32)), (0, .ref (ad 0))]) C rfl (by decide) rfl dX6_imagesMade_1 ?_
  refine X_iconst (v := 0) C (by decide) dX6_imagesMade_2 ?_
  refine X_istore_n (vs1 := [(2, .int (0 : Int32)), (1, .int (0 : Int32)), (0, .ref (ad 0))]) C rfl (by decide) rfl dX6_imagesMade_3 ?_
  obtain ⟨e1, he1, h⟩ := bnd_some h
  refine X_loc (vs1 := [(0, .ref (ad 0)), (1, .int (0 : Int32)), (2, .int (0 : Int32))]) [2, 1, 0] rfl ?_
  refine wb_x_imagesMade_4 C (e := e1) (fun t ht => ?_) n _ he1
  subst ht
  refine X_iload_n C 0 rfl rfl dX6_imagesMade_27 ?_
  obtain rfl := Option.some.inj h
  exact hret _ _ dX6_imagesMade_28

abbrev rm_x_count : Room := { frames := 5, cells := 0, slots := 0, locals := 107 }
def j_x_count_105 (im : Nat → Option Nat) (n : Nat) (σ : ST) (t0 : Int32) : Option (Int32 × ST) :=
  some (t0, σ)
def j_x_count_119 (im : Nat → Option Nat) (n : Nat) (σ : ST) (t0 : Int32) : Option (Int32 × ST) :=
  some (t0, σ)
def f_x_count (im : Nat → Option Nat) (n : Nat) (σ : ST) (a0 : Int32) : Option (Int32 × ST) :=
  if a0 = (0 : Int32) then
    some (σ.1 128, σ)
  else
  if a0 = (1 : Int32) then
    some (σ.1 129, σ)
  else
  if a0 = (2 : Int32) then
    bnd (f_Paths_follow n σ (0 : Int32)) fun o1 =>
    bnd (f_Paths_parts n o1) fun o2 =>
    some (o2, o1)
  else
  if a0 = (3 : Int32) then
    bnd (f_x_isWhole n σ) fun o3 =>
    if o3.1 = 0 then
      j_x_count_105 im n o3.2 (0 : Int32)
    else
      j_x_count_105 im n o3.2 (1 : Int32)
  else
  if a0 = (4 : Int32) then
    bnd (f_x_isStrong n σ (0 : Int32)) fun o4 =>
    if o4.1 = 0 then
      j_x_count_119 im n o4.2 (0 : Int32)
    else
      j_x_count_119 im n o4.2 (1 : Int32)
  else
  if a0 = (5 : Int32) then
    bnd (f_Sides_find n σ) fun o5 =>
    some (o5.1 832, o5)
  else
  if a0 = (6 : Int32) then
    bnd (f_Fam_size n σ) fun o6 =>
    some (o6, σ)
  else
  if a0 = (7 : Int32) then
    bnd (f_x_imagesMade im n σ) fun o7 =>
    some (o7, σ)
  else
    some ((-1 : Int32), σ)
theorem hf55_x_count : Cond.fieldLink RX6 55 (TX0 1).1 (TX0 1).2.1 (TX0 1).2.2.1 ∈ wsX6_count := by decide +kernel
theorem hf134_x_count : Cond.fieldLink RX6 134 (TX5 0).1 (TX5 0).2.1 (TX5 0).2.2.1 ∈ wsX6_count := by decide +kernel
theorem hi5_x_count : ∀ w ∈ u_ws RX5 TX5 5, w ∈ wsX6_count := by decide +kernel
theorem hf30_x_count : Cond.fieldLink RX6 30 (TX6 3).1 (TX6 3).2.1 (TX6 3).2.2.1 ∈ wsX6_count := by decide +kernel
theorem hf23_x_count : Cond.fieldLink RX6 23 (TX6 2).1 (TX6 2).2.1 (TX6 2).2.2.1 ∈ wsX6_count := by decide +kernel
theorem hf64_x_count : Cond.fieldLink RX6 64 (TX2 1).1 (TX2 1).2.1 (TX2 1).2.2.1 ∈ wsX6_count := by decide +kernel
theorem hf98_x_count : Cond.fieldLink RX6 98 (TX2 0).1 (TX2 0).2.1 (TX2 0).2.2.1 ∈ wsX6_count := by decide +kernel
theorem hi2_x_count : ∀ w ∈ u_ws RX2 TX2 5, w ∈ wsX6_count := by decide +kernel
theorem hf41_x_count : Cond.fieldLink RX6 41 (TX0 0).1 (TX0 0).2.1 (TX0 0).2.2.1 ∈ wsX6_count := by decide +kernel
theorem hi0_x_count : ∀ w ∈ u_ws RX0 TX0 3, w ∈ wsX6_count := by decide +kernel
theorem hf10_x_count : Cond.fieldLink RX6 10 (TX6 0).1 (TX6 0).2.1 (TX6 0).2.2.1 ∈ wsX6_count := by decide +kernel
theorem hi6_x_count : ∀ w ∈ u_ws RX6 TX6 5, w ∈ wsX6_count := by decide +kernel
set_option maxHeartbeats 4000000 in
set_option maxRecDepth 100000 in
theorem wj_x_count_105 {l : Launch} {D : va_G} {cs : Nat → ClassId} {K : XK} {ad : Nat → Nat} {im : Nat → Option Nat} {rest : va_W} (C : XC D cs K 2 rm_x_count cX6_count RX6 wsX6_count (some .int)) {n : Nat} {σ : ST} {t0 : Int32} {o : Int32 × ST} (h : j_x_count_105 im n σ t0 = some o) (hret : XRi l D K cX6_count o.1 (wX cs ad o.2 im rest)) : XW l D K 0 0 (wX cs ad σ im rest) 105 [] [.int t0] := by
  unfold j_x_count_105 at h
  obtain rfl := Option.some.inj h
  exact hret _ _ dX6_count_105
set_option maxHeartbeats 4000000 in
set_option maxRecDepth 100000 in
theorem wj_x_count_119 {l : Launch} {D : va_G} {cs : Nat → ClassId} {K : XK} {ad : Nat → Nat} {im : Nat → Option Nat} {rest : va_W} (C : XC D cs K 2 rm_x_count cX6_count RX6 wsX6_count (some .int)) {n : Nat} {σ : ST} {t0 : Int32} {o : Int32 × ST} (h : j_x_count_119 im n σ t0 = some o) (hret : XRi l D K cX6_count o.1 (wX cs ad o.2 im rest)) : XW l D K 0 0 (wX cs ad σ im rest) 119 [] [.int t0] := by
  unfold j_x_count_119 at h
  obtain rfl := Option.some.inj h
  exact hret _ _ dX6_count_119
set_option maxHeartbeats 4000000 in
set_option maxRecDepth 100000 in
theorem c_x_count {l : Launch} {D : va_G} {cs : Nat → ClassId} {ad : Nat → Nat} {im : Nat → Option Nat} {rest : va_W} {n : Nat} {σ : ST} {a0 : Int32} {o : Int32 × ST} (h : f_x_count im n σ a0 = some o) : CTi l D cs yX6_count wsX6_count rm_x_count [.ref (ad 0), .int a0] (wX cs ad σ im rest) o.1 (wX cs ad o.2 im rest) := by
  refine CTi_of (cc := cX6_count) (nL := 2) (by decide) rfl (Nat.le_of_ble_eq_true rfl) ?_
  intro K C hret
  unfold f_x_count at h
  refine X_loc (vs1 := [(0, .ref (ad 0)), (1, .int a0)]) [0, 1] rfl ?_
  refine X_iload_n C 1 rfl rfl dX6_count_0 ?_
  refine X_case h (fun hx0 h => ?_) (fun hx0 h => ?_)
  · refine X_tblIn C (tgt := 48) (by rw [hx0]; decide) (by rw [hx0]; decide) (by rw [hx0]; rfl) (by decide) dX6_count_1 ?_
    refine X_aload_n C 0 rfl rfl dX6_count_48 ?_
    refine X_get C 0 0 hi6_x_count hf10_x_count (xe_0 _ _ _ _ _) rfl (by decide) rfl dX6_count_49 ?_
    refine X_get C 1 0 hi0_x_count hf41_x_count (xe_1 _ _ _ _ _) rfl (by decide) rfl dX6_count_52 ?_
    refine X_get C 2 0 hi2_x_count hf98_x_count (xe_2 _ _ _ _ _) rfl (by decide) rfl dX6_count_55 ?_
    obtain rfl := Option.some.inj h
    exact hret _ _ dX6_count_58
  refine X_case h (fun hx1 h => ?_) (fun hx1 h => ?_)
  · refine X_tblIn C (tgt := 59) (by rw [hx1]; decide) (by rw [hx1]; decide) (by rw [hx1]; rfl) (by decide) dX6_count_1 ?_
    refine X_aload_n C 0 rfl rfl dX6_count_59 ?_
    refine X_get C 0 0 hi6_x_count hf10_x_count (xe_0 _ _ _ _ _) rfl (by decide) rfl dX6_count_60 ?_
    refine X_get C 1 0 hi0_x_count hf41_x_count (xe_1 _ _ _ _ _) rfl (by decide) rfl dX6_count_63 ?_
    refine X_get C 2 1 hi2_x_count hf64_x_count (xe_2 _ _ _ _ _) rfl (by decide) rfl dX6_count_66 ?_
    obtain rfl := Option.some.inj h
    exact hret _ _ dX6_count_69
  refine X_case h (fun hx2 h => ?_) (fun hx2 h => ?_)
  · refine X_tblIn C (tgt := 70) (by rw [hx2]; decide) (by rw [hx2]; decide) (by rw [hx2]; rfl) (by decide) dX6_count_1 ?_
    refine X_aload_n C 0 rfl rfl dX6_count_70 ?_
    refine X_get C 0 2 hi6_x_count hf23_x_count (xe_0 _ _ _ _ _) rfl (by decide) rfl dX6_count_71 ?_
    refine X_aload_n C 0 rfl rfl dX6_count_74 ?_
    refine X_get C 0 0 hi6_x_count hf10_x_count (xe_0 _ _ _ _ _) rfl (by decide) rfl dX6_count_75 ?_
    refine X_get C 1 0 hi0_x_count hf41_x_count (xe_1 _ _ _ _ _) rfl (by decide) rfl dX6_count_78 ?_
    refine X_iconst (v := 0) C (by decide) dX6_count_81 ?_
    obtain ⟨o1, eo1, h⟩ := bnd_some h
    refine X_callVv C (n := 2) (As := [.ref (ad 2), .int (0 : Int32)]) (c_Paths_follow eo1) rfl gX6_count_X3_follow rfl rfl (xe_10 _ _ _ _ _) rfl rfl (by decide +kernel) ⟨Nat.le_of_ble_eq_true rfl, Nat.le_of_ble_eq_true rfl⟩ ⟨Nat.zero_le _, Nat.zero_le _⟩ rfl rfl (Nat.le_of_ble_eq_true rfl) dX6_count_82 ?_
    refine X_aload_n C 0 rfl rfl dX6_count_85 ?_
    refine X_get C 0 2 hi6_x_count hf23_x_count (xe_0 _ _ _ _ _) rfl (by decide) rfl dX6_count_86 ?_
    obtain ⟨o2, eo2, h⟩ := bnd_some h
    refine X_callVi C (n := 0) (As := []) (c_Paths_parts eo2) rfl gX6_count_X3_parts rfl rfl (xe_10 _ _ _ _ _) rfl rfl (by decide +kernel) ⟨Nat.le_of_ble_eq_true rfl, Nat.le_of_ble_eq_true rfl⟩ ⟨Nat.zero_le _, Nat.zero_le _⟩ rfl rfl (Nat.le_of_ble_eq_true rfl) dX6_count_89 ?_
    obtain rfl := Option.some.inj h
    exact hret _ _ dX6_count_92
  refine X_case h (fun hx3 h => ?_) (fun hx3 h => ?_)
  · refine X_tblIn C (tgt := 93) (by rw [hx3]; decide) (by rw [hx3]; decide) (by rw [hx3]; rfl) (by decide) dX6_count_1 ?_
    refine X_aload_n C 0 rfl rfl dX6_count_93 ?_
    obtain ⟨o3, eo3, h⟩ := bnd_some h
    refine X_callVi C (n := 0) (As := []) (c_x_isWhole eo3) rfl gX6_count_X6_isWhole rfl rfl (xe_0 _ _ _ _ _) rfl rfl (by decide +kernel) ⟨Nat.le_of_ble_eq_true rfl, Nat.le_of_ble_eq_true rfl⟩ ⟨Nat.zero_le _, Nat.zero_le _⟩ rfl rfl (Nat.le_of_ble_eq_true rfl) dX6_count_94 ?_
    refine X_ifeq C (tgt := 104) (by decide) dX6_count_97 h (fun h => ?_) (fun h => ?_)
    · refine X_iconst (v := 0) C (by decide) dX6_count_104 ?_
      refine X_loc (vs1 := []) [] rfl ?_
      exact wj_x_count_105 C h hret
    · refine X_iconst (v := 1) C (by decide) dX6_count_100 ?_
      refine X_goto C (tgt := 105) (by decide) dX6_count_101 ?_
      refine X_loc (vs1 := []) [] rfl ?_
      exact wj_x_count_105 C h hret
  refine X_case h (fun hx4 h => ?_) (fun hx4 h => ?_)
  · refine X_tblIn C (tgt := 106) (by rw [hx4]; decide) (by rw [hx4]; decide) (by rw [hx4]; rfl) (by decide) dX6_count_1 ?_
    refine X_aload_n C 0 rfl rfl dX6_count_106 ?_
    refine X_iconst (v := 0) C (by decide) dX6_count_107 ?_
    obtain ⟨o4, eo4, h⟩ := bnd_some h
    refine X_callVi C (n := 1) (As := [.int (0 : Int32)]) (c_x_isStrong eo4) rfl gX6_count_X6_isStrong rfl rfl (xe_0 _ _ _ _ _) rfl rfl (by decide +kernel) ⟨Nat.le_of_ble_eq_true rfl, Nat.le_of_ble_eq_true rfl⟩ ⟨Nat.zero_le _, Nat.zero_le _⟩ rfl rfl (Nat.le_of_ble_eq_true rfl) dX6_count_108 ?_
    refine X_ifeq C (tgt := 118) (by decide) dX6_count_111 h (fun h => ?_) (fun h => ?_)
    · refine X_iconst (v := 0) C (by decide) dX6_count_118 ?_
      refine X_loc (vs1 := []) [] rfl ?_
      exact wj_x_count_119 C h hret
    · refine X_iconst (v := 1) C (by decide) dX6_count_114 ?_
      refine X_goto C (tgt := 119) (by decide) dX6_count_115 ?_
      refine X_loc (vs1 := []) [] rfl ?_
      exact wj_x_count_119 C h hret
  refine X_case h (fun hx5 h => ?_) (fun hx5 h => ?_)
  · refine X_tblIn C (tgt := 120) (by rw [hx5]; decide) (by rw [hx5]; decide) (by rw [hx5]; rfl) (by decide) dX6_count_1 ?_
    refine X_aload_n C 0 rfl rfl dX6_count_120 ?_
    refine X_get C 0 3 hi6_x_count hf30_x_count (xe_0 _ _ _ _ _) rfl (by decide) rfl dX6_count_121 ?_
    refine X_aload_n C 0 rfl rfl dX6_count_124 ?_
    refine X_get C 0 0 hi6_x_count hf10_x_count (xe_0 _ _ _ _ _) rfl (by decide) rfl dX6_count_125 ?_
    refine X_get C 1 0 hi0_x_count hf41_x_count (xe_1 _ _ _ _ _) rfl (by decide) rfl dX6_count_128 ?_
    obtain ⟨o5, eo5, h⟩ := bnd_some h
    refine X_callVv C (n := 1) (As := [.ref (ad 2)]) (c_Sides_find eo5) rfl gX6_count_X5_find rfl rfl (xe_13 _ _ _ _ _) rfl rfl (by decide +kernel) ⟨Nat.le_of_ble_eq_true rfl, Nat.le_of_ble_eq_true rfl⟩ ⟨Nat.zero_le _, Nat.zero_le _⟩ rfl rfl (Nat.le_of_ble_eq_true rfl) dX6_count_131 ?_
    refine X_aload_n C 0 rfl rfl dX6_count_134 ?_
    refine X_get C 0 3 hi6_x_count hf30_x_count (xe_0 _ _ _ _ _) rfl (by decide) rfl dX6_count_135 ?_
    refine X_get C 13 0 hi5_x_count hf134_x_count (xe_13 _ _ _ _ _) rfl (by decide) rfl dX6_count_138 ?_
    obtain rfl := Option.some.inj h
    exact hret _ _ dX6_count_141
  refine X_case h (fun hx6 h => ?_) (fun hx6 h => ?_)
  · refine X_tblIn C (tgt := 142) (by rw [hx6]; decide) (by rw [hx6]; decide) (by rw [hx6]; rfl) (by decide) dX6_count_1 ?_
    refine X_aload_n C 0 rfl rfl dX6_count_142 ?_
    refine X_get C 0 0 hi6_x_count hf10_x_count (xe_0 _ _ _ _ _) rfl (by decide) rfl dX6_count_143 ?_
    refine X_get C 1 1 hi0_x_count hf55_x_count (xe_1 _ _ _ _ _) rfl (by decide) rfl dX6_count_146 ?_
    obtain ⟨o6, eo6, h⟩ := bnd_some h
    refine X_callVi C (n := 0) (As := []) (c_Fam_size eo6) rfl gX6_count_X1_size rfl rfl (xe_6 _ _ _ _ _) rfl rfl (by decide +kernel) ⟨Nat.le_of_ble_eq_true rfl, Nat.le_of_ble_eq_true rfl⟩ ⟨Nat.zero_le _, Nat.zero_le _⟩ rfl rfl (Nat.le_of_ble_eq_true rfl) dX6_count_149 ?_
    obtain rfl := Option.some.inj h
    exact hret _ _ dX6_count_152
  refine X_case h (fun hx7 h => ?_) (fun hx7 h => ?_)
  · refine X_tblIn C (tgt := 153) (by rw [hx7]; decide) (by rw [hx7]; decide) (by rw [hx7]; rfl) (by decide) dX6_count_1 ?_
    refine X_aload_n C 0 rfl rfl dX6_count_153 ?_
    obtain ⟨o7, eo7, h⟩ := bnd_some h
    refine X_callVi C (n := 0) (As := []) (c_x_imagesMade eo7) rfl gX6_count_X6_imagesMade rfl rfl (xe_0 _ _ _ _ _) rfl rfl (by decide +kernel) ⟨Nat.le_of_ble_eq_true rfl, Nat.le_of_ble_eq_true rfl⟩ ⟨Nat.zero_le _, Nat.zero_le _⟩ rfl rfl (Nat.le_of_ble_eq_true rfl) dX6_count_154 ?_
    obtain rfl := Option.some.inj h
    exact hret _ _ dX6_count_157
  have hx0t := lv_neT (a := 0) hx0 (by decide)
  have hx1t := lv_neT (a := 1) hx1 (by decide)
  have hx2t := lv_neT (a := 2) hx2 (by decide)
  have hx3t := lv_neT (a := 3) hx3 (by decide)
  have hx4t := lv_neT (a := 4) hx4 (by decide)
  have hx5t := lv_neT (a := 5) hx5 (by decide)
  have hx6t := lv_neT (a := 6) hx6 (by decide)
  have hx7t := lv_neT (a := 7) hx7 (by decide)
  refine X_tblOut C (tgt := 158) (by omega) (by decide) dX6_count_1 ?_
  refine X_iconst (v := (-1)) C (by decide) dX6_count_158 ?_
  obtain rfl := Option.some.inj h
  exact hret _ _ dX6_count_159
