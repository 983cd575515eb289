/-! uncross: the count itself, sixteen levels at a time -/
theorem totTo_from (f : Nat → Nat) (a : Nat) : ∀ d, totTo f (a + d) = totTo f a + totTo (fun i => cond (Nat.ble a i) (f i) 0) (a + d) := by
  intro d
  induction d with
  | zero =>
    have h : totTo (fun i => cond (Nat.ble a i) (f i) 0) a = 0 := by
      have h1 : totTo (fun i => cond (Nat.ble a i) (f i) 0) a ≤ totTo (fun _ => 0) a := totTo_le a (fun i hi => by
        cases q : Nat.ble a i with
        | false => exact Nat.le_refl _
        | true => have := Nat.le_of_ble_eq_true q; omega)
      rw [totTo_0] at h1
      omega
    show totTo f a = totTo f a + totTo (fun i => cond (Nat.ble a i) (f i) 0) a
    rw [h]; rfl
  | succ d ih =>
    have hb : Nat.ble a (a + d) = true := Nat.ble_eq.mpr (by omega)
    show totTo f (a + d) + f (a + d) = totTo f a + (totTo (fun i => cond (Nat.ble a i) (f i) 0) (a + d) + cond (Nat.ble a (a + d)) (f (a + d)) 0)
    rw [ih, hb, Nat.add_assoc]
    rfl
theorem gx_step {f : Nat → Nat} {a b c : Nat} (hb : b = a + 16) (h : Nat.beq (trc (fun i => cond (Nat.ble a i) (f i) 0) b) c = true) : totTo f b = totTo f a + c := by
  have h1 := Nat.eq_of_beq_eq_true h
  rw [trc_tot, hb] at h1
  rw [hb, totTo_from, h1]
set_option maxRecDepth 100000 in
theorem gx8_0 : Nat.beq (trc (fun i => cond (Nat.ble 0 i) (gx 255 i) 0) 16) 6520 = true := by decide +kernel
set_option maxRecDepth 100000 in
theorem gx8_1 : Nat.beq (trc (fun i => cond (Nat.ble 16 i) (gx 255 i) 0) 32) 20180 = true := by decide +kernel
set_option maxRecDepth 100000 in
theorem gx8_2 : Nat.beq (trc (fun i => cond (Nat.ble 32 i) (gx 255 i) 0) 48) 18472 = true := by decide +kernel
set_option maxRecDepth 100000 in
theorem gx8_3 : Nat.beq (trc (fun i => cond (Nat.ble 48 i) (gx 255 i) 0) 64) 43872 = true := by decide +kernel
set_option maxRecDepth 100000 in
theorem gx8_4 : Nat.beq (trc (fun i => cond (Nat.ble 64 i) (gx 255 i) 0) 80) 15224 = true := by decide +kernel
set_option maxRecDepth 100000 in
theorem gx8_5 : Nat.beq (trc (fun i => cond (Nat.ble 80 i) (gx 255 i) 0) 96) 35576 = true := by decide +kernel
set_option maxRecDepth 100000 in
theorem gx8_6 : Nat.beq (trc (fun i => cond (Nat.ble 96 i) (gx 255 i) 0) 112) 29352 = true := by decide +kernel
set_option maxRecDepth 100000 in
theorem gx8_7 : Nat.beq (trc (fun i => cond (Nat.ble 112 i) (gx 255 i) 0) 128) 30052 = true := by decide +kernel
set_option maxRecDepth 100000 in
theorem gx8_8 : Nat.beq (trc (fun i => cond (Nat.ble 128 i) (gx 255 i) 0) 144) 9156 = true := by decide +kernel
set_option maxRecDepth 100000 in
theorem gx8_9 : Nat.beq (trc (fun i => cond (Nat.ble 144 i) (gx 255 i) 0) 160) 19300 = true := by decide +kernel
set_option maxRecDepth 100000 in
theorem gx8_10 : Nat.beq (trc (fun i => cond (Nat.ble 160 i) (gx 255 i) 0) 176) 15048 = true := by decide +kernel
set_option maxRecDepth 100000 in
theorem gx8_11 : Nat.beq (trc (fun i => cond (Nat.ble 176 i) (gx 255 i) 0) 192) 14196 = true := by decide +kernel
set_option maxRecDepth 100000 in
theorem gx8_12 : Nat.beq (trc (fun i => cond (Nat.ble 192 i) (gx 255 i) 0) 208) 7144 = true := by decide +kernel
set_option maxRecDepth 100000 in
theorem gx8_13 : Nat.beq (trc (fun i => cond (Nat.ble 208 i) (gx 255 i) 0) 224) 6000 = true := by decide +kernel
set_option maxRecDepth 100000 in
theorem gx8_14 : Nat.beq (trc (fun i => cond (Nat.ble 224 i) (gx 255 i) 0) 240) 2216 = true := by decide +kernel
set_option maxRecDepth 100000 in
theorem gx8_15 : Nat.beq (trc (fun i => cond (Nat.ble 240 i) (gx 255 i) 0) 256) 196 = true := by decide +kernel
theorem gy8_0 : totTo (gx 255) 16 = totTo (gx 255) 0 + 6520 := @gx_step (gx 255) 0 16 6520 (by decide) gx8_0
theorem gy8_1 : totTo (gx 255) 32 = totTo (gx 255) 16 + 20180 := @gx_step (gx 255) 16 32 20180 (by decide) gx8_1
theorem gy8_2 : totTo (gx 255) 48 = totTo (gx 255) 32 + 18472 := @gx_step (gx 255) 32 48 18472 (by decide) gx8_2
theorem gy8_3 : totTo (gx 255) 64 = totTo (gx 255) 48 + 43872 := @gx_step (gx 255) 48 64 43872 (by decide) gx8_3
theorem gy8_4 : totTo (gx 255) 80 = totTo (gx 255) 64 + 15224 := @gx_step (gx 255) 64 80 15224 (by decide) gx8_4
theorem gy8_5 : totTo (gx 255) 96 = totTo (gx 255) 80 + 35576 := @gx_step (gx 255) 80 96 35576 (by decide) gx8_5
theorem gy8_6 : totTo (gx 255) 112 = totTo (gx 255) 96 + 29352 := @gx_step (gx 255) 96 112 29352 (by decide) gx8_6
theorem gy8_7 : totTo (gx 255) 128 = totTo (gx 255) 112 + 30052 := @gx_step (gx 255) 112 128 30052 (by decide) gx8_7
theorem gy8_8 : totTo (gx 255) 144 = totTo (gx 255) 128 + 9156 := @gx_step (gx 255) 128 144 9156 (by decide) gx8_8
theorem gy8_9 : totTo (gx 255) 160 = totTo (gx 255) 144 + 19300 := @gx_step (gx 255) 144 160 19300 (by decide) gx8_9
theorem gy8_10 : totTo (gx 255) 176 = totTo (gx 255) 160 + 15048 := @gx_step (gx 255) 160 176 15048 (by decide) gx8_10
theorem gy8_11 : totTo (gx 255) 192 = totTo (gx 255) 176 + 14196 := @gx_step (gx 255) 176 192 14196 (by decide) gx8_11
theorem gy8_12 : totTo (gx 255) 208 = totTo (gx 255) 192 + 7144 := @gx_step (gx 255) 192 208 7144 (by decide) gx8_12
theorem gy8_13 : totTo (gx 255) 224 = totTo (gx 255) 208 + 6000 := @gx_step (gx 255) 208 224 6000 (by decide) gx8_13
theorem gy8_14 : totTo (gx 255) 240 = totTo (gx 255) 224 + 2216 := @gx_step (gx 255) 224 240 2216 (by decide) gx8_14
theorem gy8_15 : totTo (gx 255) 256 = totTo (gx 255) 240 + 196 := @gx_step (gx 255) 240 256 196 (by decide) gx8_15
theorem gx8 : trc (gx 255) 256 ≤ 272504 := by
  rw [trc_tot, gy8_15, gy8_14, gy8_13, gy8_12, gy8_11, gy8_10, gy8_9, gy8_8, gy8_7, gy8_6, gy8_5, gy8_4, gy8_3, gy8_2, gy8_1, gy8_0, show totTo (gx 255) 0 = 0 from rfl]
  decide
set_option maxRecDepth 100000 in
theorem gx7 : Nat.ble (trc (gx 127) 256) 272504 = true := by decide +kernel
set_option maxRecDepth 100000 in
theorem gx6 : Nat.ble (trc (gx 63) 256) 272504 = true := by decide +kernel
set_option maxRecDepth 100000 in
theorem gx5 : Nat.ble (trc (gx 31) 256) 272504 = true := by decide +kernel
set_option maxRecDepth 100000 in
theorem gx4 : Nat.ble (trc (gx 15) 256) 272504 = true := by decide +kernel
set_option maxRecDepth 100000 in
theorem gx3 : Nat.ble (trc (gx 7) 256) 272504 = true := by decide +kernel
set_option maxRecDepth 100000 in
theorem gx2 : Nat.ble (trc (gx 3) 256) 272504 = true := by decide +kernel
set_option maxRecDepth 100000 in
theorem gx1 : Nat.ble (trc (gx 1) 256) 272504 = true := by decide +kernel
set_option maxRecDepth 100000 in
theorem gx0 : Nat.ble (trc (gx 0) 256) 272504 = true := by decide +kernel
