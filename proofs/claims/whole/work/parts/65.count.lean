/-! uncross: the count itself -/
set_option maxRecDepth 100000 in
theorem gx8 : Nat.ble (trc (gx 255) 256) 272504 = true := by decide +kernel
