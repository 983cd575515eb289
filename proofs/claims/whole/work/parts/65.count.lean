/-! uncross: the count itself -/
set_option maxRecDepth 100000 in
theorem gx8 : Nat.ble (trc (gx 255) 256) 272504 = true := by decide +kernel
set_option maxRecDepth 100000 in
theorem gx7 : Nat.ble (trc (gx 127) 256) 272504 = true := by decide +kernel
set_option maxRecDepth 100000 in
theorem gx6 : Nat.ble (trc (gx 63) 256) 272504 = true := by decide +kernel
set_option maxRecDepth 100000 in
theorem gx5 : Nat.ble (trc (gx 31) 256) 272504 = true := by decide +kernel
set_option maxRecDepth 100000 in
theorem gx4 : Nat.ble (trc (gx 15) 256) 272504 = true := by decide +kernel
set_option maxRecDepth 100000 in
theorem gx3 : Nat.ble (trc (gx 7) 256) 272504 = true := by decide +kernel
set_option maxRecDepth 100000 in
theorem gx2 : Nat.ble (trc (gx 3) 256) 272504 = true := by decide +kernel
set_option maxRecDepth 100000 in
theorem gx1 : Nat.ble (trc (gx 1) 256) 272504 = true := by decide +kernel
set_option maxRecDepth 100000 in
theorem gx0 : Nat.ble (trc (gx 0) 256) 272504 = true := by decide +kernel
