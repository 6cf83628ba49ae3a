set_option maxRecDepth 1000000 in
theorem kd_282_8 : ∀ e ∈ (zt_282.drop 400).take 50, decode (gB 282) e.1 = .ok (e.2.1, e.2.2) := by decide +kernel
