set_option maxRecDepth 16384 in
theorem rf_t1 : rf_go start1.p0.tables start1.e0 40 (rf_S 400) (fun s => decide (s.frames.length ≤ 40)) = true := by decide +kernel
