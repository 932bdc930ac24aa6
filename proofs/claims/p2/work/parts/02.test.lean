set_option maxRecDepth 16384 in
theorem rf_t1 : rf_go start1.p0.tables start1.e0 60 (rf_S 400) (fun s => true) = true := by decide +kernel
