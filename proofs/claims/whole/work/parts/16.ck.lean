set_option maxRecDepth 100000 in
theorem am_t1 : am_ckM 0 = true := by decide +kernel
set_option maxRecDepth 100000 in
theorem am_t2 : am_ckM 40 = true := by decide +kernel
