/-! EVERY INSTRUCTION IS HELD AGAINST ITS BYTES (printed by wip/whole/gen13.py) -/
set_option maxRecDepth 100000 in
theorem am_c0 : (List.range' 0 10).all am_ckM = true := by decide +kernel
set_option maxRecDepth 100000 in
theorem am_c1 : (List.range' 10 10).all am_ckM = true := by decide +kernel
set_option maxRecDepth 100000 in
theorem am_c2 : (List.range' 20 10).all am_ckM = true := by decide +kernel
set_option maxRecDepth 100000 in
theorem am_c3 : (List.range' 30 10).all am_ckM = true := by decide +kernel
set_option maxRecDepth 100000 in
theorem am_c4 : (List.range' 40 10).all am_ckM = true := by decide +kernel
set_option maxRecDepth 100000 in
theorem am_c5 : (List.range' 50 10).all am_ckM = true := by decide +kernel
set_option maxRecDepth 100000 in
theorem am_c6 : (List.range' 60 10).all am_ckM = true := by decide +kernel
set_option maxRecDepth 100000 in
theorem am_c7 : (List.range' 70 10).all am_ckM = true := by decide +kernel
set_option maxRecDepth 100000 in
theorem am_c8 : (List.range' 80 10).all am_ckM = true := by decide +kernel
set_option maxRecDepth 100000 in
theorem am_c9 : (List.range' 90 10).all am_ckM = true := by decide +kernel
set_option maxRecDepth 100000 in
theorem am_c10 : (List.range' 100 10).all am_ckM = true := by decide +kernel
set_option maxRecDepth 100000 in
theorem am_c11 : (List.range' 110 10).all am_ckM = true := by decide +kernel
set_option maxRecDepth 100000 in
theorem am_c12 : (List.range' 120 10).all am_ckM = true := by decide +kernel
set_option maxRecDepth 100000 in
theorem am_c13 : (List.range' 130 10).all am_ckM = true := by decide +kernel
