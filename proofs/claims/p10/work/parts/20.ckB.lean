/-! EVERY INSTRUCTION IS HELD AGAINST ITS BYTES (printed by wip/whole/gen13.py) -/
set_option maxRecDepth 100000 in
theorem am_c14 : (List.range' 140 10).all am_ckM = true := by decide +kernel
set_option maxRecDepth 100000 in
theorem am_c15 : (List.range' 150 10).all am_ckM = true := by decide +kernel
set_option maxRecDepth 100000 in
theorem am_c16 : (List.range' 160 10).all am_ckM = true := by decide +kernel
set_option maxRecDepth 100000 in
theorem am_c17 : (List.range' 170 10).all am_ckM = true := by decide +kernel
set_option maxRecDepth 100000 in
theorem am_c18 : (List.range' 180 10).all am_ckM = true := by decide +kernel
set_option maxRecDepth 100000 in
theorem am_c19 : (List.range' 190 10).all am_ckM = true := by decide +kernel
set_option maxRecDepth 100000 in
theorem am_c20 : (List.range' 200 10).all am_ckM = true := by decide +kernel
set_option maxRecDepth 100000 in
theorem am_c21 : (List.range' 210 10).all am_ckM = true := by decide +kernel
set_option maxRecDepth 100000 in
theorem am_c22 : (List.range' 220 10).all am_ckM = true := by decide +kernel
set_option maxRecDepth 100000 in
theorem am_c23 : (List.range' 230 10).all am_ckM = true := by decide +kernel
set_option maxRecDepth 100000 in
theorem am_c24 : (List.range' 240 10).all am_ckM = true := by decide +kernel
set_option maxRecDepth 100000 in
theorem am_c25 : (List.range' 250 10).all am_ckM = true := by decide +kernel
set_option maxRecDepth 100000 in
theorem am_c26 : (List.range' 260 10).all am_ckM = true := by decide +kernel
set_option maxRecDepth 100000 in
theorem am_c27 : (List.range' 270 9).all am_ckM = true := by decide +kernel
