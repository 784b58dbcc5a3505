/-! A RUN: one call on fresh objects -/
def am_law1 (n d : Nat) (sc : Nat × (Nat → Int32)) : Bool := match am_run (am_PP sc) n d 278 0 (am_in [.long 2] 4) [] ([], 0, 0) with
  | some (some (some (.int v)), _) => decide (v = 1)
  | _ => false
set_option maxRecDepth 100000 in
theorem am_run0 : am_law1 100000 60 (0, fun _ => 0) = true := by decide +kernel
set_option maxRecDepth 100000 in
theorem am_run1 : am_law1 100000 60 (4, fun k => if k = 0 then 1 else 0) = true := by decide +kernel
set_option maxRecDepth 100000 in
theorem am_run2 : am_law1 100000 60 (4, fun k => if k = 0 then 2 else 0) = true := by decide +kernel
set_option maxRecDepth 100000 in
theorem am_run8 : am_law1 100000 60 (4, fun k => if k = 0 then 8 else 0) = true := by decide +kernel
