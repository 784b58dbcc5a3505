/-! SOUNDNESS FOR THE PROGRAM (printed by wip/whole/gen13.py) -/
def am_thO : String := "ChunkCode$Faults"
/-- what lies outside the list: ArrayList's empty array, the Class object of Object[], the words of the throw -/
def am_Zz (em : Int64 → Nat) (sc : Nat × (Nat → Int32)) : (Nat → Prop) → State → Heap → Prop := fun A U H => va_Z am_AL am_EE am_ED (.ref (em 0)) A U H ∧ va_T (.object "java/lang/Object") (em 0) 0 (fun _ => .null) A U H ∧ va_Mi am_ED (em 1) U ∧ (va_X (em 2) sc.1 sc.2 U H ∧ ¬ A (em 2)) ∧ am_ZT am_thO 18 A U H
theorem am_Xk {b L : Nat} {xs : Nat → Int32} {A : Nat → Prop} {U : State} {H H1 : Heap} (h : va_X b L xs U H) (hb : ¬ A b) (hq : ∀ q : Nat, q < H.size → ¬ A q → H1[q]? = H[q]?) : va_X b L xs U H1 := by
  obtain ⟨scr, hs, -⟩ := id h
  exact h.kept (hq b (Array.getElem?_eq_some_iff.mp hs).1 hb)
theorem am_Zz_p {em : Int64 → Nat} {sc : Nat × (Nat → Int32)} : am_Zp (am_Zz em sc) :=
  ⟨fun _ _ _ _ h hq hz => ⟨h.1.kept hq, h.2.1.kept hq, h.2.2.1, ⟨am_Xk h.2.2.2.1.1 h.2.2.2.1.2 hq, h.2.2.2.1.2⟩, h.2.2.2.2.kept hq hz⟩, fun _ _ _ _ hW h => ⟨h.1.moved hW.alike, h.2.1.moved hW.alike, h.2.2.1.moved hW.alike, ⟨h.2.2.2.1.1.moved hW.alike, h.2.2.2.1.2⟩, h.2.2.2.2.moved hW⟩, fun _ _ _ _ hAB h => ⟨h.1.narrow hAB, h.2.1.narrow hAB, h.2.2.1, ⟨h.2.2.2.1.1, fun z => h.2.2.2.1.2 (hAB _ z)⟩, h.2.2.2.2.narrow hAB⟩⟩
theorem am_Zz_E {em : Int64 → Nat} {sc : Nat × (Nat → Int32)} : am_ZE em sc (am_Zz em sc) := fun _ _ h => ⟨h.1, h.2.1, h.2.2.1, h.2.2.2.1⟩
/-- the program, with the law's script -/
def am_PP (sc : Nat × (Nat → Int32)) : am_P := (am_P0.1, am_P0.2.1, am_P0.2.2.1, am_P0.2.2.2.1, sc)
set_option maxRecDepth 100000 in
theorem am_site : (List.range 279).all (fun M => (am_mt M).2.2.2.2.2.all (fun q => !(Nat.beq q.2.1 37) || (Nat.beq M 58 && Nat.beq q.1 10))) = true := by decide +kernel
theorem am_inM {M pc : Nat} {i : am_I} (h : am_P0.1 M pc = some i) : M < 279 ∧ (pc, i) ∈ (am_mt M).2.2.2.2.2 := by
  have hm : (pc, i) ∈ (am_mt M).2.2.2.2.2 := am_at_mem h
  refine ⟨?_, hm⟩
  rcases Nat.lt_or_ge M 279 with q | q
  · exact q
  · have e : am_mt M = (⟨"", "", ""⟩, ByteArray.empty, none, 0, 0, []) := by
      unfold am_mt
      rw [List.getElem?_eq_none (by rw [am_ML_len]; exact q)]
      rfl
    rw [e] at hm
    cases hm
theorem am_kC : Jvm.Cond.castable am_ise am_ise ∈ am_Ts := am_iT_ok (q := (3, 65)) (by decide +kernel)
theorem am_kI : Jvm.Cond.initialized am_ise ∈ am_Ts := am_iT_ok (q := (1, 25)) (by decide +kernel)
theorem am_kL : Jvm.Cond.classLink am_thO 16 am_ise ∈ am_Ts := am_iT_ok (q := (3, 63)) (by decide +kernel)
theorem am_th0 : decode (am_YY 58).2.1 10 = .ok (.new 16, 3) := by decide +kernel
theorem am_th3 : decode (am_YY 58).2.1 13 = .ok (.dup, 1) := by decide +kernel
theorem am_th4 : decode (am_YY 58).2.1 14 = .ok (.invokespecial 18, 3) := by decide +kernel
theorem am_th7 : decode (am_YY 58).2.1 17 = .ok (.athrow, 1) := by decide +kernel
theorem am_thh {sc : Nat × (Nat → Int32)} : (am_PP sc).2.2.2.1 58 (10 + 7) = none := show am_P0.2.2.2.1 58 17 = none by decide
theorem am_Thr_ok {em : Int64 → Nat} {sc : Nat × (Nat → Int32)} {l : Launch} (hl : l.stackTraces = false) : am_Thr (am_PP sc) am_YY am_Ts (am_Zz em sc) l := by
  intro M pc a b k x nx tab hi p e R s m args below meth c H locs cells slots d mc ms A lsA rest Qc act hS hZ hA hsz hd hcat hc hs hq
  obtain ⟨hM, hm⟩ := am_inM hi
  have h1 := List.all_eq_true.mp (List.all_eq_true.mp am_site M (List.mem_range.mpr hM)) _ hm
  have h2 : M = 58 ∧ pc = 10 := by
    simp only [show Nat.beq 37 37 = true from rfl, Bool.not_true, Bool.false_or, Bool.and_eq_true] at h1
    exact ⟨Nat.eq_of_beq_eq_true h1.1, Nat.eq_of_beq_eq_true h1.2⟩
  obtain ⟨rfl, rfl⟩ := h2
  obtain ⟨hx, hb, hml, hown, hts, hr, hlk, hnm, hRf, hRc, hRs, hRl, hexc, hhn⟩ := id act
  exact am_throw (own := am_thO) (ik := 16) (ic := 18) hx hb hl hown (hts _ am_kL) (hts _ am_kI) (am_Ts_ps _ am_kL) (am_Ts_ps _ am_kI) hZ.2.2.2.2 hS (hsz.trans hml.symm) am_th0 am_th3 am_th4 am_th7 (hexc _ am_thh) (by omega) (by omega) (by omega) (by omega) hlk hq hS.2.2 hc hs
/-- every run of the program is a run of the machine -/
theorem am_SND {em : Int64 → Nat} {sc : Nat × (Nat → Int32)} {D : va_G} {l : Launch} (hl : l.stackTraces = false) : ∀ n, am_Snd em (am_PP sc) am_YY D am_cl am_Ts (am_Zz em sc) l n :=
  am_snd am_hok am_C_ok am_Ts_ps am_Zz_p am_Zz_E (am_Thr_ok hl) am_kC
