/-! THE PROGRAM IS RIGHT (printed by wip/whole/gen13.py) -/
theorem am_cAll : ∀ M, M < 279 → am_ckM M = true := by
  intro M h
  have key : ∀ (a n : Nat), (List.range' a n).all am_ckM = true → a ≤ M → M < a + n → am_ckM M = true := fun a n q h1 h2 => List.all_eq_true.mp q M (List.mem_range'_1.mpr ⟨h1, h2⟩)
  by_cases h0 : M < 10
  · exact key 0 10 am_c0 (by omega) (by omega)
  by_cases h1 : M < 20
  · exact key 10 10 am_c1 (by omega) (by omega)
  by_cases h2 : M < 30
  · exact key 20 10 am_c2 (by omega) (by omega)
  by_cases h3 : M < 40
  · exact key 30 10 am_c3 (by omega) (by omega)
  by_cases h4 : M < 50
  · exact key 40 10 am_c4 (by omega) (by omega)
  by_cases h5 : M < 60
  · exact key 50 10 am_c5 (by omega) (by omega)
  by_cases h6 : M < 70
  · exact key 60 10 am_c6 (by omega) (by omega)
  by_cases h7 : M < 80
  · exact key 70 10 am_c7 (by omega) (by omega)
  by_cases h8 : M < 90
  · exact key 80 10 am_c8 (by omega) (by omega)
  by_cases h9 : M < 100
  · exact key 90 10 am_c9 (by omega) (by omega)
  by_cases h10 : M < 110
  · exact key 100 10 am_c10 (by omega) (by omega)
  by_cases h11 : M < 120
  · exact key 110 10 am_c11 (by omega) (by omega)
  by_cases h12 : M < 130
  · exact key 120 10 am_c12 (by omega) (by omega)
  by_cases h13 : M < 140
  · exact key 130 10 am_c13 (by omega) (by omega)
  by_cases h14 : M < 150
  · exact key 140 10 am_c14 (by omega) (by omega)
  by_cases h15 : M < 160
  · exact key 150 10 am_c15 (by omega) (by omega)
  by_cases h16 : M < 170
  · exact key 160 10 am_c16 (by omega) (by omega)
  by_cases h17 : M < 180
  · exact key 170 10 am_c17 (by omega) (by omega)
  by_cases h18 : M < 190
  · exact key 180 10 am_c18 (by omega) (by omega)
  by_cases h19 : M < 200
  · exact key 190 10 am_c19 (by omega) (by omega)
  by_cases h20 : M < 210
  · exact key 200 10 am_c20 (by omega) (by omega)
  by_cases h21 : M < 220
  · exact key 210 10 am_c21 (by omega) (by omega)
  by_cases h22 : M < 230
  · exact key 220 10 am_c22 (by omega) (by omega)
  by_cases h23 : M < 240
  · exact key 230 10 am_c23 (by omega) (by omega)
  by_cases h24 : M < 250
  · exact key 240 10 am_c24 (by omega) (by omega)
  by_cases h25 : M < 260
  · exact key 250 10 am_c25 (by omega) (by omega)
  by_cases h26 : M < 270
  · exact key 260 10 am_c26 (by omega) (by omega)
  by_cases h27 : M < 279
  · exact key 270 9 am_c27 (by omega) (by omega)
  exact absurd h (by omega)
theorem am_kD : ∀ q ∈ am_LD, Jvm.Cond.constant (am_nm q.1) q.2.1 q.2.2 ∈ am_Ts := List.forall_mem_cons.mpr ⟨am_iT_ok (q := (2, 162)) (by decide +kernel), List.forall_mem_cons.mpr ⟨am_iT_ok (q := (2, 98)) (by decide +kernel), List.forall_mem_cons.mpr ⟨am_iT_ok (q := (5, 138)) (by decide +kernel), List.forall_mem_cons.mpr ⟨am_iT_ok (q := (5, 139)) (by decide +kernel), fun _ h => nomatch h⟩⟩⟩⟩
theorem am_kN : ∀ q ∈ am_LN, ∃ C T N, am_cl[q.2.2]? = some (C, T, N) ∧ Jvm.Cond.classLink (am_nm q.1) q.2.1 C ∈ am_Ts ∧ Jvm.Cond.instantiable C N ∈ am_Ts ∧ Jvm.Cond.initialized C ∈ am_Ts := List.forall_mem_cons.mpr ⟨⟨_, _, _, rfl, am_iT_ok (q := (1, 35)) (by decide +kernel), am_iT_ok (q := (1, 36)) (by decide +kernel), am_iT_ok (q := (1, 2)) (by decide +kernel)⟩, List.forall_mem_cons.mpr ⟨⟨_, _, _, rfl, am_iT_ok (q := (1, 48)) (by decide +kernel), am_iT_ok (q := (1, 49)) (by decide +kernel), am_iT_ok (q := (1, 3)) (by decide +kernel)⟩, List.forall_mem_cons.mpr ⟨⟨_, _, _, rfl, am_iT_ok (q := (1, 81)) (by decide +kernel), am_iT_ok (q := (1, 82)) (by decide +kernel), am_iT_ok (q := (1, 5)) (by decide +kernel)⟩, List.forall_mem_cons.mpr ⟨⟨_, _, _, rfl, am_iT_ok (q := (1, 120)) (by decide +kernel), am_iT_ok (q := (1, 121)) (by decide +kernel), am_iT_ok (q := (1, 9)) (by decide +kernel)⟩, List.forall_mem_cons.mpr ⟨⟨_, _, _, rfl, am_iT_ok (q := (2, 56)) (by decide +kernel), am_iT_ok (q := (2, 57)) (by decide +kernel), am_iT_ok (q := (1, 13)) (by decide +kernel)⟩, List.forall_mem_cons.mpr ⟨⟨_, _, _, rfl, am_iT_ok (q := (1, 54)) (by decide +kernel), am_iT_ok (q := (1, 55)) (by decide +kernel), am_iT_ok (q := (1, 4)) (by decide +kernel)⟩, List.forall_mem_cons.mpr ⟨⟨_, _, _, rfl, am_iT_ok (q := (1, 87)) (by decide +kernel), am_iT_ok (q := (1, 88)) (by decide +kernel), am_iT_ok (q := (1, 8)) (by decide +kernel)⟩, List.forall_mem_cons.mpr ⟨⟨_, _, _, rfl, am_iT_ok (q := (2, 74)) (by decide +kernel), am_iT_ok (q := (1, 139)) (by decide +kernel), am_iT_ok (q := (1, 11)) (by decide +kernel)⟩, List.forall_mem_cons.mpr ⟨⟨_, _, _, rfl, am_iT_ok (q := (1, 126)) (by decide +kernel), am_iT_ok (q := (1, 55)) (by decide +kernel), am_iT_ok (q := (1, 4)) (by decide +kernel)⟩, List.forall_mem_cons.mpr ⟨⟨_, _, _, rfl, am_iT_ok (q := (1, 128)) (by decide +kernel), am_iT_ok (q := (1, 129)) (by decide +kernel), am_iT_ok (q := (1, 10)) (by decide +kernel)⟩, List.forall_mem_cons.mpr ⟨⟨_, _, _, rfl, am_iT_ok (q := (1, 134)) (by decide +kernel), am_iT_ok (q := (1, 88)) (by decide +kernel), am_iT_ok (q := (1, 8)) (by decide +kernel)⟩, List.forall_mem_cons.mpr ⟨⟨_, _, _, rfl, am_iT_ok (q := (1, 136)) (by decide +kernel), am_iT_ok (q := (1, 55)) (by decide +kernel), am_iT_ok (q := (1, 4)) (by decide +kernel)⟩, List.forall_mem_cons.mpr ⟨⟨_, _, _, rfl, am_iT_ok (q := (1, 138)) (by decide +kernel), am_iT_ok (q := (1, 139)) (by decide +kernel), am_iT_ok (q := (1, 11)) (by decide +kernel)⟩, List.forall_mem_cons.mpr ⟨⟨_, _, _, rfl, am_iT_ok (q := (1, 215)) (by decide +kernel), am_iT_ok (q := (1, 216)) (by decide +kernel), am_iT_ok (q := (1, 12)) (by decide +kernel)⟩, List.forall_mem_cons.mpr ⟨⟨_, _, _, rfl, am_iT_ok (q := (1, 144)) (by decide +kernel), am_iT_ok (q := (1, 55)) (by decide +kernel), am_iT_ok (q := (1, 4)) (by decide +kernel)⟩, List.forall_mem_cons.mpr ⟨⟨_, _, _, rfl, am_iT_ok (q := (1, 221)) (by decide +kernel), am_iT_ok (q := (1, 55)) (by decide +kernel), am_iT_ok (q := (1, 4)) (by decide +kernel)⟩, List.forall_mem_cons.mpr ⟨⟨_, _, _, rfl, am_iT_ok (q := (1, 27)) (by decide +kernel), am_iT_ok (q := (1, 28)) (by decide +kernel), am_iT_ok (q := (1, 1)) (by decide +kernel)⟩, List.forall_mem_cons.mpr ⟨⟨_, _, _, rfl, am_iT_ok (q := (5, 132)) (by decide +kernel), am_iT_ok (q := (5, 133)) (by decide +kernel), am_iT_ok (q := (1, 20)) (by decide +kernel)⟩, fun _ h => nomatch h⟩⟩⟩⟩⟩⟩⟩⟩⟩⟩⟩⟩⟩⟩⟩⟩⟩⟩
theorem am_kX : ∀ q ∈ am_LX, ∃ C T N, am_cl[q.2.2]? = some (C, T, N) ∧ Jvm.Cond.classLink (am_nm q.1) q.2.1 C ∈ am_Ts := List.forall_mem_cons.mpr ⟨⟨_, _, _, rfl, am_iT_ok (q := (2, 74)) (by decide +kernel)⟩, List.forall_mem_cons.mpr ⟨⟨_, _, _, rfl, am_iT_ok (q := (1, 138)) (by decide +kernel)⟩, fun _ h => nomatch h⟩⟩
theorem am_kO : ∀ q ∈ am_LO, Jvm.Cond.methodLink (am_nm q.1) q.2 Lib.objectInit ∈ am_Ts := List.forall_mem_cons.mpr ⟨am_iT_ok (q := (1, 32)) (by decide +kernel), List.forall_mem_cons.mpr ⟨am_iT_ok (q := (1, 40)) (by decide +kernel), List.forall_mem_cons.mpr ⟨am_iT_ok (q := (1, 53)) (by decide +kernel), List.forall_mem_cons.mpr ⟨am_iT_ok (q := (1, 59)) (by decide +kernel), List.forall_mem_cons.mpr ⟨am_iT_ok (q := (1, 86)) (by decide +kernel), List.forall_mem_cons.mpr ⟨am_iT_ok (q := (1, 98)) (by decide +kernel), List.forall_mem_cons.mpr ⟨am_iT_ok (q := (1, 125)) (by decide +kernel), List.forall_mem_cons.mpr ⟨am_iT_ok (q := (1, 133)) (by decide +kernel), List.forall_mem_cons.mpr ⟨am_iT_ok (q := (1, 143)) (by decide +kernel), List.forall_mem_cons.mpr ⟨am_iT_ok (q := (1, 220)) (by decide +kernel), List.forall_mem_cons.mpr ⟨am_iT_ok (q := (2, 61)) (by decide +kernel), List.forall_mem_cons.mpr ⟨am_iT_ok (q := (5, 137)) (by decide +kernel), fun _ h => nomatch h⟩⟩⟩⟩⟩⟩⟩⟩⟩⟩⟩⟩
theorem am_kXO : ∀ q ∈ am_LXO, Jvm.Cond.classLink (am_nm q.1) q.2 "java/lang/Object" ∈ am_Ts := List.forall_mem_cons.mpr ⟨am_iT_ok (q := (2, 135)) (by decide +kernel), List.forall_mem_cons.mpr ⟨am_iT_ok (q := (2, 127)) (by decide +kernel), fun _ h => nomatch h⟩⟩
theorem am_kAC : ∀ q ∈ am_LAC, Jvm.Cond.methodLink (am_nm q.1) q.2 arraycopyName ∈ am_Ts := List.forall_mem_cons.mpr ⟨am_iT_ok (q := (4, 25)) (by decide +kernel), List.forall_mem_cons.mpr ⟨am_iT_ok (q := (2, 131)) (by decide +kernel), fun _ h => nomatch h⟩⟩
theorem am_kGS : ∀ q ∈ am_LGS, Jvm.Cond.fieldLink (am_nm q.1) q.2 am_AL am_EE am_ED ∈ am_Ts := List.forall_mem_cons.mpr ⟨am_iT_ok (q := (1, 99)) (by decide +kernel), fun _ h => nomatch h⟩
theorem am_kGC : ∀ q ∈ am_LGC, Jvm.Cond.methodLink (am_nm q.1) q.2 am_gC ∈ am_Ts := List.forall_mem_cons.mpr ⟨am_iT_ok (q := (2, 105)) (by decide +kernel), fun _ h => nomatch h⟩
theorem am_kLM : ∀ q ∈ am_LLM, Jvm.Cond.classLink (am_nm q.1) q.2 am_ED ∈ am_Ts := List.forall_mem_cons.mpr ⟨am_iT_ok (q := (2, 125)) (by decide +kernel), fun _ h => nomatch h⟩
theorem am_LkAll : am_LkOk am_P0 am_YY am_cl am_Ts am_nm am_LL := by
  refine ⟨fun oc q hq => ?_, am_kD, am_kN, am_kX, am_kO, fun oc q hq => ?_, am_kXO, am_kAC, am_kGS, am_kGC, am_kLM⟩
  · have hq : q ∈ (am_LF[oc]?).getD [] := hq
    rw [am_hF_eq, List.getElem?_map] at hq
    cases hl : am_hF[oc]? with
    | none => rw [hl] at hq; cases hq
    | some l =>
      rw [hl] at hq
      simp only [Option.map_some, Option.getD_some] at hq
      obtain ⟨z, hz, rfl⟩ := List.mem_map.mp hq
      have hoc : oc < 22 := (List.getElem?_eq_some_iff.mp hl).1
      have h1 := List.all_eq_true.mp am_hF_ok oc (List.mem_range.mpr hoc)
      rw [hl] at h1
      exact am_fb_ok (List.all_eq_true.mp h1 z hz)
  · have hq : q ∈ (am_LKc[oc]?).getD [] := hq
    rw [am_hK_eq, List.getElem?_map] at hq
    cases hl : am_hK[oc]? with
    | none => rw [hl] at hq; cases hq
    | some l =>
      rw [hl] at hq
      simp only [Option.map_some, Option.getD_some] at hq
      obtain ⟨z, hz, rfl⟩ := List.mem_map.mp hq
      have hoc : oc < 22 := (List.getElem?_eq_some_iff.mp hl).1
      have h1 := List.all_eq_true.mp am_hK_ok oc (List.mem_range.mpr hoc)
      rw [hl] at h1
      exact am_kb_ok (List.all_eq_true.mp h1 z hz)
theorem am_Gl_ok : am_Gl am_Ts := ⟨am_iT_ok (q := (1, 67)) (by decide +kernel), am_iT_ok (q := (6, 132)) (by decide +kernel), am_iT_ok (q := (1, 33)) (by decide +kernel), am_iT_ok (q := (1, 34)) (by decide +kernel), am_iT_ok (q := (2, 126)) (by decide +kernel), am_iT_ok (q := (2, 133)) (by decide +kernel), am_iT_ok (q := (2, 132)) (by decide +kernel), am_iT_ok (q := (1, 17)) (by decide +kernel), am_iT_ok (q := (8, 67)) (by decide +kernel), am_iT_ok (q := (8, 66)) (by decide +kernel), am_iT_ok (q := (2, 106)) (by decide +kernel), am_iT_ok (q := (2, 121)) (by decide +kernel), am_iT_ok (q := (8, 75)) (by decide +kernel)⟩
def am_hT0 : List (Nat × Nat) := [(2, 179), (2, 181), (2, 183), (2, 185), (2, 187), (2, 189)]
def am_hT1 : List (Nat × Nat) := [(1, 43), (1, 45)]
def am_hT2 : List (Nat × Nat) := [(1, 72), (1, 74), (1, 76), (1, 78)]
def am_hT3 : List (Nat × Nat) := [(1, 62), (1, 64)]
def am_hT4 : List (Nat × Nat) := [(1, 115), (1, 117)]
def am_hT5 : List (Nat × Nat) := [(1, 106), (1, 108), (1, 110)]
def am_hT6 : List (Nat × Nat) := [(2, 39), (2, 41), (2, 43), (2, 45), (2, 47), (2, 49), (2, 51), (2, 53)]
def am_hT7 : List (Nat × Nat) := [(2, 10), (2, 12), (2, 14), (2, 16), (2, 18), (2, 20), (2, 22), (2, 24), (2, 26), (2, 28)]
def am_hT8 : List (Nat × Nat) := [(1, 188), (1, 190), (1, 192), (1, 194), (1, 196), (1, 198), (1, 200), (1, 202), (1, 204), (1, 206), (1, 208), (1, 210), (1, 212)]
def am_hT9 : List (Nat × Nat) := [(1, 228), (1, 230), (1, 232), (1, 234), (1, 236)]
def am_hT10 : List (Nat × Nat) := [(2, 63)]
def am_hT11 : List (Nat × Nat) := [(5, 217), (5, 219), (5, 221), (5, 223), (5, 225), (5, 227), (5, 229), (5, 231), (5, 233), (5, 235), (5, 237), (5, 239), (6, 1), (6, 3), (6, 5), (6, 7), (6, 9), (6, 11), (6, 13), (6, 15), (6, 17), (6, 19), (6, 21), (6, 23), (6, 25), (6, 27), (6, 29), (6, 31), (6, 33), (6, 35), (6, 37), (6, 39), (6, 41), (6, 43), (6, 45), (6, 47), (6, 49), (6, 51), (6, 53), (6, 55), (6, 57), (6, 59), (6, 61), (6, 63), (6, 65), (6, 67), (6, 69), (6, 71), (6, 73), (6, 75), (6, 77), (6, 79), (6, 81), (6, 83), (6, 85), (6, 87), (6, 89), (6, 91), (6, 93), (6, 95), (6, 97), (6, 99), (6, 101), (6, 103), (6, 105), (6, 107), (6, 109), (6, 111), (6, 113), (6, 115), (6, 117), (6, 119), (6, 121), (6, 123), (6, 125), (6, 127), (6, 129)]
def am_hTL : List (List (Nat × Nat)) := [am_hT0, am_hT1, am_hT2, am_hT3, am_hT4, am_hT5, am_hT6, am_hT7, am_hT8, am_hT9, am_hT10, am_hT11]
set_option maxRecDepth 100000 in
theorem am_ocB : (List.range 279).all (fun M => decide ((am_mt M).1.cls = am_nm (am_mt M).2.2.2.1)) = true := by decide +kernel
theorem am_ocAll : ∀ M, M < 279 → (am_YY M).1.cls = am_nm (am_mt M).2.2.2.1 := fun M h => of_decide_eq_true (List.all_eq_true.mp am_ocB M (List.mem_range.mpr h))
def am_tyv (T : u_T) (k : Nat) : FieldType := (parseFieldDescriptor (T k).2.2.1).getD .int
def am_cb (i : Nat) : Bool := match am_cl[i]?, am_hTL[i]? with
  | some c, some h => (List.range c.2.2).all (fun k => am_iT ((h[k]?).getD (0, 0)) (u_lay c.1 c.2.1 k) && (parseFieldDescriptor (c.2.1 k).2.2.1).isSome && decide (defaultValue (am_tyv c.2.1 k) = vp_V (am_nb i) k)) && decide ((am_nb i).length = c.2.2) && (List.range c.2.2).all (fun a => (List.range c.2.2).all (fun b => decide (a = b) || decide ((c.2.1 a).2.1 ≠ (c.2.1 b).2.1))) && (am_nb i).all (fun v => decide (v = .int 0) || decide (v = .null))
  | _, _ => false
set_option maxRecDepth 100000 in
theorem am_cb_all : (List.range 12).all am_cb = true := by decide +kernel
theorem am_C_ok : am_okC am_P0.2.1 am_cl am_Ts := by
  intro i C T N hcl
  have hi : i < 12 := (List.getElem?_eq_some_iff.mp hcl).1
  have h := List.all_eq_true.mp am_cb_all i (List.mem_range.mpr hi)
  unfold am_cb at h
  rw [hcl] at h
  split at h
  · rename_i c hh hc _
    cases hc
    simp only [Bool.and_eq_true, Bool.or_eq_true, decide_eq_true_eq, List.all_eq_true, List.mem_range] at h
    obtain ⟨⟨⟨h1, h2⟩, h3⟩, h4⟩ := h
    refine ⟨fun w hw => ?_, h2, fun a ha b hb hab => (h3 a ha b hb).resolve_left hab, fun v hv => h4 v hv, am_tyv T, fun k hk => ?_, fun j hj => (h1 j hj).2⟩
    · obtain ⟨k, hk, rfl⟩ := List.mem_map.mp hw
      exact am_iT_ok (h1 k (List.mem_range.mp hk)).1.1
    · have q := (h1 k hk).1.2
      obtain ⟨z, hz⟩ := Option.isSome_iff_exists.mp q
      unfold am_tyv
      rw [hz]
      rfl
  · cases h
set_option maxRecDepth 20000 in
theorem am_ML_len : am_ML.length = 279 := by decide +kernel
theorem am_at_mem {l : List (Nat × am_I)} {pc : Nat} {i : am_I} (h : am_at l pc = some i) : (pc, i) ∈ l := by
  induction l with
  | nil => cases h
  | cons q r ih =>
    obtain ⟨k, j⟩ := q
    unfold am_at at h
    split at h
    · rename_i hk; cases h; subst hk; exact List.mem_cons_self
    · exact List.mem_cons_of_mem _ (ih h)
theorem am_hok : ∀ M pc op a b c x nx tab, am_P0.1 M pc = some (op, a, b, c, x, nx, tab) → am_okI am_P0 am_YY am_cl am_Ts M pc op a b c x nx tab := by
  intro M pc op a b c x nx tab h
  have hM : M < 279 := by
    rcases Nat.lt_or_ge M 279 with q | q
    · exact q
    · have e : am_mt M = (⟨"", "", ""⟩, ByteArray.empty, none, 0, 0, []) := by
        unfold am_mt
        rw [List.getElem?_eq_none (by rw [am_ML_len]; exact q)]
        rfl
      have h' : am_at (am_mt M).2.2.2.2.2 pc = some (op, a, b, c, x, nx, tab) := h
      rw [e] at h'
      cases h'
  have h1 := List.all_eq_true.mp (am_cAll M hM) _ (am_at_mem h)
  refine am_ck_ok (oc := (am_mt M).2.2.2.1) (ini := decide ((am_mt M).1.name = "<init>")) am_LkAll am_Gl_ok ?_ (fun q => of_decide_eq_true q) h1
  exact am_ocAll M hM
