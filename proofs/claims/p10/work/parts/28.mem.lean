/-! THE REFERENCE'S OBJECT: its numbers f, its arrays g (by the number of the field), all else as in S0 (printed by wip/p2/gen27.py) -/
def mm_fl (f : Nat → Int32) : List Value := [.int (f 0), .ref 40, .ref 41, .int (f 3), .int (f 4), .int (f 5), .int (f 6), .int (f 7), .int (f 8), .int (f 9), .int (f 10), .ref 42, .ref 43, .ref 44, .ref 45, .int (f 15), .ref 46, .ref 47, .ref 48, .int (f 19), .int (f 20), .ref 49, .ref 50, .ref 51, .int (f 24), .ref 52, .ref 53, .ref 54, .ref 55, .ref 56, .ref 57, .int (f 31), .int (f 32), .ref 58, .ref 59, .ref 60, .ref 61, .int (f 37), .ref 62, .ref 63, .ref 64, .ref 65, .ref 66, .ref 67, .int (f 44), .ref 68, .ref 69, .ref 70, .int (f 48), .ref 71, .ref 72, .ref 73, .ref 74, .int (f 53), .ref 75, .ref 76, .ref 77, .ref 78, .ref 79, .ref 80, .ref 81, .ref 82, .int (f 62), .ref 83, .ref 84, .ref 85, .ref 86, .ref 87, .int (f 68), .ref 88, .ref 89, .ref 90, .ref 91, .ref 92, .ref 93, .int (f 75), .int (f 76)]
def mm_ar : List (Nat × Nat × Bool × Nat) := [(1, 40, false, 16384), (2, 41, false, 16384), (11, 42, false, 65536), (12, 43, false, 65536), (13, 44, false, 65536), (14, 45, false, 65536), (16, 46, false, 32768), (17, 47, false, 32768), (18, 48, false, 32768), (21, 49, false, 16384), (22, 50, false, 16384), (23, 51, false, 16384), (25, 52, false, 16384), (26, 53, false, 16384), (27, 54, false, 16384), (28, 55, true, 16384), (29, 56, true, 16384), (30, 57, true, 16384), (33, 58, false, 64), (34, 59, false, 64), (35, 60, false, 64), (36, 61, false, 64), (38, 62, false, 128), (39, 63, false, 128), (40, 64, false, 128), (41, 65, false, 128), (42, 66, true, 128), (43, 67, false, 128), (45, 68, false, 8192), (46, 69, false, 8192), (47, 70, false, 8192), (49, 71, false, 8192), (50, 72, false, 8192), (51, 73, false, 8192), (52, 74, false, 8192), (54, 75, false, 4096), (55, 76, false, 4096), (56, 77, false, 4096), (57, 78, false, 4096), (58, 79, false, 4096), (59, 80, false, 4096), (60, 81, false, 4096), (61, 82, false, 4097), (63, 83, false, 65536), (64, 84, false, 65536), (65, 85, false, 65536), (66, 86, false, 65536), (67, 87, false, 4096), (69, 88, false, 65536), (70, 89, false, 65536), (71, 90, false, 65536), (72, 91, false, 65536), (73, 92, false, 65536), (74, 93, false, 65536)]
theorem ma_1 : (1, 40, false, 16384) ∈ mm_ar := List.mem_of_getElem? (i := 0) rfl
theorem ma_2 : (2, 41, false, 16384) ∈ mm_ar := List.mem_of_getElem? (i := 1) rfl
theorem ma_11 : (11, 42, false, 65536) ∈ mm_ar := List.mem_of_getElem? (i := 2) rfl
theorem ma_12 : (12, 43, false, 65536) ∈ mm_ar := List.mem_of_getElem? (i := 3) rfl
theorem ma_13 : (13, 44, false, 65536) ∈ mm_ar := List.mem_of_getElem? (i := 4) rfl
theorem ma_14 : (14, 45, false, 65536) ∈ mm_ar := List.mem_of_getElem? (i := 5) rfl
theorem ma_16 : (16, 46, false, 32768) ∈ mm_ar := List.mem_of_getElem? (i := 6) rfl
theorem ma_17 : (17, 47, false, 32768) ∈ mm_ar := List.mem_of_getElem? (i := 7) rfl
theorem ma_18 : (18, 48, false, 32768) ∈ mm_ar := List.mem_of_getElem? (i := 8) rfl
theorem ma_21 : (21, 49, false, 16384) ∈ mm_ar := List.mem_of_getElem? (i := 9) rfl
theorem ma_22 : (22, 50, false, 16384) ∈ mm_ar := List.mem_of_getElem? (i := 10) rfl
theorem ma_23 : (23, 51, false, 16384) ∈ mm_ar := List.mem_of_getElem? (i := 11) rfl
theorem ma_25 : (25, 52, false, 16384) ∈ mm_ar := List.mem_of_getElem? (i := 12) rfl
theorem ma_26 : (26, 53, false, 16384) ∈ mm_ar := List.mem_of_getElem? (i := 13) rfl
theorem ma_27 : (27, 54, false, 16384) ∈ mm_ar := List.mem_of_getElem? (i := 14) rfl
theorem ma_28 : (28, 55, true, 16384) ∈ mm_ar := List.mem_of_getElem? (i := 15) rfl
theorem ma_29 : (29, 56, true, 16384) ∈ mm_ar := List.mem_of_getElem? (i := 16) rfl
theorem ma_30 : (30, 57, true, 16384) ∈ mm_ar := List.mem_of_getElem? (i := 17) rfl
theorem ma_33 : (33, 58, false, 64) ∈ mm_ar := List.mem_of_getElem? (i := 18) rfl
theorem ma_34 : (34, 59, false, 64) ∈ mm_ar := List.mem_of_getElem? (i := 19) rfl
theorem ma_35 : (35, 60, false, 64) ∈ mm_ar := List.mem_of_getElem? (i := 20) rfl
theorem ma_36 : (36, 61, false, 64) ∈ mm_ar := List.mem_of_getElem? (i := 21) rfl
theorem ma_38 : (38, 62, false, 128) ∈ mm_ar := List.mem_of_getElem? (i := 22) rfl
theorem ma_39 : (39, 63, false, 128) ∈ mm_ar := List.mem_of_getElem? (i := 23) rfl
theorem ma_40 : (40, 64, false, 128) ∈ mm_ar := List.mem_of_getElem? (i := 24) rfl
theorem ma_41 : (41, 65, false, 128) ∈ mm_ar := List.mem_of_getElem? (i := 25) rfl
theorem ma_42 : (42, 66, true, 128) ∈ mm_ar := List.mem_of_getElem? (i := 26) rfl
theorem ma_43 : (43, 67, false, 128) ∈ mm_ar := List.mem_of_getElem? (i := 27) rfl
theorem ma_45 : (45, 68, false, 8192) ∈ mm_ar := List.mem_of_getElem? (i := 28) rfl
theorem ma_46 : (46, 69, false, 8192) ∈ mm_ar := List.mem_of_getElem? (i := 29) rfl
theorem ma_47 : (47, 70, false, 8192) ∈ mm_ar := List.mem_of_getElem? (i := 30) rfl
theorem ma_49 : (49, 71, false, 8192) ∈ mm_ar := List.mem_of_getElem? (i := 31) rfl
theorem ma_50 : (50, 72, false, 8192) ∈ mm_ar := List.mem_of_getElem? (i := 32) rfl
theorem ma_51 : (51, 73, false, 8192) ∈ mm_ar := List.mem_of_getElem? (i := 33) rfl
theorem ma_52 : (52, 74, false, 8192) ∈ mm_ar := List.mem_of_getElem? (i := 34) rfl
theorem ma_54 : (54, 75, false, 4096) ∈ mm_ar := List.mem_of_getElem? (i := 35) rfl
theorem ma_55 : (55, 76, false, 4096) ∈ mm_ar := List.mem_of_getElem? (i := 36) rfl
theorem ma_56 : (56, 77, false, 4096) ∈ mm_ar := List.mem_of_getElem? (i := 37) rfl
theorem ma_57 : (57, 78, false, 4096) ∈ mm_ar := List.mem_of_getElem? (i := 38) rfl
theorem ma_58 : (58, 79, false, 4096) ∈ mm_ar := List.mem_of_getElem? (i := 39) rfl
theorem ma_59 : (59, 80, false, 4096) ∈ mm_ar := List.mem_of_getElem? (i := 40) rfl
theorem ma_60 : (60, 81, false, 4096) ∈ mm_ar := List.mem_of_getElem? (i := 41) rfl
theorem ma_61 : (61, 82, false, 4097) ∈ mm_ar := List.mem_of_getElem? (i := 42) rfl
theorem ma_63 : (63, 83, false, 65536) ∈ mm_ar := List.mem_of_getElem? (i := 43) rfl
theorem ma_64 : (64, 84, false, 65536) ∈ mm_ar := List.mem_of_getElem? (i := 44) rfl
theorem ma_65 : (65, 85, false, 65536) ∈ mm_ar := List.mem_of_getElem? (i := 45) rfl
theorem ma_66 : (66, 86, false, 65536) ∈ mm_ar := List.mem_of_getElem? (i := 46) rfl
theorem ma_67 : (67, 87, false, 4096) ∈ mm_ar := List.mem_of_getElem? (i := 47) rfl
theorem ma_69 : (69, 88, false, 65536) ∈ mm_ar := List.mem_of_getElem? (i := 48) rfl
theorem ma_70 : (70, 89, false, 65536) ∈ mm_ar := List.mem_of_getElem? (i := 49) rfl
theorem ma_71 : (71, 90, false, 65536) ∈ mm_ar := List.mem_of_getElem? (i := 50) rfl
theorem ma_72 : (72, 91, false, 65536) ∈ mm_ar := List.mem_of_getElem? (i := 51) rfl
theorem ma_73 : (73, 92, false, 65536) ∈ mm_ar := List.mem_of_getElem? (i := 52) rfl
theorem ma_74 : (74, 93, false, 65536) ∈ mm_ar := List.mem_of_getElem? (i := 53) rfl
theorem ma_inj : mm_ar.all (fun q => mm_ar.all fun r => !(Nat.beq q.2.1 r.2.1) || Nat.beq q.1 r.1) = true := by decide +kernel
theorem ma_lo : mm_ar.all (fun q => decide (39 < q.2.1 ∧ q.2.1 < 94)) = true := by decide +kernel
def upg (g : Nat → Nat → Int32) (j i : Nat) (v : Int32) : Nat → Nat → Int32 := fun a => if a = j then upd (g a) i v else g a
/-- the object, its arrays; nothing else is changed since S0, nothing is made -/
def MS (S0 S : am_S) (f : Nat → Int32) (g : Nat → Nat → Int32) : Prop :=
  am_fs S 39 = some (11, mm_fl f) ∧ (∀ q ∈ mm_ar, S.1[q.2.1]? = some (.inl (q.2.2.1, q.2.2.2, g q.1))) ∧ S.2 = S0.2 ∧ S.1.length = S0.1.length ∧ ∀ k, (k < 39 ∨ 94 ≤ k) → S.1[k]? = S0.1[k]?
theorem ma_eq {q r : Nat × Nat × Bool × Nat} (hq : q ∈ mm_ar) (hr : r ∈ mm_ar) (h : q.2.1 = r.2.1) : q.1 = r.1 := by
  have h1 := List.all_eq_true.mp (List.all_eq_true.mp ma_inj q hq) r hr
  rw [h, show Nat.beq r.2.1 r.2.1 = true from Nat.beq_refl _] at h1
  exact Nat.eq_of_beq_eq_true (by simpa using h1)
theorem ma_in {q : Nat × Nat × Bool × Nat} (hq : q ∈ mm_ar) : 39 < q.2.1 ∧ q.2.1 < 94 := by
  simpa using List.all_eq_true.mp ma_lo q hq
theorem ma_adj : mm_ar.all (fun q => mm_ar.all fun r => !(Nat.beq q.1 r.1) || Nat.beq q.2.1 r.2.1) = true := by decide +kernel
theorem ma_adr {q r : Nat × Nat × Bool × Nat} (hq : q ∈ mm_ar) (hr : r ∈ mm_ar) (h : q.1 = r.1) : q.2.1 = r.2.1 := by
  have h1 := List.all_eq_true.mp (List.all_eq_true.mp ma_adj q hq) r hr
  rw [h, show Nat.beq r.1 r.1 = true from Nat.beq_refl _] at h1
  exact Nat.eq_of_beq_eq_true (by simpa using h1)
section MMR
variable {P : am_P} {d M pc : Nat} {ls : am_V} {st : List Value} {S0 S : am_S} {f : Nat → Int32} {g : Nat → Nat → Int32} {Q : Option (Option Value) → am_S → Prop} {a b c nx : Nat} {x : Int32} {tab : List (Int32 × Nat)}
theorem MS.fs (h : MS S0 S f g) : am_fs S 39 = some (11, mm_fl f) := h.1
theorem MS.ar (h : MS S0 S f g) {j r n : Nat} {t : Bool} (hm : (j, r, t, n) ∈ mm_ar) : S.1[r]? = some (.inl (t, n, g j)) := h.2.1 _ hm
theorem MS.arq (h : MS S0 S f g) {j r n : Nat} {t : Bool} (hm : (j, r, t, n) ∈ mm_ar) : am_arq S r = some (t, n) ∧ am_arf S r = g j := by
  have h1 := h.ar hm
  unfold am_arq am_arf
  rw [h1]
  exact ⟨rfl, rfl⟩
/-- a number of the object is read -/
theorem mm_20 {v : Value} (hS : MS S0 S f g) (hi : P.1 M pc = some (20, 11, b, c, x, nx, tab)) (hv : (mm_fl f)[b]? = some v) (k : am_E P d M nx ls (v :: st) S Q) : am_E P d M pc ls (.ref 39 :: st) S Q := am_e20 hi hS.fs hv k
/-- a number of the object is written -/
theorem mm_21 {v : Int32} (hS : MS S0 S f g) (hi : P.1 M pc = some (21, 11, b, c, x, nx, tab)) (hc : c % 4 = 0) (hb : b < 77) (hs : (mm_fl f).set b (.int v) = mm_fl (upd f b v)) (k : ∀ S1, MS S0 S1 (upd f b v) g → am_E P d M nx ls st S1 Q) : am_E P d M pc ls (.int v :: .ref 39 :: st) S Q := by
  refine am_e21 hi hS.fs hb (by rw [hc]; rfl) hs (k _ ?_)
  obtain ⟨h1, h2, h3, h4, h5⟩ := hS
  refine ⟨am_fs_eq h1, fun q hq => ?_, h3, by show (S.1.set _ _).length = _; rw [List.length_set]; exact h4, fun k hk => ?_⟩
  · show (S.1.set _ _)[_]? = _
    rw [List.getElem?_set_ne (by have := ma_in hq; omega)]
    exact h2 q hq
  · show (S.1.set _ _)[_]? = _
    rw [List.getElem?_set_ne (by omega)]
    exact h5 k hk
theorem mm_idx {i : Int32} {n : Nat} (h0 : 0 ≤ i.toInt) (h1 : i.toInt < n) : ¬ i < 0 ∧ i.toNatClampNeg < n := by
  refine ⟨fun h => ?_, ?_⟩
  · have h2 := Int32.lt_iff_toInt_lt.mp h
    have e : (0 : Int32).toInt = 0 := rfl
    omega
  · show i.toInt.toNat < n
    omega
/-- an element is read -/
theorem mm_25 {j r n : Nat} {t : Bool} {i : Int32} (hS : MS S0 S f g) (hm : (j, r, t, n) ∈ mm_ar) (hi : P.1 M pc = some (25, a, b, c, x, nx, tab)) (ht : decide (a = 1) = t) (h0 : 0 ≤ i.toInt) (h1 : i.toInt < n) (k : am_E P d M nx ls (.int (g j i.toNatClampNeg) :: st) S Q) : am_E P d M pc ls (.int i :: .ref r :: st) S Q := by
  have hx := mm_idx h0 h1
  exact am_e25 hi (hS.arq hm).1 ht hx.1 rfl hx.2 (by rw [(hS.arq hm).2]) k
/-- an element is written -/
theorem mm_26 {j r n : Nat} {t : Bool} {i v : Int32} (hS : MS S0 S f g) (hm : (j, r, t, n) ∈ mm_ar) (hi : P.1 M pc = some (26, a, b, c, x, nx, tab)) (ht : decide (a = 1) = t) (h0 : 0 ≤ i.toInt) (h1 : i.toInt < n) (hv : t = true → v = 0 ∨ v = 1) (k : ∀ S1, MS S0 S1 f (upg g j i.toNatClampNeg v) → am_E P d M nx ls st S1 Q) : am_E P d M pc ls (.int v :: .int i :: .ref r :: st) S Q := by
  have hx := mm_idx h0 h1
  refine am_e26 hi (hS.arq hm).1 ht hx.1 rfl hx.2 hv (k _ ?_)
  rw [(hS.arq hm).2]
  have hr := ma_in hm
  obtain ⟨h1, h2, h3, h4, h5⟩ := hS
  refine ⟨am_fs_ne (by have := hr.1; exact Nat.ne_of_gt this) h1, fun q hq => ?_, h3, by show (S.1.set _ _).length = _; rw [List.length_set]; exact h4, fun k hk => ?_⟩
  · show (S.1.set _ _)[_]? = _
    by_cases e : r = q.2.1
    · have e1 : j = q.1 := ma_eq hm hq e
      have h6 := h2 q hq
      have h7 := h2 _ hm
      rw [← e] at h6 ⊢
      have h8 : S.1[r]? = some (.inl (t, n, g j)) := h7
      rw [h8] at h6
      rw [List.getElem?_set_self (List.getElem?_eq_some_iff.mp h8).1]
      injection h6 with h6
      injection h6 with h6
      obtain ⟨q1, q2, q3, q4⟩ := q
      simp only [Prod.mk.injEq] at h6 ⊢
      simp only at e1
      subst e1
      rw [h6.1, h6.2.1]
      simp only [upg, if_true]
    · rw [List.getElem?_set_ne e, h2 q hq]
      have e1 : ¬ q.1 = j := fun z => e (by
        have h6 := h2 q hq
        exact (ma_adr hm hq z.symm))
      simp only [upg, if_neg e1]
  · show (S.1.set _ _)[_]? = _
    rw [List.getElem?_set_ne (by have := hr.1; have := hr.2; simp only at *; omega)]
    exact h5 k hk
end MMR
theorem ms_0 {f : Nat → Int32} {v : Int32} : (mm_fl f).set 0 (.int v) = mm_fl (upd f 0 v) := rfl
theorem ms_3 {f : Nat → Int32} {v : Int32} : (mm_fl f).set 3 (.int v) = mm_fl (upd f 3 v) := rfl
theorem ms_4 {f : Nat → Int32} {v : Int32} : (mm_fl f).set 4 (.int v) = mm_fl (upd f 4 v) := rfl
theorem ms_5 {f : Nat → Int32} {v : Int32} : (mm_fl f).set 5 (.int v) = mm_fl (upd f 5 v) := rfl
theorem ms_6 {f : Nat → Int32} {v : Int32} : (mm_fl f).set 6 (.int v) = mm_fl (upd f 6 v) := rfl
theorem ms_7 {f : Nat → Int32} {v : Int32} : (mm_fl f).set 7 (.int v) = mm_fl (upd f 7 v) := rfl
theorem ms_8 {f : Nat → Int32} {v : Int32} : (mm_fl f).set 8 (.int v) = mm_fl (upd f 8 v) := rfl
theorem ms_9 {f : Nat → Int32} {v : Int32} : (mm_fl f).set 9 (.int v) = mm_fl (upd f 9 v) := rfl
theorem ms_10 {f : Nat → Int32} {v : Int32} : (mm_fl f).set 10 (.int v) = mm_fl (upd f 10 v) := rfl
theorem ms_15 {f : Nat → Int32} {v : Int32} : (mm_fl f).set 15 (.int v) = mm_fl (upd f 15 v) := rfl
theorem ms_19 {f : Nat → Int32} {v : Int32} : (mm_fl f).set 19 (.int v) = mm_fl (upd f 19 v) := rfl
theorem ms_20 {f : Nat → Int32} {v : Int32} : (mm_fl f).set 20 (.int v) = mm_fl (upd f 20 v) := rfl
theorem ms_24 {f : Nat → Int32} {v : Int32} : (mm_fl f).set 24 (.int v) = mm_fl (upd f 24 v) := rfl
theorem ms_31 {f : Nat → Int32} {v : Int32} : (mm_fl f).set 31 (.int v) = mm_fl (upd f 31 v) := rfl
theorem ms_32 {f : Nat → Int32} {v : Int32} : (mm_fl f).set 32 (.int v) = mm_fl (upd f 32 v) := rfl
theorem ms_37 {f : Nat → Int32} {v : Int32} : (mm_fl f).set 37 (.int v) = mm_fl (upd f 37 v) := rfl
theorem ms_44 {f : Nat → Int32} {v : Int32} : (mm_fl f).set 44 (.int v) = mm_fl (upd f 44 v) := rfl
theorem ms_48 {f : Nat → Int32} {v : Int32} : (mm_fl f).set 48 (.int v) = mm_fl (upd f 48 v) := rfl
theorem ms_53 {f : Nat → Int32} {v : Int32} : (mm_fl f).set 53 (.int v) = mm_fl (upd f 53 v) := rfl
theorem ms_62 {f : Nat → Int32} {v : Int32} : (mm_fl f).set 62 (.int v) = mm_fl (upd f 62 v) := rfl
theorem ms_68 {f : Nat → Int32} {v : Int32} : (mm_fl f).set 68 (.int v) = mm_fl (upd f 68 v) := rfl
theorem ms_75 {f : Nat → Int32} {v : Int32} : (mm_fl f).set 75 (.int v) = mm_fl (upd f 75 v) := rfl
theorem ms_76 {f : Nat → Int32} {v : Int32} : (mm_fl f).set 76 (.int v) = mm_fl (upd f 76 v) := rfl
