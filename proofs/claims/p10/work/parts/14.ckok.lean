/-! WHAT THE PROGRAM LETS PASS IS RIGHT -/
set_option maxHeartbeats 4000000 in
theorem am_ck_ok {P : am_P} {Y : am_Y} {cl : List vw_C} {Ts : List Jvm.Cond} {nm : Nat → String} {L : am_Lk} (hL : am_LkOk P Y cl Ts nm L) (hG : am_Gl Ts) {M oc pc op a b c nx : Nat} {x : Int32} {tab : List (Int32 × Nat)} {ini : Bool} (hoc : (Y M).1.cls = nm oc) (hini : ini = true → (Y M).1.name = "<init>")
    (h : am_ck L cl nm oc (Y M).2.1 (Y M).2.2 ini pc op a b c x nx tab = true) : am_okI P Y cl Ts M pc op a b c x nx tab := by
    match op, h with
    | 0, h =>
      simp only [am_ck] at h
      split at h
      · rename_i n hdg; simp only [Bool.and_eq_true, decide_eq_true_eq] at h; exact Or.inl ⟨n, hdg, h.1, h.2⟩
      · rename_i n hdg; simp only [Bool.and_eq_true, decide_eq_true_eq] at h; exact Or.inr (Or.inl ⟨n, hdg, h.1, h.2⟩)
      · rename_i n hdg; simp only [Bool.and_eq_true, decide_eq_true_eq] at h; exact Or.inr (Or.inr (Or.inl ⟨n, hdg, h.1, h.2⟩))
      · rename_i n hdg; simp only [Bool.and_eq_true, decide_eq_true_eq] at h; exact Or.inr (Or.inr (Or.inr ⟨n, hdg, by rw [hoc]; exact hL.2.1 _ h.1, h.2⟩))
      · cases h
    | 1, h =>
      simp only [am_ck] at h
      split at h
      · rename_i k hdg; simp only [Bool.and_eq_true, decide_eq_true_eq] at h; exact Or.inl ⟨k, hdg, h.1, h.2⟩
      · rename_i k hdg; simp only [Bool.and_eq_true, decide_eq_true_eq] at h; exact Or.inr ⟨by rw [← h.1]; exact hdg, h.2⟩
      · cases h
    | 2, h =>
      simp only [am_ck] at h
      split at h
      · rename_i k hdg; simp only [Bool.and_eq_true, decide_eq_true_eq] at h; exact Or.inl ⟨k, hdg, h.1, h.2⟩
      · rename_i k hdg; simp only [Bool.and_eq_true, decide_eq_true_eq] at h; exact Or.inr ⟨by rw [← h.1]; exact hdg, h.2⟩
      · cases h
    | 3, h =>
      simp only [am_ck] at h
      split at h
      · rename_i k hdg; simp only [Bool.and_eq_true, decide_eq_true_eq] at h; exact Or.inl ⟨k, hdg, h.1, h.2⟩
      · rename_i k hdg; simp only [Bool.and_eq_true, decide_eq_true_eq] at h; exact Or.inr ⟨by rw [← h.1]; exact hdg, h.2⟩
      · cases h
    | 4, h =>
      simp only [am_ck] at h
      split at h
      · rename_i k hdg; simp only [Bool.and_eq_true, decide_eq_true_eq] at h; exact Or.inl ⟨k, hdg, h.1, h.2⟩
      · rename_i k hdg; simp only [Bool.and_eq_true, decide_eq_true_eq] at h; exact Or.inr ⟨by rw [← h.1]; exact hdg, h.2⟩
      · cases h
    | 5, h =>
      simp only [am_ck] at h
      split at h
      · rename_i k n hdg; simp only [Bool.and_eq_true, decide_eq_true_eq] at h; exact ⟨n, by rw [← h.1.1]; exact hdg, h.1.2, h.2⟩
      · cases h
    | 6, h => simp only [am_ck, Bool.and_eq_true, decide_eq_true_eq] at h; exact h
    | 7, h => simp only [am_ck, Bool.and_eq_true, decide_eq_true_eq] at h; exact h
    | 8, h => simp only [am_ck, Bool.and_eq_true, decide_eq_true_eq] at h; exact h
    | 9, h => simp only [am_ck, Bool.and_eq_true, decide_eq_true_eq] at h; exact h
    | 11, h => simp only [am_ck, Bool.and_eq_true, decide_eq_true_eq] at h; exact h
    | 24, h => simp only [am_ck, Bool.and_eq_true, decide_eq_true_eq] at h; exact h
    | 29, h => simp only [am_ck, Bool.and_eq_true, decide_eq_true_eq] at h; exact h
    | 39, h => simp only [am_ck, Bool.and_eq_true, decide_eq_true_eq] at h; exact h
    | 10, h =>
      simp only [am_ck, Bool.and_eq_true, decide_eq_true_eq] at h
      refine ⟨h.1, ?_⟩
      match a, h.2 with
      | 0, h => exact of_decide_eq_true (p := decode (Y M).2.1 pc = .ok (.iadd, 1)) h
      | 1, h => exact of_decide_eq_true (p := decode (Y M).2.1 pc = .ok (.isub, 1)) h
      | 2, h => exact of_decide_eq_true (p := decode (Y M).2.1 pc = .ok (.imul, 1)) h
      | 3, h => exact of_decide_eq_true (p := decode (Y M).2.1 pc = .ok (.iand, 1)) h
      | 4, h => exact of_decide_eq_true (p := decode (Y M).2.1 pc = .ok (.ior, 1)) h
      | 5, h => exact of_decide_eq_true (p := decode (Y M).2.1 pc = .ok (.ishr, 1)) h
      | n + 6, h => cases h
    | 12, h =>
      simp only [am_ck] at h
      split at h
      · rename_i q off hdg; simp only [Bool.and_eq_true, decide_eq_true_eq] at h; exact ⟨off, by rw [← h.1.1.1]; exact hdg, h.1.1.2, h.1.2, h.2⟩
      · cases h
    | 13, h =>
      simp only [am_ck] at h
      split at h
      · rename_i q off hdg; simp only [Bool.and_eq_true, decide_eq_true_eq] at h; exact ⟨off, by rw [← h.1.1.1]; exact hdg, h.1.1.2, h.1.2, h.2⟩
      · cases h
    | 14, h =>
      simp only [am_ck] at h
      split at h
      · rename_i off hdg; simp only [Bool.and_eq_true, decide_eq_true_eq] at h; exact ⟨off, hdg, h.1, h.2⟩
      · cases h
    | 15, h =>
      simp only [am_ck] at h
      split at h
      · rename_i off hdg; simp only [Bool.and_eq_true, decide_eq_true_eq] at h; exact ⟨off, hdg, h.1, h.2⟩
      · cases h
    | 16, h =>
      simp only [am_ck] at h
      split at h
      · rename_i off hdg; simp only [Bool.and_eq_true, decide_eq_true_eq] at h; exact ⟨off, hdg, h.1, h.2⟩
      · cases h
    | 17, h =>
      simp only [am_ck] at h
      split at h
      · rename_i off hdg; simp only [Bool.and_eq_true, decide_eq_true_eq] at h; exact ⟨off, hdg, h.1, h.2⟩
      · cases h
    | 18, h =>
      simp only [am_ck] at h
      split at h
      · rename_i off hdg; exact ⟨off, hdg, of_decide_eq_true h⟩
      · cases h
    | 19, h =>
      simp only [am_ck] at h
      split at h
      · rename_i dflt lo hi offs len hdg
        simp only [Bool.and_eq_true, decide_eq_true_eq, List.all_eq_true] at h
        obtain ⟨⟨⟨⟨⟨h1, h2⟩, h3⟩, h4⟩, h5⟩, h6⟩ := h
        refine Or.inl ⟨dflt, lo, hi, offs, len, hdg, h1, fun y q => ?_, fun y q1 q2 => ?_⟩
        · rw [h2]; exact (am_swT offs.toList lo h4 (by omega) h6).1 (by omega)
        · rw [h2]
          obtain ⟨off, j1, j2⟩ := (am_swT (b := b) (x := y) offs.toList lo h4 (by omega) h6).2 q1 (by omega)
          exact ⟨off, by rw [← j1]; simp, j2⟩
      · rename_i dflt ps len hdg
        simp only [Bool.and_eq_true, decide_eq_true_eq, List.all_eq_true] at h
        obtain ⟨⟨⟨h1, h2⟩, h3⟩, h4⟩ := h
        refine Or.inr ⟨dflt, ps, len, hdg, ?_, fun y => ?_⟩
        · rw [List.all_eq_true]; intro q hq; have := h3 q hq; simpa using this
        · rw [h2]; exact am_swL h1 ps.toList (fun q hq => ⟨(h4 q hq).1.1, (h4 q hq).1.2, (h4 q hq).2⟩)
      · cases h
    | 20, h =>
      simp only [am_ck] at h
      split at h
      · rename_i idx hdg; simp only [Bool.and_eq_true, decide_eq_true_eq] at h; exact ⟨idx, hdg, h.1, by rw [hoc]; exact hL.1 oc _ (am_m3_ok h.2)⟩
      · cases h
    | 21, h =>
      simp only [am_ck] at h
      split at h
      · rename_i idx hdg
        simp only [Bool.and_eq_true, decide_eq_true_eq] at h
        obtain ⟨⟨h1, h2⟩, h3⟩ := h
        refine ⟨idx, hdg, h1, by rw [hoc]; exact hL.1 oc _ (am_m3_ok h2), fun C T N hcl => ?_⟩
        rw [hcl] at h3
        simp only [Bool.and_eq_true, Bool.or_eq_true, Bool.not_eq_true', decide_eq_true_eq] at h3
        refine ⟨am_okTb_ok h3.1, ?_⟩
        rcases h3.2 with q | ⟨q1, q2⟩
        · exact Or.inl q
        · cases hf : (T b).2.2.2 with
          | false => exact Or.inl rfl
          | true => exact Or.inr ⟨rfl, hini q1, by rw [hoc]; exact q2⟩
      · cases h
    | 22, h =>
      simp only [am_ck] at h
      split at h
      · rename_i idx hdg
        simp only [Bool.and_eq_true, decide_eq_true_eq] at h
        obtain ⟨C, T, N, q1, q2, q3, q4⟩ := hL.2.2.1 _ h.2
        exact ⟨idx, C, T, N, hdg, h.1, q1, by rw [hoc]; exact q2, q3, q4⟩
      · cases h
    | 23, h =>
      simp only [am_ck, Bool.and_eq_true, decide_eq_true_eq] at h
      refine ⟨h.1, ?_⟩
      match a, h.2 with
      | 0, h => exact Or.inl ⟨rfl, of_decide_eq_true h, hG.1⟩
      | 1, h => exact Or.inr ⟨rfl, of_decide_eq_true h, hG.2.1⟩
      | n + 2, h => cases h
    | 25, h =>
      simp only [am_ck, Bool.and_eq_true, decide_eq_true_eq] at h
      refine ⟨h.1, ?_⟩
      match a, h.2 with
      | 0, h => exact Or.inl ⟨rfl, of_decide_eq_true h⟩
      | 1, h => exact Or.inr ⟨rfl, of_decide_eq_true h⟩
      | n + 2, h => cases h
    | 26, h =>
      simp only [am_ck, Bool.and_eq_true, decide_eq_true_eq] at h
      refine ⟨h.1, ?_⟩
      match a, h.2 with
      | 0, h => exact Or.inl ⟨rfl, of_decide_eq_true h⟩
      | 1, h => exact Or.inr ⟨rfl, of_decide_eq_true h⟩
      | n + 2, h => cases h
    | 30, h =>
      simp only [am_ck] at h
      split at h
      · rename_i idx hdg
        simp only [Bool.and_eq_true, decide_eq_true_eq] at h
        obtain ⟨C, T, N, q1, q2⟩ := hL.2.2.2.1 _ h.2
        exact ⟨idx, C, T, N, hdg, h.1, q1, by rw [hoc]; exact q2⟩
      · cases h
    | 31, h =>
      simp only [am_ck] at h
      split at h
      · rename_i idx hdg
        simp only [Bool.and_eq_true, decide_eq_true_eq] at h
        exact ⟨idx, hdg, h.1, by rw [hoc]; exact hL.2.2.2.2.1 _ h.2, hG.2.2.1, hG.2.2.2.1⟩
      · cases h
    | 32, h =>
      simp only [am_ck, Bool.and_eq_true, decide_eq_true_eq] at h
      obtain ⟨h1, h⟩ := h
      split at h
      · rename_i idx hdg _
        obtain ⟨q1, q0, q2, q3, q4⟩ := hL.2.2.2.2.2.1 oc _ (am_m4_ok h)
        exact ⟨idx, h1, q1, hdg, q0, by rw [hoc]; exact q2, q3, q4⟩
      · rename_i idx hdg _
        obtain ⟨q1, q0, q2, q3, q4, q5, q6⟩ := hL.2.2.2.2.2.1 oc _ (am_m4_ok h)
        exact ⟨idx, h1, q1, hdg, q0, by rw [hoc]; exact q2, q3, q4, q5, q6⟩
      · rename_i idx hdg _
        obtain ⟨q1, C, T, N, q2, q3, q4, q5, q6⟩ := hL.2.2.2.2.2.1 oc _ (am_m4_ok h)
        exact ⟨idx, h1, q1, C, T, N, q2, hdg, by rw [hoc]; exact q3, q4, q5, q6⟩
      · cases h
    | 33, h => simp only [am_ck, Bool.and_eq_true, decide_eq_true_eq] at h; exact h
    | 34, h =>
      simp only [am_ck, Bool.and_eq_true, decide_eq_true_eq] at h
      refine ⟨h.1, ?_⟩
      have h2 := h.2
      split at h2
      · rename_i n q; exact Or.inl ⟨n, q⟩
      · rename_i n q; exact Or.inr ⟨n, q⟩
      · cases h2
    | 35, h => simp only [am_ck, Bool.and_eq_true, decide_eq_true_eq] at h; exact h
    | 36, h => simp only [am_ck, Bool.and_eq_true, decide_eq_true_eq] at h; exact h
    | 37, _ => trivial
    | 38, h =>
      simp only [am_ck] at h
      split at h
      · rename_i idx hdg
        simp only [Bool.and_eq_true, decide_eq_true_eq] at h
        exact ⟨idx, hdg, h.1, by rw [hoc]; exact hL.2.2.2.2.2.2.1 _ h.2, hG.2.2.2.2.1⟩
      · cases h
    | 40, h =>
      simp only [am_ck, Bool.and_eq_true, decide_eq_true_eq] at h
      obtain ⟨⟨h1, h2⟩, h3⟩ := h
      split at h3
      · rename_i q hq
        refine ⟨h1, h2, q.1, q.2.1, q.2.2, hq, ?_⟩
        rw [of_decide_eq_true h3]
        exact hG.2.2.2.2.2.2.2.2.2.2.2.2
      · cases h3
    | 41, h =>
      simp only [am_ck] at h
      split at h
      · rename_i idx hdg
        simp only [Bool.and_eq_true, decide_eq_true_eq] at h
        exact ⟨idx, hdg, h.1, by rw [hoc]; exact hL.2.2.2.2.2.2.2.1 _ h.2, hG.2.2.2.2.2.1, hG.2.2.2.2.2.2.1, hG.2.2.2.2.2.2.2.1⟩
      · cases h
    | 42, h =>
      simp only [am_ck] at h
      split at h
      · rename_i idx hdg
        simp only [Bool.and_eq_true, decide_eq_true_eq] at h
        obtain ⟨⟨h1, h2⟩, h3⟩ := h
        split at h3
        · rename_i q hq
          refine ⟨idx, hdg, h1, by rw [hoc]; exact hL.2.2.2.2.2.2.2.1 _ h2, hG.2.2.2.2.2.1, hG.2.2.2.2.2.2.1, hG.2.2.2.2.2.2.2.1, q.1, q.2.1, q.2.2, hq, ?_⟩
          rw [of_decide_eq_true h3]
          exact hG.2.2.2.2.2.2.2.2.2.2.2.2
        · cases h3
      · cases h
    | 43, h =>
      simp only [am_ck] at h
      split at h
      · rename_i idx hdg
        simp only [Bool.and_eq_true, decide_eq_true_eq] at h
        exact ⟨idx, hdg, h.1, by rw [hoc]; exact hL.2.2.2.2.2.2.2.2.1 _ h.2⟩
      · cases h
    | 44, h =>
      simp only [am_ck] at h
      split at h
      · rename_i idx hdg
        simp only [Bool.and_eq_true, decide_eq_true_eq] at h
        exact ⟨idx, hdg, h.1, by rw [hoc]; exact hL.2.2.2.2.2.2.2.2.2.1 _ h.2, hG.2.2.2.2.2.2.2.2.1, hG.2.2.2.2.2.2.2.2.2.1, hG.2.2.2.2.2.2.2.2.2.2.1, hG.2.2.2.2.2.2.2.2.2.2.2.1⟩
      · cases h
    | 45, h =>
      simp only [am_ck] at h
      split at h
      · rename_i idx hdg
        simp only [Bool.and_eq_true, decide_eq_true_eq] at h
        exact ⟨idx, hdg, h.1, by rw [hoc]; exact hL.2.2.2.2.2.2.2.2.2.2 _ h.2⟩
      · cases h
    | 27, h => cases h
    | 28, h => cases h
    | n9 + 46, h => cases h
