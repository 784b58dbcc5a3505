/-! COUNTING: how many of the first n are x -/
theorem mj_mono {a : Nat → Int32} {x : Int} {m : Nat} : ∀ n, m ≤ n → mj_n a m x ≤ mj_n a n x := by
  intro n h
  induction h with
  | refl => exact Int.le_refl _
  | step _ ih =>
    simp only [mj_n]
    split <;> omega
theorem mj_push {a : Nat → Int32} {x : Int} {v m n : Nat} {y : Int32} (hm : m = v + 1) (hn : n = v) : mj_n (upd a v y) m x = mj_n a n x + if y.toInt = x then 1 else 0 := by
  subst hm hn
  simp only [mj_n]
  rw [mj_n_ext (a := a) _ _ (fun i hi => upd_ne (Nat.ne_of_lt hi)), upd_eq]
theorem mj_pop {a : Nat → Int32} {x : Int} {m n : Nat} (hm : n = m + 1) : mj_n a n x = mj_n a m x + if (a m).toInt = x then 1 else 0 := by
  subst hm
  rfl
theorem mj_upd {a : Nat → Int32} {x : Int} {v : Nat} {y : Int32} : ∀ n, v < n → mj_n (upd a v y) n x = mj_n a n x - (if (a v).toInt = x then 1 else 0) + if y.toInt = x then 1 else 0 := by
  intro n
  induction n with
  | zero => intro h; exact absurd h (Nat.not_lt_zero _)
  | succ n ih =>
    intro h
    simp only [mj_n]
    by_cases e : v = n
    · subst e
      rw [mj_n_ext (a := a) _ _ (fun i hi => upd_ne (Nat.ne_of_lt hi)), upd_eq]
      omega
    · rw [ih (by omega), upd_ne (fun q => e q.symm)]
      omega
/-- one of them is no name any more -/
theorem mj_clear {a : Nat → Int32} {v n : Nat} (h : v < n) : mj_n (upd a v 0) n 3 = mj_n a n 3 - if (a v).toInt = 3 then 1 else 0 := by
  rw [mj_upd n h]
  rw [if_neg (show ¬ (0 : Int32).toInt = 3 by decide)]
  omega
theorem mem_sub {L L' : List Nat} {x : Nat} (h : L.all (fun x => decide (x ∈ L')) = true) (hx : x ∈ L) : x ∈ L' := by
  simpa using List.all_eq_true.mp h x hx
theorem am_swK {tab : List (Int32 × Nat)} {b : Nat} {v : Int32} {ks : List Int} (hk : tab.map (fun q => q.1.toInt) = ks) (h : ∀ k ∈ ks, ¬ v.toInt = k) : am_sw tab b v = b :=
  am_swN fun q hq => h _ (by rw [← hk]; exact List.mem_map.mpr ⟨q, hq, rfl⟩)
