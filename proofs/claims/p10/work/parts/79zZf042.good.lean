/-! THE GOALS THAT WAIT FIT TO WHAT IS THERE: values V, waiting targets W, blocks B, depth D, levels L -/
/-- what a goal does to values, blocks, depth and levels, with all that it asks for -/
def mg_x (k : Nat) : Int × Int × Int × Int := match k with
  | 2 => (0, -1, 0, -1)
  | 3 => (-1, 0, 0, 0)
  | 4 => (0, -1, 0, -1)
  | 5 => (0, -1, 0, -1)
  | 6 => (-1, -1, 0, 0)
  | 7 => (-1, 0, 0, 0)
  | 8 => (0, -1, 0, -1)
  | 9 => (0, -1, 0, -1)
  | 10 => (-1, 0, 0, 0)
  | 11 => (-1, 0, 0, 0)
  | 12 => (-1, 0, 0, 0)
  | 13 => (0, -1, 0, -1)
  | 14 => (-1, 0, 0, 0)
  | 15 => (0, -1, 0, -1)
  | 16 => (-1, 0, 0, 0)
  | 17 => (-1, 0, 0, 0)
  | 18 => (-1, 0, 0, 0)
  | 19 => (-1, 0, 0, 0)
  | 21 => (-1, 0, 0, 0)
  | 22 => (-1, 0, 0, 0)
  | 23 => (1, 0, 0, 0)
  | 25 => (-1, 0, 0, 0)
  | 29 => (0, 0, 0, -1)
  | 30 => (-1, 0, 0, -1)
  | 32 => (-1, 0, 0, -1)
  | 33 => (-1, 0, 0, 0)
  | 35 => (0, 0, 0, -1)
  | 36 => (-1, 0, 0, -2)
  | 37 => (-1, 0, 0, -1)
  | 38 => (-1, 0, 0, -1)
  | 39 => (-1, 0, 0, -1)
  | 40 => (0, -1, -1, -1)
  | 41 => (1, 0, 0, 0)
  | _ => (0, 0, 0, 0)
/-- the targets that wait behind it -/
def mg_w (k : Nat) (tw W : Int) : Int := match k with
  | 18 => tw
  | 21 => tw
  | 22 => tw
  | _ => W
/-- how many values it needs -/
def mg_v (k : Nat) : Int := match k with
  | 1 => 0
  | 2 => 0
  | 4 => 0
  | 5 => 0
  | 8 => 0
  | 9 => 0
  | 13 => 0
  | 15 => 0
  | 20 => 0
  | 23 => 0
  | 30 => 2
  | 32 => 2
  | 33 => 2
  | 35 => 0
  | 40 => 0
  | 41 => 0
  | _ => 1
/-- how many blocks there may be, beyond twice the levels -/
def mg_b (k : Nat) : Int := match k with
  | 2 => 0
  | 4 => 0
  | 5 => 0
  | 8 => 0
  | 9 => 0
  | 13 => 0
  | 15 => 0
  | 6 => 2
  | 40 => 1
  | k => if k ≤ 22 then 1 else 2
/-- what its numbers must be -/
def mg_a (k : Nat) (on tw th W B D : Int) (ba bl ww : Nat → Int32) : Prop := match k with
  | 10 => 0 ≤ on ∧ on ≤ 16000
  | 11 => 0 ≤ on ∧ on ≤ 16000
  | 12 => 0 ≤ on ∧ on ≤ 16000
  | 14 => 0 ≤ on ∧ 1 ≤ tw ∧ on + 2 * tw ≤ 16000
  | 13 => 0 ≤ (ba D.toNat).toInt + th ∧ (ba D.toNat).toInt + th ≤ (bl (B - 1).toNat).toInt ∧ ∀ b : Nat, (b : Int) < B - 1 → (bl b).toInt ≤ (ba D.toNat).toInt + th
  | 15 => 0 ≤ (ba D.toNat).toInt + th ∧ (ba D.toNat).toInt + th ≤ (bl (B - 1).toNat).toInt ∧ ∀ b : Nat, (b : Int) < B - 1 → (bl b).toInt ≤ (ba D.toNat).toInt + th
  | 18 => 0 ≤ tw ∧ tw ≤ W ∧ ∀ i : Nat, tw ≤ (i : Int) → (i : Int) < W → 0 ≤ (ww i).toInt ∧ (ww i).toInt < 16384
  | 21 => 0 ≤ on ∧ 0 ≤ tw ∧ W = tw + on
  | 22 => 0 ≤ on ∧ 0 ≤ tw ∧ W = tw + on
  | 38 => 0 ≤ tw ∧ tw ≤ 16000
  | 23 => 0 ≤ on
  | 24 => 0 ≤ on
  | 34 => 1 ≤ on
  | _ => True
/-- kinds of goals that there are -/
abbrev mg_k (x : Int) : Prop := 1 ≤ x ∧ x ≤ 41 ∧ ¬ x = 31
/-- all goals fit -/
def mg_good (ba bl ww : Nat → Int32) : List mg_E → Int → Int → Int → Int → Int → Prop
  | [], V, W, B, D, L => 0 ≤ V ∧ 0 ≤ W ∧ 1 ≤ B ∧ 0 ≤ D ∧ D ≤ L ∧ L ≤ 48 ∧ B ≤ 2 * L + 2
  | e :: r, V, W, B, D, L => (mg_k e.1 ∧ mg_v e.1.toNat ≤ V ∧ 0 ≤ W ∧ 1 ≤ B ∧ 0 ≤ D ∧ D ≤ L ∧ L ≤ 48 ∧ B ≤ 2 * L + mg_b e.1.toNat ∧ mg_a e.1.toNat e.2.1 e.2.2.1 e.2.2.2.1 W B D ba bl ww) ∧
      mg_good ba bl ww r (V + (mg_x e.1.toNat).1) (mg_w e.1.toNat e.2.2.1 W) (B + (mg_x e.1.toNat).2.1) (D + (mg_x e.1.toNat).2.2.1) (L + (mg_x e.1.toNat).2.2.2)
theorem mg_x_neg (k : Nat) : (mg_x k).2.1 ≤ 0 ∧ (mg_x k).2.2.1 ≤ 0 := by
  unfold mg_x
  split <;> decide
theorem mg_a_ext {k : Nat} {on tw th W B D : Int} {ba bl ww ba' bl' ww' : Nat → Int32} (hB : 1 ≤ B) (hD : 0 ≤ D) (h1 : ∀ i : Nat, (i : Int) ≤ D → ba' i = ba i) (h2 : ∀ i : Nat, (i : Int) < B → bl' i = bl i) (h3 : ∀ i : Nat, (i : Int) < W → ww' i = ww i) (h : mg_a k on tw th W B D ba bl ww) : mg_a k on tw th W B D ba' bl' ww' := by
  have e1 : ba' D.toNat = ba D.toNat := h1 _ (by omega)
  have e2 : bl' (B - 1).toNat = bl (B - 1).toNat := h2 _ (by omega)
  unfold mg_a at h ⊢
  split at h
  · exact h
  · exact h
  · exact h
  · exact h
  · rw [e1, e2]
    exact ⟨h.1, h.2.1, fun b hb => by rw [h2 b (by omega)]; exact h.2.2 b hb⟩
  · rw [e1, e2]
    exact ⟨h.1, h.2.1, fun b hb => by rw [h2 b (by omega)]; exact h.2.2 b hb⟩
  · exact ⟨h.1, h.2.1, fun i hi hj => by rw [h3 i hj]; exact h.2.2 i hi hj⟩
  · exact h
  · exact h
  · exact h
  · exact h
  · exact h
  · exact h
  · trivial
theorem mg_w_le {k : Nat} {on tw th W B D : Int} {ba bl ww : Nat → Int32} (h : mg_a k on tw th W B D ba bl ww) : mg_w k tw W ≤ W := by
  unfold mg_a at h
  unfold mg_w
  split at h <;> first | exact Int.le_refl _ | exact h.2.1 | (simp only []; omega) | (split <;> first | contradiction | exact Int.le_refl _)
/-- they look at what lies below alone -/
theorem mg_good_ext {ba bl ww ba' bl' ww' : Nat → Int32} : ∀ (gs : List mg_E) (V W B D L : Int), (∀ i : Nat, (i : Int) ≤ D → ba' i = ba i) → (∀ i : Nat, (i : Int) < B → bl' i = bl i) → (∀ i : Nat, (i : Int) < W → ww' i = ww i) → mg_good ba bl ww gs V W B D L → mg_good ba' bl' ww' gs V W B D L := by
  intro gs
  induction gs with
  | nil => intro V W B D L _ _ _ h; exact h
  | cons e r ih =>
    intro V W B D L h1 h2 h3 h
    have hx := mg_x_neg e.1.toNat
    obtain ⟨⟨a0, a1, a2, a3, a4, a5, a6, a7, a8⟩, hr⟩ := h
    have hw := mg_w_le a8
    exact ⟨⟨a0, a1, a2, a3, a4, a5, a6, a7, mg_a_ext a3 a4 h1 h2 h3 a8⟩, ih _ _ _ _ _ (fun i hi => h1 i (by omega)) (fun i hi => h2 i (by omega)) (fun i hi => h3 i (by omega)) hr⟩
/-- what the goals will still need: of locals, of values, of places for goals, of instructions; and how long they will last -/
def mg_s (k : Nat) : Int := match k with
  | 6 => 6
  | 16 => 3
  | 17 => 2
  | 18 => 5
  | 19 => 3
  | 22 => 5
  | 25 => 3
  | 26 => 2
  | 27 => 3
  | 33 => 3
  | 41 => 2
  | _ => 0
def mg_p1 : List mg_E → Int
  | [] => 0
  | e :: r => (if e.1 = 14 then e.2.2.1 else 0) + mg_p1 r
def mg_p2 : List mg_E → Int
  | [] => 0
  | e :: r => (if e.1 = 41 then 1 else if e.1 = 34 then e.2.1 - 1 else 0) + mg_p2 r
def mg_p3 : List mg_E → Int
  | [] => 0
  | e :: r => (if e.1 = 35 then 3 else 1) + mg_p3 r
def mg_p4 : List mg_E → Int
  | [] => 0
  | e :: r => mg_s e.1.toNat + mg_p4 r
theorem mg_p3_len : ∀ gs : List mg_E, (gs.length : Int) ≤ mg_p3 gs := by
  intro gs
  induction gs with
  | nil => exact Int.le_refl _
  | cons e r ih =>
    simp only [mg_p3, List.length_cons]
    split <;> omega
theorem mg_p4_nn : ∀ gs : List mg_E, 0 ≤ mg_p4 gs := by
  intro gs
  induction gs with
  | nil => exact Int.le_refl _
  | cons e r ih =>
    simp only [mg_p4]
    have : 0 ≤ mg_s e.1.toNat := by unfold mg_s; split <;> decide
    omega
theorem mg_p2_nn {ba bl ww : Nat → Int32} : ∀ (gs : List mg_E) (V W B D L : Int), mg_good ba bl ww gs V W B D L → 0 ≤ mg_p2 gs := by
  intro gs
  induction gs with
  | nil => intro V W B D L _; exact Int.le_refl _
  | cons e r ih =>
    intro V W B D L h
    have h1 := ih _ _ _ _ _ h.2
    simp only [mg_p2]
    split
    · omega
    · split
      · rename_i q
        have h2 := h.1.2.2.2.2.2.2.2.2
        rw [q] at h2
        have h3 : 1 ≤ e.2.1 := h2
        omega
      · omega
theorem mg_p1_nn {ba bl ww : Nat → Int32} : ∀ (gs : List mg_E) (V W B D L : Int), mg_good ba bl ww gs V W B D L → 0 ≤ mg_p1 gs := by
  intro gs
  induction gs with
  | nil => intro V W B D L _; exact Int.le_refl _
  | cons e r ih =>
    intro V W B D L h
    have h1 := ih _ _ _ _ _ h.2
    simp only [mg_p1]
    split
    · rename_i q
      have h2 := h.1.2.2.2.2.2.2.2.2
      rw [q] at h2
      have h3 : 0 ≤ e.2.1 ∧ 1 ≤ e.2.2.1 ∧ e.2.1 + 2 * e.2.2.1 ≤ 16000 := h2
      omega
    · omega
/-- numbers at a step's beginning -/
def mg_n (f : Nat → Int32) (k3 : Int) (gs : List mg_E) : Prop :=
  0 ≤ (f 4).toInt ∧ (f 4).toInt ≤ (f 0).toInt ∧ (f 0).toInt ≤ 512 ∧ 0 ≤ (f 24).toInt ∧ (f 24).toInt + (f 20).toInt + mg_p1 gs ≤ 4 * (f 4).toInt ∧ (f 20).toInt ≤ (f 4).toInt ∧ (f 15).toInt + mg_p2 gs ≤ (f 4).toInt ∧
  mg_p3 gs ≤ 20 * (f 4).toInt + 20 ∧ 0 ≤ (f 68).toInt ∧ (f 68).toInt + 3 * (f 20).toInt + mg_p4 gs ≤ 60 * (f 4).toInt + 60 ∧ 0 ≤ (f 62).toInt ∧ (f 62).toInt + 64 * k3 ≤ 64 * (f 4).toInt ∧
  0 ≤ (f 44).toInt ∧ (f 44).toInt ≤ (f 4).toInt ∧ 0 ≤ (f 48).toInt ∧ (f 48).toInt ≤ (f 4).toInt ∧ 1 ≤ (f 53).toInt ∧ (f 53).toInt ≤ (f 4).toInt + 1 ∧ 0 ≤ (f 19).toInt ∧ (f 19).toInt ≤ 600 ∧ 0 ≤ (f 6).toInt ∧ 0 ≤ (f 8).toInt
/-- all that holds between two steps -/
def BI (f : Nat → Int32) (g : Nat → Nat → Int32) (gs : List mg_E) (bc : List (List Nat)) : Prop :=
  RJ f g gs bc [] 0 [] ∧ mg_good (g 34) (g 38) (g 23) gs (f 15).toInt (f 20).toInt (f 37).toInt (f 32).toInt (f 5).toInt ∧ mg_n f (mj_n (g 16) (f 15).toNatClampNeg 3) gs
