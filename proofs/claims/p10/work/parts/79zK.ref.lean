/-! THE REFERENCE OVER NAMES: sizes; blocks are begun; locals -/
theorem push_get {α : Type} {l : List α} {q x : α} {i : Nat} (h : (l ++ [q])[i]? = some x) : (i < l.length ∧ l[i]? = some x) ∨ (i = l.length ∧ x = q) := by
  rcases Nat.lt_or_ge i l.length with hi | hi
  · rw [List.getElem?_append_left hi] at h
    exact Or.inl ⟨hi, h⟩
  · have h2 := (List.getElem?_eq_some_iff.mp h).1
    rw [List.length_append] at h2
    have h3 : i = l.length := by have : [q].length = 1 := rfl; omega
    subst h3
    rw [List.getElem?_append_right (Nat.le_refl _), Nat.sub_self] at h
    cases h
    exact Or.inr ⟨rfl, rfl⟩
theorem kL_le : ∀ X : List xF, (kL X).length ≤ (fL X).length := by
  intro X
  induction X with
  | nil => exact Nat.le_refl _
  | cons f r ih =>
    show (kL r ++ f.2.1).length ≤ (fL r ++ (f.2.1 ++ f.2.2.1)).length
    rw [List.length_append, List.length_append, List.length_append]
    omega
theorem kBl_le {o l g d : Nat} : ∀ bs : List xB, (kBl o l g d bs).length ≤ bs.length := by
  intro bs
  induction bs with
  | nil => exact Nat.le_refl _
  | cons b r ih =>
    unfold kBl
    split
    · exact Nat.le_succ_of_le ih
    · rw [List.length_append]
      exact Nat.succ_le_succ ih
theorem fkBl_le : ∀ X : List xF, (fkBl X).length ≤ (fBl X).length := by
  intro X
  induction X with
  | nil => exact Nat.le_refl _
  | cons f r ih =>
    show (fkBl r ++ kBl _ _ _ _ _).length ≤ (fBl r ++ bBl _ _ _ _).length
    rw [List.length_append, List.length_append, bBl_len]
    have := kBl_le (o := (kL r).length) (l := (fLab r).length) (g := (fUm r).length) (d := r.length) f.2.2.2.1
    omega
theorem bUm_le : ∀ bs : List xB, (bUm bs).length ≤ (bGo bs).length := by
  intro bs
  induction bs with
  | nil => exact Nat.le_refl _
  | cons b r ih =>
    show (bUm r ++ _).length ≤ (bGo r ++ b.2.2.1).length
    rw [List.length_append, List.length_append]
    have := List.length_filter_le (fun g : xR => !(seen (bLab (b :: r)) g.1)) b.2.2.1
    omega
theorem fUm_le : ∀ X : List xF, (fUm X).length ≤ (fGo X).length := by
  intro X
  induction X with
  | nil => exact Nat.le_refl _
  | cons f r ih =>
    show (fUm r ++ bUm f.2.2.2.1).length ≤ (fGo r ++ bGo f.2.2.2.1).length
    rw [List.length_append, List.length_append]
    have := bUm_le f.2.2.2.1
    omega
theorem SZ.k {X : List xF} (h : SZ X) : (kL X).length ≤ 1000000 ∧ (fkBl X).length ≤ 1000000 ∧ (fLab X).length ≤ 1000000 ∧ (fUm X).length ≤ 1000000 ∧ X.length ≤ 1000000 := by
  have h1 := h.g
  have h2 := kL_le X
  have h3 := fkBl_le X
  have h4 := fUm_le X
  omega
theorem xn_nat {n : Nat} (h : n ≤ 16777216) : (xn n).toNatClampNeg = n := by
  show (xn n).toInt.toNat = n
  rw [xn_i h]
  omega
section XKO
variable {k : kS} {f : xF} {r : List xF} {X : List xF}
theorem XK.dp (h : XK k (f :: r)) (hz : SZ (f :: r)) : k.1 32 = xn r.length := by
  have h1 := h.2.2.2.2.1
  have h2 : (f :: r).length = r.length + 1 := rfl
  rw [h2] at h1
  have hz2 := hz.k
  exact xn_eq (by omega) (by have := hz.k; omega)
/-- a block is begun -/
theorem XK.opn {kd : Nat} {x : Int32} (h : XK k (f :: r)) (hz : SZ (f :: r)) (hp : f.2.2.1 = []) (hk : kd ≠ 2) (hx : x = if kd = 1 then 1 else 0) : XK (k177 k x).1 (xo f kd :: r) := by
  have hzk := hz.k
  have hd := h.dp hz
  obtain ⟨⟨h1, h2⟩, ⟨h3, h4⟩, ⟨h5, h6⟩, ⟨h7, h8⟩, h9, h10⟩ := h
  have ix : (k.1 37).toNatClampNeg = (fkBl (f :: r)).length := by rw [h3]; exact xn_nat (by omega)
  have eB : fkBl (xo f kd :: r) = fkBl (f :: r) ++ [(k.1 24, k.1 44, k.1 48, k.1 32, x)] := by
    show fkBl r ++ kBl _ _ _ _ (((f.2.1 ++ f.2.2.1).length, [], [], kd) :: f.2.2.2.1) = (fkBl r ++ kBl _ _ _ _ f.2.2.2.1) ++ [_]
    have : kBl (kL r).length (fLab r).length (fUm r).length r.length (((f.2.1 ++ f.2.2.1).length, [], [], kd) :: f.2.2.2.1) = kBl (kL r).length (fLab r).length (fUm r).length r.length f.2.2.2.1 ++ [(xn ((kL r).length + (f.2.1 ++ f.2.2.1).length), xn ((fLab r).length + (bLab f.2.2.2.1).length), xn ((fUm r).length + (bUm f.2.2.2.1).length), xn r.length, if kd = 1 then 1 else 0)] := by
      show (if kd = 2 then _ else _) = _
      rw [if_neg hk]
    rw [this, List.append_assoc, h1, h5, h7, hd, hx, hp, List.append_nil]
    have e1 : (kL (f :: r)).length = (kL r).length + f.2.1.length := by show (kL r ++ f.2.1).length = _; rw [List.length_append]
    have e2 : (fLab (f :: r)).length = (fLab r).length + (bLab f.2.2.2.1).length := by show (fLab r ++ bLab f.2.2.2.1).length = _; rw [List.length_append]
    have e3 : (fUm (f :: r)).length = (fUm r).length + (bUm f.2.2.2.1).length := by show (fUm r ++ bUm f.2.2.2.1).length = _; rw [List.length_append]
    rw [e1, e2, e3]
  have eLab : fLab (xo f kd :: r) = fLab (f :: r) := by
    show fLab r ++ (bLab f.2.2.2.1 ++ []) = fLab r ++ bLab f.2.2.2.1
    rw [List.append_nil]
  have eUm : fUm (xo f kd :: r) = fUm (f :: r) := by
    show fUm r ++ (bUm f.2.2.2.1 ++ []) = fUm r ++ bUm f.2.2.2.1
    rw [List.append_nil]
  refine ⟨⟨h1, h2⟩, ⟨?_, fun i q hq => ?_⟩, ⟨by rw [eLab]; exact h5, by rw [eLab]; exact h6⟩, ⟨by rw [eUm]; exact h7, by rw [eUm]; exact h8⟩, h9, ?_⟩
  · show k.1 37 + 1 = _
    rw [eB, h3, xn_succ (by omega), List.length_append]
    rfl
  · show upd (k.2 38) (k.1 37).toNatClampNeg (k.1 24) i = q.1 ∧ upd (k.2 39) (k.1 37).toNatClampNeg (k.1 44) i = q.2.1 ∧ upd (k.2 40) (k.1 37).toNatClampNeg (k.1 48) i = q.2.2.1 ∧ upd (k.2 41) (k.1 37).toNatClampNeg (k.1 32) i = q.2.2.2.1 ∧ upd (k.2 42) (k.1 37).toNatClampNeg x i = q.2.2.2.2
    rw [ix]
    rw [eB] at hq
    unfold upd
    rcases push_get hq with ⟨q1, q2⟩ | ⟨q1, q2⟩
    · rw [if_neg (by omega), if_neg (by omega), if_neg (by omega), if_neg (by omega), if_neg (by omega)]
      exact h4 i q q2
    · rw [if_pos q1, if_pos q1, if_pos q1, if_pos q1, if_pos q1, q2]
      exact ⟨rfl, rfl, rfl, rfl, rfl⟩
  · exact XKF.same (k := k) (X := r) h10.2.2.2.2.2 (fun j hj => by rcases hj with rfl | rfl | rfl | rfl | rfl <;> rfl) |> fun z => ⟨h10.1, h10.2.1, h10.2.2.1, h10.2.2.2.1, h10.2.2.2.2.1, z⟩
/-- how many locals the function has -/
theorem XK.cnt (h : XK k (f :: r)) (hz : SZ (f :: r)) : k197 k = xn f.2.1.length := by
  have hzk := hz.k
  have e1 : (kL (f :: r)).length = (kL r).length + f.2.1.length := by show (kL r ++ f.2.1).length = _; rw [List.length_append]
  show k.1 24 - k.2 34 (k.1 32).toNatClampNeg = _
  rw [h.dp hz, xn_nat (by have : (f :: r).length = r.length + 1 := rfl; omega), h.1.1, h.2.2.2.2.2.2.1, e1]
  exact xn_sub (by omega)
theorem k191_f {a b : Int32} (ha : a ≠ 0) : (k191 k a b).1.1 8 ≠ 0 := by
  unfold k191
  by_cases h : k.1 8 = 0
  · rw [if_pos h]; exact ha
  · rw [if_neg h]
    split
    · exact h
    · exact ha
/-- a local -/
theorem k196_18_k {t c cl : Int32} {st : Int32} (h : XK k (f :: r)) (hz : SZ (f :: r)) (hv : st &&& 1 ≠ 0) (hc : k.1 8 = 0 → (c ≠ 0 ↔ st &&& 2 ≠ 0)) : XK (k196_18 k t c cl).1 (xd f (t, st, 0, 0) :: r) ∧ (k196_18 k t c cl).1.1 8 = k.1 8 := by
  have hzk := hz.k
  obtain ⟨⟨h1, h2⟩, ⟨h3, h4⟩, ⟨h5, h6⟩, ⟨h7, h8⟩, h9, h10⟩ := h
  have ix : (k.1 24).toNatClampNeg = (kL (f :: r)).length := by rw [h1]; exact xn_nat (by omega)
  have eL : kL (xd f (t, st, 0, 0) :: r) = kL (f :: r) ++ [(t, st, 0, 0)] := by
    show kL r ++ (f.2.1 ++ [(t, st, 0, 0)]) = (kL r ++ f.2.1) ++ [(t, st, 0, 0)]
    rw [List.append_assoc]
  obtain ⟨k1, hk1⟩ : ∃ k1, k1 = kf (kf (ka (ka (ka (ka (ka (ka k 25 (k.1 24) t) 28 (k.1 24) 0) 26 (k.1 24) (k.1 32)) 27 (k.1 24) (k.1 31)) 29 (k.1 24) c) 30 (k.1 24) cl) 31 ((k.1 31) + 1)) 24 ((k.1 24) + 1) := ⟨_, rfl⟩
  have x1 : XK k1 (xd f (t, st, 0, 0) :: r) := by
    rw [hk1]
    refine ⟨⟨?_, fun i q hq => ?_⟩, ⟨h3, h4⟩, ⟨h5, h6⟩, ⟨h7, h8⟩, h9, ?_⟩
    · show k.1 24 + 1 = _
      rw [eL, h1, xn_succ (by omega), List.length_append]
      rfl
    · show upd (k.2 25) (k.1 24).toNatClampNeg t i = q.1 ∧ (upd (k.2 28) (k.1 24).toNatClampNeg 0 i = 0 ↔ q.2.1 &&& 1 ≠ 0) ∧ (k.1 8 = 0 → q.2.1 &&& 1 ≠ 0 → (upd (k.2 29) (k.1 24).toNatClampNeg c i ≠ 0 ↔ q.2.1 &&& 2 ≠ 0))
      rw [ix]
      rw [eL] at hq
      unfold upd
      rcases push_get hq with ⟨q1, q2⟩ | ⟨q1, q2⟩
      · rw [if_neg (by omega), if_neg (by omega), if_neg (by omega)]
        exact h2 i q q2
      · rw [if_pos q1, if_pos q1, if_pos q1, q2]
        exact ⟨rfl, ⟨fun _ => hv, fun _ => rfl⟩, fun z _ => hc z⟩
    · exact ⟨h10.1, h10.2.1, h10.2.2.1, h10.2.2.2.1, h10.2.2.2.2.1, XKF.same (k := k) (X := r) h10.2.2.2.2.2 (fun j hj => by rcases hj with rfl | rfl | rfl | rfl | rfl <;> rfl)⟩
  have e8 : k1.1 8 = k.1 8 := by rw [hk1]; rfl
  have hfin : ∀ v, XK (ka k1 58 (kr k 33 (k.1 32)) v) (xd f (t, st, 0, 0) :: r) := fun v => x1.fr (F := 0) (A := 288230376151711744) (kFr.sa kFr.refl rfl) rfl rfl
  unfold k196_18
  rw [← hk1]
  split
  · exact ⟨hfin _, e8⟩
  · exact ⟨hfin _, e8⟩
end XKO
