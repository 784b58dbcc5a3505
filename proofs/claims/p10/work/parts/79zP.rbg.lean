/-! THE REFERENCE OVER NAMES: a function begins; hidden locals -/
theorem XKF.same3 {k k' : kS} : ∀ {X : List xF}, XKF k X → (∀ j i, (j = 33 ∨ j = 34 ∨ j = 35 ∨ j = 36) → i < X.length → k'.2 j i = k.2 j i) → (∀ f ∈ X, k'.2 56 (f.1 - 1) = k.2 56 (f.1 - 1)) → XKF k' X := by
  intro X
  induction X with
  | nil => intro _ _ _; trivial
  | cons f r ih =>
    intro h hb hd
    obtain ⟨h1, h2, h3, h4, h5, h6⟩ := h
    refine ⟨?_, ?_, ?_, ?_, ?_, ih h6 (fun j i hj hi => hb j i hj (Nat.lt_succ_of_lt hi)) (fun g hg => hd g (List.mem_cons_of_mem _ hg))⟩
    · rw [hb 33 _ (by decide) (Nat.lt_succ_self _)]; exact h1
    · rw [hb 34 _ (by decide) (Nat.lt_succ_self _)]; exact h2
    · rw [hb 35 _ (by decide) (Nat.lt_succ_self _)]; exact h3
    · rw [hb 36 _ (by decide) (Nat.lt_succ_self _)]; exact h4
    · rw [hd f List.mem_cons_self]; exact h5
theorem XK.bgn {k : kS} {f : xF} {r : List xF} {n : Nat} {y2 ar : Int32} (h : XK k (f :: r)) (hz : SZ (((n + 1, [], [], [], 0) : xF) :: f :: r)) (hm : k.1 53 = xn n) (hn : n ≤ 1000000) (hx : ∀ g ∈ f :: r, 1 ≤ g.1 ∧ g.1 ≤ n) : XK (k177 (ka (ka (ka (ka (kf (ka (ka (ka (ka (ka (ka (ka (kf k 53 ((k.1 53) + 1)) 54 (k.1 53) ar) 59 (k.1 53) y2) 55 (k.1 53) 0) 56 (k.1 53) 0) 58 (k.1 53) 0) 60 (k.1 53) 0) 67 (k.1 53) 0) 32 ((k.1 32) + 1)) 33 ((k.1 32) + 1) (k.1 53)) 34 ((k.1 32) + 1) (k.1 24)) 35 ((k.1 32) + 1) (k.1 44)) 36 ((k.1 32) + 1) (k.1 48)) 0).1 (((n + 1, [], [], [(0, [], [], 0)], 0) : xF) :: f :: r) := by
  have hlen : (((n + 1, [], [], [], 0) : xF) :: f :: r).length = r.length + 2 := rfl
  have hzk := hz.k
  have hz0 : SZ (f :: r) := by
    unfold SZ at hz ⊢
    have e1 : (fL (((n + 1, [], [], [], 0) : xF) :: f :: r)).length = (fL (f :: r)).length := by show (fL (f :: r) ++ ([] ++ [])).length = _; rw [List.append_nil, List.append_nil]
    have e2 : (fBl (((n + 1, [], [], [], 0) : xF) :: f :: r)).length = (fBl (f :: r)).length := by show (fBl (f :: r) ++ []).length = _; rw [List.append_nil]
    have e3 : (fLab (((n + 1, [], [], [], 0) : xF) :: f :: r)).length = (fLab (f :: r)).length := by show (fLab (f :: r) ++ []).length = _; rw [List.append_nil]
    have e4 : (fGo (((n + 1, [], [], [], 0) : xF) :: f :: r)).length = (fGo (f :: r)).length := by show (fGo (f :: r) ++ []).length = _; rw [List.append_nil]
    have e5 : fLp (((n + 1, [], [], [], 0) : xF) :: f :: r) = fLp (f :: r) := rfl
    rw [e1, e2, e3, e4, e5, hlen] at hz
    have : (f :: r).length = r.length + 1 := rfl
    omega
  have hd := h.dp hz0
  obtain ⟨K, hK⟩ : ∃ K, K = ka (ka (ka (ka (kf (ka (ka (ka (ka (ka (ka (ka (kf k 53 ((k.1 53) + 1)) 54 (k.1 53) ar) 59 (k.1 53) y2) 55 (k.1 53) 0) 56 (k.1 53) 0) 58 (k.1 53) 0) 60 (k.1 53) 0) 67 (k.1 53) 0) 32 ((k.1 32) + 1)) 33 ((k.1 32) + 1) (k.1 53)) 34 ((k.1 32) + 1) (k.1 24)) 35 ((k.1 32) + 1) (k.1 44)) 36 ((k.1 32) + 1) (k.1 48) := ⟨_, rfl⟩
  rw [← hK]
  have nd : (k.1 32 + 1).toNatClampNeg = r.length + 1 := by rw [hd, xn_succ (by omega)]; exact xn_nat (by omega)
  have nm : (k.1 53).toNatClampNeg = n := by rw [hm]; exact xn_nat (by omega)
  have k33 : K.2 33 = upd (k.2 33) (r.length + 1) (k.1 53) := by rw [hK, ← nd]; rfl
  have k34 : K.2 34 = upd (k.2 34) (r.length + 1) (k.1 24) := by rw [hK, ← nd]; rfl
  have k35 : K.2 35 = upd (k.2 35) (r.length + 1) (k.1 44) := by rw [hK, ← nd]; rfl
  have k36 : K.2 36 = upd (k.2 36) (r.length + 1) (k.1 48) := by rw [hK, ← nd]; rfl
  have k56 : K.2 56 = upd (k.2 56) n 0 := by rw [hK, ← nm]; rfl
  have key : XK K (((n + 1, [], [], [], 0) : xF) :: f :: r) := by
    obtain ⟨⟨h1, h2⟩, ⟨h3, h4⟩, ⟨h5, h6⟩, ⟨h7, h8⟩, h9, h10⟩ := h
    have eL : kL (((n + 1, [], [], [], 0) : xF) :: f :: r) = kL (f :: r) := List.append_nil _
    have eB : fkBl (((n + 1, [], [], [], 0) : xF) :: f :: r) = fkBl (f :: r) := List.append_nil _
    have eLa : fLab (((n + 1, [], [], [], 0) : xF) :: f :: r) = fLab (f :: r) := List.append_nil _
    have eU : fUm (((n + 1, [], [], [], 0) : xF) :: f :: r) = fUm (f :: r) := List.append_nil _
    refine ⟨⟨by rw [eL, hK]; exact h1, by rw [eL, hK]; exact h2⟩, ⟨by rw [eB, hK]; exact h3, by rw [eB, hK]; exact h4⟩, ⟨by rw [eLa, hK]; exact h5, by rw [eLa, hK]; exact h6⟩, ⟨by rw [eU, hK]; exact h7, by rw [eU, hK]; exact h8⟩, ?_, ?_, ?_, ?_, ?_, ?_, ?_⟩
    · have : K.1 32 = k.1 32 + 1 := by rw [hK]; rfl
      rw [this, hd, xn_succ (by omega), xn_i (by omega), hlen]
      omega
    · show (K.2 33 (r.length + 1)).toInt + 1 = ((n + 1 : Nat) : Int)
      rw [k33]
      unfold upd
      rw [if_pos rfl, hm, xn_i (by omega)]
      omega
    · show K.2 34 (r.length + 1) = _
      rw [k34]
      unfold upd
      rw [if_pos rfl]
      exact h1
    · show K.2 35 (r.length + 1) = _
      rw [k35]
      unfold upd
      rw [if_pos rfl]
      exact h5
    · show K.2 36 (r.length + 1) = _
      rw [k36]
      unfold upd
      rw [if_pos rfl]
      exact h7
    · show K.2 56 (n + 1 - 1) = 0
      rw [k56]
      unfold upd
      rw [if_pos (by omega)]
    · refine h10.same3 (fun j i hj hi => ?_) (fun g hg => ?_)
      · have hi' : i < r.length + 1 := hi
        rcases hj with rfl | rfl | rfl | rfl
        · rw [k33]; exact if_neg (by omega)
        · rw [k34]; exact if_neg (by omega)
        · rw [k35]; exact if_neg (by omega)
        · rw [k36]; exact if_neg (by omega)
      · rw [k56]
        have := hx g hg
        exact if_neg (by omega)
  exact key.opn (kd := 0) hz rfl (by decide) rfl
section XKH
variable {k : kS} {f : xF} {r : List xF}
/-- a hidden local -/
theorem k196_h {c cl w st : Int32} (h : XK k (f :: r)) (hz : SZ (f :: r)) (hs : st &&& 1 = 0) : XK (ka (k196 k 0 c cl w).1 28 ((k196 k 0 c cl w).1.1 24 - 1) 1) (xd f (0, st, 0, 0) :: r) ∧ ((k196 k 0 c cl w).1.1 8 ≠ 0 ↔ k.1 8 ≠ 0 ∨ 200 ≤ f.2.1.length) := by
  have hzk := hz.k
  have hv : ∃ s1 : Int32, s1 &&& 1 ≠ 0 ∧ (c ≠ 0 ↔ s1 &&& 2 ≠ 0) := by
    by_cases e : c ≠ 0
    · exact ⟨3, by decide, ⟨fun _ => by decide, fun _ => e⟩⟩
    · exact ⟨1, by decide, ⟨fun q => absurd q e, fun q => absurd q (by decide)⟩⟩
  obtain ⟨s1, v1, v2⟩ := hv
  obtain ⟨q1, q2⟩ := k196_k (t := 0) (cl := cl) (w := w) h hz v1 (fun _ => v2)
  refine ⟨?_, q2⟩
  generalize (k196 k 0 c cl w).1 = k1 at q1
  have eL : ∀ s, kL (xd f (0, s, 0, 0) :: r) = kL (f :: r) ++ [(0, s, 0, 0)] := fun s => by
    show kL r ++ (f.2.1 ++ [(0, s, 0, 0)]) = (kL r ++ f.2.1) ++ [(0, s, 0, 0)]
    rw [List.append_assoc]
  obtain ⟨⟨h1, h2⟩, ⟨h3, h4⟩, ⟨h5, h6⟩, ⟨h7, h8⟩, h9, h10⟩ := q1
  have zl : (kL (xd f (0, s1, 0, 0) :: r)).length = (kL (f :: r)).length + 1 := by rw [eL, List.length_append]; rfl
  have n24 : (k1.1 24 - 1).toNatClampNeg = (kL (f :: r)).length := by
    rw [h1, zl]
    have := xn_sub (n := 1) (m := (kL (f :: r)).length) (by omega)
    rw [Nat.add_comm 1] at this
    have e1 : (1 : Int32) = xn 1 := rfl
    rw [e1, this]
    exact xn_nat (by omega)
  refine ⟨⟨?_, fun i q hq => ?_⟩, ⟨h3, h4⟩, ⟨h5, h6⟩, ⟨h7, h8⟩, h9, ?_⟩
  · show k1.1 24 = _
    rw [h1, zl, eL, List.length_append]
    rfl
  · show k1.2 25 i = q.1 ∧ (upd (k1.2 28) (k1.1 24 - 1).toNatClampNeg 1 i = 0 ↔ q.2.1 &&& 1 ≠ 0) ∧ (k1.1 8 = 0 → q.2.1 &&& 1 ≠ 0 → (k1.2 29 i ≠ 0 ↔ q.2.1 &&& 2 ≠ 0))
    rw [n24]
    rw [eL] at hq
    unfold upd
    rcases push_get hq with ⟨r1, r2⟩ | ⟨r1, r2⟩
    · rw [if_neg (by omega)]
      exact h2 i q (by rw [eL, List.getElem?_append_left r1]; exact r2)
    · rw [if_pos r1, r2]
      have := h2 i (0, s1, 0, 0) (by rw [eL, r1, List.getElem?_append_right (Nat.le_refl _), Nat.sub_self]; rfl)
      exact ⟨this.1, ⟨fun z => absurd z (by decide), fun z => absurd hs z⟩, fun _ z => absurd hs z⟩
  · exact XKF.same (k := k1) (X := xd f (0, s1, 0, 0) :: r) h10 (fun j hj => by rcases hj with rfl | rfl | rfl | rfl | rfl <;> rfl) |> fun z => ⟨z.1, z.2.1, z.2.2.1, z.2.2.2.1, z.2.2.2.2.1, z.2.2.2.2.2⟩
end XKH
