/-! THE REFERENCE OVER NAMES: locals that waited are there -/
theorem rev_s {x : Int32} (h : x = 0 ∨ x = 2 ∨ x = 6) : (x ||| 1) &&& 1 ≠ 0 ∧ ((x ||| 1) &&& 2 ≠ 0 ↔ x &&& 2 ≠ 0) := by
  rcases h with rfl | rfl | rfl <;> decide
/-- what waits in the reference for these locals, from the place n on -/
def WA (k : kS) (n : Nat) (p : List xR) : Prop := ∀ j q, p[j]? = some q → kr k 2 (k.2 23 (n + j)) = q.1 ∧ (k.1 8 = 0 → (¬ k.2 21 (n + j) ≤ 0 ↔ q.2.1 &&& 2 ≠ 0)) ∧ (q.2.1 = 0 ∨ q.2.1 = 2 ∨ q.2.1 = 6) ∧ q.2.2 = (0, 0)
theorem xdn_cons {f : xF} {q : xR} {l : List xR} : xdn f (q :: l) = xdn (xd f q) l := rfl
theorem SZ_xdn {f : xF} {r : List xF} {l : List xR} (hz : SZ (xdn f l :: r)) : SZ (f :: r) := by
  have len : ∀ (l : List xR) (f : xF), (fL (f :: r)).length ≤ (fL (xdn f l :: r)).length ∧ (fBl (xdn f l :: r)).length = (fBl (f :: r)).length ∧ (fLab (xdn f l :: r)).length = (fLab (f :: r)).length ∧ (fGo (xdn f l :: r)).length = (fGo (f :: r)).length ∧ fLp (xdn f l :: r) = fLp (f :: r) := by
    intro l
    induction l with
    | nil => intro f; exact ⟨Nat.le_refl _, rfl, rfl, rfl, rfl⟩
    | cons q l ih =>
      intro f
      obtain ⟨i1, i2, i3, i4, i5⟩ := ih (xd f q)
      refine ⟨Nat.le_trans ?_ i1, i2, i3, i4, i5⟩
      show (fL r ++ (f.2.1 ++ f.2.2.1)).length ≤ (fL r ++ ((f.2.1 ++ [q]) ++ f.2.2.1)).length
      simp only [List.length_append]
      omega
  obtain ⟨i1, i2, i3, i4, i5⟩ := len l f
  unfold SZ at hz ⊢
  have e1 : (xdn f l :: r).length = (f :: r).length := rfl
  omega
theorem le_go {y1 y2 y3 y4 : Int32} {r : List xF} : ∀ (p : List xR) (n : Nat) (f : xF) (k : kS), XK k (f :: r) → SZ (xdn f (p.map rev1) :: r) → WA k n p → k.1 20 = xn (n + p.length) → n + p.length ≤ 1000000 → ∃ m k', kwh (k241b16 y1 y2 y3 y4) m (k, xn n) = (1, (k', xn (n + p.length))) ∧ XK k' (xdn f (p.map rev1) :: r) ∧ (k'.1 8 ≠ 0 ↔ k.1 8 ≠ 0 ∨ ∃ j, j < p.length ∧ 200 ≤ f.2.1.length + j) := by
  intro p
  induction p with
  | nil =>
    intro n f k h hz hw h20 hn
    have e : k241b16 y1 y2 y3 y4 (k, xn n) = (1, (k, xn n)) := by
      unfold k241b16
      rw [if_pos (by show k.1 20 ≤ xn n; rw [h20]; exact Int32.le_refl _)]
    exact ⟨1, k, by rw [kwh_out (by rw [e]; exact Nat.succ_ne_zero _), e]; rfl, h, ⟨Or.inl, fun q => q.resolve_right (fun ⟨j, hj, _⟩ => absurd hj (Nat.not_lt_zero _))⟩⟩
  | cons q p ih =>
    intro n f k h hz hw h20 hn
    have hl : (q :: p).length = p.length + 1 := rfl
    have hz0 : SZ (f :: r) := SZ_xdn hz
    obtain ⟨w1, w2, w3, w4⟩ := hw 0 q rfl
    rw [Nat.add_zero] at w1 w2
    obtain ⟨v1, v2⟩ := rev_s w3
    have eq : rev1 q = (q.1, q.2.1 ||| 1, 0, 0) := by
      unfold rev1
      rw [w4]
    have r21 : kr k 21 (xn n) = k.2 21 n := by show k.2 21 (xn n).toNatClampNeg = _; rw [xn_nat (by omega)]
    have r23 : kr k 23 (xn n) = k.2 23 n := by show k.2 23 (xn n).toNatClampNeg = _; rw [xn_nat (by omega)]
    have hc : ¬ k.1 20 ≤ xn n := by rw [h20, i_le, xn_i (by omega), xn_i (by omega)]; omega
    have step : ∃ c cl, k241b16 y1 y2 y3 y4 (k, xn n) = (0, ((k196 k q.1 c cl (k.2 23 n)).1, xn (n + 1))) ∧ (k.1 8 = 0 → (c ≠ 0 ↔ (q.2.1 ||| 1) &&& 2 ≠ 0)) := by
      unfold k241b16
      dsimp only
      rw [if_neg hc, r21, r23, w1, xn_succ (by omega)]
      by_cases c1 : k.2 21 n ≤ 0
      · rw [if_pos c1]
        have hq : k.1 8 = 0 → ¬ ((q.2.1 ||| 1) &&& 2 ≠ 0) := fun h8 z => (w2 h8).mpr (v2.mp z) c1
        split
        · exact ⟨0, 0, rfl, fun h8 => ⟨fun z => absurd rfl z, fun z => absurd z (hq h8)⟩⟩
        · exact ⟨0, 1, rfl, fun h8 => ⟨fun z => absurd rfl z, fun z => absurd z (hq h8)⟩⟩
      · rw [if_neg c1]
        have hq : k.1 8 = 0 → (q.2.1 ||| 1) &&& 2 ≠ 0 := fun h8 => v2.mpr ((w2 h8).mp c1)
        split
        · exact ⟨1, 0, rfl, fun h8 => ⟨fun _ => hq h8, fun _ => by decide⟩⟩
        · exact ⟨1, 1, rfl, fun h8 => ⟨fun _ => hq h8, fun _ => by decide⟩⟩
    obtain ⟨c, cl, e, hcc⟩ := step
    obtain ⟨a1, a2⟩ := k196_k (t := q.1) (c := c) (cl := cl) (w := k.2 23 n) h hz0 v1 hcc
    have hf := fr_k196 k q.1 c cl (k.2 23 n)
    rw [← eq] at a1
    have ea : n + (q :: p).length = n + 1 + p.length := by omega
    obtain ⟨m, k', r1, r2, r3⟩ := ih (n + 1) (xd f (rev1 q)) _ a1 hz (fun j q' hq' => by
      have := hw (j + 1) q' (by rw [List.getElem?_cons_succ]; exact hq')
      rw [show n + (j + 1) = n + 1 + j by omega] at this
      show (k196 k q.1 c cl (k.2 23 n)).1.2 2 ((k196 k q.1 c cl (k.2 23 n)).1.2 23 (n + 1 + j)).toNatClampNeg = q'.1 ∧ ((k196 k q.1 c cl (k.2 23 n)).1.1 8 = 0 → (¬ (k196 k q.1 c cl (k.2 23 n)).1.2 21 (n + 1 + j) ≤ 0 ↔ q'.2.1 &&& 2 ≠ 0)) ∧ _
      rw [hf.2 2 rfl, hf.2 23 rfl, hf.2 21 rfl]
      exact ⟨this.1, fun z => this.2.1 (Classical.byContradiction (fun y => a2.mpr (Or.inl y) z)), this.2.2⟩) (by rw [hf.1 20 rfl, h20, ea]) (by omega)
    rw [← ea] at r1
    refine ⟨m + 1, k', by rw [kwh_go (by rw [e]), e]; exact r1, r2, ?_⟩
    have el : (xd f (rev1 q)).2.1.length = f.2.1.length + 1 := by show (f.2.1 ++ [_]).length = _; rw [List.length_append]; rfl
    rw [r3, a2, el]
    constructor
    · rintro ((z | z) | ⟨j, z1, z2⟩)
      · exact Or.inl z
      · exact Or.inr ⟨0, by omega, by omega⟩
      · exact Or.inr ⟨j + 1, by omega, by omega⟩
    · rintro (z | ⟨j, z1, z2⟩)
      · exact Or.inl (Or.inl z)
      · by_cases e0 : j = 0
        · exact Or.inl (Or.inr (by omega))
        · exact Or.inr ⟨j - 1, by omega, by omega⟩
theorem xdn_all {f : xF} : ∀ {l : List xR}, xdn f l = (f.1, f.2.1 ++ l, f.2.2.1, f.2.2.2.1, f.2.2.2.2) := by
  intro l
  induction l generalizing f with
  | nil =>
    show f = _
    rw [List.append_nil]
  | cons q l ih =>
    rw [xdn_cons, ih]
    show (f.1, (f.2.1 ++ [q]) ++ l, f.2.2.1, f.2.2.2.1, f.2.2.2.2) = _
    rw [List.append_assoc]
    rfl
/-- what waits is of no account for the reference -/
theorem XK.pnd {k : kS} {f : xF} {r : List xF} {p : List xR} (h : XK k (f :: r)) : XK k ((f.1, f.2.1, p, f.2.2.2.1, f.2.2.2.2) :: r) := h
/-- localEnd -/
theorem XK.lend {k : kS} {f : xF} {r : List xF} {w : Int32} {n : Nat} (h : XK k (f :: r)) (hz : SZ (xdn f (f.2.2.1.map rev1) :: r)) (hw : WA k n f.2.2.1) (h20 : k.1 20 = xn (n + f.2.2.1.length)) (hn : n + f.2.2.1.length ≤ 1000000) : XK (k241 k w (xn n)).1 (xrv f :: r) ∧ ((k241 k w (xn n)).1.1 8 ≠ 0 ↔ k.1 8 ≠ 0 ∨ ∃ j, j < f.2.2.1.length ∧ 200 ≤ f.2.1.length + j) ∧ (k241 k w (xn n)).1.1 20 = xn n := by
  obtain ⟨m, k', r1, r2, r3⟩ := le_go (y1 := w) (y2 := xn n) (y3 := k197 k) (y4 := k.1 20 - xn n) f.2.2.1 n f k h hz hw h20 hn
  have hk := kfin_of ⟨m, r1⟩ (Nat.succ_ne_zero 0)
  rw [xdn_all] at r2
  have x1 : XK k' (xrv f :: r) := r2.pnd
  have ek : (k241 k w (xn n)).1 = kf (kfin (k241b99 (xn n) (k197 k) (k.1 20 - xn n)) ((k189 k' 27 (k197 k) (k.1 20 - xn n) w).1, 0)).2.1 20 (xn n) := by
    unfold k241 k241_95
    rw [hk]
  have p1 := fr_k189 k' 27 (k197 k) (k.1 20 - xn n) w
  have p2 : kFr 295147905179352825856 18300323042624482050048 (k189 k' 27 (k197 k) (k.1 20 - xn n) w).1 (kfin (k241b99 (xn n) (k197 k) (k.1 20 - xn n)) ((k189 k' 27 (k197 k) (k.1 20 - xn n) w).1, 0)).2.1 := (kfin_fr1 (t := ((k189 k' 27 (k197 k) (k.1 20 - xn n) w).1, 0)) (fun t => fr_k241b99 (xn n) (k197 k) (k.1 20 - xn n) t)).mono rfl rfl
  rw [ek]
  have x2 : XK (kfin (k241b99 (xn n) (k197 k) (k.1 20 - xn n)) ((k189 k' 27 (k197 k) (k.1 20 - xn n) w).1, 0)).2.1 (xrv f :: r) := (x1.fr p1 rfl rfl).fr p2 rfl rfl
  have e8 : (kfin (k241b99 (xn n) (k197 k) (k.1 20 - xn n)) ((k189 k' 27 (k197 k) (k.1 20 - xn n) w).1, 0)).2.1.1 8 = k'.1 8 := (p2.1 8 rfl).trans (p1.1 8 rfl)
  generalize (kfin (k241b99 (xn n) (k197 k) (k.1 20 - xn n)) ((k189 k' 27 (k197 k) (k.1 20 - xn n) w).1, 0)).2.1 = k3 at x2 e8
  refine ⟨x2.fr (F := 1048576) (A := 0) (kFr.sf kFr.refl rfl) rfl rfl, ?_, rfl⟩
  show k3.1 8 ≠ 0 ↔ _
  rw [e8]
  exact r3
