/-! THE WALK OVER BOTH: names of a local statement -/
section LOC
variable {L : List xR} {P : PT} {k0 k k' : kS} {T V W a t v w n : Nat} {s s' : cS} {f : xF} {r : List xF} {x y z y1 y2 y3 y4 y6 y7 cl pw nm at' : Int32} {rc : cRC}
theorem kf_id {k : kS} {j : Nat} : kf k j (k.1 j + 0) = k := by
  have e : upd k.1 j (k.1 j + 0) = k.1 := by
    funext i
    unfold upd
    by_cases c : i = j
    · rw [if_pos c, c, Int32.add_zero]
    · rw [if_neg c]
  show (upd k.1 j (k.1 j + 0), k.2) = k
  rw [e]
theorem WA.same {p : List xR} (h : WA k n p) (h8 : kSt k k') (h2 : k'.2 2 = k.2 2) (h21 : ∀ i, i < n + p.length → k'.2 21 i = k.2 21 i) (h23 : ∀ i, i < n + p.length → k'.2 23 i = k.2 23 i) : WA k' n p := by
  intro j q hq
  have hj := (List.getElem?_eq_some_iff.mp hq).1
  obtain ⟨a1, a2, a3, a4⟩ := h j q hq
  refine ⟨?_, fun z => ?_, a3, a4⟩
  · unfold kr at a1 ⊢
    rw [h2, h23 _ (by omega)]
    exact a1
  · rw [h21 _ (by omega)]
    exact a2 (h8 z)
theorem WA.snoc {p : List xR} {q : xR} (h : WA k n p) (h1 : kr k 2 (k.2 23 (n + p.length)) = q.1) (h2 : k.1 8 = 0 → (¬ k.2 21 (n + p.length) ≤ 0 ↔ q.2.1 &&& 2 ≠ 0)) (h3 : q.2.1 = 0 ∨ q.2.1 = 2 ∨ q.2.1 = 6) (h4 : q.2.2 = (0, 0)) : WA k n (p ++ [q]) := by
  intro j q' hq
  rcases Nat.lt_trichotomy j p.length with hj | hj | hj
  · rw [List.getElem?_append_left hj] at hq
    exact h j q' hq
  · subst hj
    rw [List.getElem?_append_right (Nat.le_refl _), Nat.sub_self] at hq
    cases hq
    exact ⟨h1, h2, h3, h4⟩
  · rw [List.getElem?_eq_none (by rw [List.length_append]; show p.length + 1 ≤ j; omega)] at hq
    cases hq
/-- the rows of those that are to be closed: n where they wait, b locals before them -/
def clr (k : kS) : Nat → Nat → List xR → List xR
  | _, _, [] => []
  | n, b, q :: p => (if q.2.1 &&& 4 ≠ 0 then [(28, xn b, 0, k.2 23 n)] else []) ++ clr k (n + 1) (b + 1) p
theorem clr_same : ∀ {p : List xR} {n b : Nat}, (∀ i, i < n + p.length → k'.2 23 i = k.2 23 i) → clr k' n b p = clr k n b p := by
  intro p
  induction p with
  | nil => intro n b _; rfl
  | cons q p ih =>
    intro n b h
    have hl : (q :: p).length = p.length + 1 := rfl
    show (if q.2.1 &&& 4 ≠ 0 then [((28 : Int32), xn b, (0 : Int32), k'.2 23 n)] else []) ++ clr k' (n + 1) (b + 1) p = (if q.2.1 &&& 4 ≠ 0 then [((28 : Int32), xn b, (0 : Int32), k.2 23 n)] else []) ++ clr k (n + 1) (b + 1) p
    rw [h n (by omega), ih (fun i hi => h i (by omega))]
theorem clr_snoc {q : xR} : ∀ {p : List xR} {n b : Nat}, clr k n b (p ++ [q]) = clr k n b p ++ (if q.2.1 &&& 4 ≠ 0 then [((28 : Int32), xn (b + p.length), (0 : Int32), k.2 23 (n + p.length))] else []) := by
  intro p
  induction p with
  | nil =>
    intro n b
    show (if q.2.1 &&& 4 ≠ 0 then [((28 : Int32), xn b, (0 : Int32), k.2 23 n)] else []) ++ [] = [] ++ _
    rw [List.append_nil]
    rfl
  | cons a p ih =>
    intro n b
    have hl : (a :: p).length = p.length + 1 := rfl
    show (if a.2.1 &&& 4 ≠ 0 then [((28 : Int32), xn b, (0 : Int32), k.2 23 n)] else []) ++ clr k (n + 1) (b + 1) (p ++ [q]) = ((if a.2.1 &&& 4 ≠ 0 then [((28 : Int32), xn b, (0 : Int32), k.2 23 n)] else []) ++ clr k (n + 1) (b + 1) p) ++ _
    rw [ih, List.append_assoc, show b + 1 + p.length = b + (a :: p).length by omega, show n + 1 + p.length = n + (a :: p).length by omega]
/-- what waits, on both sides; y: the word of the one that is to be closed, y': which local it is -/
def WX (y y' : Int32) (b : Nat) (k : kS) (n : Nat) (p : List xR) : Prop := WA k n p ∧ (∀ (j : Nat) (q : xR), p[j]? = some q → (k.2 21 (n + j) = 2 ↔ q.2.1 &&& 4 ≠ 0)) ∧ (k.1 8 = 0 → clr k n b p = if y < 0 then [] else [(28, y', 0, y)])
theorem WX.same {b : Nat} {y' : Int32} {p : List xR} (h : WX y y' b k n p) (h8 : kSt k k') (h2 : k'.2 2 = k.2 2) (h21 : ∀ i, i < n + p.length → k'.2 21 i = k.2 21 i) (h23 : ∀ i, i < n + p.length → k'.2 23 i = k.2 23 i) : WX y y' b k' n p := by
  refine ⟨h.1.same h8 h2 h21 h23, fun j q hq => ?_, fun z => (clr_same h23).trans (h.2.2 (h8 z))⟩
  rw [h21 _ (by have := (List.getElem?_eq_some_iff.mp hq).1; omega)]
  exact h.2.1 j q hq
theorem WX.snoc {b : Nat} {p : List xR} {q : xR} {y' z z' : Int32} (h : WX y y' b k n p) (h1 : kr k 2 (k.2 23 (n + p.length)) = q.1) (h2 : k.1 8 = 0 → (¬ k.2 21 (n + p.length) ≤ 0 ↔ q.2.1 &&& 2 ≠ 0)) (h3 : q.2.1 = 0 ∨ q.2.1 = 2 ∨ q.2.1 = 6) (h4 : q.2.2 = (0, 0)) (h5 : k.2 21 (n + p.length) = 2 ↔ q.2.1 &&& 4 ≠ 0) (h6 : k.1 8 = 0 → clr k n b (p ++ [q]) = if z < 0 then [] else [(28, z', 0, z)]) : WX z z' b k n (p ++ [q]) := by
  refine ⟨h.1.snoc h1 h2 h3 h4, fun j q' hq => ?_, h6⟩
  rcases Nat.lt_trichotomy j p.length with hj | hj | hj
  · rw [List.getElem?_append_left hj] at hq
    exact h.2.1 j q' hq
  · subst hj
    rw [List.getElem?_append_right (Nat.le_refl _), Nat.sub_self] at hq
    cases hq
    exact h5
  · rw [List.getElem?_eq_none (by rw [List.length_append]; show p.length + 1 ≤ j; omega)] at hq
    cases hq
/-- a function with names that wait -/
def fwp (f : xF) (p : List xR) : xF := (f.1, f.2.1, p, f.2.2.2.1, f.2.2.2.2)
def LSt (y y' : Int32) (L : List xR) (P : PT) (k0 : kS) (t v w a : Nat) (s : cS) (k : kS) (f : xF) (r : List xF) (p : List xR) : Prop := SG L P k0 t v w a s k (fwp f p :: r) t v (w + p.length) ∧ WX y y' f.2.1.length k w p
theorem LSt.kee {p : List xR} {q : xR} {y' z' : Int32} (h : SG L P k0 t v w a s k (fwp f (p ++ [q]) :: r) t v (w + p.length)) (hwa : WX y y' f.2.1.length k w p) (hw : w + p.length + 1 ≤ a) (h1 : kr k 2 nm = q.1) (h2 : k.1 8 = 0 → (¬ at' ≤ 0 ↔ q.2.1 &&& 2 ≠ 0)) (h3 : q.2.1 = 0 ∨ q.2.1 = 2 ∨ q.2.1 = 6) (h4 : q.2.2 = (0, 0)) (h5 : at' = 2 ↔ q.2.1 &&& 4 ≠ 0) (h6 : k.1 8 = 0 → clr k w f.2.1.length p ++ (if q.2.1 &&& 4 ≠ 0 then [((28 : Int32), xn (f.2.1.length + p.length), (0 : Int32), nm)] else []) = if z < 0 then [] else [(28, z', 0, z)]) : LSt z z' L P k0 t v w a s (k239 k at' 0 nm).1 f r (p ++ [q]) := by
  have hle := h.le
  have ix : (k.1 20).toNatClampNeg = w + p.length := by rw [h.2.1.2.2]; exact xn_nat (by omega)
  have e1 : (p ++ [q]).length = p.length + 1 := by rw [List.length_append]; rfl
  refine ⟨?_, ?_⟩
  · rw [e1]
    exact h.kee (by omega) hw
  · refine WX.snoc ((hwa.same (k' := (k239 k at' 0 nm).1) (kSt.of (fr_k239 k at' 0 nm) rfl) rfl (fun i hi => ?_) (fun i hi => ?_))) ?_ (fun z => ?_) h3 h4 ?_ (fun z8 => ?_)
    · show upd (k.2 21) (k.1 20).toNatClampNeg at' i = _
      rw [ix]
      exact if_neg (by omega)
    · show upd (k.2 23) (k.1 20).toNatClampNeg nm i = _
      rw [ix]
      exact if_neg (by omega)
    · have e : (k239 k at' 0 nm).1.2 23 (w + p.length) = nm := by
        show upd (k.2 23) (k.1 20).toNatClampNeg nm (w + p.length) = _
        rw [ix]
        exact if_pos rfl
      rw [e]
      exact h1
    · have e : (k239 k at' 0 nm).1.2 21 (w + p.length) = at' := by
        show upd (k.2 21) (k.1 20).toNatClampNeg at' (w + p.length) = _
        rw [ix]
        exact if_pos rfl
      rw [e]
      exact h2 z
    · have e : (k239 k at' 0 nm).1.2 21 (w + p.length) = at' := by
        show upd (k.2 21) (k.1 20).toNatClampNeg at' (w + p.length) = _
        rw [ix]
        exact if_pos rfl
      rw [e]
      exact h5
    · have e : (k239 k at' 0 nm).1.2 23 (w + p.length) = nm := by
        show upd (k.2 23) (k.1 20).toNatClampNeg nm (w + p.length) = _
        rw [ix]
        exact if_pos rfl
      rw [clr_snoc, e, clr_same (k := k) (fun i hi => ?_)]
      · exact h6 z8
      · show upd (k.2 23) (k.1 20).toNatClampNeg nm i = _
        rw [ix]
        exact if_neg (by omega)
/-- one name is read: the loop goes on or ends, or both refuse -/
def LN1 (rc : cRC) (L : List xR) (P : PT) (k0 : kS) (t v w a : Nat) (f : xF) (r : List xF) (y1 y2 y6 : Int32) (C : Option (cS × Option Int32)) (B : Nat × (kS × Int32 × Int32)) : Prop := (∃ s' p' a' k' y3' y4' mr cl', C = c147_134 rc s' y1 y2 y3' y4' y6 mr ∧ B = (0, (k', mr, cl')) ∧ a < a' ∧ (y3' < 0 ↔ cl' = 0) ∧ ((mr = 0 ∧ LSt y3' y4' L P k0 t v w a' s' k' f r p') ∨ (mr = 1 ∧ ∃ s1 x, c55 s' = (s1, some x) ∧ LSt y3' y4' L P k0 t v w a' s1 k' f r p'))) ∨ (∃ s' c k' m c', C = some (s', none) ∧ B = (c, (k', m, c')) ∧ (c = 1 ∨ c = 2) ∧ k'.1 6 ≠ 0)
theorem ln_sep {p : List xR} {a0 : Nat} {W' : Int32} (h : LSt y3 y4 L P k0 t v w a s k f r p) (ha : a0 < a) (hcl : y3 < 0 ↔ cl = 0) : LN1 rc L P k0 t v w a0 f r y1 y2 y6 (c147_117 rc s y1 y2 y3 y4 y6) (k238b113_264 k pw W' z cl) := by
  left
  unfold c147_117 k238b113_264
  by_cases c69 : c53 s = 69
  · rw [if_neg (fun z => z c69), if_neg (fun z => z ((h.1.is (by decide) (by decide)).mp c69))]
    obtain ⟨q, s1, q1, q2, q3, q4, q5⟩ := h.1.skp c69 pl69
    have fk : kFr 16 0 k (kf k 4 (k.1 4 + 1)) := kFr.sf kFr.refl rfl
    exact ⟨s, p, a + 1, _, y3, y4, 1, cl, rfl, rfl, by omega, hcl, Or.inr ⟨rfl, s1, q.2.1, q3, q4, h.2.same (kSt.of fk rfl) rfl (fun _ _ => rfl) (fun _ _ => rfl)⟩⟩
  · rw [if_pos c69, if_pos (fun z => c69 ((h.1.is (by decide) (by decide)).mpr z)), kf_id]
    exact ⟨s, p, a, k, y3, y4, 0, cl, rfl, rfl, ha, hcl, Or.inl ⟨rfl, h⟩⟩
theorem k191_n : (k191 k 9 x).1.1 8 ≠ 0 := fun z => by
  unfold k191 at z
  split at z
  · exact absurd (show (9 : Int32) = 0 from z) (by decide)
  · rename_i c
    split at z
    · exact c z
    · exact absurd (show (9 : Int32) = 0 from z) (by decide)
/-- an attribute is read: its mark and what waits -/
theorem ln_mrk {p : List xR} {q : xR} {a0 : Nat} {W' vv y4' clz y' : Int32} {s6 : cS} {k6 : kS} (h : SG L P k0 t v w a s6 k6 (fwp f (p ++ [q]) :: r) t v (w + p.length)) (hwa : WX y y' f.2.1.length k6 w p) (hq0 : q.2.1 = 0) (hq2 : q.2.2 = (0, 0)) (hvv : vv = 2 ∨ vv = 6) (hw : w + p.length + 1 ≤ a) (h1 : kr k6 2 nm = q.1) (h2 : k6.1 8 = 0 → ¬ at' ≤ 0) (h5 : at' = 2 ↔ vv &&& 4 ≠ 0) (h6 : c75 (c141 s6 vv).1 - 1 = xn (f.2.1.length + p.length) → k6.1 8 = 0 → clr k6 w f.2.1.length p ++ (if vv &&& 4 ≠ 0 then [((28 : Int32), xn (f.2.1.length + p.length), (0 : Int32), nm)] else []) = if y3 < 0 then [] else [(28, y4', 0, y3)]) (ha : a0 < a) (hcl : y3 < 0 ↔ clz = 0) : LN1 rc L P k0 t v w a0 f r y1 y2 y6 (c147_117 rc (c141 s6 vv).1 y1 y2 y3 y4' y6) (k238b113_255 k6 pw W' z clz nm at') := by
  have n1 := RN.mrk (v := vv) h.1.2.1 h.SZ (show (fwp f (p ++ [q])).2.2.1 = p ++ [q] from rfl) hq0 hvv
  have shq : sh (fwp f (p ++ [q]) :: r) = sh (fwp f (p ++ [(q.1, vv, q.2.2)]) :: r) := by
    have ne : ∀ q' : xR, p ++ [q'] ≠ [] := fun q' z => absurd (congrArg List.length z) (by rw [List.length_append]; exact Nat.succ_ne_zero _)
    show (f.1, if p ++ [q] = [] then 0 else f.2.1.length + (p ++ [q]).length) :: sh r = (f.1, if p ++ [(q.1, vv, q.2.2)] = [] then 0 else f.2.1.length + (p ++ [(q.1, vv, q.2.2)]).length) :: sh r
    rw [if_neg (ne _), if_neg (ne _), List.length_append, List.length_append]
    rfl
  have h7 : SG L P k0 t v w a (c141 s6 vv).1 k6 (fwp f (p ++ [(q.1, vv, q.2.2)]) :: r) t v (w + p.length) := by
    refine h.nam (fr_c141 s6 vv) (kFr.refl (F := 0) (A := 0)) n1 ?_ ((h.ou (fr_c141 s6 vv) (kFr.refl (F := 0) (A := 0))).cut rfl (Nat.le_refl _) (by show (p ++ [(q.1, vv, q.2.2)]).length ≤ (p ++ [q]).length; rw [List.length_append, List.length_append]; exact Nat.le_refl _)) (h.nff (fr_c141 s6 vv) (kFr.refl (F := 0) (A := 0)) kSt.refl shq (fun _ _ z => z) rfl rfl)
    have e1 := h.sz
    have e2 : szX (fwp f (p ++ [(q.1, vv, q.2.2)]) :: r) = szX (fwp f (p ++ [q]) :: r) := by
      show szX r + szF _ = szX r + szF _
      unfold szF fwp
      show _ + ((f.2.1.length + (p ++ [(q.1, vv, q.2.2)]).length) + _ + _ + _ + _ + 1) = _ + ((f.2.1.length + (p ++ [q]).length) + _ + _ + _ + _ + 1)
      rw [List.length_append, List.length_append]
      rfl
    omega
  have e75 : c75 (c141 s6 vv).1 - 1 = xn (f.2.1.length + p.length) := by
    have zc := h7.1.2.1.1.cnt h7.SZ
    have zl := h7.SZ.g
    have el : (f.2.1 ++ (p ++ [(q.1, vv, q.2.2)])).length = 1 + (f.2.1.length + p.length) := by
      rw [List.length_append, List.length_append]
      show f.2.1.length + (p.length + 1) = _
      omega
    have eg : (fL (fwp f (p ++ [(q.1, vv, q.2.2)]) :: r)).length = (fL r).length + (f.2.1 ++ (p ++ [(q.1, vv, q.2.2)])).length := by
      show (fL r ++ (f.2.1 ++ (p ++ [(q.1, vv, q.2.2)]))).length = _
      rw [List.length_append]
    have zc' : c75 (c141 s6 vv).1 = xn (f.2.1 ++ (p ++ [(q.1, vv, q.2.2)])).length := zc
    rw [zc', el]
    exact xn_sub (n := 1) (m := f.2.1.length + p.length) (by omega)
  unfold k238b113_255
  have h8 := LSt.kee (z' := y4') (nm := nm) (at' := at') h7 hwa hw h1 (fun z => ⟨fun _ => (show vv &&& 2 ≠ 0 from by rcases hvv with e | e <;> rw [e] <;> decide), fun _ => h2 z⟩) (Or.inr hvv) hq2 h5 (h6 e75)
  exact ln_sep h8 ha hcl
theorem SGp.nte {X : List xF} {a1 a2 x' : Int32} (h : SG L P k0 T V W a s k X t v w) (h1 : a1 ≠ 0) (h2 : a2 ≠ 0) : SG L P k0 T V W a (c76 s a1 x).1 (k191 k a2 x').1 X t v w := by
  have f := fr_k191 k a2 x'
  exact ⟨h.1.nto h1 h2, ⟨(f.1 10 rfl).trans h.2.1.1, (f.1 15 rfl).trans h.2.1.2.1, (f.1 20 rfl).trans h.2.1.2.2⟩, h.2.2.1.trans (KB.fr f rfl), h.2.2.2.1, h.2.2.2.2.ts (TS.of (fr_c76 s a1 x) rfl) (Nat.le_refl _)⟩
theorem WX.nte {b : Nat} {y' : Int32} {p : List xR} (h : WX y y' b k n p) : WX y y' b (k191 k 9 x).1 n p := by
  have f := fr_k191 k 9 x
  exact h.same (st_k191 k 9 x (by decide)) (f.2 2 rfl) (fun i _ => by rw [f.2 21 rfl]) (fun i _ => by rw [f.2 23 rfl])
/-- the attribute's text decides -/
theorem ln_txt {p : List xR} {q : xR} {a0 : Nat} {W' cb tx aw : Int32} {s6 : cS} {k6 : kS} (h : SG L P k0 t v w a s6 k6 (fwp f (p ++ [q]) :: r) t v (w + p.length)) (hwa : WX y3 y4 f.2.1.length k6 w p) (hq0 : q.2.1 = 0) (hq2 : q.2.2 = (0, 0)) (hw : w + p.length + 1 ≤ a) (h1 : kr k6 2 nm = q.1) (ha : a0 < a) (hcl : y3 < 0 ↔ cl = 0) (hcb : cb = 0 ↔ cl = 0) (ht : kr k6 2 aw = tx) (hy7 : ¬ y7 < 0) (hnm : y7 = nm) : LN1 rc L P k0 t v w a0 f r y1 y2 y6 (rbd (some (c148_34 s6 cb x tx z)) (fun _ w4 => c147_100 rc (c148_34 s6 cb x tx z).1 y1 y2 y3 y4 y6 y7 w4)) (k238b113_178 k6 pw W' 1 cl nm aw) := by
  have h6n := h.nte (a1 := 9) (a2 := 9) (x := x) (x' := aw) (by decide) (by decide)
  have wan := hwa.nte (x := aw)
  have h1n : kr (k191 k6 9 aw).1 2 nm = q.1 := by
    unfold kr
    rw [(fr_k191 k6 9 aw).2 2 rfl]
    exact h1
  have k237 : ∀ (kk : kS) (v6 : Int32), v6 ≠ 2 → k238b113_237 kk pw W' 1 cl nm v6 = k238b113_255 kk pw W' 1 (if cl = 0 then 0 else 1) nm v6 := fun kk v6 h6 => by
    unfold k238b113_237 k238b113_248
    by_cases c : cl = 0
    · rw [if_neg (fun z => z c), if_pos h6, if_pos c]
    · rw [if_pos c, if_neg c]
  have k2372 : ∀ (kk : kS), k238b113_237 kk pw W' 1 cl nm 2 = k238b113_255 kk pw W' 1 1 nm 2 := fun kk => by
    unfold k238b113_237 k238b113_248
    by_cases c : cl = 0
    · rw [if_neg (fun z => z c), if_neg (fun z => z rfl)]
    · rw [if_pos c]
  have hclz : y3 < 0 ↔ (if cl = 0 then (0 : Int32) else 1) = 0 := by
    rw [hcl]
    by_cases c : cl = 0
    · rw [if_pos c]
      exact ⟨fun _ => rfl, fun _ => c⟩
    · rw [if_neg c]
      exact ⟨fun z => absurd z c, fun z => absurd z (by decide)⟩
  have hcl1 : y7 < 0 ↔ (1 : Int32) = 0 := ⟨fun z => absurd z hy7, fun z => absurd z (by decide)⟩
  unfold k238b113_178
  rw [ht]
  by_cases c3 : tx = -3
  · rw [if_pos (by rw [c3]; decide), if_neg (fun z => z c3)]
    unfold c148_34 c148_46
    rw [if_neg (fun z => z c3), if_neg (show ¬ (1 : Int32) = 0 from by decide)]
    by_cases c : cl = 0
    · rw [if_neg (fun z => z (hcb.mpr c)), if_pos c, k2372]
      unfold c148_57 c148_78
      rw [if_pos (show (1 : Int32) ≠ 0 from by decide), if_neg (show ¬ (1 : Int32) = 0 from by decide), rbd_th (w := 1) rfl]
      unfold c147_100
      rw [if_neg (show ¬ (1 : Int32) = 0 from by decide)]
      exact ln_mrk h hwa hq0 hq2 (Or.inr rfl) hw h1 (fun _ => by decide) (by decide) (fun e75 z => by rw [hwa.2.2 z, if_pos (hcl.mpr c), if_neg hy7, if_pos (by decide), e75, hnm]; rfl) ha hcl1
    · rw [if_pos (fun z => c (hcb.mp z)), if_neg c]
      unfold k238b113_229 c148_68 c148_78
      rw [k2372, if_neg (show ¬ (1 : Int32) = 0 from by decide), rbd_th (w := 1) rfl]
      unfold c147_100
      rw [if_neg (show ¬ (1 : Int32) = 0 from by decide)]
      exact ln_mrk h6n wan hq0 hq2 (Or.inr rfl) hw h1n (fun _ => by decide) (by decide) (fun _ z => absurd z k191_n) ha hcl1
  · unfold c148_34 c148_46
    rw [if_pos c3, if_pos rfl]
    unfold c148_57
    rw [if_neg (fun z => z rfl)]
    by_cases c2 : tx = -2
    · rw [if_pos c2, if_neg (fun z => z c2), k237 _ _ (by decide)]
      unfold c148_78
      rw [if_pos rfl, rbd_th (w := 0) rfl]
      unfold c147_100
      rw [if_pos rfl]
      exact ln_mrk h hwa hq0 hq2 (Or.inl rfl) hw h1 (fun _ => by decide) (by decide) (fun _ z => by rw [hwa.2.2 z, if_neg (show ¬ ((2 : Int32) &&& 4 ≠ 0) by decide)]; exact List.append_nil _) ha hclz
    · rw [if_neg c2, if_pos c2, if_pos c3]
      unfold k238b113_229 c148_68 c148_78
      rw [k237 _ _ (by decide), if_pos rfl, rbd_th (w := 0) rfl]
      unfold c147_100
      rw [if_pos rfl]
      exact ln_mrk h6n wan hq0 hq2 (Or.inl rfl) hw h1n (fun z => absurd z k191_n) (by decide) (fun _ z => absurd z k191_n) ha hclz
theorem ln_one {p : List xR} {W' : Int32} {s1 : cS} (h : LSt y3 y4 L P k0 t v w a s1 k f r p) (hcl : y3 < 0 ↔ cl = 0) : LN1 rc L P k0 t v w a f r y1 y2 y6 (c147_47 rc s1 y1 y2 y3 y4 y6 x) (k238b113 pw W' (k, 1, cl)) := by
  obtain ⟨h, hwa⟩ := h
  have hle := h.le
  have hw := h.2.2.2.1
  obtain ⟨e4, e63⟩ := h.at4
  unfold c147_47 k238b113
  rw [if_neg (show ¬ (1 : Int32) = 0 from by decide)]
  by_cases c1 : c53 s1 = 1
  · obtain ⟨q, s2, q1, q2, q3, q4, q5⟩ := h.skp c1 pl1
    have hlt := lt_of q1
    have e200 : k200 k 1 = (kf k 4 (k.1 4 + 1), 1) := by
      unfold k200
      rw [if_pos ((h.is (by decide) (by decide)).mp c1)]
    rw [c64_yes c1, q3, rbd_th (w := q.2.1) rfl, e200, if_pos (show (1 : Int32) ≠ 0 from by decide)]
    have fk : kFr 16 0 k (kf k 4 (k.1 4 + 1)) := kFr.sf kFr.refl rfl
    have hwa1 : WX y3 y4 f.2.1.length (kf k 4 (k.1 4 + 1)) w p := hwa.same (kSt.of fk rfl) rfl (fun _ _ => rfl) (fun _ _ => rfl)
    have et := q4.1.1.txa q1
    show LN1 rc L P k0 t v w a f r y1 y2 y6 (c147_75 rc (c74 s2 q.2.1 0 (c63 s1)).1 y1 y2 y3 y4 y6 (c63 s1)) (k238b113_132 (kf k 4 (k.1 4 + 1)) pw W' 1 cl (k.1 4))
    rw [e63, e4]
    rw [e4] at q4 et hwa1
    obtain ⟨e41, -⟩ := q4.at4
    have fm : kFr 16 0 k (kf k 4 (xn a + 1)) := kFr.sf kFr.refl rfl
    have om : OU (bd a + 1) (c74 s2 q.2.1 0 (xn a)).1 (kf k 4 (xn a + 1)) (fwp f (p ++ [(q.2.1, 0, 0, 0)]) :: r) := (OU.fr (h.ou q5 fm) ((fr_c74 s2 q.2.1 0 (xn a)).ou rfl) (kFr.refl (F := 0) (A := 0)) rfl rfl).wai rfl rfl (by show (p ++ [_]).length ≤ p.length + 1; rw [List.length_append]; exact Nat.le_refl _)
    generalize kf k 4 (xn a + 1) = k1 at q4 et hwa1 e41 om
    have n3 := RN.dcw (t := q.2.1) (w := xn a) q4.1.2.1 q4.SZ
    have hz' : SZ (xw (fwp f p) (q.2.1, 0, 0, 0) :: r) := SZ_of (by rw [sz_xw]; have := h.sz; omega)
    have h3 : SG L P k0 t v w (a + 1) (c74 s2 q.2.1 0 (xn a)).1 k1 (fwp f (p ++ [(q.2.1, 0, 0, 0)]) :: r) t v (w + p.length) := q4.nam (fr_c74 s2 q.2.1 0 (xn a)) (kFr.refl (F := 0) (A := 0)) n3 (by show szX (xw (fwp f p) (q.2.1, 0, 0, 0) :: r) ≤ _; rw [sz_xw]; have := h.sz; omega) (om.mono (by have := h.bl; omega)) ⟨(fun z => nomatch z), (q4.nc.fr0 (fr_c74 s2 q.2.1 0 (xn a)) (kFr.refl (F := 0) (A := 0)) rfl rfl rfl rfl id (fun z => absurd z (by decide))).xx rfl, FB.dcw (q := (q.2.1, 0, 0, 0)) q4.fb q4.1.2.1 q4.SZ n3.1 hz', q4.cc, q4.lv.same rfl ((fr_c74 s2 q.2.1 0 (xn a)).2.1 28 rfl).1 ((fr_c74 s2 q.2.1 0 (xn a)).2.1 28 rfl).2⟩
    generalize (c74 s2 q.2.1 0 (xn a)).1 = s3 at h3
    unfold c147_75 k238b113_132
    by_cases c57 : c53 s3 = 57
    · rw [if_neg (fun z => z c57)]
      have i57 := (h3.is (by decide) (by decide)).mp c57
      have main : ∀ cb : Int32, (cb = 0 ↔ cl = 0) → LN1 rc L P k0 t v w a f r y1 y2 y6 (c147_97 rc s3 y1 y2 y3 y4 y6 (xn a) cb) (if (k200 (kf k1 4 (k1.1 4 + 1)) 1).2 = 0 then (2, ((k200 (kf k1 4 (k1.1 4 + 1)) 1).1, 1, cl)) else k238b113_168 ((k200 (kf k1 4 (k1.1 4 + 1)) 1).1) pw W' 1 cl (xn a) (k1.1 4 + 1)) := fun cb hcb => by
        unfold c147_97
        obtain ⟨o, s4, o1, o2, o3, o4, o5⟩ := h3.skp c57 pl57
        have hlt4 := lt_of o1
        obtain ⟨e44, e634⟩ := o4.at4
        have e0 : c148 s3 cb = c148_7 s4 cb o.2.1 := by
          unfold c148
          rw [cbd_some (w := o.2.1) (by rw [o3]), o3]
        rw [e0]
        unfold c148_7
        have fk4 : kFr 16 0 k1 (kf k1 4 (k1.1 4 + 1)) := kFr.sf kFr.refl rfl
        have hwa4 : WX y3 y4 f.2.1.length (kf k1 4 (k1.1 4 + 1)) w p := hwa1.same (kSt.of fk4 rfl) rfl (fun _ _ => rfl) (fun _ _ => rfl)
        have et4 : kr (kf k1 4 (k1.1 4 + 1)) 2 (xn a) = q.2.1 := et
        generalize kf k1 4 (k1.1 4 + 1) = k4 at o4 hwa4 et4 e44
        rcases o4.tkp pl1 with ⟨m, s5, m1, m2, m3, m4, m5, m6⟩ | ⟨m1, m2, m3⟩
        · rw [cbd_some (w := m.2.1) (by rw [m3]), m3, m4, if_neg (show ¬ (1 : Int32) = 0 from by decide)]
          have etm := m5.1.1.txa m1
          have fk5 : kFr 16 0 k4 (kf k4 4 (k4.1 4 + 1)) := kFr.sf kFr.refl rfl
          have hwa5 : WX y3 y4 f.2.1.length (kf k4 4 (k4.1 4 + 1)) w p := hwa4.same (kSt.of fk5 rfl) rfl (fun _ _ => rfl) (fun _ _ => rfl)
          have et5 : kr (kf k4 4 (k4.1 4 + 1)) 2 (xn a) = q.2.1 := et4
          show LN1 rc L P k0 t v w a f r y1 y2 y6 (rbd (some (c148_24 s5 cb (c63 s4) m.2.1)) (fun _ w4 => c147_100 rc (c148_24 s5 cb (c63 s4) m.2.1).1 y1 y2 y3 y4 y6 (xn a) w4)) (k238b113_168 (kf k4 4 (k4.1 4 + 1)) pw W' 1 cl (xn a) (k1.1 4 + 1))
          generalize kf k4 4 (k4.1 4 + 1) = k5 at m5 hwa5 et5 etm
          unfold c148_24 k238b113_168
          rcases m5.tkp pl58 with ⟨g, s6, g1, g2, g3, g4, g5, g6⟩ | ⟨g1, g2, g3⟩
          · rw [cbd_some (w := g.2.1) (by rw [g3]), g3, g4, if_pos (show (1 : Int32) ≠ 0 from by decide)]
            have fk6 : kFr 16 0 k5 (kf k5 4 (k5.1 4 + 1)) := kFr.sf kFr.refl rfl
            have hwa6 : WX y3 y4 f.2.1.length (kf k5 4 (k5.1 4 + 1)) w p := hwa5.same (kSt.of fk6 rfl) rfl (fun _ _ => rfl) (fun _ _ => rfl)
            have et6 : kr (kf k5 4 (k5.1 4 + 1)) 2 (xn a) = q.2.1 := et5
            have etm6 : kr (kf k5 4 (k5.1 4 + 1)) 2 (k1.1 4 + 1) = m.2.1 := by
              rw [e41, xn_succ (by omega)]
              exact etm
            show LN1 rc L P k0 t v w a f r y1 y2 y6 (rbd (some (c148_34 s6 cb (c63 s4) m.2.1 g.2.1)) (fun _ w4 => c147_100 rc (c148_34 s6 cb (c63 s4) m.2.1 g.2.1).1 y1 y2 y3 y4 y6 (xn a) w4)) (k238b113_178 (kf k5 4 (k5.1 4 + 1)) pw W' 1 cl (xn a) (k1.1 4 + 1))
            exact ln_txt g5 hwa6 rfl rfl (by omega) et6 (by omega) hcl hcb etm6 (by rw [i_lt, xn_i (by omega)]; have : (0 : Int32).toInt = 0 := rfl; omega) rfl
          · rw [cbd_none g1, rbd_thn g1]
            right
            rw [if_neg (fun z => z g2)]
            exact ⟨_, 2, _, 1, cl, rfl, rfl, Or.inr rfl, g3⟩
        · rw [cbd_none m1, rbd_thn m1, if_pos m2]
          right
          exact ⟨_, 2, _, 1, cl, rfl, rfl, Or.inr rfl, m3⟩
      by_cases cn : y3 < 0
      · rw [if_pos cn, if_neg (fun z => z i57)]
        exact main 0 ⟨fun _ => hcl.mp cn, fun _ => rfl⟩
      · rw [if_neg cn, if_neg (fun z => z i57)]
        exact main 1 ⟨fun z => absurd z (by decide), fun z => absurd (hcl.mpr z) cn⟩
    · rw [if_pos c57, if_pos (fun z => c57 ((h3.is (by decide) (by decide)).mpr z))]
      unfold k238b113_255
      have h4 := LSt.kee (nm := xn a) (at' := 0) h3 hwa1 (by omega) et (fun _ => (show (¬ (0 : Int32) ≤ 0 ↔ (0 : Int32) &&& 2 ≠ 0) from by decide)) (Or.inl rfl) rfl (show ((0 : Int32) = 2 ↔ (0 : Int32) &&& 4 ≠ 0) from by decide) (z := y3) (z' := y4) (fun z => by rw [hwa1.2.2 z, if_neg (show ¬ (((q.2.1, (0 : Int32), (0 : Int32), (0 : Int32)) : xR).2.1 &&& 4 ≠ 0) from (show ¬ ((0 : Int32) &&& 4 ≠ 0) by decide))]; exact List.append_nil _)
      exact ln_sep h4 (by omega) hcl
  · right
    rw [rbd_thn (c64_no c1)]
    have e2 : k183 k ≠ 1 := fun z => c1 ((h.is (by decide) (by decide)).mpr z)
    have e200 : (k200 k 1).2 = 0 ∧ (k200 k 1).1.1 6 ≠ 0 := by
      unfold k200
      rw [if_neg e2]
      exact ⟨(k194_f (by decide)).2.2, (k194_f (by decide)).1⟩
    rw [if_neg (fun z => z e200.1)]
    exact ⟨_, 1, _, 1, cl, rfl, rfl, Or.inl rfl, e200.2⟩
end LOC
