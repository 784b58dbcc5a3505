/-! WHAT HOLDS OF THE REFERENCE'S ARRAYS WHILE IT COMPILES: goals, values, blocks, chains of jumps, owners -/
/-- a goal that waits: goal, one, two, three, and the jumps that wait for their end in it -/
abbrev mg_E : Type := Int × Int × Int × Int × List Nat
/-- a chain of jumps: each tells the next one, plus 1; 0 at its end -/
def mj_c (a : Nat → Int32) : List Nat → Int → Prop
  | [], k => k = 0
  | i :: r, k => k = (i : Int) + 1 ∧ mj_c a r (a i).toInt
/-- all jumps that wait in chains: of the goals, of the blocks, and those in hand -/
def mj_all (gs : List mg_E) (bc : List (List Nat)) (fl : List Nat) : List Nat := fl ++ (gs.flatMap (fun e => e.2.2.2.2) ++ bc.flatten)
/-- how many of the first n are x -/
def mj_n (a : Nat → Int32) : Nat → Int → Int
  | 0, _ => 0
  | n + 1, x => mj_n a n x + if (a n).toInt = x then 1 else 0
/-- the goals lie in their arrays -/
def mj_S (top : Int32) (g : Nat → Nat → Int32) (gs : List mg_E) : Prop := top.toInt = (gs.length : Int) ∧ ∀ (i : Nat) (e : mg_E), gs.reverse[i]? = some e → (g 11 i).toInt = e.1 ∧ (g 12 i).toInt = e.2.1 ∧ (g 13 i).toInt = e.2.2.1 ∧ (g 14 i).toInt = e.2.2.2.1
/-- a value that is a name knows its word, one that is open its instruction -/
def mj_V (k c w : Nat → Int32) : Prop := ∀ v : Nat, ((k v).toInt = 3 → 0 ≤ (w v).toInt ∧ (w v).toInt < 16384) ∧ ((k v).toInt = 1 ∨ (k v).toInt = 2 → 0 ≤ (c v).toInt ∧ (c v).toInt < 65536)
/-- numbers that are never out of their ranges -/
def mj_U (ld ba fl fg bl bb bg gc : Nat → Int32) : Prop := ∀ k : Nat, (0 ≤ (ld k).toInt ∧ (ld k).toInt < 64) ∧ 0 ≤ (ba k).toInt ∧ 0 ≤ (fl k).toInt ∧ 0 ≤ (fg k).toInt ∧ 0 ≤ (bl k).toInt ∧ 0 ≤ (bb k).toInt ∧ 0 ≤ (bg k).toInt ∧ 0 ≤ (gc k).toInt ∧ (gc k).toInt < 65535
def mj_D (depth many : Int32) (fn : Nat → Int32) : Prop := ∀ k : Nat, (k : Int) ≤ depth.toInt → 0 ≤ (fn k).toInt ∧ (fn k).toInt < many.toInt
def mj_B (blocks locals : Int32) (bl : Nat → Int32) (bc : List (List Nat)) : Prop := blocks.toInt = (bc.length : Int) ∧ ∀ b : Nat, (b : Int) < blocks.toInt → (bl b).toInt ≤ locals.toInt ∧ ∀ b' : Nat, b ≤ b' → (b' : Int) < blocks.toInt → (bl b).toInt ≤ (bl b').toInt
/-- gotos that wait, and the marks of functions and blocks among gotos and labels: none is above at -/
def mj_G (at_ gotos size depth blocks : Int32) (fg bg bb gc : Nat → Int32) (al : List Nat) : Prop := ∃ gm : Int, gotos.toInt ≤ gm ∧ gm ≤ at_.toInt ∧ (∀ k : Nat, (k : Int) ≤ depth.toInt → (fg k).toInt ≤ gm) ∧ (∀ b : Nat, (b : Int) < blocks.toInt → (bg b).toInt ≤ gm ∧ (bb b).toInt ≤ at_.toInt) ∧ ∀ i : Nat, (i : Int) < gm → (gc i).toInt + 1 < size.toInt ∧ (gc i).toInt.toNat ∉ al ∧ (gc i).toInt.toNat + 1 ∉ al
/-- what a goal's numbers must be -/
def mj_e (size : Int32) (a : Nat → Int32) (al : List Nat) (e : mg_E) : Prop :=
  (if e.1 = 7 ∨ e.1 = 9 then mj_c a e.2.2.2.2 e.2.1 else if e.1 = 8 then mj_c a e.2.2.2.2 e.2.2.1 else e.2.2.2.2 = []) ∧
  (e.1 = 4 ∨ e.1 = 8 ∨ e.1 = 26 → 0 ≤ e.2.1 ∧ e.2.1 < size.toInt ∧ e.2.1.toNat ∉ al) ∧
  (e.1 = 13 ∨ e.1 = 15 → 0 ≤ e.2.1 ∧ e.2.1 < size.toInt)
def mj_K (breaks a : Nat → Int32) (bc : List (List Nat)) : Prop := ∀ (i : Nat) (c : List Nat), bc.reverse[i]? = some c → mj_c a c (breaks i).toInt
def mj_A (size : Int32) (al : List Nat) : Prop := al.Nodup ∧ ∀ i ∈ al, (i : Int) < size.toInt
/-- owners and how many each has -/
def mj_O (m many : Int32) (ow ct : Nat → Int32) : Prop := (∀ k : Nat, (k : Int) < m.toInt → 0 ≤ (ow k).toInt ∧ (ow k).toInt < many.toInt) ∧ ∀ x : Nat, (x : Int) < many.toInt → (ct x).toInt = mj_n ow m.toNatClampNeg x
/-- all of it; fl, fk: the chain in hand and its head; pj: instructions in hand that are in no chain -/
def RJ (f : Nat → Int32) (g : Nat → Nat → Int32) (gs : List mg_E) (bc : List (List Nat)) (fl : List Nat) (fk : Int) (pj : List Nat) : Prop :=
  mj_S (f 10) g gs ∧ mj_V (g 16) (g 17) (g 18) ∧ mj_U (g 26) (g 34) (g 35) (g 36) (g 38) (g 39) (g 40) (g 51) ∧ mj_D (f 32) (f 53) (g 33) ∧ mj_B (f 37) (f 24) (g 38) bc ∧ mj_G (f 4) (f 48) (f 68) (f 32) (f 37) (g 36) (g 40) (g 39) (g 51) (mj_all gs bc fl) ∧
  (∀ e ∈ gs, mj_e (f 68) (g 71) (mj_all gs bc fl) e) ∧ mj_K (g 43) (g 71) bc ∧ mj_A (f 68) (mj_all gs bc fl) ∧ mj_O (f 62) (f 53) (g 63) (g 67) ∧ mj_O (f 68) (f 53) (g 69) (g 60) ∧ mj_c (g 71) fl fk ∧ ∀ j ∈ pj, (j : Int) < (f 68).toInt ∧ j ∉ mj_all gs bc fl
/-! small rows -/
theorem mj_c_ext {a a' : Nat → Int32} : ∀ (c : List Nat) (k : Int), (∀ i ∈ c, a' i = a i) → mj_c a c k → mj_c a' c k := by
  intro c
  induction c with
  | nil => intro k _ h; exact h
  | cons i r ih =>
    intro k he h
    refine ⟨h.1, ?_⟩
    rw [he i List.mem_cons_self]
    exact ih _ (fun j hj => he j (List.mem_cons_of_mem _ hj)) h.2
theorem mj_n_ext {a a' : Nat → Int32} : ∀ (n : Nat) (x : Int), (∀ i, i < n → a' i = a i) → mj_n a' n x = mj_n a n x := by
  intro n
  induction n with
  | zero => intro x _; rfl
  | succ n ih =>
    intro x h
    simp only [mj_n]
    rw [ih x (fun i hi => h i (Nat.lt_succ_of_lt hi)), h n (Nat.lt_succ_self n)]
theorem mj_n_le {a : Nat → Int32} : ∀ (n : Nat) (x : Int), 0 ≤ mj_n a n x ∧ mj_n a n x ≤ n := by
  intro n
  induction n with
  | zero => intro x; exact ⟨Int.le_refl _, Int.le_refl _⟩
  | succ n ih =>
    intro x
    have h := ih x
    simp only [mj_n]
    split <;> omega
theorem upd_ne {f : Nat → Int32} {i j : Nat} {v : Int32} (h : j ≠ i) : upd f i v j = f j := if_neg h
theorem upd_eq {f : Nat → Int32} {i : Nat} {v : Int32} : upd f i v i = v := if_pos rfl
theorem cl_toNat {i : Int32} : i.toNatClampNeg = i.toInt.toNat := rfl
theorem mj_new {al : List Nat} {size : Int32} (h : mj_A size al) (h0 : 0 ≤ size.toInt) : size.toNatClampNeg ∉ al := fun hm => by
  have h1 := h.2 _ hm
  rw [cl_toNat] at h1
  omega
section RJL
variable {f : Nat → Int32} {g : Nat → Nat → Int32} {gs : List mg_E} {bc : List (List Nat)} {fl : List Nat} {fk : Int} {pj : List Nat}
theorem RJ.fn (h : RJ f g gs bc fl fk pj) {i : Int32} (h0 : 0 ≤ i.toInt) (h1 : i.toInt ≤ (f 32).toInt) : 0 ≤ (g 33 i.toNatClampNeg).toInt ∧ (g 33 i.toNatClampNeg).toInt < (f 53).toInt :=
  h.2.2.2.1 i.toNatClampNeg (by rw [cl_toNat]; omega)
theorem RJ.codes (h : RJ f g gs bc fl fk pj) (hs : 0 ≤ (f 68).toInt) {i : Int32} (h0 : 0 ≤ i.toInt) (h1 : i.toInt < (f 53).toInt) : 0 ≤ (g 60 i.toNatClampNeg).toInt ∧ (g 60 i.toNatClampNeg).toInt ≤ (f 68).toInt := by
  obtain ⟨-, -, -, -, -, -, -, -, -, -, j11, -⟩ := h
  have h2 := j11.2 i.toNatClampNeg (by rw [cl_toNat]; omega)
  have h3 := mj_n_le (a := g 69) (f 68).toNatClampNeg (i.toNatClampNeg : Int)
  rw [h2]
  refine ⟨h3.1, ?_⟩
  have h4 : (((f 68).toNatClampNeg : Nat) : Int) = (f 68).toInt := by rw [cl_toNat]; omega
  omega
theorem mj_mg {e : mg_E} (he : e ∈ gs) {i : Nat} (hi : i ∈ e.2.2.2.2) : i ∈ mj_all gs bc fl := List.mem_append_right _ (List.mem_append_left _ (List.mem_flatMap.mpr ⟨e, he, hi⟩))
theorem mj_mb {c : List Nat} (hc : c ∈ bc) {i : Nat} (hi : i ∈ c) : i ∈ mj_all gs bc fl := List.mem_append_right _ (List.mem_append_right _ (List.mem_flatten.mpr ⟨c, hc, hi⟩))
theorem mj_mf {i : Nat} (hi : i ∈ fl) : i ∈ mj_all gs bc fl := List.mem_append_left _ hi
/-- where the chains' own jumps stay as they are, the chains stay -/
theorem mj_e_ext {size size' : Int32} {a a' : Nat → Int32} {al : List Nat} {e : mg_E} (hs : size.toInt ≤ size'.toInt) (ha : ∀ i ∈ e.2.2.2.2, a' i = a i) (h : mj_e size a al e) : mj_e size' a' al e := by
  obtain ⟨k1, k2, k3⟩ := h
  refine ⟨?_, fun q => ?_, fun q => ?_⟩
  · split
    · rename_i q
      rw [if_pos q] at k1
      exact mj_c_ext _ _ ha k1
    · rename_i q
      rw [if_neg q] at k1
      split
      · rename_i q2
        rw [if_pos q2] at k1
        exact mj_c_ext _ _ ha k1
      · rename_i q2
        rw [if_neg q2] at k1
        exact k1
  · have := k2 q
    exact ⟨this.1, by omega, this.2.2⟩
  · have := k3 q
    exact ⟨this.1, by omega⟩
/-- one more instruction: it is nobody's jump yet -/
theorem rj_put {z fn z2 op a b w : Int32} (h : RJ f g gs bc fl fk pj) (h0 : 0 ≤ (f 68).toInt) (hz : z.toInt = (f 68).toInt + 1) (hfn : 0 ≤ fn.toInt ∧ fn.toInt < (f 53).toInt) (hz2 : z2.toInt = (g 60 fn.toNatClampNeg).toInt + 1) :
    RJ (upd f 68 z) (upg (upg (upg (upg (upg (upg g 69 (f 68).toNatClampNeg fn) 70 (f 68).toNatClampNeg op) 71 (f 68).toNatClampNeg a) 72 (f 68).toNatClampNeg b) 73 (f 68).toNatClampNeg w) 60 fn.toNatClampNeg z2) gs bc fl fk ((f 68).toNatClampNeg :: pj) := by
  obtain ⟨j1, j2, j3, j4, j5, j6, j7, j8, j9, j10, j11, j12, j13⟩ := h
  have hs : (f 68).toNatClampNeg ∉ mj_all gs bc fl := mj_new j9 h0
  have hx : ∀ i, i ∈ mj_all gs bc fl → upd (g 71) (f 68).toNatClampNeg a i = g 71 i := fun i hi => upd_ne (fun e => hs (e ▸ hi))
  have ez : ((upd f 68 z) 68).toInt = (f 68).toInt + 1 := hz
  obtain ⟨gm, a1, a2, a3, a4, a5⟩ := j6
  refine ⟨j1, j2, j3, j4, j5, ⟨gm, a1, a2, a3, a4, fun i hi => ?_⟩, fun e he => mj_e_ext (by omega) (fun i hi => hx i (mj_mg he hi)) (j7 e he), fun i c hc => mj_c_ext _ _ (fun k hk => hx k (mj_mb (List.mem_reverse.mp (List.mem_of_getElem? hc)) hk)) (j8 i c hc), ⟨j9.1, fun i hi => ?_⟩, j10, ?_, mj_c_ext _ _ (fun i hi => hx i (mj_mf hi)) j12, fun j hj => ?_⟩
  · have := a5 i hi
    exact ⟨by show (g 51 i).toInt + 1 < z.toInt; omega, this.2⟩
  · have := j9.2 i hi
    omega
  · have e1 : z.toNatClampNeg = (f 68).toNatClampNeg + 1 := by rw [cl_toNat, cl_toNat, hz]; omega
    have e2 : ∀ x : Nat, mj_n (upd (g 69) (f 68).toNatClampNeg fn) z.toNatClampNeg x = mj_n (g 69) (f 68).toNatClampNeg x + if fn.toInt = (x : Int) then 1 else 0 := by
      intro x
      rw [e1]
      simp only [mj_n]
      rw [mj_n_ext (a := g 69) _ _ (fun i hi => upd_ne (Nat.ne_of_lt hi)), upd_eq]
    refine ⟨fun k hk => ?_, fun x hx2 => ?_⟩
    · show 0 ≤ (upd (g 69) (f 68).toNatClampNeg fn k).toInt ∧ (upd (g 69) (f 68).toNatClampNeg fn k).toInt < (f 53).toInt
      by_cases e : k = (f 68).toNatClampNeg
      · rw [e, upd_eq]; exact hfn
      · rw [upd_ne e]
        refine j11.1 k ?_
        have hk' : (k : Int) < z.toInt := hk
        rw [cl_toNat] at e
        omega
    · show (upd (g 60) fn.toNatClampNeg z2 x).toInt = mj_n (upd (g 69) (f 68).toNatClampNeg fn) z.toNatClampNeg x
      rw [e2 x]
      have h6 := j11.2 x hx2
      by_cases e : x = fn.toNatClampNeg
      · rw [if_pos (by rw [e, cl_toNat]; omega), ← h6, e, upd_eq, hz2]
      · rw [if_neg (fun q => e (by rw [cl_toNat]; omega)), upd_ne e, h6]
        omega
  · rcases List.mem_cons.mp hj with rfl | hj
    · exact ⟨by rw [cl_toNat]; omega, hs⟩
    · have := j13 j hj
      exact ⟨by omega, this.2⟩
/-- less in hand -/
theorem RJ.fewer (h : RJ f g gs bc fl fk pj) {pj' : List Nat} (hp : ∀ j ∈ pj', j ∈ pj) : RJ f g gs bc fl fk pj' := by
  obtain ⟨j1, j2, j3, j4, j5, j6, j7, j8, j9, j10, j11, j12, j13⟩ := h
  exact ⟨j1, j2, j3, j4, j5, j6, j7, j8, j9, j10, j11, j12, fun j hj => j13 j (hp j hj)⟩
/-- a jump in no chain is led somewhere -/
theorem RJ.lead (h : RJ f g gs bc fl fk pj) {i : Nat} {v : Int32} (hi : i ∉ mj_all gs bc fl) : RJ f (upg g 71 i v) gs bc fl fk pj := by
  obtain ⟨j1, j2, j3, j4, j5, j6, j7, j8, j9, j10, j11, j12, j13⟩ := h
  have hx : ∀ k, k ∈ mj_all gs bc fl → upd (g 71) i v k = g 71 k := fun k hk => upd_ne (fun e => hi (e ▸ hk))
  exact ⟨j1, j2, j3, j4, j5, j6, fun e he => mj_e_ext (Int.le_refl _) (fun k hk => hx k (mj_mg he hk)) (j7 e he), fun k c hc => mj_c_ext _ _ (fun k hk => hx k (mj_mb (List.mem_reverse.mp (List.mem_of_getElem? hc)) hk)) (j8 k c hc), j9, j10, j11, mj_c_ext _ _ (fun k hk => hx k (mj_mf hk)) j12, j13⟩
/-- one more value -/
theorem rj_value {z kd cd wd : Int32} {v : Nat} (h : RJ f g gs bc fl fk pj) (h3 : kd.toInt = 3 → 0 ≤ wd.toInt ∧ wd.toInt < 16384) (h1 : kd.toInt = 1 ∨ kd.toInt = 2 → 0 ≤ cd.toInt ∧ cd.toInt < 65536) : RJ (upd f 15 z) (upg (upg (upg g 16 v kd) 17 v cd) 18 v wd) gs bc fl fk pj := by
  obtain ⟨j1, j2, j3, j4, j5, j6, j7, j8, j9, j10, j11, j12, j13⟩ := h
  refine ⟨j1, fun u => ?_, j3, j4, j5, j6, j7, j8, j9, j10, j11, j12, j13⟩
  show ((upd (g 16) v kd u).toInt = 3 → 0 ≤ (upd (g 18) v wd u).toInt ∧ (upd (g 18) v wd u).toInt < 16384) ∧ ((upd (g 16) v kd u).toInt = 1 ∨ (upd (g 16) v kd u).toInt = 2 → 0 ≤ (upd (g 17) v cd u).toInt ∧ (upd (g 17) v cd u).toInt < 65536)
  by_cases e : u = v
  · subst e
    rw [upd_eq, upd_eq, upd_eq]
    exact ⟨h3, h1⟩
  · rw [upd_ne e, upd_ne e, upd_ne e]
    exact j2 u
/-- a goal is piled, with the chain in hand if it takes it -/
theorem rj_pile {z go on tw th : Int32} {c : List Nat} (h : RJ f g gs bc (c ++ fl) fk pj) (hz : z.toInt = (f 10).toInt + 1) (hk : c = [] ∨ fl = []) (hfk : ∃ fk', mj_c (g 71) fl fk') (he : mj_e (f 68) (g 71) (mj_all gs bc (c ++ fl)) (go.toInt, on.toInt, tw.toInt, th.toInt, c)) : ∀ fk', mj_c (g 71) fl fk' →
    RJ (upd f 10 z) (upg (upg (upg (upg g 11 (f 10).toNatClampNeg go) 12 (f 10).toNatClampNeg on) 13 (f 10).toNatClampNeg tw) 14 (f 10).toNatClampNeg th) ((go.toInt, on.toInt, tw.toInt, th.toInt, c) :: gs) bc fl fk' pj := by
  intro fk' hfl
  obtain ⟨j1, j2, j3, j4, j5, j6, j7, j8, j9, j10, j11, j12, j13⟩ := h
  have hal : ∀ i : Nat, i ∈ mj_all ((go.toInt, on.toInt, tw.toInt, th.toInt, c) :: gs) bc fl ↔ i ∈ mj_all gs bc (c ++ fl) := by
    intro i
    simp only [mj_all, List.flatMap_cons, List.mem_append]
    constructor
    · rintro (h | (h | h) | h)
      · exact Or.inl (Or.inr h)
      · exact Or.inl (Or.inl h)
      · exact Or.inr (Or.inl h)
      · exact Or.inr (Or.inr h)
    · rintro ((h | h) | h | h)
      · exact Or.inr (Or.inl (Or.inl h))
      · exact Or.inl h
      · exact Or.inr (Or.inl (Or.inr h))
      · exact Or.inr (Or.inr h)
  have hnd : (mj_all ((go.toInt, on.toInt, tw.toInt, th.toInt, c) :: gs) bc fl).Nodup := by
    rcases hk with rfl | rfl
    · exact j9.1
    · have h1 := j9.1
      rw [List.append_nil] at h1
      simpa only [mj_all, List.flatMap_cons, List.nil_append, List.append_assoc] using h1
  have hE : ∀ e, mj_e (f 68) (g 71) (mj_all gs bc (c ++ fl)) e → mj_e (f 68) (g 71) (mj_all ((go.toInt, on.toInt, tw.toInt, th.toInt, c) :: gs) bc fl) e := fun e q => ⟨q.1, fun r => ⟨(q.2.1 r).1, (q.2.1 r).2.1, fun m => (q.2.1 r).2.2 ((hal _).mp m)⟩, q.2.2⟩
  obtain ⟨gm, a1, a2, a3, a4, a5⟩ := j6
  refine ⟨⟨?_, fun i e hi => ?_⟩, j2, j3, j4, j5, ⟨gm, a1, a2, a3, a4, fun i hi => ⟨(a5 i hi).1, fun m => (a5 i hi).2.1 ((hal _).mp m), fun m => (a5 i hi).2.2 ((hal _).mp m)⟩⟩, fun e hm => ?_, j8, ⟨hnd, fun i hi => j9.2 i ((hal i).mp hi)⟩, j10, j11, hfl, fun j hj => ⟨(j13 j hj).1, fun m => (j13 j hj).2 ((hal j).mp m)⟩⟩
  · show z.toInt = _
    rw [hz, j1.1, List.length_cons]
    omega
  · have hn : (f 10).toNatClampNeg = gs.length := by rw [cl_toNat, j1.1]; omega
    rw [List.reverse_cons] at hi
    show (upd (g 11) (f 10).toNatClampNeg go i).toInt = e.1 ∧ (upd (g 12) (f 10).toNatClampNeg on i).toInt = e.2.1 ∧ (upd (g 13) (f 10).toNatClampNeg tw i).toInt = e.2.2.1 ∧ (upd (g 14) (f 10).toNatClampNeg th i).toInt = e.2.2.2.1
    rw [hn]
    rcases Nat.lt_trichotomy i gs.length with q | q | q
    · rw [List.getElem?_append_left (by rw [List.length_reverse]; exact q)] at hi
      have q' : i ≠ gs.length := Nat.ne_of_lt q
      rw [upd_ne q', upd_ne q', upd_ne q', upd_ne q']
      exact j1.2 i e hi
    · rw [List.getElem?_append_right (by rw [List.length_reverse]; omega), List.length_reverse, q, Nat.sub_self] at hi
      simp at hi
      subst hi
      subst q
      rw [upd_eq, upd_eq, upd_eq, upd_eq]
      exact ⟨rfl, rfl, rfl, rfl⟩
    · rw [List.getElem?_eq_none (by simp; omega)] at hi
      cases hi
  · rcases List.mem_cons.mp hm with rfl | hm
    · exact hE _ he
    · exact hE e (j7 e hm)
end RJL
