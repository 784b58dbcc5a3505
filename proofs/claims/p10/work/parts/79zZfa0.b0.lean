/-! ROWS OF CODE ON BOTH SIDES -/
/-- where the reference's rows of the function x lie, among its first n -/
def gx (ow : Nat → Int32) (x : Nat) : Nat → List Nat
  | 0 => []
  | n + 1 => gx ow x n ++ (if ow n = xn x then [n] else [])
section GXS
variable {ow ow' : Nat → Int32} {x n g : Nat}
theorem gx_ext : ∀ {n : Nat}, (∀ i, i < n → ow' i = ow i) → gx ow' x n = gx ow x n := by
  intro n
  induction n with
  | zero => intro _; rfl
  | succ n ih =>
    intro h
    show gx ow' x n ++ (if ow' n = xn x then [n] else []) = gx ow x n ++ (if ow n = xn x then [n] else [])
    rw [ih (fun i hi => h i (by omega)), h n (by omega)]
theorem gx_lt : ∀ {n g : Nat}, g ∈ gx ow x n → g < n ∧ ow g = xn x := by
  intro n
  induction n with
  | zero => intro g h; exact absurd h List.not_mem_nil
  | succ n ih =>
    intro g h
    rcases List.mem_append.mp h with h | h
    · obtain ⟨h1, h2⟩ := ih h
      exact ⟨by omega, h2⟩
    · by_cases c : ow n = xn x
      · rw [if_pos c] at h
        rw [List.mem_singleton.mp h]
        exact ⟨Nat.lt_succ_self _, c⟩
      · rw [if_neg c] at h
        exact absurd h List.not_mem_nil
theorem gx_le : ∀ {n : Nat}, (gx ow x n).length ≤ n := by
  intro n
  induction n with
  | zero => exact Nat.le_refl _
  | succ n ih =>
    show (gx ow x n ++ (if ow n = xn x then [n] else [])).length ≤ n + 1
    rw [List.length_append]
    split
    · show (gx ow x n).length + 1 ≤ n + 1
      omega
    · show (gx ow x n).length + 0 ≤ n + 1
      omega
/-- the row of x that lies at g is the one with as many before it as lie before g -/
theorem gx_at : ∀ {n : Nat}, g < n → ow g = xn x → (gx ow x n)[(gx ow x g).length]? = some g := by
  intro n
  induction n with
  | zero => intro h; omega
  | succ n ih =>
    intro h ho
    show (gx ow x n ++ (if ow n = xn x then [n] else []))[(gx ow x g).length]? = some g
    by_cases c : g = n
    · subst c
      rw [if_pos ho, List.getElem?_append_right (Nat.le_refl _), Nat.sub_self]
      rfl
    · have z := ih (by omega) ho
      rw [List.getElem?_append_left (List.getElem?_eq_some_iff.mp z).1]
      exact z
end GXS
/-- holes: a function, its row, the column (1 or 2) whose number is not known yet -/
abbrev Hl : Type := List (Nat × Nat × Nat)
def mt (H : Hl) (x i : Nat) (u v : xR) : Prop := u.1 = v.1 ∧ ((x, i, 1) ∉ H → u.2.1 = v.2.1) ∧ ((x, i, 2) ∉ H → u.2.2.1 = v.2.2.1) ∧ u.2.2.2 = v.2.2.2
def ml (H : Hl) (x : Nat) (U V : List xR) : Prop := U.length = V.length ∧ ∀ (i : Nat) (u v : xR), U[i]? = some u → V[i]? = some v → mt H x i u v
section MLS
variable {H H' : Hl} {x i : Nat} {u v r : xR} {U V T : List xR}
theorem mt.refl : mt H x i u u := ⟨rfl, fun _ => rfl, fun _ => rfl, rfl⟩
theorem mt.trans {w : xR} (h : mt H x i u v) (h' : mt H x i v w) : mt H x i u w := ⟨h.1.trans h'.1, fun z => (h.2.1 z).trans (h'.2.1 z), fun z => (h.2.2.1 z).trans (h'.2.2.1 z), h.2.2.2.trans h'.2.2.2⟩
theorem mt.symm (h : mt H x i u v) : mt H x i v u := ⟨h.1.symm, fun z => (h.2.1 z).symm, fun z => (h.2.2.1 z).symm, h.2.2.2.symm⟩
theorem mt.mono (h : mt H x i u v) (hs : ∀ q ∈ H, q ∈ H') : mt H' x i u v := ⟨h.1, fun z => h.2.1 (fun y => z (hs _ y)), fun z => h.2.2.1 (fun y => z (hs _ y)), h.2.2.2⟩
theorem ml.mono (h : ml H x U V) (hs : ∀ q ∈ H, q ∈ H') : ml H' x U V := ⟨h.1, fun i u v h1 h2 => (h.2 i u v h1 h2).mono hs⟩
theorem ml.symm (h : ml H x U V) : ml H x V U := ⟨h.1.symm, fun i u v h1 h2 => (h.2 i v u h2 h1).symm⟩
theorem ml.nil : ml H x [] [] := ⟨rfl, fun i u v h => nomatch h⟩
theorem ml.snoc (h : ml H x U V) (hm : mt H x U.length u v) : ml H x (U ++ [u]) (V ++ [v]) := by
  refine ⟨by rw [List.length_append, List.length_append, h.1]; rfl, fun i a b h1 h2 => ?_⟩
  by_cases c : i < U.length
  · rw [List.getElem?_append_left c] at h1
    rw [List.getElem?_append_left (by rw [← h.1]; exact c)] at h2
    exact h.2 i a b h1 h2
  · have hl : i < (U ++ [u]).length := (List.getElem?_eq_some_iff.mp h1).1
    have e : i = U.length := by
      rw [List.length_append] at hl
      have : [u].length = 1 := rfl
      omega
    subst e
    rw [List.getElem?_append_right (Nat.le_refl _), Nat.sub_self] at h1
    rw [h.1, List.getElem?_append_right (Nat.le_refl _), Nat.sub_self] at h2
    cases h1
    cases h2
    exact hm
/-- a row for another that is the same but for holes -/
theorem ml.rep (h : ml H x (U ++ r :: T) V) (hm : mt H x U.length u r) : ml H x (U ++ u :: T) V := by
  refine ⟨by rw [← h.1, List.length_append, List.length_append]; rfl, fun i a b h1 h2 => ?_⟩
  rcases Nat.lt_trichotomy i U.length with c | c | c
  · rw [List.getElem?_append_left c] at h1
    exact h.2 i a b (by rw [List.getElem?_append_left c]; exact h1) h2
  · subst c
    rw [List.getElem?_append_right (Nat.le_refl _), Nat.sub_self] at h1
    cases h1
    exact hm.trans (h.2 _ r b (by rw [List.getElem?_append_right (Nat.le_refl _), Nat.sub_self]; rfl) h2)
  · obtain ⟨m, hm2⟩ : ∃ m, i - U.length = m + 1 := ⟨i - U.length - 1, by omega⟩
    rw [List.getElem?_append_right (by omega), hm2] at h1
    exact h.2 i a b (by rw [List.getElem?_append_right (by omega), hm2]; exact h1) h2
end MLS
section GX2
variable {ow : Nat → Int32} {x x' n g i : Nat}
theorem gx_i : ∀ {n i g : Nat}, (gx ow x n)[i]? = some g → i = (gx ow x g).length ∧ g < n := by
  intro n
  induction n with
  | zero => intro i g h; exact nomatch h
  | succ n ih =>
    intro i g h
    have h' : (gx ow x n ++ (if ow n = xn x then [n] else []))[i]? = some g := h
    by_cases c : i < (gx ow x n).length
    · rw [List.getElem?_append_left c] at h'
      obtain ⟨h1, h2⟩ := ih h'
      exact ⟨h1, by omega⟩
    · rw [List.getElem?_append_right (by omega)] at h'
      by_cases co : ow n = xn x
      · rw [if_pos co] at h'
        cases hj : i - (gx ow x n).length with
        | zero =>
          rw [hj] at h'
          have e : n = g := Option.some.inj h'
          subst e
          exact ⟨by omega, Nat.lt_succ_self _⟩
        | succ j => rw [hj] at h'; exact nomatch h'
      · rw [if_neg co] at h'
        exact nomatch h'
theorem gx_own (h : (gx ow x n)[i]? = some g) : ow g = xn x := (gx_lt (List.mem_of_getElem? h)).2
end GX2
/-- a row of the reference, all its rows of a function -/
def kR (k : kS) (g : Nat) : xR := (k.2 70 g, k.2 71 g, k.2 72 g, k.2 73 g)
def rx (k : kS) (x n : Nat) : List xR := (gx (k.2 69) x n).map (kR k)
theorem ml.app {H : Hl} {x : Nat} : ∀ {m U V : List xR}, ml H x U V → ml H x (U ++ m) (V ++ m) := by
  intro m
  induction m with
  | nil => intro U V h; rw [List.append_nil, List.append_nil]; exact h
  | cons r m ih =>
    intro U V h
    have q := ih (U := U ++ [r]) (V := V ++ [r]) (h.snoc mt.refl)
    rw [List.append_assoc, List.append_assoc] at q
    exact q
/-- what waits for its number: function, row, column (1 or 2), the reference's row, what the class has there, what the reference has -/
abbrev hE : Type := Nat × Nat × Nat × Nat × Int32 × Int32
def hm (H : List hE) : Hl := H.map (fun e => (e.1, e.2.1, e.2.2.1))
/-- a column of a row -/
def xg (u : xR) (j : Nat) : Int32 := if j = 1 then u.2.1 else u.2.2.1
/-- such rows are jumps -/
def jmp (op : Int32) : Prop := op ≠ 6 ∧ op ≠ 13 ∧ op ≠ 46 ∧ op ≠ 27 ∧ op ≠ 39 ∧ op ≠ 42 ∧ op ≠ 43
/-- a row that both audits count alike -/
def wfr (u : xR) : Prop := 1 ≤ u.1 ∧ (u.1 = 13 → 0 ≤ u.2.2.1.toInt ∧ u.2.2.1.toInt ≤ 7)
/-- a row that both audits judge alike -/
def wfa (u : xR) : Prop := wfr u ∧ ((u.1 = 27 ∨ u.1 = 39 ∨ u.1 = 42 ∨ u.1 = 43 ∨ u.1 = 44) → u.2.1.toInt ≤ 2000000) ∧ ((u.1 = 27 ∨ u.1 = 43) → 0 ≤ u.2.2.1.toInt ∧ u.2.2.1.toInt ≤ 2000000)
def wfl (l : List xR) : Prop := ∀ u ∈ l, wfa u
/-- what is done says enough -/
def wfo (op : Int32) : Bool := decide (1 ≤ op) && (!decide (op = 13) && (!decide (op = 27) && (!decide (op = 39) && (!decide (op = 42) && (!decide (op = 43) && !decide (op = 44))))))
theorem wfo_p {op : Int32} (h : wfo op = true) : 1 ≤ op ∧ op ≠ 13 ∧ op ≠ 27 ∧ op ≠ 39 ∧ op ≠ 42 ∧ op ≠ 43 ∧ op ≠ 44 := by
  unfold wfo at h
  simp only [Bool.and_eq_true, Bool.not_eq_true', decide_eq_true_eq, decide_eq_false_iff_not] at h
  exact h
theorem wfa_o {u : xR} (h : wfo u.1 = true) : wfa u := by
  obtain ⟨h1, h2, h3, h4, h5, h6, h7⟩ := wfo_p h
  refine ⟨⟨h1, fun z => absurd z h2⟩, fun z => ?_, fun z => ?_⟩
  · rcases z with z | z | z | z | z
    · exact absurd z h3
    · exact absurd z h4
    · exact absurd z h5
    · exact absurd z h6
    · exact absurd z h7
  · rcases z with z | z
    · exact absurd z h3
    · exact absurd z h6
theorem wfl_0 : wfl [] := fun _ h => absurd h List.not_mem_nil
theorem wfl_c {u : xR} {l : List xR} (h : wfa u) (hl : wfl l) : wfl (u :: l) := fun v hv => by
  rcases List.mem_cons.mp hv with z | z
  · rw [z]
    exact h
  · exact hl v z
theorem wfl_1 {u : xR} (h : wfo u.1 = true) : wfl [u] := wfl_c (wfa_o h) wfl_0
theorem wfl_2 {u v : xR} (h : wfo u.1 = true) (h2 : wfo v.1 = true) : wfl [u, v] := wfl_c (wfa_o h) (wfl_1 h2)
theorem wfl_3 {u v w : xR} (h : wfo u.1 = true) (h2 : wfo v.1 = true) (h3 : wfo w.1 = true) : wfl [u, v, w] := wfl_c (wfa_o h) (wfl_2 h2 h3)
theorem wfl_a {l m : List xR} (hl : wfl l) (hm : wfl m) : wfl (l ++ m) := fun v hv => by
  rcases List.mem_append.mp hv with z | z
  · exact hl v z
  · exact hm v z
theorem wfl_r {u : xR} {n : Nat} (h : wfa u) : wfl (List.replicate n u) := fun v hv => by
  rw [List.eq_of_mem_replicate hv]
  exact h
theorem wfl_s {u : xR} {l : List xR} {i : Nat} (h : wfa u) (hl : wfl l) : wfl (l.set i u) := fun v hv => by
  rcases List.mem_or_eq_of_mem_set hv with z | z
  · exact hl v z
  · rw [z]
    exact h
/-- the lists of both for the function x, with what waits there -/
def hne (x : Nat) (e e' : hE) : Prop := e.1 = x → e'.1 = x → e.2.1 ≠ e'.2.1
def HX (H : List hE) (k : kS) (x n : Nat) (U : List xR) : Prop := H.Pairwise (hne x) ∧ ∀ e ∈ H, e.1 = x → (e.2.2.1 = 1 ∨ e.2.2.1 = 2) ∧ (∃ u, U[e.2.1]? = some u ∧ xg u e.2.2.1 = e.2.2.2.2.1 ∧ jmp u.1 ∧ (e.2.2.1 = 1 → u.1 ≠ 44)) ∧ (gx (k.2 69) x n)[e.2.1]? = some e.2.2.2.1 ∧ xg (kR k e.2.2.2.1) e.2.2.1 = e.2.2.2.2.2
/-- what the class has written more in the function in hand, what the reference has -/
abbrev Df : Type := List xR × List xR
def D1 (D : Df) (s : cS) (x : Nat) : List xR := if x + 1 = s.now then D.1 else []
def D2 (D : Df) (s : cS) (x : Nat) : List xR := if x + 1 = s.now then D.2 else []
def RWF (D : Df) (H : List hE) (s : cS) (k : kS) (n x : Nat) : Prop := ∃ U V, TR s (.i (x + 1)) (U ++ D1 D s x) ∧ rx k x n = V ++ D2 D s x ∧ ml (hm H) x U V ∧ HX H k x n U ∧ wfl U
/-- no table of the class is full -/
def FL (s : cS) (k : kS) : Prop := ∀ x : Nat, (x : Int) < (k.1 53).toInt → (s.r (.i (x + 1))).toInt < 1048576
def RWG (D : Df) (H : List hE) (s : cS) (k : kS) (n : Nat) : Prop := ((∀ e ∈ H, (e.1 : Int) < (k.1 53).toInt) ∧ ∀ i, i < n → ∃ x : Nat, (x : Int) < (k.1 53).toInt ∧ k.2 69 i = xn x) ∧ ∀ x : Nat, (x : Int) < (k.1 53).toInt → k.2 60 x = xn (gx (k.2 69) x n).length ∧ RWF D H s k n x
/-- while no name is wrong and no table is full -/
def RWS (D : Df) (H : List hE) (s : cS) (k : kS) : Prop := (∀ x, 0 ≤ (s.r (.i x)).toInt) ∧ (k.1 8 = 0 → ∃ n, k.1 68 = xn n ∧ n ≤ 65536 ∧ (n < 65536 → FL s k → RWG D H s k n))
section RMS
variable {D D' : Df} {H H' : List hE} {s s' : cS} {k k' : kS} {r : xR} {x0 n x : Nat} {a b c e : Int32}
theorem RWF.same (h : RWF D H s k n x) (hr : s'.r (.i (x + 1)) = s.r (.i (x + 1))) (hc : s'.c (.i (x + 1)) = s.c (.i (x + 1))) (hn : s'.now = s.now) (ea : ∀ j, 69 ≤ j → j ≤ 73 → k'.2 j = k.2 j) : RWF D H s' k' n x := by
  have ek : kR k' = kR k := by
    funext g
    unfold kR
    rw [ea 70 (by decide) (by decide), ea 71 (by decide) (by decide), ea 72 (by decide) (by decide), ea 73 (by decide) (by decide)]
  obtain ⟨U, V, u1, u2, u3, u4, u5⟩ := h
  refine ⟨U, V, ?_, ?_, u3, ?_, u5⟩
  · unfold D1
    rw [hn]
    exact u1.same hr hc
  · unfold rx D2
    rw [ek, ea 69 (by decide) (by decide), hn]
    exact u2
  · unfold HX
    rw [ek, ea 69 (by decide) (by decide)]
    exact u4
theorem RWS.same (h : RWS D H s k) (hr : ∀ x, s'.r (.i x) = s.r (.i x)) (hc : ∀ x, s'.c (.i x) = s.c (.i x)) (hn : s'.now = s.now) (e8 : k'.1 8 = 0 → k.1 8 = 0) (e53 : k'.1 53 = k.1 53) (e68 : k'.1 68 = k.1 68) (e60 : k'.2 60 = k.2 60) (ea : ∀ j, 69 ≤ j → j ≤ 73 → k'.2 j = k.2 j) : RWS D H s' k' := by
  refine ⟨fun x => by rw [hr]; exact h.1 x, fun z => ?_⟩
  obtain ⟨n, h1, h2, h3⟩ := h.2 (e8 z)
  refine ⟨n, e68.trans h1, h2, fun hn' hf => ?_⟩
  have h3 := h3 hn' (fun x hx => by rw [← hr]; exact hf x (by rw [e53]; exact hx))
  refine ⟨⟨by rw [e53]; exact h3.1.1, fun i hi => by rw [e53, ea 69 (by decide) (by decide)]; exact h3.1.2 i hi⟩, fun x hx => ?_⟩
  obtain ⟨g1, g2⟩ := h3.2 x (by rw [← e53]; exact hx)
  exact ⟨by rw [e60, ea 69 (by decide) (by decide)]; exact g1, g2.same (hr _) (hc _) hn ea⟩
theorem RWS.bad (h : RWS D H s k) (hr : ∀ x, s'.r (.i x) = s.r (.i x)) (h8 : k'.1 8 ≠ 0) : RWS D' H s' k' := ⟨fun x => by rw [hr]; exact h.1 x, fun z => absurd z h8⟩
theorem hm_perm (hp : H.Perm H') : ∀ q, q ∈ hm H → q ∈ hm H' := fun q hq => (hp.map _).mem_iff.mp hq
theorem RWS.perm (h : RWS D H s k) (hp : H.Perm H') : RWS D H' s k := by
  refine ⟨h.1, fun z => ?_⟩
  obtain ⟨n, h1, h2, h3⟩ := h.2 z
  refine ⟨n, h1, h2, fun hn hf => ?_⟩
  have h3 := h3 hn hf
  refine ⟨⟨fun e he => h3.1.1 e (hp.mem_iff.mpr he), h3.1.2⟩, fun x hx => ⟨(h3.2 x hx).1, ?_⟩⟩
  obtain ⟨U, V, u1, u2, u3, u4, u5⟩ := (h3.2 x hx).2
  exact ⟨U, V, u1, u2, u3.mono (hm_perm hp), ⟨(hp.pairwise_iff (fun {a b} z h1 h2 h3 => z h2 h1 h3.symm)).mp u4.1, fun e he => u4.2 e (hp.mem_iff.mpr he)⟩, u5⟩
/-- the class writes a row -/
theorem RWS.cle (h : RWS D H s k) : RWS (D.1 ++ [(a, b, c, e)], D.2) H (c78 s a b c e).1 k := by
  have i0 : (1048576 : Int32).toInt = 1048576 := rfl
  have er : ∀ x, (c78 s a b c e).1.r (.i x) = if x = s.now then (if s.r (.i x) < 1048576 then s.r (.i x) + 1 else s.r (.i x)) else s.r (.i x) := fun x => by
    by_cases c1 : x = s.now
    · rw [if_pos c1, c1]
      exact tad_ri
    · rw [if_neg c1]
      exact tad_rn (fun q => c1 (Sum.inl.inj (Sum.inr.inj q)))
  have up : ∀ x, (s.r (.i x)).toInt ≤ ((c78 s a b c e).1.r (.i x)).toInt := fun x => by
    rw [er]
    split
    · split
      · rename_i c2
        have h0 := h.1 x
        rw [i_lt] at c2
        rw [i_add rfl (show (1 : Int32).toInt = 1 from rfl) (by omega) (by omega)]
        omega
      · exact Int.le_refl _
    · exact Int.le_refl _
  refine ⟨fun x => Int.le_trans (h.1 x) (up x), fun z => ?_⟩
  obtain ⟨n, h1, h2, h3⟩ := h.2 z
  refine ⟨n, h1, h2, fun hn hf => ?_⟩
  have h3 := h3 hn (fun x hx => by have := hf x hx; have := up (x + 1); omega)
  refine ⟨h3.1, fun x hx => ⟨(h3.2 x hx).1, ?_⟩⟩
  obtain ⟨U, V, u1, u2, u3, u4, u5⟩ := (h3.2 x hx).2
  have hf := hf x hx
  unfold RWF D1 D2
  unfold D1 at u1
  unfold D2 at u2
  rw [c78_now]
  by_cases c1 : x + 1 = s.now
  · rw [er, if_pos c1] at hf
    have c2 : s.r (.i (x + 1)) < 1048576 := by
      by_cases c2 : s.r (.i (x + 1)) < 1048576
      · exact c2
      · rw [if_neg c2] at hf
        rw [i_lt]
        omega
    rw [i_lt] at c2
    rw [if_pos c1] at u1 u2
    rw [if_pos c1, if_pos c1]
    have hU := u1.1
    refine ⟨U, V, ?_, u2, u3, u4, u5⟩
    show TR (c78 s a b c e).1 (.i (x + 1)) (U ++ (D.1 ++ [(a, b, c, e)]))
    rw [← List.append_assoc]
    rw [c1] at u1 ⊢
    exact (u1.add (by rw [c1] at hU c2; omega)).1
  · rw [if_neg c1] at u1 u2
    rw [if_neg c1, if_neg c1]
    have ne : cT.i (x + 1) ≠ .i s.now := fun q => c1 (Sum.inl.inj (Sum.inr.inj q))
    refine ⟨U, V, u1.same (by rw [er, if_neg c1]) ?_, u2, u3, u4, u5⟩
    show (tad s (.i s.now) a b c e).1.c (.i (x + 1)) = _
    unfold tad
    split
    · show (if cT.i (x + 1) = .i s.now then _ else s.c (.i (x + 1))) = _
      exact if_neg ne
    · rfl
/-- the reference writes a row -/
theorem k189_68 {n : Nat} (h : k.1 68 = xn n) (hn : n < 65536) : (k189 k a b c e).1.1 68 = xn (n + 1) ∧ (k189 k a b c e).1.2 69 = upd (k.2 69) n (kr k 33 (k.1 32)) ∧ (k189 k a b c e).1.2 70 = upd (k.2 70) n a ∧ (k189 k a b c e).1.2 71 = upd (k.2 71) n b ∧ (k189 k a b c e).1.2 72 = upd (k.2 72) n c ∧ (k189 k a b c e).1.2 73 = upd (k.2 73) n e := by
  have i6 : (65536 : Int32).toInt = 65536 := rfl
  have ix : (k.1 68).toNatClampNeg = n := by rw [h]; exact xn_nat (by omega)
  unfold k189
  rw [if_neg (by rw [h, i_le, xn_i (by omega), i6]; omega)]
  unfold k189_78
  refine ⟨?_, ?_, ?_, ?_, ?_, ?_⟩
  · show k.1 68 + 1 = _
    rw [h, xn_succ (by omega)]
  · show upd (k.2 69) (k.1 68).toNatClampNeg (kr k 33 (k.1 32)) = _
    rw [ix]
  · show upd (k.2 70) (k.1 68).toNatClampNeg a = _
    rw [ix]
  · show upd (k.2 71) (k.1 68).toNatClampNeg b = _
    rw [ix]
  · show upd (k.2 72) (k.1 68).toNatClampNeg c = _
    rw [ix]
  · show upd (k.2 73) (k.1 68).toNatClampNeg e = _
    rw [ix]
theorem k189_rx {n : Nat} (h : k.1 68 = xn n) (hn : n < 65536) (h33 : kr k 33 (k.1 32) = xn x0) (hx0 : x0 ≤ 1000000) {x : Nat} (hx : x ≤ 1000000) : rx (k189 k a b c e).1 x (n + 1) = rx k x n ++ (if x = x0 then [(a, b, c, e)] else []) := by
  obtain ⟨e68, e69, e70, e71, e72, e73⟩ := k189_68 (a := a) (b := b) (c := c) (e := e) h hn
  have hR : ∀ g, g < n → kR (k189 k a b c e).1 g = kR k g := fun g hg => by
    unfold kR
    rw [e70, e71, e72, e73]
    unfold upd
    rw [if_neg (by omega), if_neg (by omega), if_neg (by omega), if_neg (by omega)]
  have hN : kR (k189 k a b c e).1 n = (a, b, c, e) := by
    unfold kR
    rw [e70, e71, e72, e73]
    unfold upd
    rw [if_pos rfl, if_pos rfl, if_pos rfl, if_pos rfl]
  have eo : gx ((k189 k a b c e).1.2 69) x n = gx (k.2 69) x n := gx_ext (fun i hi => by
    rw [e69]
    exact if_neg (by omega))
  have en : (k189 k a b c e).1.2 69 n = xn x0 := by
    rw [e69, ← h33]
    exact if_pos rfl
  unfold rx
  show (gx ((k189 k a b c e).1.2 69) x n ++ (if (k189 k a b c e).1.2 69 n = xn x then [n] else [])).map (kR (k189 k a b c e).1) = _
  rw [List.map_append, eo, en]
  congr 1
  · exact List.map_congr_left (fun g hg => hR g (gx_lt hg).1)
  · by_cases c1 : x = x0
    · rw [if_pos c1, if_pos (by rw [c1])]
      show [kR (k189 k a b c e).1 n] = _
      rw [hN]
    · rw [if_neg c1, if_neg (fun z => c1 (by
        have := congrArg Int32.toInt z
        rw [xn_i (by omega), xn_i (by omega)] at this
        omega))]
      rfl
theorem k189_gx {n : Nat} (h : k.1 68 = xn n) (hn : n < 65536) {x : Nat} : gx ((k189 k a b c e).1.2 69) x n = gx (k.2 69) x n ∧ ∀ g, g < n → kR (k189 k a b c e).1 g = kR k g := by
  obtain ⟨e68, e69, e70, e71, e72, e73⟩ := k189_68 (a := a) (b := b) (c := c) (e := e) h hn
  refine ⟨gx_ext (fun i hi => by rw [e69]; exact if_neg (by omega)), fun g hg => ?_⟩
  unfold kR
  rw [e70, e71, e72, e73]
  unfold upd
  rw [if_neg (by omega), if_neg (by omega), if_neg (by omega), if_neg (by omega)]
theorem RWS.put (h : RWS D H s k) (h33 : kr k 33 (k.1 32) = xn x0) (hn : s.now = x0 + 1) (hx0 : (x0 : Int) < (k.1 53).toInt) (h53 : (k.1 53).toInt ≤ 1000000) : RWS (D.1, D.2 ++ [(a, b, c, e)]) H s (k189 k a b c e).1 := by
  have fk := fr_k189 k a b c e
  refine ⟨h.1, fun z => ?_⟩
  rw [fk.1 8 rfl] at z
  obtain ⟨n, h1, h2, h3⟩ := h.2 z
  by_cases cn : n < 65536
  · obtain ⟨e68, e69, -⟩ := k189_68 (a := a) (b := b) (c := c) (e := e) h1 cn
    have ix : (kr k 33 (k.1 32)).toNatClampNeg = x0 := by rw [h33]; exact xn_nat (by omega)
    have e60 : (k189 k a b c e).1.2 60 = upd (k.2 60) x0 (k.2 60 x0 + 1) := by
      rw [k189_60, ix]
      show upd (k.2 60) x0 (k.2 60 (kr k 33 (k.1 32)).toNatClampNeg + 1) = _
      rw [ix]
    refine ⟨n + 1, e68, by omega, fun _ hf => ?_⟩
    have h3 := h3 cn (fun x hx => hf x (by rw [fk.1 53 rfl]; exact hx))
    refine ⟨⟨by rw [fk.1 53 rfl]; exact h3.1.1, fun i hi => ?_⟩, fun x hx => ?_⟩
    · rw [fk.1 53 rfl, e69]
      unfold upd
      by_cases ci : i = n
      · rw [if_pos ci]
        exact ⟨x0, hx0, h33⟩
      · rw [if_neg ci]
        exact h3.1.2 i (by omega)
    rw [fk.1 53 rfl] at hx
    obtain ⟨g1, g2⟩ := h3.2 x hx
    have hrx := k189_rx (a := a) (b := b) (c := c) (e := e) h1 cn h33 (by omega) (x := x) (by omega)
    constructor
    · have hl := congrArg List.length hrx
      unfold rx at hl
      rw [List.length_append, List.length_map, List.length_map] at hl
      have hle := gx_le (ow := k.2 69) (x := x) (n := n)
      rw [e60, hl]
      unfold upd
      by_cases c1 : x = x0
      · rw [if_pos c1, if_pos c1, ← c1, g1]
        show xn (gx (k.2 69) x n).length + 1 = xn ((gx (k.2 69) x n).length + 1)
        rw [xn_succ (by omega)]
      · rw [if_neg c1, if_neg c1]
        exact g1
    obtain ⟨U, V, u1, u2, u3, u4, u5⟩ := g2
    refine ⟨U, V, u1, ?_, u3, ⟨u4.1, fun q hq hqx => ?_⟩, u5⟩
    · rw [hrx, u2]
      unfold D2
      by_cases c1 : x + 1 = s.now
      · rw [if_pos c1, if_pos c1, if_pos (by omega), List.append_assoc]
      · rw [if_neg c1, if_neg c1, if_neg (by omega), List.append_nil, List.append_nil]
    · obtain ⟨w0, w1, w2, w3⟩ := u4.2 q hq hqx
      obtain ⟨y1, y2⟩ := k189_gx (a := a) (b := b) (c := c) (e := e) h1 cn (x := x)
      have hg := gx_i w2
      refine ⟨w0, w1, ?_, ?_⟩
      · show (gx ((k189 k a b c e).1.2 69) x n ++ _)[q.2.1]? = _
        rw [y1, List.getElem?_append_left (List.getElem?_eq_some_iff.mp w2).1]
        exact w2
      · rw [y2 _ hg.2]
        exact w3
  · have e68 : (k189 k a b c e).1.1 68 = k.1 68 := by
      have i6 : (65536 : Int32).toInt = 65536 := rfl
      unfold k189
      rw [if_pos (by rw [h1, i_le, xn_i (by omega), i6]; omega)]
      rfl
    exact ⟨n, e68.trans h1, h2, fun q => absurd q cn⟩
/-- what both have written is the same -/
theorem RWS.deq {m dc dr : List xR} (h : RWS (m ++ dc, m ++ dr) H s k) (hwm : wfl m) : RWS (dc, dr) H s k := by
  refine ⟨h.1, fun z => ?_⟩
  obtain ⟨n, h1, h2, h3⟩ := h.2 z
  refine ⟨n, h1, h2, fun hn hf => ?_⟩
  have h3 := h3 hn hf
  refine ⟨h3.1, fun x hx => ⟨(h3.2 x hx).1, ?_⟩⟩
  obtain ⟨U, V, u1, u2, u3, u4, u5⟩ := (h3.2 x hx).2
  unfold D1 at u1
  unfold D2 at u2
  unfold RWF D1 D2
  by_cases c1 : x + 1 = s.now
  · rw [if_pos c1] at u1 u2
    rw [if_pos c1, if_pos c1]
    refine ⟨U ++ m, V ++ m, ?_, ?_, u3.app, ⟨u4.1, fun q hq hqx => ?_⟩, wfl_a u5 hwm⟩
    · rw [List.append_assoc]
      exact u1
    · rw [List.append_assoc]
      exact u2
    · obtain ⟨w0, ⟨u, w1, w2⟩, w3⟩ := u4.2 q hq hqx
      exact ⟨w0, ⟨u, by rw [List.getElem?_append_left (List.getElem?_eq_some_iff.mp w1).1]; exact w1, w2⟩, w3⟩
  · rw [if_neg c1] at u1 u2
    rw [if_neg c1, if_neg c1]
    exact ⟨U, V, u1, u2, u3, u4, u5⟩
theorem RWS.eq (h : RWS D H s k) (e : D = D') : RWS D' H s k := by rw [← e]; exact h
theorem RWS.de0 (h : RWS D H s k) (e : D.1 = D.2) (hwm : wfl D.1) : RWS ([], []) H s k := by
  have q : RWS (D.1 ++ [], D.1 ++ []) H s k := by
    rw [List.append_nil]
    obtain ⟨d1, d2⟩ := D
    have e' : d1 = d2 := e
    subst e'
    exact h
  exact q.deq hwm
end RMS
