/-! WHAT A FUNCTION SAYS OF ITSELF: numbers of bodies on both sides -/
abbrev xS : Type := List (Nat × Nat)
/-- a begun function: its body; how many locals there are with those that wait, if any wait -/
def shF (f : xF) : Nat × Nat := (f.1, if f.2.2.1 = [] then 0 else f.2.1.length + f.2.2.1.length)
def sh (X : List xF) : xS := X.map shF
def wt : xS → Nat → Nat
  | [], _ => 0
  | q :: S, b => if q.1 = b then q.2 else wt S b
def mw (n : Nat) (y : Int32) : Int32 := if n = 0 then y else if y < xn n then xn n else y
def FB0 (s : cS) (k : kS) (S : xS) : Prop := k.1 8 = 0 → ∀ x : Nat, (x : Int) < (k.1 53).toInt → (s.b (x + 1) 2 = xn x ∧ s.b (x + 1) 3 = k.2 54 x ∧ s.b (x + 1) 4 = k.2 55 x ∧ s.b (x + 1) 5 = k.2 56 x ∧ s.b (x + 1) 8 = k.2 59 x) ∧ ((∀ q ∈ S, q.1 ≠ x + 1) → s.b (x + 1) 6 = k.2 57 x) ∧ s.b (x + 1) 7 = mw (wt S (x + 1)) (k.2 58 x)
section FBS
variable {s s' : cS} {k k' : kS} {S S' : xS} {f f' : xF} {r X : List xF}
theorem FB0.same (h : FB0 s k S) (hb : ∀ x j, 2 ≤ j → j ≤ 8 → s'.b x j = s.b x j) (e8 : k'.1 8 = 0 → k.1 8 = 0) (e53 : k'.1 53 = k.1 53) (eA : ∀ j, 54 ≤ j → j ≤ 59 → k'.2 j = k.2 j) : FB0 s' k' S := by
  intro z x hx
  rw [e53] at hx
  obtain ⟨⟨h2, h3, h4, h5, h8⟩, h6, h7⟩ := h (e8 z) x hx
  refine ⟨⟨?_, ?_, ?_, ?_, ?_⟩, fun q => ?_, ?_⟩
  · rw [hb _ _ (by decide) (by decide)]; exact h2
  · rw [hb _ _ (by decide) (by decide), eA _ (by decide) (by decide)]; exact h3
  · rw [hb _ _ (by decide) (by decide), eA _ (by decide) (by decide)]; exact h4
  · rw [hb _ _ (by decide) (by decide), eA _ (by decide) (by decide)]; exact h5
  · rw [hb _ _ (by decide) (by decide), eA _ (by decide) (by decide)]; exact h8
  · rw [hb _ _ (by decide) (by decide), eA _ (by decide) (by decide)]; exact h6 q
  · rw [hb _ _ (by decide) (by decide), eA _ (by decide) (by decide)]; exact h7
theorem tb0' {A M j : Nat} (ez : A &&& M = 0) (hj : M.testBit j = true) : A.testBit j = false := by
  have := congrArg (fun q => q.testBit j) ez
  simp only [Nat.testBit_and, hj, Bool.and_true, Nat.zero_testBit] at this
  exact this
theorem FB0.fr {F T B G F' A' : Nat} (h : FB0 s k S) (hc : cFr F T B G s s') (hk : kFr F' A' k k') (c3 : B &&& 508 = 0) (k2 : A' &&& 1134907106097364992 = 0) (e8 : k'.1 8 = 0 → k.1 8 = 0) (e53 : k'.1 53 = k.1 53) : FB0 s' k' S := by
  refine h.same (fun x j h1 h2 => hc.2.2.1 x j ?_) e8 e53 (fun j h1 h2 => hk.2 j ?_)
  · have hj : j = 2 ∨ j = 3 ∨ j = 4 ∨ j = 5 ∨ j = 6 ∨ j = 7 ∨ j = 8 := by omega
    rcases hj with rfl | rfl | rfl | rfl | rfl | rfl | rfl <;> exact tb0' c3 (by decide)
  · have hj : j = 54 ∨ j = 55 ∨ j = 56 ∨ j = 57 ∨ j = 58 ∨ j = 59 := by omega
    rcases hj with rfl | rfl | rfl | rfl | rfl | rfl <;> exact tb0' k2 (by decide)
theorem FB0.bad (h8 : k'.1 8 ≠ 0) : FB0 s' k' S := fun z => absurd z h8
theorem FB0.eq (h : FB0 s k S) (e : S = S') : FB0 s k S' := by rw [← e]; exact h
/-- how many locals there were at most is small -/
def sm (y : Int32) : Prop := 0 ≤ y.toInt ∧ y.toInt ≤ 1000000
def MBk (k : kS) : Prop := k.1 8 = 0 → ∀ x : Nat, (x : Int) < (k.1 53).toInt → sm (k.2 58 x)
def FB (s : cS) (k : kS) (S : xS) : Prop := FB0 s k S ∧ MBk k
theorem MBk.same (h : MBk k) (e8 : k'.1 8 = 0 → k.1 8 = 0) (e53 : k'.1 53 = k.1 53) (e58 : k'.2 58 = k.2 58) : MBk k' := fun z x hx => by
  rw [e58]
  exact h (e8 z) x (by rw [← e53]; exact hx)
theorem FB.same (h : FB s k S) (hb : ∀ x j, 2 ≤ j → j ≤ 8 → s'.b x j = s.b x j) (e8 : k'.1 8 = 0 → k.1 8 = 0) (e53 : k'.1 53 = k.1 53) (eA : ∀ j, 54 ≤ j → j ≤ 59 → k'.2 j = k.2 j) : FB s' k' S := ⟨h.1.same hb e8 e53 eA, h.2.same e8 e53 (eA 58 (by decide) (by decide))⟩
theorem FB.fr {F T B G F' A' : Nat} (h : FB s k S) (hc : cFr F T B G s s') (hk : kFr F' A' k k') (c3 : B &&& 508 = 0) (k2 : A' &&& 1134907106097364992 = 0) (e8 : k'.1 8 = 0 → k.1 8 = 0) (e53 : k'.1 53 = k.1 53) : FB s' k' S := ⟨h.1.fr hc hk c3 k2 e8 e53, h.2.same e8 e53 (hk.2 58 (tb0' k2 (by decide)))⟩
theorem FB.bad (h8 : k'.1 8 ≠ 0) : FB s' k' S := ⟨FB0.bad h8, fun z => absurd z h8⟩
theorem FB.eq (h : FB s k S) (e : S = S') : FB s k S' := by rw [← e]; exact h
/-- the head alone has changed -/
theorem sh_cons : sh (f :: r) = shF f :: sh r := rfl
theorem sh_eq (h1 : f'.1 = f.1) (h2 : f'.2.2.1 = []) (h3 : f.2.2.1 = []) : sh (f :: r) = sh (f' :: r) := by
  rw [sh_cons, sh_cons]
  unfold shF
  rw [h1, h2, h3, if_pos rfl, if_pos rfl]
theorem wt_at {q : Nat × Nat} {b : Nat} (h : q.1 = b) : wt (q :: S) b = q.2 := if_pos h
theorem wt_nt {q : Nat × Nat} {b : Nat} (h : q.1 ≠ b) : wt (q :: S) b = wt S b := if_neg h
theorem shF1 : (shF f).1 = f.1 := rfl
theorem shF0 (h : f.2.2.1 = []) : (shF f).2 = 0 := if_pos h
theorem mw0 {y : Int32} : mw 0 y = y := if_pos rfl
/-- one body changes its greatest number, the reference's is known -/
theorem FB0.b7 {v : Int32} {x0 : Nat} (h : FB0 s k (shF f :: sh r)) (hx : f.1 = x0 + 1) (h1 : f'.1 = f.1) (hb : ∀ x j, 2 ≤ j → j ≤ 8 → (j ≠ 7 ∨ x ≠ f.1) → s'.b x j = s.b x j) (hb7 : s'.b f.1 7 = v) (e8 : k'.1 8 = 0 → k.1 8 = 0) (e53 : k'.1 53 = k.1 53) (eA : ∀ j, 54 ≤ j → j ≤ 59 → j ≠ 58 → k'.2 j = k.2 j) (e58 : ∀ x, x ≠ x0 → k'.2 58 x = k.2 58 x) (hv : s.b f.1 7 = mw (shF f).2 (k.2 58 x0) → v = mw (shF f').2 (k'.2 58 x0)) : FB0 s' k' (shF f' :: sh r) := by
  intro z x hx'
  rw [e53] at hx'
  obtain ⟨⟨h2, h3, h4, h5, h8⟩, h6, h7⟩ := h (e8 z) x hx'
  refine ⟨⟨?_, ?_, ?_, ?_, ?_⟩, fun q => ?_, ?_⟩
  · rw [hb _ _ (by decide) (by decide) (Or.inl (by decide))]; exact h2
  · rw [hb _ _ (by decide) (by decide) (Or.inl (by decide)), eA _ (by decide) (by decide) (by decide)]; exact h3
  · rw [hb _ _ (by decide) (by decide) (Or.inl (by decide)), eA _ (by decide) (by decide) (by decide)]; exact h4
  · rw [hb _ _ (by decide) (by decide) (Or.inl (by decide)), eA _ (by decide) (by decide) (by decide)]; exact h5
  · rw [hb _ _ (by decide) (by decide) (Or.inl (by decide)), eA _ (by decide) (by decide) (by decide)]; exact h8
  · rw [hb _ _ (by decide) (by decide) (Or.inl (by decide)), eA _ (by decide) (by decide) (by decide)]
    refine h6 (fun q' hq => ?_)
    rcases List.mem_cons.mp hq with e | e
    · have := q (shF f') List.mem_cons_self
      rw [shF1, h1] at this
      rw [e, shF1]
      exact this
    · exact q q' (List.mem_cons_of_mem _ e)
  · by_cases c : x = x0
    · rw [c] at h7 ⊢
      rw [wt_at (by rw [shF1, h1, hx]), ← hx, hb7]
      refine hv ?_
      rw [hx, h7, wt_at (by rw [shF1, hx])]
    · rw [hb _ _ (by decide) (by decide) (Or.inr (by omega)), e58 x c, wt_nt (by rw [shF1, h1]; omega)]
      rw [wt_nt (by rw [shF1]; omega)] at h7
      exact h7
theorem FB.b7 {v : Int32} {x0 : Nat} (h : FB s k (shF f :: sh r)) (hx : f.1 = x0 + 1) (h1 : f'.1 = f.1) (hb : ∀ x j, 2 ≤ j → j ≤ 8 → (j ≠ 7 ∨ x ≠ f.1) → s'.b x j = s.b x j) (hb7 : s'.b f.1 7 = v) (e8 : k'.1 8 = 0 → k.1 8 = 0) (e53 : k'.1 53 = k.1 53) (eA : ∀ j, 54 ≤ j → j ≤ 59 → j ≠ 58 → k'.2 j = k.2 j) (e58 : ∀ x, x ≠ x0 → k'.2 58 x = k.2 58 x) (hv : s.b f.1 7 = mw (shF f).2 (k.2 58 x0) → v = mw (shF f').2 (k'.2 58 x0)) (hm : sm (k.2 58 x0) → sm (k'.2 58 x0)) : FB s' k' (shF f' :: sh r) := by
  refine ⟨h.1.b7 hx h1 hb hb7 e8 e53 eA e58 hv, fun z x hx' => ?_⟩
  rw [e53] at hx'
  have z1 := h.2 (e8 z) x hx'
  by_cases c : x = x0
  · rw [c] at z1 ⊢
    exact hm z1
  · rw [e58 x c]
    exact z1
/-! which locals are to be closed -/
def CL (k : kS) (X : List xF) : Prop := k.1 8 = 0 → ∀ (i : Nat) (q : xR), (kL X)[i]? = some q → (k.2 30 i ≠ 0 ↔ q.2.1 &&& 4 ≠ 0)
theorem CL.sub {X' : List xF} (h : CL k X) (hs : ∀ (i : Nat) (q : xR), (kL X')[i]? = some q → (kL X)[i]? = some q) (e8 : k'.1 8 = 0 → k.1 8 = 0) (e30 : k'.2 30 = k.2 30) : CL k' X' := by
  intro z i q hq
  rw [e30]
  exact h (e8 z) i q (hs i q hq)
theorem CL.fr {F A : Nat} (h : CL k X) (hk : kFr F A k k') (k2 : A &&& 1073741824 = 0) (e8 : k'.1 8 = 0 → k.1 8 = 0) : CL k' X := h.sub (fun _ _ q => q) e8 (hk.2 30 (tb0' k2 (by decide)))
theorem CL.bad (h8 : k'.1 8 ≠ 0) : CL k' X := fun z => absurd z h8
/-! how many locals there were when a loop began -/
def bLv : List xB → List Nat
  | [] => []
  | b :: r => bLv r ++ (if b.2.2.2 = 1 then [b.1] else [])
def fLv : List xF → List Nat
  | [] => []
  | f :: r => fLv r ++ bLv f.2.2.2.1
/-- the class's loops; p: of those that have no block yet -/
def LVv (p : List Nat) (s : cS) (X : List xF) : Prop := ∃ W, TR s (.s 28) W ∧ W.map (fun q => q.1) = (fLv X ++ p).map xn
theorem LVv.same {p p' : List Nat} {X' : List xF} (h : LVv p s X) (e : fLv X' ++ p' = fLv X ++ p) (hr : s'.r (.s 28) = s.r (.s 28)) (hc : s'.c (.s 28) = s.c (.s 28)) : LVv p' s' X' := by
  obtain ⟨W, h1, h2⟩ := h
  exact ⟨W, h1.same hr hc, by rw [h2, e]⟩
theorem LVv.fr {p : List Nat} {F T B G : Nat} (h : LVv p s X) (hc : cFr F T B G s s') (h28 : T.testBit 28 = false) : LVv p s' X := h.same rfl (hc.2.1 28 h28).1 (hc.2.1 28 h28).2
end FBS
