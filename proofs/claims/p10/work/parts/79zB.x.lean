/-! NAMES AS BOTH SIDES KEEP THEM: functions that are begun (the innermost first), their locals, blocks, labels and gotos -/
abbrev xB : Type := Nat × List xR × List xR × Nat
abbrev xF : Type := Nat × List xR × List xR × List xB × Int32
def xn (n : Nat) : Int32 := Int32.ofNat n
theorem xn_i {n : Nat} (h : n ≤ 16777216) : (xn n).toInt = n := i_nat h
theorem xn_eq {x : Int32} {n : Nat} (h : x.toInt = n) (hn : n ≤ 16777216) : x = xn n := Int32.toInt_inj.mp (by rw [h, xn_i hn])
theorem xn_add {n m : Nat} (h : n + m ≤ 16777216) : xn n + xn m = xn (n + m) := xn_eq (by rw [i_add (xn_i (by omega)) (xn_i (by omega)) (by omega) (by omega)]; omega) h
theorem xn_sub {n m : Nat} (h : n + m ≤ 16777216) : xn (n + m) - xn n = xn m := xn_eq (by rw [i_sub (xn_i h) (xn_i (by omega)) (by omega) (by omega)]; omega) (by omega)
/-- all locals, with those that wait; without them -/
def fL : List xF → List xR
  | [] => []
  | f :: r => fL r ++ (f.2.1 ++ f.2.2.1)
def kL : List xF → List xR
  | [] => []
  | f :: r => kL r ++ f.2.1
def bLab : List xB → List xR
  | [] => []
  | b :: r => bLab r ++ b.2.1
def fLab : List xF → List xR
  | [] => []
  | f :: r => fLab r ++ bLab f.2.2.2.1
def bGo : List xB → List xR
  | [] => []
  | b :: r => bGo r ++ b.2.2.1
def fGo : List xF → List xR
  | [] => []
  | f :: r => fGo r ++ bGo f.2.2.2.1
def bBl (o l g : Nat) : List xB → List xR
  | [] => []
  | b :: r => bBl o l g r ++ [(xn (o + b.1), xn (l + (bLab r).length), xn (g + (bGo r).length), 0)]
def fBl : List xF → List xR
  | [] => []
  | f :: r => fBl r ++ bBl (fL r).length (fLab r).length (fGo r).length f.2.2.2.1
def bLp : List xB → Nat
  | [] => 0
  | b :: r => bLp r + (if b.2.2.2 = 1 then 1 else 0)
def fLp : List xF → Nat
  | [] => 0
  | f :: r => fLp r + bLp f.2.2.2.1
def XF (s : cS) : List xF → Prop
  | [] => True
  | f :: r => s.op r.length = f.1 ∧ s.b f.1 9 = xn (fL r).length ∧ s.b f.1 10 = xn (fLab r).length ∧ s.b f.1 11 = xn (fGo r).length ∧ s.b f.1 12 = xn (fLp r) ∧ s.b f.1 5 = f.2.2.2.2 ∧ (∀ g ∈ r, g.1 ≠ f.1) ∧ XF s r
/-- the class's memory holds these names; e loops have no block yet -/
def XC (e : Nat) (s : cS) (X : List xF) : Prop := TR s (.s 14) (fL X) ∧ TR s (.s 16) (fBl X) ∧ TR s (.s 24) (fLab X) ∧ TR s (.s 26) (fGo X) ∧ (s.r (.s 28)).toInt = fLp X + e ∧ s.f 13 1 = xn X.length ∧ XF s X ∧ ∀ f r, X = f :: r → s.now = f.1
/-- is there a label of this name -/
def seen (ls : List xR) (t : Int32) : Bool := ls.any (fun l => decide (l.1 = t))
/-- gotos for which no label is there yet -/
def bUm : List xB → List xR
  | [] => []
  | b :: r => bUm r ++ b.2.2.1.filter (fun g => !(seen (bLab (b :: r)) g.1))
def fUm : List xF → List xR
  | [] => []
  | f :: r => fUm r ++ bUm f.2.2.2.1
def kBl (o l g d : Nat) : List xB → List (Int32 × xR)
  | [] => []
  | b :: r => if b.2.2.2 = 2 then kBl o l g d r else kBl o l g d r ++ [(xn (o + b.1), xn (l + (bLab r).length), xn (g + (bUm r).length), xn d, if b.2.2.2 = 1 then 1 else 0)]
def fkBl : List xF → List (Int32 × xR)
  | [] => []
  | f :: r => fkBl r ++ kBl (kL r).length (fLab r).length (fUm r).length r.length f.2.2.2.1
def XKF (k : kS) : List xF → Prop
  | [] => True
  | f :: r => (k.2 33 r.length).toInt + 1 = f.1 ∧ k.2 34 r.length = xn (kL r).length ∧ k.2 35 r.length = xn (fLab r).length ∧ k.2 36 r.length = xn (fUm r).length ∧ k.2 56 (f.1 - 1) = f.2.2.2.2 ∧ XKF k r
def xlok (k : kS) (i : Nat) (q : xR) : Prop := k.2 25 i = q.1 ∧ (k.2 28 i = 0 ↔ q.2.1 &&& 1 ≠ 0) ∧ (k.1 8 = 0 → q.2.1 &&& 1 ≠ 0 → (k.2 29 i ≠ 0 ↔ q.2.1 &&& 2 ≠ 0))
/-- the reference's memory holds these names -/
def XK (k : kS) (X : List xF) : Prop := (k.1 24 = xn (kL X).length ∧ ∀ i q, (kL X)[i]? = some q → xlok k i q) ∧
  (k.1 37 = xn (fkBl X).length ∧ ∀ i q, (fkBl X)[i]? = some q → k.2 38 i = q.1 ∧ k.2 39 i = q.2.1 ∧ k.2 40 i = q.2.2.1 ∧ k.2 41 i = q.2.2.2.1 ∧ k.2 42 i = q.2.2.2.2) ∧
  (k.1 44 = xn (fLab X).length ∧ ∀ i q, (fLab X)[i]? = some q → k.2 45 i = q.1 ∧ k.2 47 i = q.2.2.1) ∧
  (k.1 48 = xn (fUm X).length ∧ ∀ i q, (fUm X)[i]? = some q → k.2 49 i = q.1 ∧ k.2 50 i = q.2.1 ∧ k.2 52 i = q.2.2.2) ∧
  (k.1 32).toInt + 1 = X.length ∧ XKF k X
/-- nothing is large -/
def SZ (X : List xF) : Prop := (fL X).length + (fBl X).length + (fLab X).length + (fGo X).length + fLp X + X.length ≤ 1000000
theorem XF.same {s s' : cS} : ∀ {X : List xF}, XF s X → s'.op = s.op → (∀ x j, (j = 5 ∨ j = 9 ∨ j = 10 ∨ j = 11 ∨ j = 12) → s'.b x j = s.b x j) → XF s' X := by
  intro X
  induction X with
  | nil => intro _ _ _; trivial
  | cons f r ih =>
    intro h ho hb
    obtain ⟨h1, h2, h3, h4, h5, h6, h7, h8⟩ := h
    refine ⟨by rw [ho]; exact h1, ?_, ?_, ?_, ?_, ?_, h7, ih h8 ho hb⟩
    · rw [hb _ 9 (by decide)]; exact h2
    · rw [hb _ 10 (by decide)]; exact h3
    · rw [hb _ 11 (by decide)]; exact h4
    · rw [hb _ 12 (by decide)]; exact h5
    · rw [hb _ 5 (by decide)]; exact h6
/-- what leaves names alone keeps them -/
theorem XC.fr {e F T B G : Nat} {s s' : cS} {X : List xF} (h : XC e s X) (hf : cFr F T B G s s') (hF : F.testBit 209 = false) (hT : T &&& 352403456 = 0) (hB : B &&& 7712 = 0) (hG : G &&& 3 = 0) : XC e s' X := by
  obtain ⟨h1, h2, h3, h4, h5, h6, h7, h8⟩ := h
  have tb : ∀ (A M j : Nat), A &&& M = 0 → M.testBit j = true → A.testBit j = false := fun A M j ez hj => by
    have := congrArg (fun q => q.testBit j) ez
    simp only [Nat.testBit_and, hj, Bool.and_true, Nat.zero_testBit] at this
    exact this
  refine ⟨h1.fr hf (tb _ _ 14 hT (by decide)), h2.fr hf (tb _ _ 16 hT (by decide)), h3.fr hf (tb _ _ 24 hT (by decide)), h4.fr hf (tb _ _ 26 hT (by decide)), ?_, ?_, h7.same (hf.2.2.2.2.1 (tb _ _ 1 hG (by decide))) (fun x j hj => hf.2.2.1 x j ?_), fun f r ef => ?_⟩
  · rw [(hf.2.1 28 (tb _ _ 28 hT (by decide))).1]; exact h5
  · rw [hf.1 13 1 (by decide) hF]; exact h6
  · rcases hj with rfl | rfl | rfl | rfl | rfl
    · exact tb _ _ 5 hB (by decide)
    · exact tb _ _ 9 hB (by decide)
    · exact tb _ _ 10 hB (by decide)
    · exact tb _ _ 11 hB (by decide)
    · exact tb _ _ 12 hB (by decide)
  · rw [hf.2.2.2.1 (tb _ _ 0 hG (by decide))]; exact h8 f r ef
theorem XKF.same {k k' : kS} : ∀ {X : List xF}, XKF k X → (∀ j, (j = 33 ∨ j = 34 ∨ j = 35 ∨ j = 36 ∨ j = 56) → k'.2 j = k.2 j) → XKF k' X := by
  intro X
  induction X with
  | nil => intro _ _; trivial
  | cons f r ih =>
    intro h hb
    obtain ⟨h1, h2, h3, h4, h5, h6⟩ := h
    refine ⟨?_, ?_, ?_, ?_, ?_, ih h6 hb⟩
    · rw [hb 33 (by decide)]; exact h1
    · rw [hb 34 (by decide)]; exact h2
    · rw [hb 35 (by decide)]; exact h3
    · rw [hb 36 (by decide)]; exact h4
    · rw [hb 56 (by decide)]; exact h5
theorem XK.frs {F A : Nat} {k k' : kS} {X : List xF} (h : XK k X) (hf : kFr F A k k') (hF : F &&& 299208913453056 = 0) (hA : A &&& 78434616289001472 = 0) (hs : k'.1 8 = 0 → k.1 8 = 0) : XK k' X := by
  obtain ⟨⟨h1, h2⟩, ⟨h3, h4⟩, ⟨h5, h6⟩, ⟨h7, h8⟩, h9, h10⟩ := h
  have tb : ∀ (A M j : Nat), A &&& M = 0 → M.testBit j = true → A.testBit j = false := fun A M j ez hj => by
    have := congrArg (fun q => q.testBit j) ez
    simp only [Nat.testBit_and, hj, Bool.and_true, Nat.zero_testBit] at this
    exact this
  have fn : ∀ j, (299208913453056 : Nat).testBit j = true → k'.1 j = k.1 j := fun j hj => hf.1 j (tb _ _ j hF hj)
  have fa : ∀ j, (78434616289001472 : Nat).testBit j = true → k'.2 j = k.2 j := fun j hj => hf.2 j (tb _ _ j hA hj)
  refine ⟨⟨by rw [fn 24 (by decide)]; exact h1, fun i q hq => ?_⟩, ⟨by rw [fn 37 (by decide)]; exact h3, fun i q hq => ?_⟩, ⟨by rw [fn 44 (by decide)]; exact h5, fun i q hq => ?_⟩, ⟨by rw [fn 48 (by decide)]; exact h7, fun i q hq => ?_⟩, by rw [fn 32 (by decide)]; exact h9, h10.same (fun j hj => ?_)⟩
  · unfold xlok
    rw [fa 25 (by decide), fa 28 (by decide), fa 29 (by decide)]
    obtain ⟨a1, a2, a3⟩ := h2 i q hq
    exact ⟨a1, a2, fun z => a3 (hs z)⟩
  · rw [fa 38 (by decide), fa 39 (by decide), fa 40 (by decide), fa 41 (by decide), fa 42 (by decide)]
    exact h4 i q hq
  · rw [fa 45 (by decide), fa 47 (by decide)]
    exact h6 i q hq
  · rw [fa 49 (by decide), fa 50 (by decide), fa 52 (by decide)]
    exact h8 i q hq
  · rcases hj with rfl | rfl | rfl | rfl | rfl
    · exact fa 33 (by decide)
    · exact fa 34 (by decide)
    · exact fa 35 (by decide)
    · exact fa 36 (by decide)
    · exact fa 56 (by decide)
theorem XK.fr {F A : Nat} {k k' : kS} {X : List xF} (h : XK k X) (hf : kFr F A k k') (hF : F &&& 299208913453056 = 0) (hA : A &&& 78434616289001472 = 0) (h8 : F.testBit 8 = false := by rfl) : XK k' X := h.frs hf hF hA (fun z => (hf.1 8 h8).symm.trans z)
