/-! JUMPS THAT WAIT on both sides: gotos and breaks of the functions in hand -/
/-- of blocks only labels, gotos and the kind -/
abbrev jB : Type := List xR × List xR × Nat
abbrev jF : Type := Nat × List jB
def jb (bs : List xB) : List jB := bs.map (fun b => b.2)
def jx (X : List xF) : List jF := X.map (fun f => (f.1, jb f.2.2.2.1))
def jLab : List jB → List xR
  | [] => []
  | b :: r => jLab r ++ b.1
def jUm : List jB → List xR
  | [] => []
  | b :: r => jUm r ++ b.2.1.filter (fun g => !(seen (jLab (b :: r)) g.1))
def jfLab : List jF → List xR
  | [] => []
  | f :: r => jfLab r ++ jLab f.2
def jfUm : List jF → List xR
  | [] => []
  | f :: r => jfUm r ++ jUm f.2
/-- blocks that are not hidden -/
def jK : List jB → Nat
  | [] => 0
  | b :: r => jK r + (if b.2.2 = 2 then 0 else 1)
def jfK : List jF → Nat
  | [] => 0
  | f :: r => jfK r + jK f.2
def lvg (q : xR) : Nat := q.2.2.1.toNatClampNeg
/-- the gotos of a block: a label is there, and the reference has led it; or none is there, and the reference keeps it -/
def GL (k : kS) (x : Nat) (ls : List xR) : Nat → List xR → List hE → Prop
  | _, [], Hd => Hd = []
  | u, q :: qs, Hd => ∃ g v1 v2 Hr, Hd = (x, lvg q, 1, g, 0, v1) :: (x, lvg q + 1, 1, g + 1, 0, v2) :: Hr ∧ (q.2.2.1.toInt = lvg q ∧ lvg q ≤ 1048576) ∧ ((seen ls q.1 = true ∧ (∃ l ∈ ls, l.1 = q.1 ∧ v1 = l.2.2.1 ∧ v2 = l.2.1) ∧ GL k x ls u qs Hr) ∨ (seen ls q.1 = false ∧ k.2 51 u = xn g ∧ g ≤ 65536 ∧ GL k x ls (u + 1) qs Hr))
def GB (k : kS) (x u : Nat) : List jB → List hE → Prop
  | [], Hd => Hd = []
  | b :: r, Hd => ∃ Hr Hb, Hd = Hr ++ Hb ∧ GB k x u r Hr ∧ GL k x (jLab (b :: r)) (u + (jUm r).length) b.2.1 Hb
def GX (k : kS) : List jF → List hE → Prop
  | [], Hd => Hd = []
  | f :: r, Hd => ∃ Hr Hf, Hd = Hr ++ Hf ∧ GX k r Hr ∧ GB k (f.1 - 1) (jfUm r).length f.2 Hf
/-- a chain of breaks, the oldest first -/
def CH (k : kS) (x : Nat) : Int32 → List hE → Prop
  | c, [] => c = 0
  | c, e :: l => ∃ i g v, e = (x, i, 1, g, 0, v) ∧ c = xn (g + 1) ∧ g ≤ 65536 ∧ CH k x v l
/-- the breaks of each loop, the outermost first; in each the latest first -/
def BGr (k : kS) (x j0 : Nat) : List jB → List (List hE) → Prop
  | [], Gs => Gs = []
  | b :: r, Gs => (b.2.2 = 1 ∧ ∃ Gr C, Gs = Gr ++ [C] ∧ BGr k x j0 r Gr ∧ CH k x (k.2 43 (j0 + jK r)) C) ∨ (b.2.2 ≠ 1 ∧ BGr k x j0 r Gs)
def BFr (k : kS) : List jF → List (List hE) → Prop
  | [], Gs => Gs = []
  | f :: r, Gs => ∃ Gr Gf, Gs = Gr ++ Gf ∧ BFr k r Gr ∧ BGr k (f.1 - 1) (jfK r) f.2 Gf
/-- where each loop's breaks begin in the class's table -/
def stB : Nat → List (List hE) → List Int32
  | _, [] => []
  | n, C :: r => xn n :: stB (n + C.length) r
/-- the rows of the class's table of breaks -/
def rwB : List (List hE) → List xR
  | [] => []
  | C :: r => (C.reverse.map (fun e => (xn e.2.1, 0, 0, 0))) ++ rwB r
def BX (s : cS) (Gs : List (List hE)) : Prop := TR s (.s 30) (rwB Gs) ∧ ∃ W, TR s (.s 28) W ∧ W.map (fun q => q.2.1) = stB 0 Gs
/-- p: the breaks of loops that have no block (yet, any more) -/
def DY (p : List (List hE)) (Hd : List hE) (s : cS) (k : kS) (X : List xF) : Prop := ∃ Hg Gs, (Hd = Hg ++ (Gs ++ p).flatten ∧ (∀ i q, (jfLab (jx X))[i]? = some q → k.2 46 i = q.2.1) ∧ ∀ f ∈ jx X, ((jLab f.2).map (fun l => l.1)).Nodup) ∧ GX k (jx X) Hg ∧ BFr k (jx X) Gs ∧ BX s (Gs ++ p)
section DYS
variable {k k' : kS} {s s' : cS} {x u : Nat} {X X' : List xF} {p : List (List hE)} {Hd : List hE}
theorem GL.fr {ls : List xR} (e : k'.2 51 = k.2 51) : ∀ {qs : List xR} {u : Nat} {Hd : List hE}, GL k x ls u qs Hd → GL k' x ls u qs Hd := by
  intro qs
  induction qs with
  | nil => intro u Hd h; exact h
  | cons q qs ih =>
    rintro u Hd ⟨g, v1, v2, Hr, h1, h0, h2⟩
    refine ⟨g, v1, v2, Hr, h1, h0, ?_⟩
    rcases h2 with ⟨h2, h3, h4⟩ | ⟨h2, h3, h4, h5⟩
    · exact Or.inl ⟨h2, h3, ih h4⟩
    · exact Or.inr ⟨h2, by rw [e]; exact h3, h4, ih h5⟩
theorem GB.fr (e : k'.2 51 = k.2 51) : ∀ {bs : List jB} {Hd : List hE}, GB k x u bs Hd → GB k' x u bs Hd := by
  intro bs
  induction bs with
  | nil => intro Hd h; exact h
  | cons b r ih =>
    rintro Hd ⟨Hr, Hb, h1, h2, h3⟩
    exact ⟨Hr, Hb, h1, ih h2, h3.fr e⟩
theorem GX.fr (e : k'.2 51 = k.2 51) : ∀ {J : List jF} {Hd : List hE}, GX k J Hd → GX k' J Hd := by
  intro J
  induction J with
  | nil => intro Hd h; exact h
  | cons f r ih =>
    rintro Hd ⟨Hr, Hf, h1, h2, h3⟩
    exact ⟨Hr, Hf, h1, ih h2, h3.fr e⟩
theorem CH.fr : ∀ {C : List hE} {c : Int32}, CH k x c C → CH k' x c C := by
  intro C
  induction C with
  | nil => intro c h; exact h
  | cons e l ih =>
    rintro c ⟨i, g, v, h1, h2, h3, h4⟩
    exact ⟨i, g, v, h1, h2, h3, ih h4⟩
theorem BGr.fr {j0 : Nat} (e : k'.2 43 = k.2 43) : ∀ {bs : List jB} {Gs : List (List hE)}, BGr k x j0 bs Gs → BGr k' x j0 bs Gs := by
  intro bs
  induction bs with
  | nil => intro Gs h; exact h
  | cons b r ih =>
    intro Gs h
    rcases h with ⟨h1, Gr, C, h2, h3, h4⟩ | ⟨h1, h2⟩
    · exact Or.inl ⟨h1, Gr, C, h2, ih h3, by rw [e]; exact h4.fr⟩
    · exact Or.inr ⟨h1, ih h2⟩
theorem BFr.fr (e : k'.2 43 = k.2 43) : ∀ {J : List jF} {Gs : List (List hE)}, BFr k J Gs → BFr k' J Gs := by
  intro J
  induction J with
  | nil => intro Gs h; exact h
  | cons f r ih =>
    rintro Gs ⟨Gr, Gf, h1, h2, h3⟩
    exact ⟨Gr, Gf, h1, ih h2, h3.fr e⟩
theorem BX.same {Gs : List (List hE)} (h : BX s Gs) (h28 : s'.r (.s 28) = s.r (.s 28) ∧ s'.c (.s 28) = s.c (.s 28)) (h30 : s'.r (.s 30) = s.r (.s 30) ∧ s'.c (.s 30) = s.c (.s 30)) : BX s' Gs := by
  obtain ⟨h1, W, h2, h3⟩ := h
  exact ⟨h1.same h30.1 h30.2, W, h2.same h28.1 h28.2, h3⟩
theorem DY.same (h : DY p Hd s k X) (ex : jx X' = jx X) (h28 : s'.r (.s 28) = s.r (.s 28) ∧ s'.c (.s 28) = s.c (.s 28)) (h30 : s'.r (.s 30) = s.r (.s 30) ∧ s'.c (.s 30) = s.c (.s 30)) (e51 : k'.2 51 = k.2 51) (e43 : k'.2 43 = k.2 43) (e46 : k'.2 46 = k.2 46) : DY p Hd s' k' X' := by
  obtain ⟨Hg, Gs, h1, h2, h3, h4⟩ := h
  refine ⟨Hg, Gs, ⟨h1.1, by rw [ex, e46]; exact h1.2.1, by rw [ex]; exact h1.2.2⟩, ?_, ?_, h4.same h28 h30⟩
  · rw [ex]
    exact h2.fr e51
  · rw [ex]
    exact h3.fr e43
end DYS
/-- a loop that has no block: yet (1), any more (2) -/
def PN (e : Nat) (p : List (List hE)) (s : cS) (k : kS) : Prop := (e = 0 ∧ p = []) ∨ (e = 1 ∧ p = [[]]) ∨ (e = 2 ∧ ∃ C, p = [C] ∧ CH k (s.now - 1) (kr k 43 (k.1 37)) C)
/-- rows and jumps that wait: H those of the blocks around that the walk knows of -/
def NR (q : Nat) (D : Df) (H : List hE) (s : cS) (k : kS) (X : List xF) : Prop := (∀ x, 0 ≤ (s.r (.i x)).toInt) ∧ (k.1 8 = 0 → (∃ n, k.1 68 = xn n ∧ n ≤ 65536) ∧ ((k.1 68).toInt < 65536 → FL s k → ∃ p Hd, PN q p s k ∧ DY p Hd s k X ∧ RWS D (H ++ Hd) s k))
section NRS
variable {p : List (List hE)} {D D' : Df} {H H' : List hE} {s s' : cS} {k k' : kS} {X X' : List xF} {a b c e : Int32} {x0 q : Nat}
theorem PN.same (h : PN q p s k) (hn : s'.now = s.now) (e43 : k'.2 43 = k.2 43) (e37 : q = 2 → k'.1 37 = k.1 37) : PN q p s' k' := by
  rcases h with h | h | ⟨h1, C, h2, h3⟩
  · exact Or.inl h
  · exact Or.inr (Or.inl h)
  · refine Or.inr (Or.inr ⟨h1, C, h2, ?_⟩)
    have e : kr k' 43 (k'.1 37) = kr k 43 (k.1 37) := by
      unfold kr
      rw [e43, e37 h1]
    rw [e, hn]
    exact h3.fr
theorem FL.same (h : FL s' k') (hr : ∀ x, s'.r (.i x) = s.r (.i x)) (e53 : k'.1 53 = k.1 53) : FL s k := fun x hx => by
  rw [← hr]
  exact h x (by rw [e53]; exact hx)
theorem NR.same (h : NR q D H s k X) (ex : jx X' = jx X) (hr : ∀ x, s'.r (.i x) = s.r (.i x)) (hc : ∀ x, s'.c (.i x) = s.c (.i x)) (hn : s'.now = s.now) (h28 : s'.r (.s 28) = s.r (.s 28) ∧ s'.c (.s 28) = s.c (.s 28)) (h30 : s'.r (.s 30) = s.r (.s 30) ∧ s'.c (.s 30) = s.c (.s 30)) (e8 : k'.1 8 = 0 → k.1 8 = 0) (e53 : k'.1 53 = k.1 53) (e68 : k'.1 68 = k.1 68) (e60 : k'.2 60 = k.2 60) (ea : ∀ j, 69 ≤ j → j ≤ 73 → k'.2 j = k.2 j) (e51 : k'.2 51 = k.2 51) (e43 : k'.2 43 = k.2 43) (e46 : k'.2 46 = k.2 46) (e37 : q = 2 → k'.1 37 = k.1 37) : NR q D H s' k' X' := by
  refine ⟨fun x => by rw [hr]; exact h.1 x, fun z => ?_⟩
  obtain ⟨h0, h1⟩ := h.2 (e8 z)
  refine ⟨by rw [e68]; exact h0, fun h6 hf => ?_⟩
  obtain ⟨p, Hd, hp, h2, h3⟩ := h1 (by rw [← e68]; exact h6) (hf.same hr e53)
  exact ⟨p, Hd, hp.same hn e43 e37, h2.same ex h28 h30 e51 e43 e46, h3.same hr hc hn e8 e53 e68 e60 ea⟩
theorem NR.bad {q' : Nat} (h : NR q D H s k X) (hr : ∀ x, s'.r (.i x) = s.r (.i x)) (h8 : k'.1 8 ≠ 0) : NR q' D' H' s' k' X' := ⟨fun x => by rw [hr]; exact h.1 x, fun z => absurd z h8⟩
theorem c78_up (h : ∀ x, 0 ≤ (s.r (.i x)).toInt) (x : Nat) : (s.r (.i x)).toInt ≤ ((c78 s a b c e).1.r (.i x)).toInt := by
  have i0 : (1048576 : Int32).toInt = 1048576 := rfl
  by_cases c1 : x = s.now
  · have er : (c78 s a b c e).1.r (.i x) = if s.r (.i x) < 1048576 then s.r (.i x) + 1 else s.r (.i x) := by
      rw [c1]
      exact tad_ri
    rw [er]
    split
    · rename_i c2
      have h0 := h x
      rw [i_lt] at c2
      rw [i_add rfl (show (1 : Int32).toInt = 1 from rfl) (by omega) (by omega)]
      omega
    · exact Int.le_refl _
  · rw [show (c78 s a b c e).1.r (.i x) = s.r (.i x) from tad_rn (fun q => c1 (Sum.inl.inj (Sum.inr.inj q)))]
    exact Int.le_refl _
/-- the class writes -/
theorem NR.cle (h : NR q D H s k X) : NR q (D.1 ++ [(a, b, c, e)], D.2) H (c78 s a b c e).1 k X := by
  have f := fr_c78 s a b c e
  refine ⟨fun x => Int.le_trans (h.1 x) (c78_up h.1 x), fun z => ?_⟩
  obtain ⟨h0, h1⟩ := h.2 z
  refine ⟨h0, fun h6 hf => ?_⟩
  obtain ⟨p, Hd, hp, h2, h3⟩ := h1 h6 (fun x hx => by have := hf x hx; have := c78_up (a := a) (b := b) (c := c) (e := e) h.1 (x + 1); omega)
  exact ⟨p, Hd, hp.same c78_now rfl (fun _ => rfl), h2.same rfl (f.2.1 28 (Nat.zero_testBit _)) (f.2.1 30 (Nat.zero_testBit _)) rfl rfl rfl, h3.cle⟩
/-- the reference writes -/
theorem NR.putn (h : NR q D H s k X) (h33 : kr k 33 (k.1 32) = xn x0) (hn : s.now = x0 + 1) (hx0 : (x0 : Int) < (k.1 53).toInt) (h53 : (k.1 53).toInt ≤ 1000000) : NR q (D.1, D.2 ++ [(a, b, c, e)]) H s (k189 k a b c e).1 X := by
  have f := fr_k189 k a b c e
  have i6 : (65536 : Int32).toInt = 65536 := rfl
  refine ⟨h.1, fun z => ?_⟩
  rw [f.1 8 rfl] at z
  obtain ⟨⟨n, n1, n2⟩, h1⟩ := h.2 z
  by_cases cn : n < 65536
  · have e68 := (k189_68 (a := a) (b := b) (c := c) (e := e) n1 cn).1
    refine ⟨⟨n + 1, e68, by omega⟩, fun h6 hf => ?_⟩
    obtain ⟨p, Hd, hp, h2, h3⟩ := h1 (by rw [n1, xn_i (by omega)]; omega) (hf.same (fun _ => rfl) (f.1 53 rfl))
    exact ⟨p, Hd, hp.same rfl (f.2 43 rfl) (fun _ => f.1 37 rfl), h2.same rfl ⟨rfl, rfl⟩ ⟨rfl, rfl⟩ (f.2 51 rfl) (f.2 43 rfl) (f.2 46 rfl), h3.put h33 hn hx0 h53⟩
  · have e68 : (k189 k a b c e).1.1 68 = k.1 68 := by
      unfold k189
      rw [if_pos (by rw [n1, i_le, xn_i (by omega), i6]; omega)]
      rfl
    refine ⟨⟨n, e68.trans n1, n2⟩, fun h6 hf => ?_⟩
    rw [e68, n1, xn_i (by omega)] at h6
    omega
theorem NR.eq (h : NR q D H s k X) (e : D = D') : NR q D' H s k X := by rw [← e]; exact h
theorem NR.imp (h : NR q D H s k X) (hi : ∀ Hd, RWS D (H ++ Hd) s k → RWS D' (H' ++ Hd) s k) : NR q D' H' s k X := ⟨h.1, fun z => ⟨(h.2 z).1, fun h6 hf => by
  obtain ⟨p, Hd, hp, h2, h3⟩ := (h.2 z).2 h6 hf
  exact ⟨p, Hd, hp, h2, hi Hd h3⟩⟩⟩
theorem NR.deq {m dc dr : List xR} (h : NR q (m ++ dc, m ++ dr) H s k X) (hwm : wfl m) : NR q (dc, dr) H s k X := h.imp (fun _ q => q.deq hwm)
theorem NR.de0 (h : NR q D H s k X) (e : D.1 = D.2) (hwm : wfl D.1 := by first | exact wfl_0 | exact wfl_1 rfl | exact wfl_2 rfl rfl | exact wfl_3 rfl rfl rfl) : NR q ([], []) H s k X := h.imp (fun _ q => q.de0 e hwm)
theorem NR.de8 (h : NR q D H s k X) (e : k.1 8 = 0 → D.1 = D.2) (hwm : wfl D.1 := by first | exact wfl_0 | exact wfl_1 rfl | exact wfl_2 rfl rfl | exact wfl_3 rfl rfl rfl) : NR q ([], []) H s k X := by
  by_cases z : k.1 8 = 0
  · exact h.de0 (e z) hwm
  · exact ⟨h.1, fun y => absurd y z⟩
/-- both patch a row: what is to be shown of the rows -/
theorem NR.go (h : NR q D H s k X) (hr : ∀ x, s'.r (.i x) = s.r (.i x)) (hn : s'.now = s.now) (h28 : s'.r (.s 28) = s.r (.s 28) ∧ s'.c (.s 28) = s.c (.s 28)) (h30 : s'.r (.s 30) = s.r (.s 30) ∧ s'.c (.s 30) = s.c (.s 30)) (e8 : k'.1 8 = 0 → k.1 8 = 0) (e53 : k'.1 53 = k.1 53) (e68 : k'.1 68 = k.1 68) (e51 : k'.2 51 = k.2 51) (e43 : k'.2 43 = k.2 43) (e46 : k'.2 46 = k.2 46) (e37 : k'.1 37 = k.1 37) (hi : k.1 8 = 0 → (k.1 68).toInt < 65536 → FL s k → ∀ Hd, RWS D (H ++ Hd) s k → RWS D' (H' ++ Hd) s' k') : NR q D' H' s' k' X := by
  refine ⟨fun x => by rw [hr]; exact h.1 x, fun z => ?_⟩
  obtain ⟨h0, h1⟩ := h.2 (e8 z)
  refine ⟨by rw [e68]; exact h0, fun h6 hf => ?_⟩
  have h6' : (k.1 68).toInt < 65536 := by rw [← e68]; exact h6
  obtain ⟨p, Hd, hp, h2, h3⟩ := h1 h6' (hf.same hr e53)
  exact ⟨p, Hd, hp.same hn e43 (fun _ => e37), h2.same rfl h28 h30 e51 e43 e46, hi (e8 z) h6' (hf.same hr e53) Hd h3⟩
end NRS
