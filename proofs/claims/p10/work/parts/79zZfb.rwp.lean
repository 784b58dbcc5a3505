/-! THE WALK OVER BOTH: both stand alike; outers; a name that waits -/
def bd (a : Nat) : Nat := 2 * ((a + 4) * (a + 4))
theorem bd_s {a : Nat} : bd (a + 1) = bd a + (4 * a + 18) := by
  unfold bd
  have e : (a + 1 + 4) * (a + 1 + 4) = (a + 4) * (a + 4) + (2 * a + 9) := by
    rw [show a + 1 + 4 = (a + 4) + 1 by omega, Nat.add_mul, Nat.mul_add, Nat.mul_one, Nat.one_mul]
    omega
  omega
theorem bd_mono {a a' : Nat} (h : a ≤ a') : bd a ≤ bd a' := Nat.mul_le_mul_left 2 (Nat.mul_le_mul (by omega) (by omega))
theorem bd_le {a : Nat} (h : a ≤ 600) : bd a ≤ 800000 := by
  have z := bd_mono h
  have e : bd 600 = 729632 := rfl
  omega
/-- a place where a value may wait that the reference has not loaded; true: the class has written it -/
abbrev PM : Type := Option (Nat × Bool)
def owk (x : Int32) : Int32 := if x = 3 ∨ x = 4 ∨ x = 5 then 1 else 0
/-- how many rows the reference owes -/
def ow (p : PM) (k : kS) : Int32 := match p with
  | some (n, true) => owk (k.2 16 n)
  | _ => 0
/-- outers; a name may wait at p that the class has resolved and the reference has not -/
def PO (p : PM) (a : Nat) (s : cS) (k : kS) (X : List xF) : Prop := match p with
  | none => OU (bd a) s k X
  | some (n, _) => (k.2 16 n ≠ 3 ∧ OU (bd a) s k X) ∨ (k.2 16 n = 3 ∧ ∃ s0 b, XC 0 s0 X ∧ b + X.length ≤ bd a ∧ OU b s0 k X ∧ ∀ x, s.r (.u x) = (c66 s0 (kr k 2 (k.2 18 n))).1.r (.u x) ∧ s.c (.u x) = (c66 s0 (kr k 2 (k.2 18 n))).1.c (.u x))
/-- rows that the class has written and the reference owes -/
def OR (p : PM) (R : List xR) (a : Nat) (k : kS) (X : List xF) : Prop := match p with
  | some (n, true) => (k.2 16 n = 4 ∧ R = [(11, 0, 0, k.2 18 n)]) ∨ (k.2 16 n = 5 ∧ R = [(12, k.2 17 n, 0, k.2 18 n)]) ∨ (k.2 16 n = 3 ∧ ∃ s0 b, XC 0 s0 X ∧ b + X.length ≤ 800000 ∧ OU b s0 k X ∧ R = [((c66 s0 (kr k 2 (k.2 18 n))).1.f 12 7, (c66 s0 (kr k 2 (k.2 18 n))).1.f 12 8, 0, k.2 18 n)]) ∨ ((k.2 16 n ≠ 3 ∧ k.2 16 n ≠ 4 ∧ k.2 16 n ≠ 5) ∧ R = [])
  | _ => R = []
theorem c66_o {s : cS} {t : Int32} : wfo ((c66 s t).1.f 12 7) = true := by
  have key : ∀ y1 y2 z0 : Int32, wfo ((c66_30 s y1 y2 z0).1.f 12 7) = true := fun y1 y2 z0 => by
    unfold c66_30
    split
    · split
      · rw [nf_o (by decide), (fr_c68 _ _).1 12 7 (by decide) (Nat.zero_testBit _), nf_at]
        decide
      · rw [nf_o (by decide), nf_at]
        decide
    · rw [nf_o (by decide), nf_at]
      decide
  unfold c66 c66_29
  split
  · exact key _ _ _
  · split
    · exact key _ _ _
    · exact key _ _ _
theorem OR.wf {p : PM} {R : List xR} {a : Nat} {k : kS} {X : List xF} (h : OR p R a k X) : wfl R := by
  cases p with
  | none => rw [show R = [] from h]; exact wfl_0
  | some n =>
    obtain ⟨n, bo⟩ := n
    cases bo with
    | false => rw [show R = [] from h]; exact wfl_0
    | true =>
      rcases h with ⟨-, e⟩ | ⟨-, e⟩ | ⟨-, s0, b, -, -, -, e⟩ | ⟨-, e⟩
      · rw [e]; exact wfl_1 rfl
      · rw [e]; exact wfl_1 rfl
      · rw [e]; exact wfl_1 c66_o
      · rw [e]; exact wfl_0
/-- rows that the class, that the reference has written more; jumps that wait -/
abbrev Dw : Type := List xR × List xR × List hE
abbrev D0 (H : List hE) : Dw := ([], [], H)
def NP (p : PM) (d : Dw) (a : Nat) (s : cS) (k : kS) (X : List xF) : Prop := ∃ R, OR p R a k X ∧ NR 0 (R ++ d.1, d.2.1) d.2.2 s k X
/-- both stand alike: a words are read -/
def RWp (p : PM) (d : Dw) (L : List xR) (a : Nat) (s : cS) (k : kS) (X : List xF) : Prop := WR L a s k ∧ RN s k X ∧ szX X ≤ 8 * a + 8 ∧ (k.1 53).toInt ≤ a + 1 ∧ (L.length ≤ 600 ∧ FB s k (sh X) ∧ CL k X ∧ LVv [] s X) ∧ PO p a s k X ∧ X ≠ [] ∧ NP p d a s k X
abbrev RW (H : List hE) (L : List xR) (a : Nat) (s : cS) (k : kS) (X : List xF) : Prop := RWp none (D0 H) L a s k X
/-- values are as they were -/
def k3 (k k' : kS) : Prop := k'.2 16 = k.2 16 ∧ k'.2 17 = k.2 17 ∧ k'.2 18 = k.2 18
section PPO
variable {p p' : PM} {d d' : Dw} {H : List hE} {L : List xR} {a a' : Nat} {s s' s0 : cS} {k k' : kS} {X : List xF}
theorem PO.up (h : PO p a s k X) (ha : a ≤ a') : PO p a' s k X := by
  have hb := bd_mono ha
  cases p with
  | none => exact OU.mono h hb
  | some n =>
    obtain ⟨n, bo⟩ := n
    rcases h with ⟨h1, h2⟩ | ⟨h1, s0, b, h2, h3, h4, h5⟩
    · exact Or.inl ⟨h1, OU.mono h2 hb⟩
    · exact Or.inr ⟨h1, s0, b, h2, by omega, h4, h5⟩
theorem PO.fr {F A : Nat} (h : PO p a s k X) (hu : ∀ x, s'.r (.u x) = s.r (.u x) ∧ s'.c (.u x) = s.c (.u x)) (hk : kFr F A k k') (hF : F &&& 4620693219829612544 = 0) (hA : A &&& 285924533142699376640 = 0) (h2 : A.testBit 2 = false) (kp : p = none ∨ k3 k k') : PO p a s' k' X := by
  cases p with
  | none => exact OU.fr h hu hk hF hA
  | some n =>
    obtain ⟨n, bo⟩ := n
    obtain ⟨e16, e17, e18⟩ : k3 k k' := by
      rcases kp with z | z
      · cases z
      · exact z
    have e2 := hk.2 2 h2
    rcases h with ⟨h1, h3⟩ | ⟨h1, s0, b, h3, h4, h5, h6⟩
    · exact Or.inl ⟨by rw [e16]; exact h1, OU.fr h3 hu hk hF hA⟩
    · refine Or.inr ⟨by rw [e16]; exact h1, s0, b, h3, h4, OU.fr h5 (fun _ => ⟨rfl, rfl⟩) hk hF hA, fun x => ?_⟩
      have ek : kr k' 2 (k'.2 18 n) = kr k 2 (k.2 18 n) := by
        unfold kr
        rw [e2, e18]
      rw [ek]
      exact ⟨(hu x).1.trans (h6 x).1, (hu x).2.trans (h6 x).2⟩
theorem RWp.fro {F T B G F' A' : Nat} (h : RWp p d L a s k X) (hc : cFr F T B G s s') (hk : kFr F' A' k k') (c1 : F &&& 822752278660603021077484591278675410950110812984694428651290624 = 0) (c2 : T &&& 352403464 = 0) (c3 : B &&& 8188 = 0) (c4 : G &&& 3 = 0) (k1 : F' &&& 9306408168194417 = 0) (k2 : A' &&& 1141284129422180358 = 0) (ho : PO p' a s' k' X) (hn : NP p' d' a s' k' X) : RWp p' d' L a s' k' X := by
  obtain ⟨h1, h2, h3, h4, h5, -, h7, -⟩ := h
  refine ⟨h1.fr hc hk (tb0 c2 (by decide)) (tb0 c1 (by decide)) (tb0 c1 (by decide)) (sub0 k1 rfl) (sub0 k2 rfl), h2.frm hc hk (tb0 c1 (by decide)) (tb0 c1 (by decide)) (tb0 c1 (by decide)) (tb0 c1 (by decide)) (sub0 c2 rfl) (sub0 c3 rfl) c4 (sub0 k1 rfl) (sub0 k2 rfl) (tb0 k1 (by decide)) (tb0 k1 (by decide)), h3, ?_, ⟨h5.1, h5.2.1.fr hc hk (sub0 c3 rfl) (sub0 k2 rfl) (fun z => by rw [← hk.1 8 (tb0 k1 (by decide))]; exact z) (hk.1 53 (tb0 k1 (by decide))), h5.2.2.1.fr hk (sub0 k2 rfl) (fun z => by rw [← hk.1 8 (tb0 k1 (by decide))]; exact z), h5.2.2.2.fr hc (tb0 c2 (by decide))⟩, ho, h7, hn⟩
  rw [hk.1 53 (tb0 k1 (by decide))]
  exact h4
theorem cFr.ou {F T B G : Nat} (hc : cFr F T B G s s') (c4 : G.testBit 3 = false) : ∀ x, s'.r (.u x) = s.r (.u x) ∧ s'.c (.u x) = s.c (.u x) := fun x => hc.2.2.2.2.2.2.2 c4 x
theorem OR.up {R : List xR} (h : OR p R a k X) (_ : a ≤ a') : OR p R a' k X := h
theorem OR.fr {R : List xR} {F A : Nat} (h : OR p R a k X) (hk : kFr F A k k') (hF : F &&& 4620693219829612544 = 0) (hA : A &&& 285924533142699376640 = 0) (h2 : A.testBit 2 = false) (kp : p = none ∨ k3 k k') : OR p R a k' X := by
  cases p with
  | none => exact h
  | some n =>
    obtain ⟨n, bo⟩ := n
    cases bo with
    | false => exact h
    | true =>
      obtain ⟨e16, e17, e18⟩ : k3 k k' := by
        rcases kp with z | z
        · cases z
        · exact z
      have ek : kr k' 2 (k'.2 18 n) = kr k 2 (k.2 18 n) := by
        unfold kr
        rw [hk.2 2 h2, e18]
      unfold OR at h ⊢
      dsimp only at h ⊢
      rw [ek, e16, e17, e18]
      rcases h with h | h | ⟨h1, s0, b, h2, h3, h4, h5⟩ | h
      · exact Or.inl h
      · exact Or.inr (Or.inl h)
      · exact Or.inr (Or.inr (Or.inl ⟨h1, s0, b, h2, h3, OU.fr h4 (fun _ => ⟨rfl, rfl⟩) hk hF hA, h5⟩))
      · exact Or.inr (Or.inr (Or.inr h))
theorem cFr.nr {F T B G : Nat} (hc : cFr F T B G s s') (c4 : G.testBit 4 = false) : ∀ x, s'.r (.i x) = s.r (.i x) := fun x => hc.2.2.2.2.2.2.1 c4 x
theorem kp_of {A : Nat} {F : Nat} (hk : kFr F A k k') (kp : p = none ∨ A &&& 458752 = 0) : p = none ∨ k3 k k' := kp.imp id (fun z => ⟨hk.2 16 (tb0 z (by decide)), hk.2 17 (tb0 z (by decide)), hk.2 18 (tb0 z (by decide))⟩)
theorem NR.fr0 {q : Nat} {D : Df} {F T B G F' A' : Nat} (h : NR q D H s k X) (hc : cFr F T B G s s') (hk : kFr F' A' k k') (c2 : T &&& 1342177280 = 0) (c4 : G &&& 21 = 0) (k1 : F' &&& 295156912378607566848 = 0) (k2 : A' &&& 18300325373589132935168 = 0) (e8 : k'.1 8 = 0 → k.1 8 = 0) (e37 : q = 2 → k'.1 37 = k.1 37) : NR q D H s' k' X := h.same rfl (hc.2.2.2.2.2.2.1 (tb0 c4 (by decide))) (hc.2.2.2.2.2.1 (tb0 c4 (by decide))) (hc.2.2.2.1 (tb0 c4 (by decide))) (hc.2.1 28 (tb0 c2 (by decide))) (hc.2.1 30 (tb0 c2 (by decide))) e8 (hk.1 53 (tb0 k1 (by decide))) (hk.1 68 (tb0 k1 (by decide))) (hk.2 60 (tb0 k2 (by decide))) (fun j h1 h2 => by
  have : j = 69 ∨ j = 70 ∨ j = 71 ∨ j = 72 ∨ j = 73 := by omega
  rcases this with e | e | e | e | e <;> (subst e; exact hk.2 _ (tb0 k2 (by decide)))) (hk.2 51 (tb0 k2 (by decide))) (hk.2 43 (tb0 k2 (by decide))) (hk.2 46 (tb0 k2 (by decide))) e37
theorem NR.fr {q : Nat} {D : Df} {F T B G F' A' : Nat} (h : NR q D H s k X) (hc : cFr F T B G s s') (hk : kFr F' A' k k') (c2 : T &&& 1342177280 = 0) (c4 : G &&& 21 = 0) (k1 : F' &&& 295156912516046520320 = 0) (k2 : A' &&& 18300325373589132935168 = 0) (e8 : k'.1 8 = 0 → k.1 8 = 0) : NR q D H s' k' X := h.fr0 hc hk c2 c4 (sub0 k1 rfl) k2 e8 (fun _ => hk.1 37 (tb0 k1 (by decide)))
theorem RWp.frk {F T B G F' A' : Nat} (h : RWp p d L a s k X) (hc : cFr F T B G s s') (hk : kFr F' A' k k') (kp : p = none ∨ k3 k k') (c1 : F &&& 822752278660603021077484591278675410950110812984694428651290624 = 0 := by rfl) (c2 : T &&& 1426145288 = 0 := by rfl) (c3 : B &&& 8188 = 0 := by rfl) (c4 : G &&& 31 = 0 := by rfl) (k1 : F' &&& 299768897608095891825 = 0 := by rfl) (k2 : A' &&& 18587391190861254492166 = 0 := by rfl) : RWp p d L a s' k' X := by
  refine h.fro hc hk c1 (sub0 c2 rfl) c3 (sub0 c4 rfl) (sub0 k1 rfl) (sub0 k2 rfl) (h.2.2.2.2.2.1.fr (hc.ou (tb0 c4 (by decide))) hk (sub0 k1 rfl) (sub0 k2 rfl) (tb0 k2 (by decide)) kp) ?_
  obtain ⟨R, r1, r2⟩ := h.2.2.2.2.2.2.2
  exact ⟨R, r1.fr hk (sub0 k1 rfl) (sub0 k2 rfl) (tb0 k2 (by decide)) kp, r2.fr hc hk (sub0 c2 rfl) (sub0 c4 rfl) (sub0 k1 rfl) (sub0 k2 rfl) (fun z => by rw [← hk.1 8 (tb0 k1 (by decide))]; exact z)⟩
theorem RWp.fr {F T B G F' A' : Nat} (h : RWp p d L a s k X) (hc : cFr F T B G s s') (hk : kFr F' A' k k') (c1 : F &&& 822752278660603021077484591278675410950110812984694428651290624 = 0 := by rfl) (c2 : T &&& 1426145288 = 0 := by rfl) (c3 : B &&& 8188 = 0 := by rfl) (c4 : G &&& 31 = 0 := by rfl) (k1 : F' &&& 299768897608095891825 = 0 := by rfl) (k2 : A' &&& 18587391190861254492166 = 0 := by rfl) (kp : p = none ∨ A' &&& 458752 = 0 := by first | exact Or.inl rfl | exact Or.inr rfl) : RWp p d L a s' k' X := h.frk hc hk (kp_of hk kp) c1 c2 c3 c4 k1 k2
/-- nothing waits here -/
theorem OR.los {n : Nat} {bo : Bool} {R : List xR} (hn : k.2 16 n = 0 ∨ k.2 16 n = 1 ∨ k.2 16 n = 2) : OR none R a k X ↔ OR (some (n, bo)) R a k X := by
  have n3 : k.2 16 n ≠ 3 := by rcases hn with z | z | z <;> rw [z] <;> decide
  have n4 : k.2 16 n ≠ 4 := by rcases hn with z | z | z <;> rw [z] <;> decide
  have n5 : k.2 16 n ≠ 5 := by rcases hn with z | z | z <;> rw [z] <;> decide
  cases bo with
  | false => exact Iff.rfl
  | true =>
    constructor
    · exact fun h => Or.inr (Or.inr (Or.inr ⟨⟨n3, n4, n5⟩, h⟩))
    · rintro (h | h | h | h)
      · exact absurd h.1 n4
      · exact absurd h.1 n5
      · exact absurd h.1 n3
      · exact h.2
theorem RWp.los {n : Nat} {bo : Bool} (h : RWp none d L a s k X) (hn : k.2 16 n = 0 ∨ k.2 16 n = 1 ∨ k.2 16 n = 2) : RWp (some (n, bo)) d L a s k X := by
  have n3 : k.2 16 n ≠ 3 := by rcases hn with z | z | z <;> rw [z] <;> decide
  exact ⟨h.1, h.2.1, h.2.2.1, h.2.2.2.1, h.2.2.2.2.1, Or.inl ⟨n3, h.2.2.2.2.2.1⟩, h.2.2.2.2.2.2.1, h.2.2.2.2.2.2.2.imp (fun R q => ⟨(OR.los hn).mp q.1, q.2⟩)⟩
theorem RWp.str {n : Nat} {bo : Bool} (h : RWp (some (n, bo)) d L a s k X) (hn : k.2 16 n = 0 ∨ k.2 16 n = 1 ∨ k.2 16 n = 2) : RWp none d L a s k X := by
  have n3 : k.2 16 n ≠ 3 := by rcases hn with z | z | z <;> rw [z] <;> decide
  refine ⟨h.1, h.2.1, h.2.2.1, h.2.2.2.1, h.2.2.2.2.1, ?_, h.2.2.2.2.2.2.1, h.2.2.2.2.2.2.2.imp (fun R q => ⟨(OR.los hn).mpr q.1, q.2⟩)⟩
  rcases h.2.2.2.2.2.1 with z | z
  · exact z.2
  · exact absurd z.1 n3
theorem RWp.deq (h : RWp p d L a s k X) (e : d = d') : RWp p d' L a s k X := by
  rw [← e]
  exact h
/-- what both have written is the same -/
theorem RWp.de0 {d1 d2 : List xR} (h : RWp none (d1, d2, H) L a s k X) (e : d1 = d2) (hwm : wfl d1 := by first | exact wfl_0 | exact wfl_1 rfl | exact wfl_2 rfl rfl | exact wfl_3 rfl rfl rfl) : RWp none (D0 H) L a s k X := ⟨h.1, h.2.1, h.2.2.1, h.2.2.2.1, h.2.2.2.2.1, h.2.2.2.2.2.1, h.2.2.2.2.2.2.1, by
  obtain ⟨R, r1, r2⟩ := h.2.2.2.2.2.2.2
  have r1 : R = [] := r1
  subst r1
  exact ⟨[], rfl, r2.de0 e hwm⟩⟩
theorem RWp.de8 {d1 d2 : List xR} (h : RWp none (d1, d2, H) L a s k X) (e : k.1 8 = 0 → d1 = d2) (hwm : wfl d1 := by first | exact wfl_0 | exact wfl_1 rfl | exact wfl_2 rfl rfl | exact wfl_3 rfl rfl rfl) : RWp none (D0 H) L a s k X := ⟨h.1, h.2.1, h.2.2.1, h.2.2.2.1, h.2.2.2.2.1, h.2.2.2.2.2.1, h.2.2.2.2.2.2.1, by
  obtain ⟨R, r1, r2⟩ := h.2.2.2.2.2.2.2
  have r1 : R = [] := r1
  subst r1
  exact ⟨[], rfl, r2.de8 e hwm⟩⟩
theorem RWp.dem {m d1 d2 : List xR} (h : RWp none (m ++ d1, m ++ d2, H) L a s k X) (hwm : wfl m) : RWp none (d1, d2, H) L a s k X := ⟨h.1, h.2.1, h.2.2.1, h.2.2.2.1, h.2.2.2.2.1, h.2.2.2.2.2.1, h.2.2.2.2.2.2.1, by
  obtain ⟨R, r1, r2⟩ := h.2.2.2.2.2.2.2
  have r1 : R = [] := r1
  subst r1
  exact ⟨[], rfl, NR.deq (m := m) r2 hwm⟩⟩
/-- the class writes -/
theorem RWp.cle {x y z u : Int32} (h : RWp p d L a s k X) : RWp p (d.1 ++ [(x, y, z, u)], d.2) L a (c78 s x y z u).1 k X := by
  refine h.fro (fr_c78 s x y z u) (kFr.refl (F := 0) (A := 0)) rfl rfl rfl rfl rfl rfl (h.2.2.2.2.2.1.fr ((fr_c78 s x y z u).ou rfl) (kFr.refl (F := 0) (A := 0)) rfl rfl rfl (Or.inr ⟨rfl, rfl, rfl⟩)) ?_
  obtain ⟨R, r1, r2⟩ := h.2.2.2.2.2.2.2
  refine ⟨R, r1, ?_⟩
  show NR 0 (R ++ (d.1 ++ [(x, y, z, u)]), d.2.1) d.2.2 _ k X
  rw [← List.append_assoc]
  exact r2.cle
theorem RWp.szn (h : RWp p d L a s k X) : SZ X := SZ_of (by have := h.2.2.1; have := h.1.2.2.1.2.2; have := h.2.2.2.2.1.1; omega)
theorem own_5 (h : RN s k X) {f : xF} {r : List xF} (e : X = f :: r) (h53 : (k.1 53).toInt ≤ 1000000) : ((f.1 - 1 : Nat) : Int) < (k.1 53).toInt := by
  obtain ⟨n, n1, n2, n3⟩ := h.2.2.2.2.2.1
  have := n3 f (by rw [e]; exact List.mem_cons_self)
  rw [n1] at h53 ⊢
  rw [xn_i (by omega)]
  omega
theorem NR.put' {q : Nat} {D : Df} {x y z u : Int32} (h : NR q D H s k X) (hn : RN s k X) (hX : X ≠ []) (hz : SZ X) (h53 : (k.1 53).toInt ≤ 1000000) : NR q (D.1, D.2 ++ [(x, y, z, u)]) H s (k189 k x y z u).1 X := by
  cases X with
  | nil => exact absurd rfl hX
  | cons f r =>
    obtain ⟨o1, o2, o3, o4⟩ := own_k hn hz
    exact h.putn o1 (by omega) (own_5 hn rfl h53) h53
theorem RWp.k53 (h : RWp p d L a s k X) : (k.1 53).toInt ≤ 1000000 := by
  have := h.2.2.2.1
  have := h.1.2.2.1.2.2
  have := h.2.2.2.2.1.1
  omega
/-- the reference writes -/
theorem RWp.put {x y z u : Int32} (h : RWp p d L a s k X) : RWp p (d.1, d.2.1 ++ [(x, y, z, u)], d.2.2) L a s (k189 k x y z u).1 X := by
  have f := fr_k189 k x y z u
  have f3 : k3 k (k189 k x y z u).1 := ⟨f.2 16 rfl, f.2 17 rfl, f.2 18 rfl⟩
  refine h.fro (cFr.refl (F := 0) (T := 0) (B := 0) (G := 0)) f rfl rfl rfl rfl rfl rfl (h.2.2.2.2.2.1.fr (fun _ => ⟨rfl, rfl⟩) f rfl rfl rfl (Or.inr f3)) ?_
  obtain ⟨R, r1, r2⟩ := h.2.2.2.2.2.2.2
  exact ⟨R, r1.fr f rfl rfl rfl (Or.inr f3), r2.put' h.2.1 h.2.2.2.2.2.2.1 h.szn h.k53⟩
theorem DF_of : ∀ {X : List xF}, XF s X → (∀ f ∈ X, 1 ≤ f.1) → DF X := by
  intro X
  induction X with
  | nil => intro _ _; trivial
  | cons f r ih => exact fun h hm => ⟨hm f List.mem_cons_self, h.2.2.2.2.2.2.1, ih h.2.2.2.2.2.2.2 (fun g hg => hm g (List.mem_cons_of_mem _ hg))⟩
theorem wx2 : ∀ {X : List xF}, WFx X → 2 * X.length ≤ szX X := by
  intro X
  induction X with
  | nil => intro _; exact Nat.zero_le _
  | cons f r ih =>
    rintro ⟨_, h2, _, h4⟩
    have := ih h4
    have e1 : (f :: r).length = r.length + 1 := rfl
    have e2 : szX (f :: r) = szX r + szF f := rfl
    have e3 : 1 ≤ f.2.2.2.1.length := List.length_pos_iff.mpr h2
    unfold szF at e2
    omega
/-- a name is resolved on both sides -/
theorem RWp.rsl {w t : Int32} {b : Nat} (h : RWp p d L a s k X) (hx : XC 0 s0 X) (hb : b + X.length ≤ bd a) (ho : OU b s0 k X) (ht : kr k 2 w = t) : OU (bd a) (c66 s0 t).1 (k205 k w).1 X ∧ (c66 s0 t).1.f 12 7 = 8 + (k205 k w).2 ∧ (c66 s0 t).1.f 12 8 = (k205 k w).1.1 75 := by
  have hl : a ≤ 600 := Nat.le_trans h.1.2.2.1.2.2 h.2.2.2.2.1.1
  have hbd := bd_le hl
  obtain ⟨n, n1, n2, n3⟩ := h.2.1.2.2.2.2.2.1
  obtain ⟨r1, r2, r3⟩ := res (w := w) (t := t) hx h.2.1.2.1 (SZ_of (by have := h.2.2.1; omega)) h.2.1.2.2.1.wv (DF_of hx.2.2.2.2.2.2.1 (fun f hf => (n3 f hf).1)) ⟨n, n1, by omega, fun f hf => (n3 f hf).2⟩ ho (by omega) ht
  exact ⟨r1.mono hb, r2, r3⟩
theorem RWp.rsv {w t : Int32} {b : Nat} (h : RWp p d L a s k X) (hx : XC 0 s0 X) (hb : b + X.length ≤ 800000) (ho : OU b s0 k X) (ht : kr k 2 w = t) : (c66 s0 t).1.f 12 7 = 8 + (k205 k w).2 ∧ (c66 s0 t).1.f 12 8 = (k205 k w).1.1 75 := by
  have hl : a ≤ 600 := Nat.le_trans h.1.2.2.1.2.2 h.2.2.2.2.1.1
  obtain ⟨n, n1, n2, n3⟩ := h.2.1.2.2.2.2.2.1
  exact (res (w := w) (t := t) hx h.2.1.2.1 (SZ_of (by have := h.2.2.1; omega)) h.2.1.2.2.1.wv (DF_of hx.2.2.2.2.2.2.1 (fun f hf => (n3 f hf).1)) ⟨n, n1, by omega, fun f hf => (n3 f hf).2⟩ ho (by omega) ht).2
theorem RWp.bdx (h : RWp p d L a s k X) : bd a + X.length ≤ bd (a + 1) := by
  have e := wx2 h.2.1.2.2.1
  have e2 := h.2.2.1
  have e3 := bd_s (a := a)
  omega
/-- what loading writes -/
theorem RWp.lor {V : Nat} {R : List xR} {q : Nat} {D : Df} {H' : List hE} (h : RWp p d L a s k X) (h15 : k.1 15 = xn (V + 1)) (hV : V ≤ 1000000) (hr : OR (some (V, true)) R a k X) (hn : NR q D H' s k X) : NR q (D.1, D.2 ++ R) H' s (k204 k).1 X := by
  have e1 : k.1 15 - 1 = xn V := by
    rw [h15]
    have := xn_sub (n := 1) (m := V) (by omega)
    rw [Nat.add_comm 1] at this
    exact this
  have ekr : ∀ j, kr k j (k.1 15 - 1) = k.2 j V := fun j => by
    rw [e1]
    show k.2 j (xn V).toNatClampNeg = _
    rw [xn_nat (by omega)]
  have fin : ∀ (k1 : kS) (D : Df) (y : Int32), NR q D H' s k1 X → NR q D H' s (k204_103 k1 y).1 X := fun k1 D y z => z.fr (cFr.refl (F := 0) (T := 0) (B := 0) (G := 0)) (show kFr 0 65536 k1 (ka k1 16 y 0) from kFr.sa kFr.refl rfl) rfl rfl rfl rfl id
  unfold k204
  rw [ekr 16, ekr 17, ekr 18]
  rcases hr with ⟨z, hr⟩ | ⟨z, hr⟩ | ⟨z, s0, b, z2, z3, z4, hr⟩ | ⟨⟨z3, z4, z5⟩, hr⟩
  · rw [if_neg (by rw [z]; decide), if_pos z, hr]
    exact fin _ _ _ (hn.put' h.2.1 h.2.2.2.2.2.2.1 h.szn h.k53)
  · rw [if_neg (by rw [z]; decide), if_neg (by rw [z]; decide), if_pos z, hr]
    exact fin _ _ _ (hn.put' h.2.1 h.2.2.2.2.2.2.1 h.szn h.k53)
  · rw [if_pos z]
    obtain ⟨w1, w2⟩ := h.rsv (w := k.2 18 V) z2 z3 z4 rfl
    have f := fr_k205 k (k.2 18 V)
    have hn1 : RN s (k205 k (k.2 18 V)).1 X := h.2.1.frm (cFr.refl (F := 0) (T := 0) (B := 0) (G := 0)) f rfl rfl rfl rfl rfl rfl rfl rfl rfl rfl rfl
    have q1 : NR q D H' s (k205 k (k.2 18 V)).1 X := hn.fr (cFr.refl (F := 0) (T := 0) (B := 0) (G := 0)) f rfl rfl rfl rfl (fun z => by rw [← f.1 8 rfl]; exact z)
    rw [hr, w1, w2]
    unfold k204_53 k204_68
    exact fin _ _ _ (q1.put' hn1 h.2.2.2.2.2.2.1 h.szn (by rw [f.1 53 rfl]; exact h.k53))
  · rw [if_neg z3, if_neg z4, if_neg z5, hr]
    refine fin _ _ _ ?_
    rw [List.append_nil]
    exact hn
/-- the value on top is loaded: outers -/
theorem RWp.lou {V : Nat} {bo : Bool} (h : RWp (some (V, bo)) d L a s k X) (h15 : k.1 15 = xn (V + 1)) (hV : V ≤ 1000000) : OU (bd a) s (k204 k).1 X := by
  have e1 : k.1 15 - 1 = xn V := by
    rw [h15]
    have := xn_sub (n := 1) (m := V) (by omega)
    rw [Nat.add_comm 1] at this
    exact this
  have ekr : ∀ j, kr k j (k.1 15 - 1) = k.2 j V := fun j => by
    rw [e1]
    show k.2 j (xn V).toNatClampNeg = _
    rw [xn_nat (by omega)]
  rcases h.2.2.2.2.2.1 with ⟨z1, z2⟩ | ⟨z1, s0, b, z2, z3, z4, z5⟩
  · have key : ∀ k1 : kS, kFr 295147905179352825856 18300323042624482050048 k k1 → OU (bd a) s (k204_103 k1 (k.1 15 - 1)).1 X := fun k1 f1 => by
      have f2 : kFr 295147905179352825856 18300323042624482115584 k (k204_103 k1 (k.1 15 - 1)).1 := (f1.mono rfl rfl).trans (kFr.sa kFr.refl rfl)
      exact OU.fr z2 (fun _ => ⟨rfl, rfl⟩) f2 rfl rfl
    unfold k204
    rw [ekr 16, if_neg z1]
    split
    · exact key _ (fr_k189 _ _ _ _ _)
    · split
      · exact key _ (fr_k189 _ _ _ _ _)
      · exact key _ kFr.refl
  · obtain ⟨r1, -, -⟩ := h.rsl (w := k.2 18 V) z2 z3 z4 rfl
    unfold k204
    rw [ekr 16, if_pos z1, ekr 18]
    exact OU.fr r1 z5 (fr_k204_53 _ _ _ _) rfl rfl
/-- the value on top is loaded, which the class has written -/
theorem RWp.lod {V : Nat} {d1 : List xR} (h : RWp (some (V, true)) (d1, [], H) L a s k X) (h15 : k.1 15 = xn (V + 1)) (hV : V ≤ 1000000) : RWp none (d1, [], H) L a s (k204 k).1 X := by
  refine h.fro (cFr.refl (F := 0) (T := 0) (B := 0) (G := 0)) (fr_k204 k) rfl rfl rfl rfl rfl rfl (h.lou h15 hV) ?_
  obtain ⟨R, r1, r2⟩ := h.2.2.2.2.2.2.2
  refine ⟨[], rfl, ?_⟩
  have q := h.lor h15 hV r1 r2
  have q' : NR 0 (R ++ d1, R ++ []) H s (k204 k).1 X := by
    rw [List.append_nil]
    exact q
  exact q'.deq r1.wf
/-- what the value on top stands for -/
theorem RWp.orx {V : Nat} (h : RWp (some (V, false)) d L a s k X) : ∃ R, OR (some (V, true)) R a k X := by
  rcases h.2.2.2.2.2.1 with ⟨z1, z2⟩ | ⟨z1, s0, b, z2, z3, z4, z5⟩
  · by_cases c4 : k.2 16 V = 4
    · exact ⟨_, Or.inl ⟨c4, rfl⟩⟩
    · by_cases c5 : k.2 16 V = 5
      · exact ⟨_, Or.inr (Or.inl ⟨c5, rfl⟩)⟩
      · exact ⟨_, Or.inr (Or.inr (Or.inr ⟨⟨z1, c4, c5⟩, rfl⟩))⟩
  · exact ⟨_, Or.inr (Or.inr (Or.inl ⟨z1, s0, b, z2, by have := bd_le (Nat.le_trans h.1.2.2.1.2.2 h.2.2.2.2.1.1); omega, z4, rfl⟩))⟩
/-- the value on top is loaded, which the class has not written yet -/
theorem RWp.lop {V : Nat} {R : List xR} (h : RWp (some (V, false)) d L a s k X) (h15 : k.1 15 = xn (V + 1)) (hV : V ≤ 1000000) (hr : OR (some (V, true)) R a k X) : RWp none (d.1, d.2.1 ++ R, d.2.2) L a s (k204 k).1 X := by
  refine h.fro (cFr.refl (F := 0) (T := 0) (B := 0) (G := 0)) (fr_k204 k) rfl rfl rfl rfl rfl rfl (h.lou h15 hV) ?_
  obtain ⟨R', r1, r2⟩ := h.2.2.2.2.2.2.2
  have r1 : R' = [] := r1
  subst r1
  exact ⟨[], rfl, h.lor h15 hV hr r2⟩
/-- a plain word is read, and the reference does what it does meanwhile -/
theorem RWp.pl {F T B G' F' A' : Nat} {s1 : cS} {q : xR} (h : RWp p d L a s k X) (hq : L[a]? = some q) (h1 : c56 s1 q.1 = 0) (h2 : c57 s1 q.1 = 0) (hc : cFr F T B G' s s1) (hk : kFr F' A' k k') (h4 : k'.1 4 = k.1 4 + 1) (c1 : F &&& 822752278660603021077484591278675410950110812984694428651290624 = 0 := by rfl) (c2 : T &&& 1426145288 = 0 := by rfl) (c3 : B &&& 8188 = 0 := by rfl) (c4 : G' &&& 31 = 0 := by rfl) (k1 : F' &&& 299768897608095891809 = 0 := by rfl) (k2 : A' &&& 18587391190861254492166 = 0 := by rfl) (kp : p = none ∨ A' &&& 458752 = 0 := by first | exact Or.inl rfl | exact Or.inr rfl) : c55 s1 = (nf s1 2 2 (xn (a + 1)), some q.2.1) ∧ RWp p d L (a + 1) (nf s1 2 2 (xn (a + 1))) k' X := by
  have hs : RWp p d L a s1 k X := h.fr hc (kFr.refl (F := 0) (A := 0)) c1 c2 c3 c4 rfl rfl (Or.inr rfl)
  obtain ⟨p1, p2⟩ := hs.1.pl hq h1 h2
  refine ⟨p1, ?_⟩
  have hc' : cFr 17179869184 0 0 0 s1 (nf s1 2 2 (xn (a + 1))) := cFr.refl.sf rfl
  have e0 := hk.1 0 (tb0 k1 (by decide))
  have e5 := hk.1 5 (tb0 k1 (by decide))
  have e6 := hk.1 6 (tb0 k1 (by decide))
  have e1 := hk.2 1 (tb0 k2 (by decide))
  have e2 := hk.2 2 (tb0 k2 (by decide))
  obtain ⟨g1, ⟨g4, g5⟩, ⟨g6, g7, g8⟩, ⟨g9, g10, g11⟩, g12⟩ := p2
  refine ⟨⟨g1, ⟨by rw [e0]; exact g4, fun i q hq => by rw [e1, e2]; exact g5 i q hq⟩, ⟨g6, by rw [h4]; exact g7, g8⟩, ⟨by rw [e5]; exact g9, by rw [e5]; exact g10, by rw [e5]; exact g11⟩, by rw [e6]; exact g12⟩, hs.2.1.frm hc' hk rfl rfl rfl rfl rfl rfl rfl (sub0 k1 rfl) (sub0 k2 rfl) (tb0 k1 (by decide)) (tb0 k1 (by decide)), by have := hs.2.2.1; omega, ?_, ⟨hs.2.2.2.2.1.1, hs.2.2.2.2.1.2.1.fr hc' hk rfl (sub0 k2 rfl) (fun z => by rw [← hk.1 8 (tb0 k1 (by decide))]; exact z) (hk.1 53 (tb0 k1 (by decide))), hs.2.2.2.2.1.2.2.1.fr hk (sub0 k2 rfl) (fun z => by rw [← hk.1 8 (tb0 k1 (by decide))]; exact z), hs.2.2.2.2.1.2.2.2⟩, (hs.2.2.2.2.2.1.fr (fun _ => ⟨rfl, rfl⟩) hk (sub0 k1 rfl) (sub0 k2 rfl) (tb0 k2 (by decide)) (kp_of hk kp)).up (Nat.le_succ _), hs.2.2.2.2.2.2.1, hs.2.2.2.2.2.2.2.imp (fun R w => ⟨(w.1.fr hk (sub0 k1 rfl) (sub0 k2 rfl) (tb0 k2 (by decide)) (kp_of hk kp)).up (Nat.le_succ _), w.2.fr hc' hk rfl rfl (sub0 k1 rfl) (sub0 k2 rfl) (fun z => by rw [← hk.1 8 (tb0 k1 (by decide))]; exact z)⟩)⟩
  rw [hk.1 53 (tb0 k1 (by decide))]
  have := hs.2.2.2.1
  omega
theorem k191_bad {k : kS} {a2 w : Int32} (h : a2 ≠ 0) : (k191 k a2 w).1.1 8 ≠ 0 := fun z => by
  unfold k191 at z
  split at z
  · exact h z
  · rename_i c
    split at z
    · exact c z
    · exact h z
theorem RWp.nto {a1 a2 w w' : Int32} (h : RWp p d L a s k X) (h1 : a1 ≠ 0) (h2 : a2 ≠ 0) : RWp p d L a (c76 s a1 w).1 (k191 k a2 w').1 X := by
  have f3 : k3 k (k191 k a2 w').1 := ⟨(fr_k191 k a2 w').2 16 (Nat.zero_testBit _), (fr_k191 k a2 w').2 17 (Nat.zero_testBit _), (fr_k191 k a2 w').2 18 (Nat.zero_testBit _)⟩
  refine ⟨h.1.fr (fr_c76 s a1 w) (fr_k191 k a2 w') rfl rfl rfl rfl rfl, h.2.1.nte h1 h2, h.2.2.1, ?_, ⟨h.2.2.2.2.1.1, FB.bad (k191_bad h2), CL.bad (k191_bad h2), h.2.2.2.2.1.2.2.2.fr (fr_c76 s a1 w) (Nat.zero_testBit _)⟩, h.2.2.2.2.2.1.fr ((fr_c76 s a1 w).ou rfl) (fr_k191 k a2 w') rfl rfl rfl (Or.inr f3), h.2.2.2.2.2.2.1, h.2.2.2.2.2.2.2.imp (fun R q => ⟨q.1.fr (fr_k191 k a2 w') rfl rfl rfl (Or.inr f3), q.2.bad ((fr_c76 s a1 w).nr rfl) (k191_bad h2)⟩)⟩
  rw [(fr_k191 k a2 w').1 53 rfl]
  exact h.2.2.2.1
/-- a target's name is resolved -/
theorem RWp.tgt {w t : Int32} {b : Nat} (h : RWp p d L a s k X) (hx : XC 0 s0 X) (hb : b + X.length ≤ bd a) (ho : OU b s0 k X) (ht : kr k 2 w = t) : OU (bd a) (c66 s0 t).1 (k237 k w).1 X := by
  unfold k237 k237_31
  split
  · exact (h.rsl hx hb ho ht).1
  · split
    · exact (h.rsl hx hb ho ht).1
    · refine ((h.nto (a1 := 10) (a2 := 10) (w := w) (w' := w) (by decide) (by decide)).rsl hx hb (OU.fr ho (fun _ => ⟨rfl, rfl⟩) (fr_k191 k 10 w) rfl rfl) ?_).1
      unfold kr
      rw [(fr_k191 k 10 w).2 2 (Nat.zero_testBit _)]
      exact ht
end PPO
