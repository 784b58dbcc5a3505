/-! THE WALK OVER BOTH: blocks and functions, what they leave -/
section NAM
variable {L : List xR} {P : PT} {k0 k k' : kS} {T V W a t v w : Nat} {s s' : cS} {X X' X'' : List xF} {g p q c x y y1 y2 y3 : Int32} {rc : cRC}
/-- names change, words and piles don't -/
def NF (δ : Df) (H : List hE) (s : cS) (k : kS) (X : List xF) : Prop := X ≠ [] ∧ NR 0 δ H s k X ∧ FB s k (sh X) ∧ CL k X ∧ LVv [] s X
theorem NR.xx {q : Nat} {D : Df} {H : List hE} (h : NR q D H s k X) (e : jx X' = jx X) : NR q D H s k X' := h.same e (fun _ => rfl) (fun _ => rfl) rfl ⟨rfl, rfl⟩ ⟨rfl, rfl⟩ id rfl rfl rfl (fun _ _ _ => rfl) rfl rfl rfl (fun _ => rfl)
theorem SGp.nam {π : PM} {δ δ' : Df} {F T' B G F' A' : Nat} (h : SGp π δ L P k0 T V W a s k X t v w) (hc : cFr F T' B G s s') (hk : kFr F' A' k k') (hn : RN s' k' X') (hz : szX X' ≤ 8 * a + 8) (ho : OU (bd a) s' k' X') (hf : NF δ' P.2.2 s' k' X') (c1 : F &&& 51539607552 = 0 := by rfl) (c2 : T' &&& 1288 = 0 := by rfl) (k1 : F' &&& 9007199255823473 = 0 := by rfl) (k2 : A' &&& 15169542 = 0 := by rfl) : SGp none δ' L P k0 T V W a s' k' X' t v w := by
  have tb : ∀ (A M j : Nat), A &&& M = 0 → M.testBit j = true → A.testBit j = false := fun A M j ez hj => by
    have := congrArg (fun q => q.testBit j) ez
    simp only [Nat.testBit_and, hj, Bool.and_true, Nat.zero_testBit] at this
    exact this
  have sub : ∀ (A M N : Nat), A &&& M = 0 → M &&& N = N → A &&& N = 0 := fun A M N e1 e2 => by
    rw [← e2, ← Nat.and_assoc, e1, Nat.zero_and]
  refine ⟨⟨h.1.1.fr hc hk (tb _ _ 3 c2 (by decide)) (tb _ _ 34 c1 (by decide)) (tb _ _ 35 c1 (by decide)) (sub _ _ _ k1 rfl) (sub _ _ _ k2 rfl), hn, hz, ?_, ⟨h.1.2.2.2.2.1.1, hf.2.2⟩, ho, hf.1, ⟨[], rfl, hf.2.1⟩⟩, ⟨(hk.1 10 (tb _ _ 10 k1 (by decide))).trans h.2.1.1, (hk.1 15 (tb _ _ 15 k1 (by decide))).trans h.2.1.2.1, (hk.1 20 (tb _ _ 20 k1 (by decide))).trans h.2.1.2.2⟩, h.2.2.1.trans (KB.fr hk (sub _ _ _ k2 rfl)), h.2.2.2.1, h.2.2.2.2.ts (TS.of hc (sub _ _ _ c2 rfl)) (Nat.le_refl _)⟩
  rw [hk.1 53 (tb _ _ 53 k1 (by decide))]
  exact h.1.2.2.2.1
theorem SGp.ne {π : PM} {δ : Df} (h : SGp π δ L P k0 T V W a s k X t v w) : X ≠ [] := h.1.2.2.2.2.2.2.1
theorem SGp.nc {δ : Df} (h : SGp none δ L P k0 T V W a s k X t v w) : NR 0 δ P.2.2 s k X := by
  obtain ⟨R, r1, r2⟩ := h.1.2.2.2.2.2.2.2
  have r1 : R = [] := r1
  subst r1
  exact r2
theorem SGp.fb {π : PM} {δ : Df} (h : SGp π δ L P k0 T V W a s k X t v w) : FB s k (sh X) := h.1.2.2.2.2.1.2.1
theorem SGp.cc {π : PM} {δ : Df} (h : SGp π δ L P k0 T V W a s k X t v w) : CL k X := h.1.2.2.2.2.1.2.2.1
theorem SGp.lv {π : PM} {δ : Df} (h : SGp π δ L P k0 T V W a s k X t v w) : LVv [] s X := h.1.2.2.2.2.1.2.2.2
theorem sh_ne (e : sh X = sh X') (h : X ≠ []) : X' ≠ [] := fun z => by
  rw [z] at e
  cases X with
  | nil => exact h rfl
  | cons f r => cases e
/-- names change, but nothing that is counted -/
theorem SGp.nff {δ : Df} {F T' B G F' A' : Nat} (h : SGp none δ L P k0 T V W a s k X t v w) (hc : cFr F T' B G s s') (hk : kFr F' A' k k') (e8 : kSt k k') (e : sh X = sh X') (hs : ∀ (i : Nat) (q : xR), (kL X')[i]? = some q → (kL X)[i]? = some q) (hv : fLv X' = fLv X) (ej : jx X' = jx X) (c4 : G &&& 21 = 0 := by rfl) (c3 : B &&& 508 = 0 := by rfl) (k1 : F' &&& 295156912378607566848 = 0 := by rfl) (k2 : A' &&& 18301460280696304041984 = 0 := by rfl) (c2 : T' &&& 1342177280 = 0 := by rfl) : NF δ P.2.2 s' k' X' :=
  ⟨sh_ne e h.ne, (h.nc.fr0 hc hk c2 c4 (sub0 k1 rfl) (sub0 k2 rfl) e8 (fun z => absurd z (by decide))).xx ej, (h.fb.fr hc hk c3 (sub0 k2 rfl) e8 (hk.1 53 (tb0 k1 (by decide)))).eq e, h.cc.sub hs e8 (hk.2 30 (tb0 k2 (by decide))), h.lv.same (by rw [hv]) (hc.2.1 28 (tb0 c2 (by decide))).1 (hc.2.1 28 (tb0 c2 (by decide))).2⟩
theorem SGp.ou {δ : Df} {F T' B G F' A' : Nat} (h : SGp none δ L P k0 T V W a s k X t v w) (hc : cFr F T' B G s s') (hk : kFr F' A' k k') (g8 : G.testBit 3 = false := by rfl) (hF : F' &&& 4620693219829612544 = 0 := by rfl) (hA : A' &&& 285924533142699376640 = 0 := by rfl) : OU (bd a) s' k' X := OU.fr h.1.2.2.2.2.2.1 (hc.ou g8) hk hF hA
theorem SGp.bl {π : PM} {δ : Df} (h : SGp π δ L P k0 T V W a s k X t v w) : bd a ≤ 800000 ∧ bd (a + 1) = bd a + (4 * a + 18) := ⟨bd_le (Nat.le_trans h.le.1 h.1.2.2.2.2.1.1), bd_s⟩
theorem SGp.rn {δ : Df} {F T' B G F' A' : Nat} (h : SGp none δ L P k0 T V W a s k X t v w) (hc : cFr F T' B G s s') (hk : kFr F' A' k k') (c1 : F &&& 822752278660603021077484591278675410950110812984694377111683072 = 0 := by rfl) (c2 : T' &&& 352403456 = 0 := by rfl) (c3 : B &&& 7712 = 0 := by rfl) (c4 : G &&& 3 = 0 := by rfl) (k1 : F' &&& 9306408168194304 = 0 := by rfl) (k2 : A' &&& 78434616289001472 = 0 := by rfl) : RN s' k' X := by
  have tb : ∀ (A M j : Nat), A &&& M = 0 → M.testBit j = true → A.testBit j = false := fun A M j ez hj => by
    have := congrArg (fun q => q.testBit j) ez
    simp only [Nat.testBit_and, hj, Bool.and_true, Nat.zero_testBit] at this
    exact this
  have sub : ∀ (A M N : Nat), A &&& M = 0 → M &&& N = N → A &&& N = 0 := fun A M N e1 e2 => by
    rw [← e2, ← Nat.and_assoc, e1, Nat.zero_and]
  exact h.1.2.1.frm hc hk (tb _ _ 209 c1 (by decide)) (tb _ _ 16 c1 (by decide)) (tb _ _ 81 c1 (by decide)) (tb _ _ 97 c1 (by decide)) c2 c3 c4 (sub _ _ _ k1 rfl) k2 (tb _ _ 8 k1 (by decide)) (tb _ _ 53 k1 (by decide))
theorem SGp.sz {π : PM} {δ : Df} (h : SGp π δ L P k0 T V W a s k X t v w) : szX X ≤ 8 * a + 8 := h.1.2.2.1
theorem SGp.SZ {π : PM} {δ : Df} (h : SGp π δ L P k0 T V W a s k X t v w) : SZ X := SZ_of (by have := h.sz; have := h.le; omega)
theorem c53_fr {F T' B G : Nat} (hc : cFr F T' B G s s') (c1 : F &&& 17179869184 = 0 := by rfl) (c2 : T' &&& 8 = 0 := by rfl) : c53 s' = c53 s := by
  have tb : ∀ (A M j : Nat), A &&& M = 0 → M.testBit j = true → A.testBit j = false := fun A M j ez hj => by
    have := congrArg (fun q => q.testBit j) ez
    simp only [Nat.testBit_and, hj, Bool.and_true, Nat.zero_testBit] at this
    exact this
  have e1 := hc.1 2 2 (by decide) (tb _ _ 34 c1 (by decide))
  obtain ⟨e2, e3⟩ := hc.2.1 3 (tb _ _ 3 c2 (by decide))
  unfold c53 tg
  rw [e1, e2, e3]
theorem SGp.at4 {π : PM} {δ : Df} (h : SGp π δ L P k0 T V W a s k X t v w) : k.1 4 = xn a ∧ c63 s = xn a := ⟨h.1.1.2.2.1.2.1, h.1.1.2.2.1.1⟩
/-- a block may stand in this function -/
def XB (X : List xF) : Prop := ∃ f r b bs, X = f :: r ∧ f.2.2.1 = [] ∧ f.2.2.2.1 = b :: bs ∧ b.2.2.2 ≠ 2
/-- the block in hand has grown -/
def XQ (X X' : List xF) : Prop := ∃ (f f' : xF) (r : List xF) (l : List xR) (b b' : xB) (bs : List xB), X = f :: r ∧ X' = f' :: r ∧ (f.2.2.1 = [] ∧ f'.2.2.1 = [] ∧ f'.1 = f.1) ∧ f'.2.1 = f.2.1 ++ l ∧ (f.2.2.2.1 = b :: bs ∧ f'.2.2.2.1 = b' :: bs ∧ b'.1 = b.1 ∧ b'.2.2.2 = b.2.2.2) ∧ f'.2.2.2.2 = f.2.2.2.2
theorem XB.nxt (h : XB X) (hq : XQ X X') : XB X' := by
  obtain ⟨f, r, b, bs, e1, e2, e3, e4⟩ := h
  obtain ⟨g, g', r', l, d, d', ds, q1, q2, ⟨q3, q4, q5⟩, q6, ⟨q7, q8, q9, q10⟩, q11⟩ := hq
  rw [e1] at q1
  cases q1
  rw [e3] at q7
  cases q7
  exact ⟨g', r, d', bs, q2, q4, q8, by rw [q10]; exact e4⟩
theorem XQ.refl (h : XB X) : XQ X X := by
  obtain ⟨f, r, b, bs, e1, e2, e3, e4⟩ := h
  exact ⟨f, f, r, [], b, b, bs, e1, e1, ⟨e2, e2, rfl⟩, (List.append_nil _).symm, ⟨e3, e3, rfl, rfl⟩, rfl⟩
theorem XQ.trans (h : XQ X X') (h' : XQ X' X'') : XQ X X'' := by
  obtain ⟨f, f', r, l, b, b', bs, p1, p2, ⟨p3, p4, p5⟩, p6, ⟨p7, p8, p9, p10⟩, p11⟩ := h
  obtain ⟨g, g', r', l', d, d', ds, q1, q2, ⟨q3, q4, q5⟩, q6, ⟨q7, q8, q9, q10⟩, q11⟩ := h'
  rw [p2] at q1
  cases q1
  rw [p8] at q7
  cases q7
  exact ⟨f, g', r, l ++ l', b, d', bs, p1, q2, ⟨p3, q4, q5.trans p5⟩, by rw [q6, p6, List.append_assoc], ⟨p7, q8, q9.trans p9, q10.trans p10⟩, q11.trans p11⟩
theorem XB.ne (h : XB X) : X ≠ [] := by
  obtain ⟨f, r, b, bs, e1, -⟩ := h
  rw [e1]
  exact fun z => nomatch z
/-- words that may follow a block -/
def FOL (K : Int32) : Prop := K = 0 ∨ K = 13 ∨ K = 14 ∨ K = 15 ∨ K = 30
/-- behind a block: all is well, or the reference has refused and the class will -/
def BP (L : List xR) (P : PT) (k0 : kS) (T V W a : Nat) (X : List xF) (t v w : Nat) : cS → kS → Int32 → Prop := fun s' k' _ => (∃ a' X', a ≤ a' ∧ SG L P k0 T V W a' s' k' X' t v w ∧ XQ X X') ∨ (k'.1 6 ≠ 0 ∧ ¬ FOL (c53 s'))
def E52 (rc : cRC) (L : List xR) : Prop := ∀ {P : PT} (a : Nat) (s : cS) (k : kS) (X : List xF) (t v w : Nat), SG L P k t v w a s k X (t + 1) v w → XB X → GT t 1 0 0 0 k → RO L a (t + 4) (v + 4) → QC (BP L P k t v w a X t v w) k (rc 52 s 0 0 0 0 0 0 0)
/-- a block is due above a goal -/
theorem bl_call (h52 : E52 rc L) (h : SG L P k0 T V W a s k X t v w) (hB : XB X) (hT : T ≤ t) (hV : V ≤ v) (hW : W ≤ w) (hr : RO L a (t + 5) (v + 4)) : QC (fun s' k' _ => (∃ a' X', a ≤ a' ∧ SG L P k0 T V W a' s' k' X' (t + 1) v w ∧ XQ X X' ∧ GT t g p q c k') ∨ (k'.1 6 ≠ 0 ∧ ¬ FOL (c53 s'))) (k178 (k179 k g p q c).1).1 (rc 52 s 0 0 0 0 0 0 0) := by
  obtain ⟨h1, g1⟩ := h.psh (g := g) (p := p) (q := q) (c := c) hT (by have := hr.1; omega)
  generalize (k179 k g p q c).1 = k1 at h1 g1
  show QC _ (k179 k1 1 0 0 0).1 _
  obtain ⟨h2, g2⟩ := h1.psh (g := 1) (p := 0) (q := 0) (c := 0) (by omega) (by have := hr.1; omega)
  have b2 : KB (t + 1) v w k1 (k179 k1 1 0 0 0).1 := (GT.psh (t := t + 1) (g := 1) (a := 0) (b := 0) (c := 0) h1.2.1.1 (by have := hr.1; omega)).2
  generalize (k179 k1 1 0 0 0).1 = k2 at h2 g2 b2
  refine (h52 a s k2 X (t + 1) v w h2.own hB g2 ⟨by have := hr.1; omega, by have := hr.2; omega⟩).mono ?_
  rintro s3 k3 x3 (⟨a3, X3, u1, u2, u3⟩ | u)
  · exact Or.inl ⟨a3, X3, u1, h2.reb u2 (by omega) hV hW, u3, g1.bck (b2.trans u2.2.2.1) u2.2.1.1⟩
  · exact Or.inr u
end NAM
section PAR
variable {L : List xR} {P : PT} {k0 k k' : kS} {T V W a t v w : Nat} {s s' : cS} {f : xF} {r : List xF} {x y y1 y2 y3 : Int32}
/-- three dots at the end of a function's names -/
theorem RN.dts (h : RN s k (f :: r)) : RN (nb s f.1 5 1) (ka k 56 (xn (f.1 - 1)) 1) ((f.1, f.2.1, f.2.2.1, f.2.2.2.1, 1) :: r) := by
  obtain ⟨h1, h2, h3, h4, h5, ⟨n, h6, h7, h8⟩, h9⟩ := h
  have hi := h8 f List.mem_cons_self
  have hne : ∀ g ∈ r, g.1 ≠ f.1 := h1.xf.2.2.2.2.2.2.1
  have hx : ∀ {R : List xF}, (∀ g ∈ R, g.1 ≠ f.1) → XF s R → XF (nb s f.1 5 1) R := by
    intro R
    induction R with
    | nil => intro _ _; trivial
    | cons g R ih =>
      intro hg q
      obtain ⟨q1, q2, q3, q4, q5, q6, q7, q8⟩ := q
      have eg : g.1 ≠ f.1 := hg g List.mem_cons_self
      have eb : ∀ j, (nb s f.1 5 1).b g.1 j = s.b g.1 j := fun j => by
        show (if g.1 = f.1 then upd (s.b g.1) 5 1 else s.b g.1) j = _
        rw [if_neg eg]
      exact ⟨q1, (eb 9).trans q2, (eb 10).trans q3, (eb 11).trans q4, (eb 12).trans q5, (eb 5).trans q6, q7, ih (fun g' hg' => hg g' (List.mem_cons_of_mem _ hg')) q8⟩
  have hk : ∀ {R : List xF}, (∀ g ∈ R, g.1 ≠ f.1 ∧ 1 ≤ g.1) → XKF k R → XKF (ka k 56 (xn (f.1 - 1)) 1) R := by
    intro R
    induction R with
    | nil => intro _ _; trivial
    | cons g R ih =>
      intro hg q
      obtain ⟨q1, q2, q3, q4, q5, q6⟩ := q
      have eg := hg g List.mem_cons_self
      refine ⟨q1, q2, q3, q4, ?_, ih (fun g' hg' => hg g' (List.mem_cons_of_mem _ hg')) q6⟩
      show upd (k.2 56) (xn (f.1 - 1)).toNatClampNeg 1 (g.1 - 1) = _
      rw [xn_nat (by omega)]
      unfold upd
      rw [if_neg (by have := eg.1; have := eg.2; have := hi.1; omega)]
      exact q5
  obtain ⟨x1, x2, x3, x4, x5, x6, x7, x8⟩ := h1
  obtain ⟨z1, z2, z3, z4, z5, z6⟩ := h2
  have eb : ∀ j, j ≠ 5 → (nb s f.1 5 1).b f.1 j = s.b f.1 j := fun j hj => by
    show (if f.1 = f.1 then upd (s.b f.1) 5 1 else s.b f.1) j = _
    rw [if_pos rfl]
    unfold upd
    rw [if_neg hj]
  have e5 : (nb s f.1 5 1).b f.1 5 = 1 := by
    show (if f.1 = f.1 then upd (s.b f.1) 5 1 else s.b f.1) 5 = _
    rw [if_pos rfl]
    exact if_pos rfl
  refine ⟨⟨x1, x2, x3, x4, x5, x6, ⟨x7.1, (eb 9 (by decide)).trans x7.2.1, (eb 10 (by decide)).trans x7.2.2.1, (eb 11 (by decide)).trans x7.2.2.2.1, (eb 12 (by decide)).trans x7.2.2.2.2.1, e5, hne, hx hne x7.2.2.2.2.2.2.2⟩, fun f' r' e => ?_⟩, ⟨z1, z2, z3, z4, z5, ⟨z6.1, z6.2.1, z6.2.2.1, z6.2.2.2.1, ?_, hk (fun g hg => ⟨hne g hg, (h8 g (List.mem_cons_of_mem _ hg)).1⟩) z6.2.2.2.2.2⟩⟩, h3, ?_, h5, ⟨n, h6, h7, fun g hg => ?_⟩, h9⟩
  · cases e
    exact x8 f r rfl
  · show upd (k.2 56) (xn (f.1 - 1)).toNatClampNeg 1 (f.1 - 1) = 1
    rw [xn_nat (by omega)]
    exact if_pos rfl
  · unfold FA at h4 ⊢
    rw [lmX_c, ovX_c] at h4 ⊢
    exact h4
  · rcases List.mem_cons.mp hg with z | z
    · rw [z]
      exact hi
    · exact h8 g (List.mem_cons_of_mem _ z)
end PAR
