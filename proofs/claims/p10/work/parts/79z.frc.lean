/-! THE CLASS: what each function may change (printed by wip/p5/gen_frc.py); F: numbers (bit 16 k + j), T: tables that are there once, B: numbers of bodies, G: 1 the body in hand, 2 the begun bodies, 4 cells of a body's code, 16 how many rows it has, 8 a body's outers -/
def cFr (F T B G : Nat) (s s' : cS) : Prop := (∀ k j, j < 16 → F.testBit (16 * k + j) = false → s'.f k j = s.f k j) ∧ (∀ k, T.testBit k = false → s'.r (.s k) = s.r (.s k) ∧ s'.c (.s k) = s.c (.s k)) ∧ (∀ x j, B.testBit j = false → s'.b x j = s.b x j) ∧ (G.testBit 0 = false → s'.now = s.now) ∧ (G.testBit 1 = false → s'.op = s.op) ∧ (G.testBit 2 = false → ∀ x, s'.c (.i x) = s.c (.i x)) ∧ (G.testBit 4 = false → ∀ x, s'.r (.i x) = s.r (.i x)) ∧ (G.testBit 3 = false → ∀ x, s'.r (.u x) = s.r (.u x) ∧ s'.c (.u x) = s.c (.u x))
section CFR
variable {F T B G F' T' B' G' : Nat} {s s' s'' : cS}
theorem cFr.refl : cFr F T B G s s := ⟨fun _ _ _ _ => rfl, fun _ _ => ⟨rfl, rfl⟩, fun _ _ _ => rfl, fun _ => rfl, fun _ => rfl, fun _ _ => rfl, fun _ _ => rfl, fun _ _ => ⟨rfl, rfl⟩⟩
theorem cFr.trans (h : cFr F T B G s s') (h' : cFr F T B G s' s'') : cFr F T B G s s'' := ⟨fun k j hj hk => (h'.1 k j hj hk).trans (h.1 k j hj hk), fun k hk => ⟨(h'.2.1 k hk).1.trans (h.2.1 k hk).1, (h'.2.1 k hk).2.trans (h.2.1 k hk).2⟩, fun x j hj => (h'.2.2.1 x j hj).trans (h.2.2.1 x j hj), fun q => (h'.2.2.2.1 q).trans (h.2.2.2.1 q), fun q => (h'.2.2.2.2.1 q).trans (h.2.2.2.2.1 q), fun q x => (h'.2.2.2.2.2.1 q x).trans (h.2.2.2.2.2.1 q x), fun q x => (h'.2.2.2.2.2.2.1 q x).trans (h.2.2.2.2.2.2.1 q x), fun q x => ⟨(h'.2.2.2.2.2.2.2 q x).1.trans (h.2.2.2.2.2.2.2 q x).1, (h'.2.2.2.2.2.2.2 q x).2.trans (h.2.2.2.2.2.2.2 q x).2⟩⟩
theorem tb_sub {F F' j : Nat} (h : F &&& F' = F) (hj : F'.testBit j = false) : F.testBit j = false := by rw [← h, Nat.testBit_and, hj, Bool.and_false]
theorem cFr.mono (h : cFr F T B G s s') (hF : F &&& F' = F) (hT : T &&& T' = T) (hB : B &&& B' = B) (hG : G &&& G' = G) : cFr F' T' B' G' s s' := ⟨fun k j hj hk => h.1 k j hj (tb_sub hF hk), fun k hk => h.2.1 k (tb_sub hT hk), fun x j hj => h.2.2.1 x j (tb_sub hB hj), fun q => h.2.2.2.1 (tb_sub hG q), fun q => h.2.2.2.2.1 (tb_sub hG q), fun q => h.2.2.2.2.2.1 (tb_sub hG q), fun q => h.2.2.2.2.2.2.1 (tb_sub hG q), fun q => h.2.2.2.2.2.2.2 (tb_sub hG q)⟩
theorem cFr.sf {k j : Nat} {v : Int32} (h : cFr F T B G s s') (hk : (decide (j < 16) && F.testBit (16 * k + j)) = true) : cFr F T B G s (nf s' k j v) := by
  refine ⟨fun k' j' hj hk' => ?_, h.2⟩
  rw [Bool.and_eq_true] at hk
  have hjj : j < 16 := of_decide_eq_true hk.1
  show (if k' = k then upd (s'.f k') j v else s'.f k') j' = s.f k' j'
  by_cases e : k' = k
  · rw [if_pos e]
    unfold upd
    by_cases e2 : j' = j
    · rw [e, e2, hk.2] at hk'
      cases hk'
    · rw [if_neg e2]
      exact h.1 k' j' hj hk'
  · rw [if_neg e]
    exact h.1 k' j' hj hk'
theorem cFr.sb {x j : Nat} {v : Int32} (h : cFr F T B G s s') (hk : B.testBit j = true) : cFr F T B G s (nb s' x j v) := by
  refine ⟨h.1, h.2.1, fun x' j' hj => ?_, h.2.2.2⟩
  show (if x' = x then upd (s'.b x') j v else s'.b x') j' = s.b x' j'
  by_cases e : x' = x
  · rw [if_pos e]
    unfold upd
    by_cases e2 : j' = j
    · rw [e2, hk] at hj
      cases hj
    · rw [if_neg e2]
      exact h.2.2.1 x' j' hj
  · rw [if_neg e]
    exact h.2.2.1 x' j' hj
theorem cFr.sn {x : Nat} (h : cFr F T B G s s') (hk : G.testBit 0 = true) : cFr F T B G s (nn s' x) := ⟨h.1, h.2.1, h.2.2.1, (fun q => by rw [hk] at q; cases q), h.2.2.2.2.1, h.2.2.2.2.2⟩
theorem cFr.sp {x : Nat} (h : cFr F T B G s s') (hk : F.testBit 209 = true) (hg : G.testBit 1 = true) : cFr F T B G s (npush s' x) := by
  have h1 : cFr F T B G s (nf s' 13 1 (s'.f 13 1 + 1)) := h.sf (by rw [Bool.and_eq_true]; exact ⟨rfl, hk⟩)
  exact ⟨h1.1, h1.2.1, h1.2.2.1, h1.2.2.2.1, (fun q => by rw [hg] at q; cases q), h1.2.2.2.2.2⟩
theorem cFr.nts {k : Nat} {r : Int32} {g : Nat → Int32} (h : cFr F T B G s s') (hk : T.testBit k = true) : cFr F T B G s (nt s' (.s k) r g) := by
  refine ⟨h.1, fun k' hk' => ?_, h.2.2.1, h.2.2.2.1, h.2.2.2.2.1, fun q x => ?_, fun q x => ?_, fun q x => ?_⟩
  · have e : (cT.s k') ≠ cT.s k := fun e => by
      have e1 : k' = k := Sum.inl.inj e
      rw [e1, hk] at hk'
      cases hk'
    show (if cT.s k' = cT.s k then r else s'.r (.s k')) = _ ∧ (if cT.s k' = cT.s k then g else s'.c (.s k')) = _
    rw [if_neg e, if_neg e]
    exact h.2.1 k' hk'
  · show (if cT.i x = cT.s k then g else s'.c (.i x)) = _
    rw [if_neg (by intro e; cases e)]
    exact h.2.2.2.2.2.1 q x
  · show (if cT.i x = cT.s k then r else s'.r (.i x)) = _
    rw [if_neg (by intro e; cases e)]
    exact h.2.2.2.2.2.2.1 q x
  · show (if cT.u x = cT.s k then r else s'.r (.u x)) = _ ∧ (if cT.u x = cT.s k then g else s'.c (.u x)) = _
    rw [if_neg (by intro e; cases e), if_neg (by intro e; cases e)]
    exact h.2.2.2.2.2.2.2 q x
theorem cFr.ntb {y : Nat} {r : Int32} {g : Nat → Int32} (h : cFr F T B G s s') (hk : G.testBit 2 = true) (hr : G.testBit 4 = true ∨ r = s'.r (.i y)) : cFr F T B G s (nt s' (.i y) r g) := by
  refine ⟨h.1, fun k' hk' => ?_, h.2.2.1, h.2.2.2.1, h.2.2.2.2.1, (fun q x => by rw [hk] at q; cases q), fun q x => ?_, fun q x => ?_⟩
  · show (if cT.s k' = cT.i y then r else s'.r (.s k')) = _ ∧ (if cT.s k' = cT.i y then g else s'.c (.s k')) = _
    rw [if_neg (by intro e; cases e), if_neg (by intro e; cases e)]
    exact h.2.1 k' hk'
  · show (if cT.i x = cT.i y then r else s'.r (.i x)) = _
    rcases hr with hr | hr
    · rw [hr] at q
      cases q
    · by_cases e : cT.i x = cT.i y
      · rw [if_pos e, hr]
        have e1 : x = y := Sum.inl.inj (Sum.inr.inj e)
        rw [← e1]
        exact h.2.2.2.2.2.2.1 q x
      · rw [if_neg e]
        exact h.2.2.2.2.2.2.1 q x
  · show (if cT.u x = cT.i y then r else s'.r (.u x)) = _ ∧ (if cT.u x = cT.i y then g else s'.c (.u x)) = _
    rw [if_neg (by intro e; cases e), if_neg (by intro e; cases e)]
    exact h.2.2.2.2.2.2.2 q x
theorem cFr.ntu {y : Nat} {r : Int32} {g : Nat → Int32} (h : cFr F T B G s s') (hk : G.testBit 3 = true) : cFr F T B G s (nt s' (.u y) r g) := by
  refine ⟨h.1, fun k' hk' => ?_, h.2.2.1, h.2.2.2.1, h.2.2.2.2.1, fun q x => ?_, fun q x => ?_, fun q x => by rw [hk] at q; cases q⟩
  · show (if cT.s k' = cT.u y then r else s'.r (.s k')) = _ ∧ (if cT.s k' = cT.u y then g else s'.c (.s k')) = _
    rw [if_neg (by intro e; cases e), if_neg (by intro e; cases e)]
    exact h.2.1 k' hk'
  · show (if cT.i x = cT.u y then g else s'.c (.i x)) = _
    rw [if_neg (by intro e; cases e)]
    exact h.2.2.2.2.2.1 q x
  · show (if cT.i x = cT.u y then r else s'.r (.i x)) = _
    rw [if_neg (by intro e; cases e)]
    exact h.2.2.2.2.2.2.1 q x
theorem cFr.tss {k : Nat} {r c v : Int32} (h : cFr F T B G s s') (hk : T.testBit k = true) : cFr F T B G s (ts s' (.s k) r c v) := by
  unfold ts
  split
  · exact h
  · split
    · exact h
    · split
      · exact h
      · split
        · exact h
        · exact h.nts hk
theorem cFr.tsb {y : Nat} {r c v : Int32} (h : cFr F T B G s s') (hk : G.testBit 2 = true) : cFr F T B G s (ts s' (.i y) r c v) := by
  unfold ts
  split
  · exact h
  · split
    · exact h
    · split
      · exact h
      · split
        · exact h
        · exact h.ntb hk (Or.inr rfl)
theorem cFr.tsu {y : Nat} {r c v : Int32} (h : cFr F T B G s s') (hk : G.testBit 3 = true) : cFr F T B G s (ts s' (.u y) r c v) := by
  unfold ts
  split
  · exact h
  · split
    · exact h
    · split
      · exact h
      · split
        · exact h
        · exact h.ntu hk
theorem cFr.tcts {k : Nat} {n : Int32} (h : cFr F T B G s s') (hk : T.testBit k = true) : cFr F T B G s (tct s' (.s k) n) := by
  unfold tct
  split
  · exact h
  · split
    · exact h
    · exact h.nts hk
theorem cFr.tctb {y : Nat} {n : Int32} (h : cFr F T B G s s') (hk : G.testBit 2 = true) (hr : G.testBit 4 = true) : cFr F T B G s (tct s' (.i y) n) := by
  unfold tct
  split
  · exact h
  · split
    · exact h
    · exact h.ntb hk (Or.inl hr)
theorem cFr.tctu {y : Nat} {n : Int32} (h : cFr F T B G s s') (hk : G.testBit 3 = true) : cFr F T B G s (tct s' (.u y) n) := by
  unfold tct
  split
  · exact h
  · split
    · exact h
    · exact h.ntu hk
theorem cFr.tads {k : Nat} {a b c d : Int32} (h : cFr F T B G s s') (hk : T.testBit k = true) : cFr F T B G s (tad s' (.s k) a b c d).1 := by
  unfold tad
  split
  · exact h.nts hk
  · exact h
theorem cFr.tadb {y : Nat} {a b c d : Int32} (h : cFr F T B G s s') (hk : G.testBit 2 = true) (hr : G.testBit 4 = true) : cFr F T B G s (tad s' (.i y) a b c d).1 := by
  unfold tad
  split
  · exact h.ntb hk (Or.inl hr)
  · exact h
theorem cFr.tadu {y : Nat} {a b c d : Int32} (h : cFr F T B G s s') (hk : G.testBit 3 = true) : cFr F T B G s (tad s' (.u y) a b c d).1 := by
  unfold tad
  split
  · exact h.ntu hk
  · exact h
theorem cFr.pr {v : Int32} (h : cFr F T B G s s') : cFr F T B G s (s', v).1 := h
theorem cFr.pro {v : Option Int32} (h : cFr F T B G s s') : cFr F T B G s (s', v).1 := h
theorem cFr.iteP {c : Prop} [Decidable c] {a b : cS × Int32} (h1 : cFr F T B G s a.1) (h2 : cFr F T B G s b.1) : cFr F T B G s (if c then a else b).1 := by
  split
  · exact h1
  · exact h2
theorem cFr.iteO {c : Prop} [Decidable c] {a b : cS × Option Int32} (h1 : cFr F T B G s a.1) (h2 : cFr F T B G s b.1) : cFr F T B G s (if c then a else b).1 := by
  split
  · exact h1
  · exact h2
theorem cFr.iteL1 {α : Type} {c : Prop} [Decidable c] {a b : Nat × (cS × α)} (h1 : cFr F T B G s a.2.1) (h2 : cFr F T B G s b.2.1) : cFr F T B G s (if c then a else b).2.1 := by
  split
  · exact h1
  · exact h2
theorem cFr.iteL0 {c : Prop} [Decidable c] {a b : Nat × cS} (h1 : cFr F T B G s a.2) (h2 : cFr F T B G s b.2) : cFr F T B G s (if c then a else b).2 := by
  split
  · exact h1
  · exact h2
theorem cFr.cb {r : cS × Option Int32} {f : cS → Int32 → cS × Option Int32} (h1 : cFr F T B G s r.1) (h2 : ∀ w, cFr F T B G s (f r.1 w).1) : cFr F T B G s (cbd r f).1 := by
  cases hr : r.2 with
  | none => rw [cbd_none hr]; exact h1
  | some w => rw [cbd_some hr]; exact h2 w
theorem cwh_fr {α : Type} {f : α → cS} {b : α → Nat × α} (h : ∀ t, cFr F T B G (f t) (f (b t).2)) : ∀ m t, cFr F T B G (f t) (f (kwh b m t).2) := by
  intro m
  induction m with
  | zero => intro t; exact cFr.refl
  | succ m ih =>
    intro t
    rw [kwh]
    split
    · exact (h t).trans (ih _)
    · exact h t
theorem cfin_fr {α : Type} {f : α → cS} {b : α → Nat × α} (h : ∀ t, cFr F T B G (f t) (f (b t).2)) (t : α) : cFr F T B G (f t) (f (kfin b t).2) := by
  unfold kfin
  split
  · exact cwh_fr h _ t
  · exact cFr.refl
theorem cfin_fr1 {α : Type} {b : cS × α → Nat × (cS × α)} (h : ∀ t, cFr F T B G t.1 (b t).2.1) {t : cS × α} : cFr F T B G t.1 (kfin b t).2.1 := cfin_fr (f := fun t => t.1) h t
theorem cfin_fr0 {b : cS → Nat × cS} (h : ∀ t, cFr F T B G t (b t).2) {t : cS} : cFr F T B G t (kfin b t).2 := cfin_fr (f := fun t => t) h t
end CFR
theorem fr_c29_63 (s : cS) (y0 : Nat) : cFr 0 0 0 8 s (c29_63 s y0).1 := by unfold c29_63; exact (cFr.pr (cFr.tctu cFr.refl rfl))
theorem fr_c29 (s : cS) (x0 : Nat) (x1 : Int32) : cFr 0 0 8188 28 s (c29 s x0 x1).1 := by unfold c29; exact (cFr.trans (cFr.tctb (cFr.sb (cFr.sb (cFr.sb (cFr.sb (cFr.sb (cFr.sb (cFr.sb (cFr.sb (cFr.sb (cFr.sb (cFr.sb cFr.refl rfl) rfl) rfl) rfl) rfl) rfl) rfl) rfl) rfl) rfl) rfl) rfl rfl) (cFr.mono (fr_c29_63 (tct (nb (nb (nb (nb (nb (nb (nb (nb (nb (nb (nb s x0 2 x1) x0 3 (-1)) x0 8 (-1)) x0 4 0) x0 5 0) x0 6 0) x0 7 0) x0 9 0) x0 10 0) x0 11 0) x0 12 0) (.i x0) 0) x0) rfl rfl rfl rfl))
theorem fr_c37_11 (s : cS) (z0 : Int32) : cFr 0 0 0 0 s (c37_11 s z0).1 := by unfold c37_11; exact (cFr.pr cFr.refl)
theorem fr_c37 (s : cS) (x1 : Int32) (x2 : Int32) : cFr 0 8 0 0 s (c37 s x1 x2).1 := by unfold c37; exact (cFr.trans (cFr.tads cFr.refl rfl) (cFr.mono (fr_c37_11 ((tad s (.s 3) x1 x2 0 0).1) ((tad s (.s 3) x1 x2 0 0).2)) rfl rfl rfl rfl))
theorem fr_c39 (s : cS) : cFr 196608 0 0 0 s (c39 s).1 := by unfold c39; exact (cFr.pr (cFr.sf (cFr.sf cFr.refl rfl) rfl))
theorem fr_c40 (s : cS) : cFr 2417851639229258349412352 0 0 0 s (c40 s).1 := by unfold c40; exact (cFr.pr (cFr.sf cFr.refl rfl))
theorem fr_c42 (s : cS) : cFr 51539607552 0 0 0 s (c42 s).1 := by unfold c42; exact (cFr.pr (cFr.sf (cFr.sf cFr.refl rfl) rfl))
theorem fr_c44_24 (s : cS) : cFr 0 1073741824 0 0 s (c44_24 s).1 := by unfold c44_24; exact (cFr.pr (cFr.tcts cFr.refl rfl))
theorem fr_c44_16 (s : cS) : cFr 0 1342177280 0 0 s (c44_16 s).1 := by unfold c44_16; exact (cFr.trans (cFr.tcts cFr.refl rfl) (cFr.mono (fr_c44_24 (tct s (.s 28) 0)) rfl rfl rfl rfl))
theorem fr_c44_8 (s : cS) : cFr 0 1409286144 0 0 s (c44_8 s).1 := by unfold c44_8; exact (cFr.trans (cFr.tcts cFr.refl rfl) (cFr.mono (fr_c44_16 (tct s (.s 26) 0)) rfl rfl rfl rfl))
theorem fr_c44 (s : cS) : cFr 0 1426063360 0 0 s (c44 s).1 := by unfold c44; exact (cFr.trans (cFr.tcts cFr.refl rfl) (cFr.mono (fr_c44_8 (tct s (.s 24) 0)) rfl rfl rfl rfl))
theorem fr_c43_22 (s : cS) : cFr 0 65536 0 0 s (c43_22 s).1 := by unfold c43_22; exact (cFr.pr (cFr.tcts cFr.refl rfl))
theorem fr_c43_14 (s : cS) : cFr 0 81920 0 0 s (c43_14 s).1 := by unfold c43_14; exact (cFr.trans (cFr.tcts cFr.refl rfl) (cFr.mono (fr_c43_22 (tct s (.s 14) 0)) rfl rfl rfl rfl))
theorem fr_c43_7 (s : cS) : cFr 822752278660603021077484591278675252491367932816789931674304512 81920 0 0 s (c43_7 s).1 := by unfold c43_7; exact (cFr.trans (cFr.sf cFr.refl rfl) (cFr.mono (fr_c43_14 (nf s 13 1 0)) rfl rfl rfl rfl))
theorem fr_c43 (s : cS) : cFr 822752278660603021077484591278675252491367932816789931674304512 1426145280 0 0 s (c43 s).1 := by unfold c43; exact (cFr.trans (cFr.trans cFr.refl (cFr.mono (fr_c44 s) rfl rfl rfl rfl)) (cFr.mono (fr_c43_7 ((c44 s).1)) rfl rfl rfl rfl))
theorem fr_c51 (s : cS) : cFr 0 65536 0 0 s (c51 s).1 := by unfold c51; exact (cFr.pr (cFr.tads cFr.refl rfl))
theorem fr_c58 (s : cS) (x1 : Int32) (x2 : Int32) : cFr 196608 0 0 0 s (c58 s x1 x2).1 := by unfold c58; exact (cFr.pro (cFr.sf (cFr.sf cFr.refl rfl) rfl))
theorem fr_c55_69 (s : cS) : cFr 17179869184 0 0 0 s (c55_69 s).1 := by unfold c55_69; exact (cFr.pro (cFr.sf cFr.refl rfl))
theorem fr_c55_59 (s : cS) : cFr 51539607552 0 0 0 s (c55_59 s).1 := by unfold c55_59; exact (cFr.trans (cFr.sf cFr.refl rfl) (cFr.mono (fr_c55_69 (nf s 2 3 ((s.f 2 3) + 1))) rfl rfl rfl rfl))
theorem fr_c55_30 (s : cS) (y1 : Int32) : cFr 51539804160 0 0 0 s (c55_30 s y1).1 := by unfold c55_30; exact (cFr.iteO (cFr.trans cFr.refl (cFr.mono (fr_c55_69 s) rfl rfl rfl rfl)) (cFr.iteO (cFr.trans cFr.refl (cFr.mono (fr_c55_59 s) rfl rfl rfl rfl)) (cFr.cb (cFr.trans cFr.refl (cFr.mono (fr_c58 s 8 (s.f 2 2)) rfl rfl rfl rfl)) (fun w9 => (cFr.trans (cFr.trans cFr.refl (cFr.mono (fr_c58 s 8 (s.f 2 2)) rfl rfl rfl rfl)) (cFr.mono (fr_c55_59 ((c58 s 8 (s.f 2 2)).1)) rfl rfl rfl rfl))))))
theorem fr_c55 (s : cS) : cFr 51539804160 0 0 0 s (c55 s).1 := by unfold c55; exact (cFr.iteO (cFr.trans cFr.refl (cFr.mono (fr_c55_30 s (tg s (.s 3) (s.f 2 2) 0)) rfl rfl rfl rfl)) (cFr.trans (cFr.sf cFr.refl rfl) (cFr.mono (fr_c55_30 (nf s 2 3 ((s.f 2 3) - 1)) (tg s (.s 3) (s.f 2 2) 0)) rfl rfl rfl rfl)))
theorem fr_c65 (s : cS) (x1 : Int32) : cFr 196608 0 0 0 s (c65 s x1).1 := by unfold c65; exact (cFr.iteO (cFr.pro cFr.refl) (cFr.cb (cFr.trans cFr.refl (cFr.mono (fr_c58 s 7 (s.f 2 2)) rfl rfl rfl rfl)) (fun w8 => (cFr.pro (cFr.trans cFr.refl (cFr.mono (fr_c58 s 7 (s.f 2 2)) rfl rfl rfl rfl))))))
theorem fr_c64 (s : cS) (x1 : Int32) : cFr 51539804160 0 0 0 s (c64 s x1).1 := by unfold c64; exact (cFr.cb (cFr.trans cFr.refl (cFr.mono (fr_c65 s x1) rfl rfl rfl rfl)) (fun w4 => (cFr.cb (cFr.trans (cFr.trans cFr.refl (cFr.mono (fr_c65 s x1) rfl rfl rfl rfl)) (cFr.mono (fr_c55 ((c65 s x1).1)) rfl rfl rfl rfl)) (fun w10 => (cFr.pro (cFr.trans (cFr.trans cFr.refl (cFr.mono (fr_c65 s x1) rfl rfl rfl rfl)) (cFr.mono (fr_c55 ((c65 s x1).1)) rfl rfl rfl rfl)))))))
theorem fr_c69 (s : cS) (x0 : Nat) (x1 : Int32) (x2 : Int32) : cFr 0 0 0 8 s (c69 s x0 x1 x2).1 := by unfold c69; exact (cFr.iteP (cFr.pr cFr.refl) (cFr.pr (cFr.tadu cFr.refl rfl)))
theorem fr_c68b7 (y1 : Int32) (t : cS × Int32 × Int32 × Int32) : cFr 0 0 0 8 t.1 (c68b7 y1 t).2.1 := by unfold c68b7; exact (cFr.iteL1 cFr.refl (cFr.iteL1 (cFr.trans cFr.refl (cFr.mono (fr_c69 t.1 (t.1.op (t.2.2.2).toInt.toNat) t.2.1 t.2.2.1) rfl rfl rfl rfl)) cFr.refl))
theorem fr_c68 (s : cS) (x1 : Int32) : cFr 0 0 0 8 s (c68 s x1).1 := by unfold c68; exact (cFr.pr (cFr.trans cFr.refl (cFr.mono (cfin_fr1 fun t => fr_c68b7 x1 t) rfl rfl rfl rfl)))
theorem fr_c66_30 (s : cS) (y1 : Int32) (y2 : Int32) (z0 : Int32) : cFr 5624283154906465964396867323194069108827710478239774923554816 0 0 8 s (c66_30 s y1 y2 z0).1 := by unfold c66_30; exact (cFr.iteP (cFr.iteP (cFr.pr (cFr.sf (cFr.trans (cFr.sf (cFr.sf cFr.refl rfl) rfl) (cFr.mono (fr_c68 (nf (nf s 12 9 z0) 12 7 9) y2) rfl rfl rfl rfl)) rfl)) (cFr.pr (cFr.sf (cFr.sf (cFr.sf cFr.refl rfl) rfl) rfl))) (cFr.pr (cFr.sf (cFr.sf (cFr.sf cFr.refl rfl) rfl) rfl)))
theorem fr_c66_29 (s : cS) (y1 : Int32) (y2 : Int32) : cFr 5624283154906465964396867323194069108827710478239774923554816 0 0 8 s (c66_29 s y1 y2).1 := by unfold c66_29; exact (cFr.trans cFr.refl (cFr.mono (fr_c66_30 s y1 y2 0) rfl rfl rfl rfl))
theorem fr_c66 (s : cS) (x1 : Int32) : cFr 5624283154906465964396867323194069108827710478239774923554816 0 0 8 s (c66 s x1).1 := by unfold c66; exact (cFr.iteP (cFr.trans cFr.refl (cFr.mono (fr_c66_29 s x1 (c67 s x1)) rfl rfl rfl rfl)) (cFr.iteP (cFr.trans cFr.refl (cFr.mono (fr_c66_29 s x1 (c67 s x1)) rfl rfl rfl rfl)) (cFr.trans cFr.refl (cFr.mono (fr_c66_30 s x1 (c67 s x1) 1) rfl rfl rfl rfl))))
theorem fr_c62 (s : cS) : cFr 5624283154906465964396867655501068055056678704191591533445120 0 0 8 s (c62 s).1 := by unfold c62; exact (cFr.cb (cFr.trans (cFr.sf cFr.refl rfl) (cFr.mono (fr_c64 (nf s 7 6 (c63 s)) 1) rfl rfl rfl rfl)) (fun w9 => (cFr.pro (cFr.trans (cFr.trans (cFr.sf cFr.refl rfl) (cFr.mono (fr_c64 (nf s 7 6 (c63 s)) 1) rfl rfl rfl rfl)) (cFr.mono (fr_c66 ((c64 (nf s 7 6 (c63 s)) 1).1) w9) rfl rfl rfl rfl)))))
theorem fr_c76_15 (s : cS) (y1 : Int32) (y2 : Int32) : cFr 196608 0 0 0 s (c76_15 s y1 y2).1 := by unfold c76_15; exact (cFr.pr (cFr.sf (cFr.sf cFr.refl rfl) rfl))
theorem fr_c76 (s : cS) (x1 : Int32) (x2 : Int32) : cFr 196608 0 0 0 s (c76 s x1 x2).1 := by unfold c76; exact (cFr.iteP (cFr.trans cFr.refl (cFr.mono (fr_c76_15 s x1 x2) rfl rfl rfl rfl)) (cFr.iteP (cFr.pr cFr.refl) (cFr.trans cFr.refl (cFr.mono (fr_c76_15 s x1 x2) rfl rfl rfl rfl))))
theorem fr_c74_31 (s : cS) (z0 : Int32) : cFr 0 0 128 0 s (c74_31 s z0).1 := by unfold c74_31; exact (cFr.pr (cFr.sb cFr.refl rfl))
theorem fr_c74_20 (s : cS) (y1 : Int32) (y2 : Int32) : cFr 0 16384 128 0 s (c74_20 s y1 y2).1 := by unfold c74_20; exact (cFr.trans (cFr.tads cFr.refl rfl) (cFr.mono (fr_c74_31 ((tad s (.s 14) y1 y2 0 0).1) ((tad s (.s 14) y1 y2 0 0).2)) rfl rfl rfl rfl))
theorem fr_c74 (s : cS) (x1 : Int32) (x2 : Int32) (x3 : Int32) : cFr 196608 16384 128 0 s (c74 s x1 x2 x3).1 := by unfold c74; exact (cFr.iteP (cFr.trans cFr.refl (cFr.mono (fr_c74_20 s x1 x2) rfl rfl rfl rfl)) (cFr.trans (cFr.trans cFr.refl (cFr.mono (fr_c76 s 16 x3) rfl rfl rfl rfl)) (cFr.mono (fr_c74_20 ((c76 s 16 x3).1) x1 x2) rfl rfl rfl rfl)))
theorem fr_c78 (s : cS) (x1 : Int32) (x2 : Int32) (x3 : Int32) (x4 : Int32) : cFr 0 0 0 20 s (c78 s x1 x2 x3 x4).1 := by unfold c78; exact (cFr.pr (cFr.tadb cFr.refl rfl rfl))
theorem fr_c85_51 (s : cS) (y2 : Int32) (y3 : Int32) : cFr 196608 0 0 0 s (c85_51 s y2 y3).1 := by unfold c85_51; exact (cFr.iteP (cFr.pr cFr.refl) (cFr.iteP (cFr.pr cFr.refl) (cFr.pr (cFr.trans cFr.refl (cFr.mono (fr_c76 s 14 (tg s (.s 26) y2 1)) rfl rfl rfl rfl)))))
theorem fr_c85_30 (s : cS) (y1 : Nat) (y2 : Int32) (y3 : Int32) (y4 : Int32) : cFr 196608 0 0 4 s (c85_30 s y1 y2 y3 y4).1 := by unfold c85_30; exact (cFr.trans (cFr.tsb cFr.refl rfl) (cFr.mono (fr_c85_51 (ts s (.i y1) (y4 + 1) 1 (tg s (.s 24) y3 1)) y2 y3) rfl rfl rfl rfl))
theorem fr_c85 (s : cS) (x1 : Nat) (x2 : Int32) (x3 : Int32) : cFr 196608 0 0 4 s (c85 s x1 x2 x3).1 := by unfold c85; exact (cFr.trans (cFr.tsb cFr.refl rfl) (cFr.mono (fr_c85_30 (ts s (.i x1) (tg s (.s 26) x2 2) 1 (tg s (.s 24) x3 2)) x1 x2 x3 (tg s (.s 26) x2 2)) rfl rfl rfl rfl))
theorem fr_c87_54 (s : cS) (y1 : Int32) (y2 : Int32) (y3 : Int32) : cFr 0 67108864 0 0 s (c87_54 s y1 y2 y3).1 := by unfold c87_54; exact (cFr.pr (cFr.tss cFr.refl rfl))
theorem fr_c87_36 (s : cS) (y1 : Int32) (y2 : Int32) (y3 : Int32) : cFr 0 67108864 0 0 s (c87_36 s y1 y2 y3).1 := by unfold c87_36; exact (cFr.trans (cFr.tss cFr.refl rfl) (cFr.mono (fr_c87_54 (ts s (.s 26) y2 2 (tg s (.s 26) y1 2)) y1 y2 y3) rfl rfl rfl rfl))
theorem fr_c87_18 (s : cS) (y1 : Int32) (y2 : Int32) (y3 : Int32) : cFr 0 67108864 0 0 s (c87_18 s y1 y2 y3).1 := by unfold c87_18; exact (cFr.trans (cFr.tss cFr.refl rfl) (cFr.mono (fr_c87_36 (ts s (.s 26) y2 1 (tg s (.s 26) y1 1)) y1 y2 y3) rfl rfl rfl rfl))
theorem fr_c87 (s : cS) (x1 : Int32) (x2 : Int32) (x3 : Int32) : cFr 0 67108864 0 0 s (c87 s x1 x2 x3).1 := by unfold c87; exact (cFr.trans (cFr.tss cFr.refl rfl) (cFr.mono (fr_c87_18 (ts s (.s 26) x2 0 (tg s (.s 26) x1 0)) x1 x2 x3) rfl rfl rfl rfl))
theorem fr_c83b6 (y1 : Nat) (y2 : Int32) (y4 : Int32) (t : cS × Int32 × Int32) : cFr 196608 67108864 0 4 t.1 (c83b6 y1 y2 y4 t).2.1 := by unfold c83b6; exact (cFr.iteL1 cFr.refl (cFr.iteL1 (cFr.trans cFr.refl (cFr.mono (fr_c87 t.1 t.2.2 t.2.1 y4) rfl rfl rfl rfl)) (cFr.trans cFr.refl (cFr.mono (fr_c85 t.1 y1 t.2.2 (c84 t.1 (tg t.1 (.s 26) t.2.2 0) y2)) rfl rfl rfl rfl))))
theorem fr_c83_80 (s : cS) (y2 : Int32) : cFr 0 16777216 0 0 s (c83_80 s y2).1 := by unfold c83_80; exact (cFr.pr (cFr.tcts cFr.refl rfl))
theorem fr_c83 (s : cS) (x1 : Nat) (x2 : Int32) (x3 : Int32) (x4 : Int32) : cFr 196608 83886080 0 4 s (c83 s x1 x2 x3 x4).1 := by unfold c83; exact (cFr.trans (cFr.tcts (cFr.trans cFr.refl (cFr.mono (cfin_fr1 fun t => fr_c83b6 x1 x2 x4 t) rfl rfl rfl rfl)) rfl) (cFr.mono (fr_c83_80 (tct ((kfin (c83b6 x1 x2 x4) (s, x3, x3)).2.1) (.s 26) ((kfin (c83b6 x1 x2 x4) (s, x3, x3)).2.2.1)) x2) rfl rfl rfl rfl))
theorem fr_c81_59 (s : cS) (y1 : Int32) : cFr 0 65536 0 0 s (c81_59 s y1).1 := by unfold c81_59; exact (cFr.pr (cFr.tcts cFr.refl rfl))
theorem fr_c81_43 (s : cS) (y1 : Int32) : cFr 0 81920 0 0 s (c81_43 s y1).1 := by unfold c81_43; exact (cFr.trans (cFr.tcts cFr.refl rfl) (cFr.mono (fr_c81_59 (tct s (.s 14) (tg s (.s 16) y1 0)) y1) rfl rfl rfl rfl))
theorem fr_c81 (s : cS) : cFr 196608 83968000 0 4 s (c81 s).1 := by unfold c81; exact (cFr.trans (cFr.trans cFr.refl (cFr.mono (fr_c83 s s.now (tg s (.s 16) ((s.r (.s 16)) - 1) 1) (tg s (.s 16) ((s.r (.s 16)) - 1) 2) (c82 s)) rfl rfl rfl rfl)) (cFr.mono (fr_c81_43 ((c83 s s.now (tg s (.s 16) ((s.r (.s 16)) - 1) 1) (tg s (.s 16) ((s.r (.s 16)) - 1) 2) (c82 s)).1) ((s.r (.s 16)) - 1)) rfl rfl rfl rfl))
theorem fr_c88b2 (y1 : Int32) (t : cS × Int32) : cFr 196608 0 0 0 t.1 (c88b2 y1 t).2.1 := by unfold c88b2; exact (cFr.iteL1 cFr.refl (cFr.trans cFr.refl (cFr.mono (fr_c76 t.1 12 (tg t.1 (.s 26) t.2 1)) rfl rfl rfl rfl)))
theorem fr_c88 (s : cS) (x1 : Int32) : cFr 196608 67108864 0 0 s (c88 s x1).1 := by unfold c88; exact (cFr.pr (cFr.tcts (cFr.trans cFr.refl (cFr.mono (cfin_fr1 fun t => fr_c88b2 x1 t) rfl rfl rfl rfl)) rfl))
theorem fr_c80_18 (s : cS) : cFr 822752278660603021077484591278675252491367932816789931674304512 0 0 1 s (c80_18 s).1 := by unfold c80_18; exact (cFr.iteP (cFr.pr cFr.refl) (cFr.pr (cFr.sn (cFr.sf cFr.refl rfl) rfl)))
theorem fr_c80_4 (s : cS) : cFr 822752278660603021077484591278675252491367932816789931674501120 67108864 0 1 s (c80_4 s).1 := by unfold c80_4; exact (cFr.trans (cFr.trans cFr.refl (cFr.mono (fr_c88 s (s.b s.now 11)) rfl rfl rfl rfl)) (cFr.mono (fr_c80_18 ((c88 s (s.b s.now 11)).1)) rfl rfl rfl rfl))
theorem fr_c80 (s : cS) : cFr 822752278660603021077484591278675252491367932816789931674501120 83968000 0 5 s (c80 s).1 := by unfold c80; exact (cFr.trans (cFr.trans cFr.refl (cFr.mono (fr_c81 s) rfl rfl rfl rfl)) (cFr.mono (fr_c80_4 ((c81 s).1)) rfl rfl rfl rfl))
theorem fr_c99 (s : cS) (x1 : Int32) (x2 : Int32) : cFr 0 0 0 4 s (c99 s x1 x2).1 := by unfold c99; exact (cFr.pr (cFr.tsb cFr.refl rfl))
theorem fr_c96 (s : cS) : cFr 0 0 0 4 s (c96 s).1 := by unfold c96; exact (cFr.iteP (cFr.pr (cFr.trans cFr.refl (cFr.mono (fr_c99 s 1 4) rfl rfl rfl rfl))) (cFr.pr (cFr.tsb cFr.refl rfl)))
theorem fr_c100 (s : cS) (x1 : Int32) : cFr 0 0 0 20 s (c100 s x1).1 := by unfold c100; exact (cFr.iteP (cFr.iteP (cFr.iteP (cFr.pr cFr.refl) (cFr.pr (cFr.trans cFr.refl (cFr.mono (fr_c78 s 11 0 0 (s.f 7 6)) rfl rfl rfl rfl)))) (cFr.pr (cFr.trans cFr.refl (cFr.mono (fr_c78 s 12 (s.f 7 7) 0 (s.f 7 6)) rfl rfl rfl rfl)))) (cFr.pr (cFr.trans cFr.refl (cFr.mono (fr_c78 s (c101 s) (c102 s) 0 (s.f 7 6)) rfl rfl rfl rfl))))
theorem fr_c103_203 (s : cS) (y2 : Int32) (z0 : Int32) : cFr 0 0 0 0 s (c103_203 s y2 z0).1 := by unfold c103_203; exact (cFr.iteO (cFr.pro cFr.refl) (cFr.pro cFr.refl))
theorem fr_c103_196 (s : cS) (y2 : Int32) : cFr 51539804160 0 0 0 s (c103_196 s y2).1 := by unfold c103_196; exact (cFr.cb (cFr.trans cFr.refl (cFr.mono (fr_c55 s) rfl rfl rfl rfl)) (fun w4 => (cFr.trans (cFr.trans cFr.refl (cFr.mono (fr_c55 s) rfl rfl rfl rfl)) (cFr.mono (fr_c103_203 ((c55 s).1) y2 w4) rfl rfl rfl rfl))))
theorem fr_c103_127 (s : cS) (y2 : Int32) (z0 : Int32) : cFr 51539804160 0 0 0 s (c103_127 s y2 z0).1 := by unfold c103_127; exact (cFr.trans cFr.refl (cFr.mono (fr_c103_196 s y2) rfl rfl rfl rfl))
theorem fr_c103_146 (s : cS) (y2 : Int32) (z0 : Int32) : cFr 51539804160 0 0 0 s (c103_146 s y2 z0).1 := by unfold c103_146; exact (cFr.trans cFr.refl (cFr.mono (fr_c103_196 s y2) rfl rfl rfl rfl))
theorem fr_c103_96 (s : cS) (y2 : Int32) (z0 : Int32) : cFr 51539804160 0 0 0 s (c103_96 s y2 z0).1 := by unfold c103_96; exact (cFr.trans cFr.refl (cFr.mono (fr_c103_196 s y2) rfl rfl rfl rfl))
theorem fr_c103_84 (s : cS) (y2 : Int32) (z0 : Int32) : cFr 51539804160 0 0 0 s (c103_84 s y2 z0).1 := by unfold c103_84; exact (cFr.trans cFr.refl (cFr.mono (fr_c103_196 s y2) rfl rfl rfl rfl))
theorem fr_c103_108 (s : cS) (y2 : Int32) (z0 : Int32) : cFr 51539804160 0 0 0 s (c103_108 s y2 z0).1 := by unfold c103_108; exact (cFr.trans cFr.refl (cFr.mono (fr_c103_196 s y2) rfl rfl rfl rfl))
theorem fr_c103_182 (s : cS) (y2 : Int32) (z0 : Int32) : cFr 51539804160 0 0 0 s (c103_182 s y2 z0).1 := by unfold c103_182; exact (cFr.trans cFr.refl (cFr.mono (fr_c103_196 s y2) rfl rfl rfl rfl))
theorem fr_c103_173 (s : cS) (y2 : Int32) : cFr 51539804160 0 0 20 s (c103_173 s y2).1 := by unfold c103_173; exact (cFr.trans (cFr.trans cFr.refl (cFr.mono (fr_c78 s 6 0 1 0) rfl rfl rfl rfl)) (cFr.mono (fr_c103_182 ((c78 s 6 0 1 0).1) y2 ((c78 s 6 0 1 0).2)) rfl rfl rfl rfl))
theorem fr_c103 (s : cS) : cFr 51539804160 0 0 20 s (c103 s).1 := by unfold c103; exact (cFr.iteO (cFr.trans (cFr.trans cFr.refl (cFr.mono (fr_c78 s 4 (c104 s (c63 s)) 0 0) rfl rfl rfl rfl)) (cFr.mono (fr_c103_127 ((c78 s 4 (c104 s (c63 s)) 0 0).1) (c53 s) ((c78 s 4 (c104 s (c63 s)) 0 0).2)) rfl rfl rfl rfl)) (cFr.iteO (cFr.trans (cFr.trans cFr.refl (cFr.mono (fr_c78 s 5 (c104 s (c63 s)) 0 0) rfl rfl rfl rfl)) (cFr.mono (fr_c103_146 ((c78 s 5 (c104 s (c63 s)) 0 0).1) (c53 s) ((c78 s 5 (c104 s (c63 s)) 0 0).2)) rfl rfl rfl rfl)) (cFr.iteO (cFr.trans (cFr.trans cFr.refl (cFr.mono (fr_c78 s 2 0 0 0) rfl rfl rfl rfl)) (cFr.mono (fr_c103_96 ((c78 s 2 0 0 0).1) (c53 s) ((c78 s 2 0 0 0).2)) rfl rfl rfl rfl)) (cFr.iteO (cFr.trans (cFr.trans cFr.refl (cFr.mono (fr_c78 s 1 0 0 0) rfl rfl rfl rfl)) (cFr.mono (fr_c103_84 ((c78 s 1 0 0 0).1) (c53 s) ((c78 s 1 0 0 0).2)) rfl rfl rfl rfl)) (cFr.iteO (cFr.trans (cFr.trans cFr.refl (cFr.mono (fr_c78 s 3 0 0 0) rfl rfl rfl rfl)) (cFr.mono (fr_c103_108 ((c78 s 3 0 0 0).1) (c53 s) ((c78 s 3 0 0 0).2)) rfl rfl rfl rfl)) (cFr.iteO (cFr.iteO (cFr.trans cFr.refl (cFr.mono (fr_c103_173 s (c53 s)) rfl rfl rfl rfl)) (cFr.trans (cFr.trans cFr.refl (cFr.mono (fr_c76 s 15 (c63 s)) rfl rfl rfl rfl)) (cFr.mono (fr_c103_173 ((c76 s 15 (c63 s)).1) (c53 s)) rfl rfl rfl rfl))) (cFr.cb (cFr.trans cFr.refl (cFr.mono (fr_c58 s 7 (c63 s)) rfl rfl rfl rfl)) (fun w44 => (cFr.trans (cFr.trans cFr.refl (cFr.mono (fr_c58 s 7 (c63 s)) rfl rfl rfl rfl)) (cFr.mono (fr_c103_196 ((c58 s 7 (c63 s)).1) (c53 s)) rfl rfl rfl rfl))))))))))
theorem fr_c109 (s : cS) (x0 : Nat) (x1 : Int32) (x2 : Int32) : cFr 0 0 0 4 s (c109 s x0 x1 x2).1 := by unfold c109; exact (cFr.pr (cFr.tsb cFr.refl rfl))
theorem fr_c108b10 (y1 : Int32) (y2 : Int32) (t : cS × Int32) : cFr 0 256 0 20 t.1 (c108b10 y1 y2 t).2.1 := by unfold c108b10; exact (cFr.iteL1 cFr.refl (cFr.iteL1 cFr.refl (cFr.iteL1 (cFr.tcts (cFr.trans cFr.refl (cFr.mono (fr_c109 t.1 t.1.now (tg t.1 (.s 8) t.2 3) 1) rfl rfl rfl rfl)) rfl) (cFr.iteL1 (cFr.iteL1 (cFr.iteL1 (cFr.tcts (cFr.trans cFr.refl (cFr.mono (fr_c78 t.1 19 (tg t.1 (.s 8) t.2 1) 0 (tg t.1 (.s 8) t.2 2)) rfl rfl rfl rfl)) rfl) (cFr.tcts (cFr.trans cFr.refl (cFr.mono (fr_c78 t.1 18 (tg t.1 (.s 8) t.2 1) 0 (tg t.1 (.s 8) t.2 2)) rfl rfl rfl rfl)) rfl)) (cFr.tcts (cFr.trans cFr.refl (cFr.mono (fr_c78 t.1 17 0 0 (tg t.1 (.s 8) t.2 2)) rfl rfl rfl rfl)) rfl)) (cFr.tcts (cFr.trans cFr.refl (cFr.mono (fr_c109 t.1 t.1.now (tg t.1 (.s 8) t.2 3) 1) rfl rfl rfl rfl)) rfl)))))
theorem fr_c108 (s : cS) (x1 : Int32) (x2 : Int32) : cFr 0 256 0 20 s (c108 s x1 x2).1 := by unfold c108; exact (cFr.pr (cFr.trans cFr.refl (cFr.mono (cfin_fr1 fun t => fr_c108b10 x1 x2 t) rfl rfl rfl rfl)))
theorem fr_c105_96 (s : cS) (z0 : Int32) : cFr 51539804160 0 0 0 s (c105_96 s z0).1 := by unfold c105_96; exact (cFr.cb (cFr.trans cFr.refl (cFr.mono (fr_c55 s) rfl rfl rfl rfl)) (fun w4 => (cFr.pro (cFr.trans cFr.refl (cFr.mono (fr_c55 s) rfl rfl rfl rfl)))))
theorem fr_c105_78 (s : cS) (y2 : Int32) (y3 : Int32) (y4 : Int32) : cFr 51539804160 256 0 0 s (c105_78 s y2 y3 y4).1 := by unfold c105_78; exact (cFr.trans (cFr.tads cFr.refl rfl) (cFr.mono (fr_c105_96 ((tad s (.s 8) y3 y2 (c63 s) y4).1) ((tad s (.s 8) y3 y2 (c63 s) y4).2)) rfl rfl rfl rfl))
theorem fr_c105_76 (s : cS) (y2 : Int32) (y3 : Int32) (z0 : Int32) : cFr 51539804160 256 0 0 s (c105_76 s y2 y3 z0).1 := by unfold c105_76; exact (cFr.trans cFr.refl (cFr.mono (fr_c105_78 s y2 y3 z0) rfl rfl rfl rfl))
theorem fr_c105_56 (s : cS) (y2 : Int32) (y3 : Int32) (z0 : Int32) : cFr 51539804160 256 0 0 s (c105_56 s y2 y3 z0).1 := by unfold c105_56; exact (cFr.trans cFr.refl (cFr.mono (fr_c105_78 s y2 y3 z0) rfl rfl rfl rfl))
theorem fr_c105_38 (s : cS) (y2 : Int32) (y3 : Int32) : cFr 51539804160 256 0 20 s (c105_38 s y2 y3).1 := by unfold c105_38; exact (cFr.iteO (cFr.iteO (cFr.trans cFr.refl (cFr.mono (fr_c105_78 s y2 y3 (-1)) rfl rfl rfl rfl)) (cFr.trans (cFr.trans cFr.refl (cFr.mono (fr_c78 s 16 0 0 0) rfl rfl rfl rfl)) (cFr.mono (fr_c105_76 ((c78 s 16 0 0 0).1) y2 y3 ((c78 s 16 0 0 0).2)) rfl rfl rfl rfl))) (cFr.trans (cFr.trans cFr.refl (cFr.mono (fr_c78 s 15 0 0 0) rfl rfl rfl rfl)) (cFr.mono (fr_c105_56 ((c78 s 15 0 0 0).1) y2 y3 ((c78 s 15 0 0 0).2)) rfl rfl rfl rfl)))
theorem fr_c105_35 (s : cS) (y2 : Int32) (y3 : Int32) (z0 : Int32) (z1 : Int32) : cFr 51539804160 256 0 20 s (c105_35 s y2 y3 z0 z1).1 := by unfold c105_35; exact (cFr.trans (cFr.trans cFr.refl (cFr.mono (fr_c108 s z1 z0) rfl rfl rfl rfl)) (cFr.mono (fr_c105_38 ((c108 s z1 z0).1) y2 y3) rfl rfl rfl rfl))
theorem fr_c105 (s : cS) (x1 : Int32) : cFr 51539804160 256 0 20 s (c105 s x1).1 := by unfold c105; exact (cFr.iteO (cFr.iteO (cFr.trans cFr.refl (cFr.mono (fr_c105_35 s (c53 s) (c106 s (c53 s)) (c106 s (c53 s)) x1) rfl rfl rfl rfl)) (cFr.trans cFr.refl (cFr.mono (fr_c105_35 s (c53 s) (c106 s (c53 s)) ((c106 s (c53 s)) + 1) x1) rfl rfl rfl rfl))) (cFr.pro cFr.refl))
theorem fr_c110_25 (s : cS) (y1 : Int32) (z0 : Int32) : cFr 996920996838686904677855295210258432 0 0 0 s (c110_25 s y1 z0).1 := by unfold c110_25; exact (cFr.pro (cFr.sf (cFr.sf cFr.refl rfl) rfl))
theorem fr_c110_15 (s : cS) (y1 : Int32) (z0 : Int32) : cFr 996920996838686904677855346750062592 0 0 0 s (c110_15 s y1 z0).1 := by unfold c110_15; exact (cFr.cb (cFr.trans cFr.refl (cFr.mono (fr_c64 s 1) rfl rfl rfl rfl)) (fun w4 => (cFr.trans (cFr.trans cFr.refl (cFr.mono (fr_c64 s 1) rfl rfl rfl rfl)) (cFr.mono (fr_c110_25 ((c64 s 1).1) y1 w4) rfl rfl rfl rfl))))
theorem fr_c110 (s : cS) : cFr 996920996838686904677855346750062592 0 0 0 s (c110 s).1 := by unfold c110; exact (cFr.cb (cFr.trans cFr.refl (cFr.mono (fr_c55 s) rfl rfl rfl rfl)) (fun w7 => (cFr.trans (cFr.trans cFr.refl (cFr.mono (fr_c55 s) rfl rfl rfl rfl)) (cFr.mono (fr_c110_15 ((c55 s).1) (c63 s) w7) rfl rfl rfl rfl))))
theorem fr_c114 (s : cS) (x1 : Int32) : cFr 196608 0 0 0 s (c114 s x1).1 := by unfold c114; exact (cFr.iteP (cFr.pr cFr.refl) (cFr.pr (cFr.trans cFr.refl (cFr.mono (fr_c76 s 10 x1) rfl rfl rfl rfl))))
theorem fr_c113_36 (s : cS) : cFr 0 1024 0 0 s (c113_36 s).1 := by unfold c113_36; exact (cFr.pro (cFr.tads cFr.refl rfl))
theorem fr_c113_80 (s : cS) (z0 : Int32) : cFr 0 1024 0 0 s (c113_80 s z0).1 := by unfold c113_80; exact (cFr.pro (cFr.tads cFr.refl rfl))
theorem fr_c113 (s : cS) (x1 : Int32) : cFr 196608 1024 0 20 s (c113 s x1).1 := by unfold c113; exact (cFr.iteO (cFr.trans (cFr.trans cFr.refl (cFr.mono (fr_c114 s (s.f 7 6)) rfl rfl rfl rfl)) (cFr.mono (fr_c113_36 ((c114 s (s.f 7 6)).1)) rfl rfl rfl rfl)) (cFr.iteO (cFr.trans (cFr.trans cFr.refl (cFr.mono (fr_c78 s 5 (s.f 7 7) 0 0) rfl rfl rfl rfl)) (cFr.mono (fr_c113_80 ((c78 s 5 (s.f 7 7) 0 0).1) ((c78 s 5 (s.f 7 7) 0 0).2)) rfl rfl rfl rfl)) (cFr.iteO (cFr.pro (cFr.tads cFr.refl rfl)) (cFr.cb (cFr.trans cFr.refl (cFr.mono (fr_c58 s 7 (c63 s)) rfl rfl rfl rfl)) (fun w19 => (cFr.pro (cFr.trans cFr.refl (cFr.mono (fr_c58 s 7 (c63 s)) rfl rfl rfl rfl))))))))
theorem fr_c117b37 (y1 : Int32) (y2 : Int32) (t : cS × Int32) : cFr 0 0 0 20 t.1 (c117b37 y1 y2 t).2.1 := by unfold c117b37; exact (cFr.iteL1 cFr.refl (cFr.trans cFr.refl (cFr.mono (fr_c78 t.1 1 0 0 0) rfl rfl rfl rfl)))
theorem fr_c117_35 (s : cS) (y1 : Int32) (y2 : Int32) : cFr 0 0 0 20 s (c117_35 s y1 y2).1 := by unfold c117_35; exact (cFr.iteP (cFr.pr (cFr.trans cFr.refl (cFr.mono (cfin_fr1 fun t => fr_c117b37 y1 y2 t) rfl rfl rfl rfl))) (cFr.pr (cFr.trans (cFr.trans cFr.refl (cFr.mono (cfin_fr1 fun t => fr_c117b37 y1 y2 t) rfl rfl rfl rfl)) (cFr.mono (fr_c78 ((kfin (c117b37 y1 y2) (s, y2)).2.1) 26 (y2 - y1) 0 0) rfl rfl rfl rfl))))
theorem fr_c117_20 (s : cS) (y1 : Int32) (y2 : Int32) : cFr 0 0 0 20 s (c117_20 s y1 y2).1 := by unfold c117_20; exact (cFr.pr (cFr.trans cFr.refl (cFr.mono (fr_c78 s 25 ((y1 - y2) + 1) 0 0) rfl rfl rfl rfl)))
theorem fr_c117 (s : cS) (x1 : Int32) (x2 : Int32) : cFr 0 0 0 20 s (c117 s x1 x2).1 := by unfold c117; exact (cFr.iteP (cFr.trans cFr.refl (cFr.mono (fr_c117_35 s x1 x2) rfl rfl rfl rfl)) (cFr.iteP (cFr.trans cFr.refl (cFr.mono (fr_c117_35 s x1 x2) rfl rfl rfl rfl)) (cFr.iteP (cFr.trans cFr.refl (cFr.mono (fr_c117_35 s x1 x2) rfl rfl rfl rfl)) (cFr.trans (cFr.trans cFr.refl (cFr.mono (fr_c96 s) rfl rfl rfl rfl)) (cFr.mono (fr_c117_20 ((c96 s).1) x1 x2) rfl rfl rfl rfl)))))
theorem fr_c118b12_54 (s : cS) (y1 : Int32) (y2 : Int32) (y3 : Int32) (y4 : Int32) : cFr 0 0 0 20 s (c118b12_54 s y1 y2 y3 y4).2.1 := by unfold c118b12_54; exact (cFr.trans cFr.refl (cFr.mono (fr_c78 s (tg s (.s 10) y3 0) y4 0 (tg s (.s 10) y3 2)) rfl rfl rfl rfl))
theorem fr_c118b12 (y1 : Int32) (t : cS × Int32 × Int32) : cFr 0 0 0 20 t.1 (c118b12 y1 t).2.1 := by unfold c118b12; exact (cFr.iteL1 cFr.refl (cFr.iteL1 (cFr.trans cFr.refl (cFr.mono (fr_c118b12_54 t.1 y1 t.2.1 t.2.2 (tg t.1 (.s 10) t.2.2 1)) rfl rfl rfl rfl)) (cFr.trans cFr.refl (cFr.mono (fr_c118b12_54 t.1 y1 (t.2.1 + 1) t.2.2 (((2 * t.2.1) + t.2.2) - y1)) rfl rfl rfl rfl))))
theorem fr_c118_102 (s : cS) (y1 : Int32) : cFr 0 1024 0 0 s (c118_102 s y1).1 := by unfold c118_102; exact (cFr.pr (cFr.tcts cFr.refl rfl))
theorem fr_c118_101 (s : cS) (y1 : Int32) (z0 : Int32) : cFr 0 1024 0 0 s (c118_101 s y1 z0).1 := by unfold c118_101; exact (cFr.trans cFr.refl (cFr.mono (fr_c118_102 s y1) rfl rfl rfl rfl))
theorem fr_c118 (s : cS) (x1 : Int32) : cFr 0 1024 0 20 s (c118 s x1).1 := by unfold c118; exact (cFr.iteP (cFr.trans (cFr.trans cFr.refl (cFr.mono (cfin_fr1 fun t => fr_c118b12 x1 t) rfl rfl rfl rfl)) (cFr.mono (fr_c118_102 ((kfin (c118b12 x1) (s, 0, (s.r (.s 10)) - 1)).2.1) x1) rfl rfl rfl rfl)) (cFr.trans (cFr.trans (cFr.trans cFr.refl (cFr.mono (cfin_fr1 fun t => fr_c118b12 x1 t) rfl rfl rfl rfl)) (cFr.mono (fr_c78 ((kfin (c118b12 x1) (s, 0, (s.r (.s 10)) - 1)).2.1) 26 (2 * ((kfin (c118b12 x1) (s, 0, (s.r (.s 10)) - 1)).2.2.1)) 0 0) rfl rfl rfl rfl)) (cFr.mono (fr_c118_101 ((c78 ((kfin (c118b12 x1) (s, 0, (s.r (.s 10)) - 1)).2.1) 26 (2 * ((kfin (c118b12 x1) (s, 0, (s.r (.s 10)) - 1)).2.2.1)) 0 0).1) x1 ((c78 ((kfin (c118b12 x1) (s, 0, (s.r (.s 10)) - 1)).2.1) 26 (2 * ((kfin (c118b12 x1) (s, 0, (s.r (.s 10)) - 1)).2.2.1)) 0 0).2)) rfl rfl rfl rfl)))
theorem fr_c122 (s : cS) (x1 : Int32) (x2 : Int32) (x3 : Int32) (x4 : Int32) : cFr 0 16777216 0 0 s (c122 s x1 x2 x3 x4).1 := by unfold c122; exact (cFr.iteP (cFr.pr (cFr.tads cFr.refl rfl)) (cFr.pr (cFr.tads cFr.refl rfl)))
theorem fr_c119_69 (s : cS) (y2 : Int32) : cFr 0 16777216 0 0 s (c119_69 s y2).1 := by unfold c119_69; exact (cFr.pro (cFr.trans cFr.refl (cFr.mono (fr_c122 s y2 (c98 s) (c75 s) (c120 s)) rfl rfl rfl rfl)))
theorem fr_c119_34 (s : cS) (y1 : Int32) (y2 : Int32) (z0 : Int32) : cFr 196608 16777216 0 0 s (c119_34 s y1 y2 z0).1 := by unfold c119_34; exact (cFr.iteO (cFr.trans cFr.refl (cFr.mono (fr_c119_69 s y2) rfl rfl rfl rfl)) (cFr.trans (cFr.trans cFr.refl (cFr.mono (fr_c76 s 13 y1) rfl rfl rfl rfl)) (cFr.mono (fr_c119_69 ((c76 s 13 y1).1) y2) rfl rfl rfl rfl)))
theorem fr_c119_24 (s : cS) (y1 : Int32) (z0 : Int32) : cFr 51539804160 16777216 0 0 s (c119_24 s y1 z0).1 := by unfold c119_24; exact (cFr.cb (cFr.trans cFr.refl (cFr.mono (fr_c64 s 66) rfl rfl rfl rfl)) (fun w4 => (cFr.trans (cFr.trans cFr.refl (cFr.mono (fr_c64 s 66) rfl rfl rfl rfl)) (cFr.mono (fr_c119_34 ((c64 s 66).1) y1 z0 w4) rfl rfl rfl rfl))))
theorem fr_c119_7 (s : cS) (z0 : Int32) : cFr 51539804160 16777216 0 0 s (c119_7 s z0).1 := by unfold c119_7; exact (cFr.cb (cFr.trans cFr.refl (cFr.mono (fr_c64 s 1) rfl rfl rfl rfl)) (fun w7 => (cFr.trans (cFr.trans cFr.refl (cFr.mono (fr_c64 s 1) rfl rfl rfl rfl)) (cFr.mono (fr_c119_24 ((c64 s 1).1) (c63 s) w7) rfl rfl rfl rfl))))
theorem fr_c119 (s : cS) : cFr 51539804160 16777216 0 0 s (c119 s).1 := by unfold c119; exact (cFr.cb (cFr.trans cFr.refl (cFr.mono (fr_c55 s) rfl rfl rfl rfl)) (fun w4 => (cFr.trans (cFr.trans cFr.refl (cFr.mono (fr_c55 s) rfl rfl rfl rfl)) (cFr.mono (fr_c119_7 ((c55 s).1) w4) rfl rfl rfl rfl))))
theorem fr_c125 (s : cS) (x1 : Int32) : cFr 0 1073741824 0 0 s (c125 s x1).1 := by unfold c125; exact (cFr.pr (cFr.tads cFr.refl rfl))
theorem fr_c123_82 (s : cS) : cFr 0 1073741824 0 20 s (c123_82 s).1 := by unfold c123_82; exact (cFr.pro (cFr.trans (cFr.trans cFr.refl (cFr.mono (fr_c78 s 36 0 0 0) rfl rfl rfl rfl)) (cFr.mono (fr_c125 ((c78 s 36 0 0 0).1) ((c78 s 36 0 0 0).2)) rfl rfl rfl rfl)))
theorem fr_c123_81 (s : cS) (z0 : Int32) : cFr 0 1073741824 0 20 s (c123_81 s z0).1 := by unfold c123_81; exact (cFr.trans cFr.refl (cFr.mono (fr_c123_82 s) rfl rfl rfl rfl))
theorem fr_c123_15 (s : cS) (y1 : Int32) (z0 : Int32) : cFr 196608 1073741824 0 20 s (c123_15 s y1 z0).1 := by unfold c123_15; exact (cFr.iteO (cFr.iteO (cFr.trans cFr.refl (cFr.mono (fr_c123_82 s) rfl rfl rfl rfl)) (cFr.trans (cFr.trans cFr.refl (cFr.mono (fr_c78 s 33 (c124 s) 0 0) rfl rfl rfl rfl)) (cFr.mono (fr_c123_81 ((c78 s 33 (c124 s) 0 0).1) ((c78 s 33 (c124 s) 0 0).2)) rfl rfl rfl rfl))) (cFr.pro (cFr.trans cFr.refl (cFr.mono (fr_c76 s 11 y1) rfl rfl rfl rfl))))
theorem fr_c123 (s : cS) : cFr 51539804160 1073741824 0 20 s (c123 s).1 := by unfold c123; exact (cFr.cb (cFr.trans cFr.refl (cFr.mono (fr_c55 s) rfl rfl rfl rfl)) (fun w7 => (cFr.trans (cFr.trans cFr.refl (cFr.mono (fr_c55 s) rfl rfl rfl rfl)) (cFr.mono (fr_c123_15 ((c55 s).1) (c63 s) w7) rfl rfl rfl rfl))))
theorem fr_c127 (s : cS) (x1 : Int32) (x2 : Int32) (x3 : Int32) (x4 : Int32) : cFr 0 67108864 0 0 s (c127 s x1 x2 x3 x4).1 := by unfold c127; exact (cFr.pr (cFr.tads cFr.refl rfl))
theorem fr_c126_54 (s : cS) (y1 : Int32) (y2 : Int32) (y3 : Int32) (z0 : Int32) : cFr 0 67108864 0 0 s (c126_54 s y1 y2 y3 z0).1 := by unfold c126_54; exact (cFr.pro (cFr.trans cFr.refl (cFr.mono (fr_c127 s y2 y1 y3 (c75 s)) rfl rfl rfl rfl)))
theorem fr_c126_44 (s : cS) (y1 : Int32) (y2 : Int32) (z0 : Int32) : cFr 0 67108864 0 20 s (c126_44 s y1 y2 z0).1 := by unfold c126_44; exact (cFr.trans (cFr.trans cFr.refl (cFr.mono (fr_c78 s 36 0 0 0) rfl rfl rfl rfl)) (cFr.mono (fr_c126_54 ((c78 s 36 0 0 0).1) y1 y2 z0 ((c78 s 36 0 0 0).2)) rfl rfl rfl rfl))
theorem fr_c126_34 (s : cS) (y1 : Int32) (y2 : Int32) (z0 : Int32) : cFr 0 67108864 0 20 s (c126_34 s y1 y2 z0).1 := by unfold c126_34; exact (cFr.trans (cFr.trans cFr.refl (cFr.mono (fr_c78 s 33 0 0 0) rfl rfl rfl rfl)) (cFr.mono (fr_c126_44 ((c78 s 33 0 0 0).1) y1 y2 ((c78 s 33 0 0 0).2)) rfl rfl rfl rfl))
theorem fr_c126_24 (s : cS) (y1 : Int32) (z0 : Int32) : cFr 0 67108864 0 20 s (c126_24 s y1 z0).1 := by unfold c126_24; exact (cFr.trans (cFr.trans cFr.refl (cFr.mono (fr_c78 s 34 0 0 y1) rfl rfl rfl rfl)) (cFr.mono (fr_c126_34 ((c78 s 34 0 0 y1).1) y1 z0 ((c78 s 34 0 0 y1).2)) rfl rfl rfl rfl))
theorem fr_c126_15 (s : cS) (y1 : Int32) (z0 : Int32) : cFr 51539804160 67108864 0 20 s (c126_15 s y1 z0).1 := by unfold c126_15; exact (cFr.cb (cFr.trans cFr.refl (cFr.mono (fr_c64 s 1) rfl rfl rfl rfl)) (fun w4 => (cFr.trans (cFr.trans cFr.refl (cFr.mono (fr_c64 s 1) rfl rfl rfl rfl)) (cFr.mono (fr_c126_24 ((c64 s 1).1) y1 w4) rfl rfl rfl rfl))))
theorem fr_c126 (s : cS) : cFr 51539804160 67108864 0 20 s (c126 s).1 := by unfold c126; exact (cFr.cb (cFr.trans cFr.refl (cFr.mono (fr_c55 s) rfl rfl rfl rfl)) (fun w7 => (cFr.trans (cFr.trans cFr.refl (cFr.mono (fr_c55 s) rfl rfl rfl rfl)) (cFr.mono (fr_c126_15 ((c55 s).1) (c63 s) w7) rfl rfl rfl rfl))))
theorem fr_c131 (s : cS) (x1 : Int32) : cFr 0 268435456 0 0 s (c131 s x1).1 := by unfold c131; exact (cFr.pr (cFr.tads cFr.refl rfl))
theorem fr_c132b20 (y1 : Nat) (y2 : Int32) (t : cS × Int32) : cFr 0 0 0 4 t.1 (c132b20 y1 y2 t).2.1 := by unfold c132b20; exact (cFr.iteL1 cFr.refl (cFr.trans cFr.refl (cFr.mono (fr_c109 t.1 y1 (tg t.1 (.s 30) t.2 0) 1) rfl rfl rfl rfl)))
theorem fr_c132_59 (s : cS) : cFr 0 268435456 0 0 s (c132_59 s).1 := by unfold c132_59; exact (cFr.pr (cFr.tcts cFr.refl rfl))
theorem fr_c132 (s : cS) (x1 : Nat) : cFr 0 1342177280 0 4 s (c132 s x1).1 := by unfold c132; exact (cFr.trans (cFr.tcts (cFr.trans cFr.refl (cFr.mono (cfin_fr1 fun t => fr_c132b20 x1 (tg s (.s 28) ((s.r (.s 28)) - 1) 1) t) rfl rfl rfl rfl)) rfl) (cFr.mono (fr_c132_59 (tct ((kfin (c132b20 x1 (tg s (.s 28) ((s.r (.s 28)) - 1) 1)) (s, tg s (.s 28) ((s.r (.s 28)) - 1) 1)).2.1) (.s 30) (tg s (.s 28) ((s.r (.s 28)) - 1) 1))) rfl rfl rfl rfl))
theorem fr_c136_9 (s : cS) (y1 : Int32) (z0 : Int32) : cFr 0 0 0 4 s (c136_9 s y1 z0).1 := by unfold c136_9; exact (cFr.pr (cFr.trans cFr.refl (cFr.mono (fr_c109 s s.now y1 1) rfl rfl rfl rfl)))
theorem fr_c136 (s : cS) (x1 : Int32) (x2 : Int32) : cFr 0 0 0 20 s (c136 s x1 x2).1 := by unfold c136; exact (cFr.trans (cFr.trans cFr.refl (cFr.mono (fr_c78 s 36 x2 0 0) rfl rfl rfl rfl)) (cFr.mono (fr_c136_9 ((c78 s 36 x2 0 0).1) x1 ((c78 s 36 x2 0 0).2)) rfl rfl rfl rfl))
theorem fr_c137b4 (t : cS × Int32 × Int32) : cFr 0 0 0 4 t.1 (c137b4 t).2.1 := by unfold c137b4; exact (cFr.iteL1 cFr.refl (cFr.iteL1 cFr.refl (cFr.trans cFr.refl (cFr.mono (fr_c109 t.1 t.1.now t.2.1 1) rfl rfl rfl rfl))))
theorem fr_c137 (s : cS) (x1 : Int32) : cFr 0 0 0 4 s (c137 s x1).1 := by unfold c137; exact (cFr.pr (cFr.trans cFr.refl (cFr.mono (cfin_fr1 fun t => fr_c137b4 t) rfl rfl rfl rfl)))
theorem fr_c141 (s : cS) (x1 : Int32) : cFr 0 16384 0 0 s (c141 s x1).1 := by unfold c141; exact (cFr.pr (cFr.tss cFr.refl rfl))
theorem fr_c140b19 (y1 : Int32) (y2 : Int32) (y3 : Int32) (y4 : Int32) (t : cS × Int32) : cFr 196608 16384 128 0 t.1 (c140b19 y1 y2 y3 y4 t).2.1 := by unfold c140b19; exact (cFr.iteL1 cFr.refl (cFr.trans cFr.refl (cFr.mono (fr_c74 t.1 0 0 y3) rfl rfl rfl rfl)))
theorem fr_c140_49 (s : cS) (y4 : Int32) : cFr 0 268435456 0 0 s (c140_49 s y4).1 := by unfold c140_49; exact (cFr.pr (cFr.trans cFr.refl (cFr.mono (fr_c131 s (c75 s)) rfl rfl rfl rfl)))
theorem fr_c140_16 (s : cS) (y1 : Int32) (y2 : Int32) (y3 : Int32) (y4 : Int32) : cFr 196608 268451840 128 0 s (c140_16 s y1 y2 y3 y4).1 := by unfold c140_16; exact (cFr.trans (cFr.trans (cFr.trans cFr.refl (cFr.mono (cfin_fr1 fun t => fr_c140b19 y1 y2 y3 y4 t) rfl rfl rfl rfl)) (cFr.mono (fr_c141 ((kfin (c140b19 y1 y2 y3 y4) (s, 0)).2.1) y2) rfl rfl rfl rfl)) (cFr.mono (fr_c140_49 ((c141 ((kfin (c140b19 y1 y2 y3 y4) (s, 0)).2.1) y2).1) y4) rfl rfl rfl rfl))
theorem fr_c140 (s : cS) (x1 : Int32) (x2 : Int32) (x3 : Int32) : cFr 196608 268517376 128 0 s (c140 s x1 x2 x3).1 := by unfold c140; exact (cFr.trans (cFr.trans cFr.refl (cFr.mono (fr_c51 s) rfl rfl rfl rfl)) (cFr.mono (fr_c140_16 ((c51 s).1) x1 x2 x3 (c75 s)) rfl rfl rfl rfl))
theorem fr_c143_7 (s : cS) : cFr 0 1342177280 0 4 s (c143_7 s).1 := by unfold c143_7; exact (cFr.pr (cFr.trans cFr.refl (cFr.mono (fr_c132 s s.now) rfl rfl rfl rfl)))
theorem fr_c143 (s : cS) : cFr 196608 1426145280 0 4 s (c143 s).1 := by unfold c143; exact (cFr.trans (cFr.trans cFr.refl (cFr.mono (fr_c81 s) rfl rfl rfl rfl)) (cFr.mono (fr_c143_7 ((c81 s).1)) rfl rfl rfl rfl))
theorem fr_c148_78 (s : cS) (y4 : Int32) : cFr 0 16384 0 0 s (c148_78 s y4).1 := by unfold c148_78; exact (cFr.iteO (cFr.pro (cFr.trans cFr.refl (cFr.mono (fr_c141 s 2) rfl rfl rfl rfl))) (cFr.pro (cFr.trans cFr.refl (cFr.mono (fr_c141 s 6) rfl rfl rfl rfl))))
theorem fr_c148_68 (s : cS) (y2 : Int32) (y4 : Int32) : cFr 196608 16384 0 0 s (c148_68 s y2 y4).1 := by unfold c148_68; exact (cFr.trans (cFr.trans cFr.refl (cFr.mono (fr_c76 s 9 y2) rfl rfl rfl rfl)) (cFr.mono (fr_c148_78 ((c76 s 9 y2).1) y4) rfl rfl rfl rfl))
theorem fr_c148_57 (s : cS) (y2 : Int32) (y3 : Int32) (y4 : Int32) : cFr 196608 16384 0 0 s (c148_57 s y2 y3 y4).1 := by unfold c148_57; exact (cFr.iteO (cFr.trans cFr.refl (cFr.mono (fr_c148_78 s y4) rfl rfl rfl rfl)) (cFr.iteO (cFr.trans cFr.refl (cFr.mono (fr_c148_78 s y4) rfl rfl rfl rfl)) (cFr.trans cFr.refl (cFr.mono (fr_c148_68 s y2 y4) rfl rfl rfl rfl))))
theorem fr_c148_46 (s : cS) (y1 : Int32) (y2 : Int32) (y3 : Int32) (z0 : Int32) : cFr 196608 16384 0 0 s (c148_46 s y1 y2 y3 z0).1 := by unfold c148_46; exact (cFr.iteO (cFr.trans cFr.refl (cFr.mono (fr_c148_57 s y2 y3 z0) rfl rfl rfl rfl)) (cFr.iteO (cFr.trans cFr.refl (cFr.mono (fr_c148_68 s y2 z0) rfl rfl rfl rfl)) (cFr.trans cFr.refl (cFr.mono (fr_c148_57 s y2 y3 z0) rfl rfl rfl rfl))))
theorem fr_c148_34 (s : cS) (y1 : Int32) (y2 : Int32) (y3 : Int32) (z0 : Int32) : cFr 196608 16384 0 0 s (c148_34 s y1 y2 y3 z0).1 := by unfold c148_34; exact (cFr.iteO (cFr.trans cFr.refl (cFr.mono (fr_c148_46 s y1 y2 y3 0) rfl rfl rfl rfl)) (cFr.trans cFr.refl (cFr.mono (fr_c148_46 s y1 y2 y3 1) rfl rfl rfl rfl)))
theorem fr_c148_24 (s : cS) (y1 : Int32) (y2 : Int32) (z0 : Int32) : cFr 51539804160 16384 0 0 s (c148_24 s y1 y2 z0).1 := by unfold c148_24; exact (cFr.cb (cFr.trans cFr.refl (cFr.mono (fr_c64 s 58) rfl rfl rfl rfl)) (fun w4 => (cFr.trans (cFr.trans cFr.refl (cFr.mono (fr_c64 s 58) rfl rfl rfl rfl)) (cFr.mono (fr_c148_34 ((c64 s 58).1) y1 y2 z0 w4) rfl rfl rfl rfl))))
theorem fr_c148_7 (s : cS) (y1 : Int32) (z0 : Int32) : cFr 51539804160 16384 0 0 s (c148_7 s y1 z0).1 := by unfold c148_7; exact (cFr.cb (cFr.trans cFr.refl (cFr.mono (fr_c64 s 1) rfl rfl rfl rfl)) (fun w7 => (cFr.trans (cFr.trans cFr.refl (cFr.mono (fr_c64 s 1) rfl rfl rfl rfl)) (cFr.mono (fr_c148_24 ((c64 s 1).1) y1 (c63 s) w7) rfl rfl rfl rfl))))
theorem fr_c148 (s : cS) (x1 : Int32) : cFr 51539804160 16384 0 0 s (c148 s x1).1 := by unfold c148; exact (cFr.cb (cFr.trans cFr.refl (cFr.mono (fr_c55 s) rfl rfl rfl rfl)) (fun w4 => (cFr.trans (cFr.trans cFr.refl (cFr.mono (fr_c55 s) rfl rfl rfl rfl)) (cFr.mono (fr_c148_7 ((c55 s).1) x1 w4) rfl rfl rfl rfl))))
theorem fr_c149b10 (t : cS × Int32) : cFr 0 16384 0 0 t.1 (c149b10 t).2.1 := by unfold c149b10; exact (cFr.iteL1 cFr.refl (cFr.tss cFr.refl rfl))
theorem fr_c149 (s : cS) (x1 : Int32) : cFr 0 16384 0 0 s (c149 s x1).1 := by unfold c149; exact (cFr.pr (cFr.trans cFr.refl (cFr.mono (cfin_fr1 fun t => fr_c149b10 t) rfl rfl rfl rfl)))
theorem fr_c154 (s : cS) : cFr 0 8 0 0 s (c154 s).1 := by unfold c154; exact (cFr.pr (cFr.tcts cFr.refl rfl))
theorem fr_c38_32 (s : cS) : cFr 2417851639229258349412384 8 0 0 s (c38_32 s).1 := by unfold c38_32; exact (cFr.iteP (cFr.iteP (cFr.pr (cFr.trans (cFr.sf cFr.refl rfl) (cFr.mono (fr_c154 (nf s 0 5 (c153 s))) rfl rfl rfl rfl))) (cFr.pr (cFr.trans (cFr.trans (cFr.sf cFr.refl rfl) (cFr.mono (fr_c154 (nf s 0 5 (c153 s))) rfl rfl rfl rfl)) (cFr.mono (fr_c40 ((c154 (nf s 0 5 (c153 s))).1)) rfl rfl rfl rfl)))) (cFr.iteP (cFr.pr (cFr.trans (cFr.sf cFr.refl rfl) (cFr.mono (fr_c154 (nf s 0 5 (c35 s))) rfl rfl rfl rfl))) (cFr.pr (cFr.trans (cFr.trans (cFr.sf cFr.refl rfl) (cFr.mono (fr_c154 (nf s 0 5 (c35 s))) rfl rfl rfl rfl)) (cFr.mono (fr_c40 ((c154 (nf s 0 5 (c35 s))).1)) rfl rfl rfl rfl)))))
theorem fr_c33 (s : cS) (x1 : Int32) (x2 : Int32) : cFr 0 8 0 0 s (c33 s x1 x2).1 := by unfold c33; exact (cFr.iteP (cFr.iteP (cFr.pr (cFr.trans cFr.refl (cFr.mono (fr_c37 s x1 x2) rfl rfl rfl rfl))) (cFr.pr cFr.refl)) (cFr.pr cFr.refl))
