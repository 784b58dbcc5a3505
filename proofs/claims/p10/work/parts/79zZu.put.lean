/-! THE WALK OVER BOTH: how runs are put together -/
abbrev QM (k k' : kS) : Prop := kFr 1208626050717021078814350 1190338428423767920214009 k k'
abbrev QS (s s' : cS) : Prop := cFr 115792089237315372671292324405666830368678705990229613928644599313484478349311 18446744072283405047 18446744073709543427 18446744073709551584 s s'
/-- how high the reference's piles are -/
def KP (t v w : Nat) (k : kS) : Prop := k.1 10 = xn t ∧ k.1 15 = xn v ∧ k.1 20 = xn w
/-- both stand alike; below T, V, W the piles are as in k0 -/
def SGp (p : PM) (d : Df) (L : List xR) (P : PT) (k0 : kS) (T V W a : Nat) (s : cS) (k : kS) (X : List xF) (t v w : Nat) : Prop := RWp p (d.1, d.2, P.2.2) L a s k X ∧ KP t v w k ∧ KB T V W k0 k ∧ w ≤ a ∧ CP P a s
abbrev SG (L : List xR) (P : PT) (k0 : kS) (T V W a : Nat) (s : cS) (k : kS) (X : List xF) (t v w : Nat) : Prop := SGp none ([], []) L P k0 T V W a s k X t v w
theorem CP.fr {P : PT} {a a' : Nat} {s s' : cS} (h : CP P a s) (h8 : s'.r (.s 8) = s.r (.s 8) ∧ s'.c (.s 8) = s.c (.s 8)) (h10 : s'.r (.s 10) = s.r (.s 10) ∧ s'.c (.s 10) = s.c (.s 10)) (ha : a ≤ a') : CP P a' s' := ⟨h.1.ts ⟨h8, h10⟩, Nat.le_trans h.2.1 ha, Nat.le_trans h.2.2 ha⟩
/-- there is room -/
def RO (L : List xR) (a t v : Nat) : Prop := t + 16 * (L.length - a) + 8 ≤ 1000000 ∧ v + 16 * (L.length - a) + 8 ≤ 1000000
/-- a run of the class ends with P, or both refuse -/
def QC (P : cS → kS → Int32 → Prop) (k : kS) (r : Option (cS × Option Int32)) : Prop := ∀ s' o, r = some (s', o) → (∀ x, o = some x → ∃ j, P s' (kit j k) x) ∧ (o = none → ∃ j, (kit j k).1 6 ≠ 0)
section QCS
variable {P Q : cS → kS → Int32 → Prop} {s : cS} {k : kS} {r : Option (cS × Option Int32)} {f : cS → Int32 → Option (cS × Option Int32)} {x : Int32}
theorem QC.ret (h : P s k x) : QC P k (some (s, some x)) := fun s' o e => by
  cases e
  exact ⟨fun x' z => by cases z; exact ⟨0, h⟩, fun z => nomatch z⟩
theorem QC.thn (h : k.1 6 ≠ 0) : QC P k (some (s, none)) := fun s' o e => by
  cases e
  exact ⟨(fun x' z => nomatch z), fun _ => ⟨0, h⟩⟩
theorem QC.non : QC P k none := fun s' o e => nomatch e
theorem QC.its (j : Nat) (h : QC P (kit j k) r) : QC P k r := fun s' o e => by
  obtain ⟨h1, h2⟩ := h s' o e
  refine ⟨fun x z => ?_, fun z => ?_⟩
  · obtain ⟨i, hi⟩ := h1 x z
    exact ⟨j + i, by rw [kit_add]; exact hi⟩
  · obtain ⟨i, hi⟩ := h2 z
    exact ⟨j + i, by rw [kit_add]; exact hi⟩
theorem QC.stp (h : QC P (kst k) r) : QC P k r := QC.its 1 h
theorem QC.mono (h : QC P k r) (hf : ∀ s k x, P s k x → Q s k x) : QC Q k r := fun s' o e => by
  obtain ⟨h1, h2⟩ := h s' o e
  exact ⟨fun x z => (h1 x z).imp (fun j hj => hf _ _ _ hj), h2⟩
theorem QC.bnd (h : QC P k r) (hf : ∀ s1 k1 x, P s1 k1 x → QC Q k1 (f s1 x)) : QC Q k (rbd r f) := fun s' o e => by
  cases hr : r with
  | none => rw [hr] at e; cases e
  | some p =>
    obtain ⟨s1, o1⟩ := p
    obtain ⟨h1, h2⟩ := h s1 o1 hr
    cases o1 with
    | none =>
      rw [rbd_n hr] at e
      cases e
      exact ⟨(fun x z => nomatch z), fun _ => h2 rfl⟩
    | some w1 =>
      rw [rbd_s hr] at e
      obtain ⟨j, hj⟩ := h1 w1 rfl
      exact QC.its j (hf s1 _ w1 hj) s' o e
theorem QC.pop {t : Nat} {g p q c : Int32} (hg : GT t g p q c k) (ht : t ≤ 1000000) (h : QC P (k180 (kf k 10 (xn t)) g p q c).1 r) : QC P k r := QC.stp (by rw [kst_pop hg ht]; exact h)
end QCS
/-- kinds of words: plain, beginning a level, ending one -/
def PLN (K : Int32) : Prop := K ≠ 0 ∧ K ≠ -1 ∧ (∀ s : cS, c56 s K = 0) ∧ ∀ s : cS, c57 s K = 0
def ENT (K : Int32) : Prop := K ≠ 0 ∧ K ≠ -1 ∧ (∀ s : cS, c56 s K = 0) ∧ ∀ s : cS, c57 s K ≠ 0
def LEV (K : Int32) : Prop := K ≠ 0 ∧ K ≠ -1 ∧ (∀ s : cS, c56 s K ≠ 0) ∧ ∀ s : cS, c57 s K = 0
theorem pl1 : PLN 1 := ⟨by decide, by decide, fun s => by unfold c56; decide, fun s => by unfold c57; decide⟩
theorem pl3 : PLN 3 := ⟨by decide, by decide, fun s => by unfold c56; decide, fun s => by unfold c57; decide⟩
theorem pl11 : PLN 11 := ⟨by decide, by decide, fun s => by unfold c56; decide, fun s => by unfold c57; decide⟩
theorem pl17 : PLN 17 := ⟨by decide, by decide, fun s => by unfold c56; decide, fun s => by unfold c57; decide⟩
theorem pl19 : PLN 19 := ⟨by decide, by decide, fun s => by unfold c56; decide, fun s => by unfold c57; decide⟩
theorem pl20 : PLN 20 := ⟨by decide, by decide, fun s => by unfold c56; decide, fun s => by unfold c57; decide⟩
theorem pl21 : PLN 21 := ⟨by decide, by decide, fun s => by unfold c56; decide, fun s => by unfold c57; decide⟩
theorem pl22 : PLN 22 := ⟨by decide, by decide, fun s => by unfold c56; decide, fun s => by unfold c57; decide⟩
theorem pl27 : PLN 27 := ⟨by decide, by decide, fun s => by unfold c56; decide, fun s => by unfold c57; decide⟩
theorem pl31 : PLN 31 := ⟨by decide, by decide, fun s => by unfold c56; decide, fun s => by unfold c57; decide⟩
theorem pl57 : PLN 57 := ⟨by decide, by decide, fun s => by unfold c56; decide, fun s => by unfold c57; decide⟩
theorem pl58 : PLN 58 := ⟨by decide, by decide, fun s => by unfold c56; decide, fun s => by unfold c57; decide⟩
theorem pl59 : PLN 59 := ⟨by decide, by decide, fun s => by unfold c56; decide, fun s => by unfold c57; decide⟩
theorem pl66 : PLN 66 := ⟨by decide, by decide, fun s => by unfold c56; decide, fun s => by unfold c57; decide⟩
theorem pl67 : PLN 67 := ⟨by decide, by decide, fun s => by unfold c56; decide, fun s => by unfold c57; decide⟩
theorem pl68 : PLN 68 := ⟨by decide, by decide, fun s => by unfold c56; decide, fun s => by unfold c57; decide⟩
theorem pl69 : PLN 69 := ⟨by decide, by decide, fun s => by unfold c56; decide, fun s => by unfold c57; decide⟩
theorem pl70 : PLN 70 := ⟨by decide, by decide, fun s => by unfold c56; decide, fun s => by unfold c57; decide⟩
theorem pl72 : PLN 72 := ⟨by decide, by decide, fun s => by unfold c56; decide, fun s => by unfold c57; decide⟩
theorem en12 : ENT 12 := ⟨by decide, by decide, fun s => by unfold c56; decide, fun s => by unfold c57; decide⟩
theorem en18 : ENT 18 := ⟨by decide, by decide, fun s => by unfold c56; decide, fun s => by unfold c57; decide⟩
theorem en26 : ENT 26 := ⟨by decide, by decide, fun s => by unfold c56; decide, fun s => by unfold c57; decide⟩
theorem en28 : ENT 28 := ⟨by decide, by decide, fun s => by unfold c56; decide, fun s => by unfold c57; decide⟩
theorem en60 : ENT 60 := ⟨by decide, by decide, fun s => by unfold c56; decide, fun s => by unfold c57; decide⟩
theorem en62 : ENT 62 := ⟨by decide, by decide, fun s => by unfold c56; decide, fun s => by unfold c57; decide⟩
theorem en64 : ENT 64 := ⟨by decide, by decide, fun s => by unfold c56; decide, fun s => by unfold c57; decide⟩
theorem lv14 : LEV 14 := ⟨by decide, by decide, fun s => by unfold c56; decide, fun s => by unfold c57; decide⟩
theorem lv15 : LEV 15 := ⟨by decide, by decide, fun s => by unfold c56; decide, fun s => by unfold c57; decide⟩
theorem lv30 : LEV 30 := ⟨by decide, by decide, fun s => by unfold c56; decide, fun s => by unfold c57; decide⟩
theorem lv61 : LEV 61 := ⟨by decide, by decide, fun s => by unfold c56; decide, fun s => by unfold c57; decide⟩
theorem lv63 : LEV 63 := ⟨by decide, by decide, fun s => by unfold c56; decide, fun s => by unfold c57; decide⟩
theorem lv65 : LEV 65 := ⟨by decide, by decide, fun s => by unfold c56; decide, fun s => by unfold c57; decide⟩
section SGS
variable {π π' : PM} {δ δ' : Df} {d1 : List xR} {P : PT} {L : List xR} {k0 k k' : kS} {T V W a t v w t' v' w' : Nat} {s s' : cS} {X : List xF} {g p q c x y z u : Int32} {rc : cRC}
theorem RWp.qq {d : Dw} (h : RWp π d L a s k X) (hc : QS s s') (hk : QM k k') (kp : π = none ∨ k3 k k') : RWp π d L a s' k' X := h.frk hc hk kp
theorem SGp.mv (h : SGp π δ L P k0 T V W a s k X t v w) (hc : QS s s') (hk : QM k k') (hp : KP t' v' w k') (hb : KB T V W k k') (kp : π = none ∨ k3 k k' := by exact Or.inl rfl) : SGp π δ L P k0 T V W a s' k' X t' v' w := ⟨h.1.qq hc hk kp, hp, h.2.2.1.trans hb, h.2.2.2.1, h.2.2.2.2.fr (hc.2.1 8 rfl) (hc.2.1 10 rfl) (Nat.le_refl _)⟩
theorem SGp.eq (h : SGp π δ L P k0 T V W a s k X t v w) (e : δ = δ') : SGp π δ' L P k0 T V W a s k X t v w := by rw [← e]; exact h
theorem SGp.de0 (h : SGp none δ L P k0 T V W a s k X t v w) (e : δ.1 = δ.2) (hwm : wfl δ.1 := by first | exact wfl_0 | exact wfl_1 rfl | exact wfl_2 rfl rfl | exact wfl_3 rfl rfl rfl) : SG L P k0 T V W a s k X t v w := ⟨h.1.de0 e hwm, h.2⟩
theorem SGp.de8 (h : SGp none δ L P k0 T V W a s k X t v w) (e : k.1 8 = 0 → δ.1 = δ.2) (hwm : wfl δ.1 := by first | exact wfl_0 | exact wfl_1 rfl | exact wfl_2 rfl rfl | exact wfl_3 rfl rfl rfl) : SG L P k0 T V W a s k X t v w := ⟨h.1.de8 e hwm, h.2⟩
theorem SGp.dem {m d1 d2 : List xR} (h : SGp none (m ++ d1, m ++ d2) L P k0 T V W a s k X t v w) (hwm : wfl m) : SGp none (d1, d2) L P k0 T V W a s k X t v w := ⟨RWp.dem (m := m) h.1 hwm, h.2⟩
theorem SGp.w63 (h : SGp π δ L P k0 T V W a s k X t v w) : c63 s = k.1 4 := h.1.1.w63
theorem WR.txt {q : xR} (h : WR L a s k) (hq : L[a]? = some q) : kr k 2 (k.1 4) = q.2.1 := by
  rcases h.kd with ⟨q', q1, -, -, -, q5, -⟩ | ⟨q1, -⟩
  · rw [hq] at q1
    cases q1
    exact q5
  · exact absurd (List.getElem?_eq_some_iff.mp hq).1 (by omega)
theorem SGp.str {n : Nat} {bo : Bool} (h : SGp (some (n, bo)) δ L P k0 T V W a s k X t v w) (hn : k.2 16 n = 0 ∨ k.2 16 n = 1 ∨ k.2 16 n = 2) : SGp none δ L P k0 T V W a s k X t v w := ⟨h.1.str hn, h.2⟩
theorem SGp.los {n : Nat} {bo : Bool} (h : SGp none δ L P k0 T V W a s k X t v w) (hn : k.2 16 n = 0 ∨ k.2 16 n = 1 ∨ k.2 16 n = 2) : SGp (some (n, bo)) δ L P k0 T V W a s k X t v w := ⟨h.1.los hn, h.2⟩
theorem SGp.cl {F T' B G : Nat} (h : SGp π δ L P k0 T V W a s k X t v w) (hc : cFr F T' B G s s') (c1 : F &&& 822752278660603021077484591278675410950110812984694428651290624 = 0 := by rfl) (c2 : T' &&& 1426146568 = 0 := by rfl) (c3 : B &&& 8188 = 0 := by rfl) (c4 : G &&& 31 = 0 := by rfl) : SGp π δ L P k0 T V W a s' k X t v w := ⟨h.1.fr hc (kFr.refl (F := 0) (A := 0)) c1 (sub0 c2 rfl) c3 c4 rfl rfl (Or.inr rfl), h.2.1, h.2.2.1, h.2.2.2.1, h.2.2.2.2.fr (hc.2.1 8 (tb0 c2 (by decide))) (hc.2.1 10 (tb0 c2 (by decide))) (Nat.le_refl _)⟩
/-- the class writes -/
theorem SGp.cle (h : SGp π δ L P k0 T V W a s k X t v w) : SGp π (δ.1 ++ [(x, y, z, u)], δ.2) L P k0 T V W a (c78 s x y z u).1 k X t v w := ⟨h.1.cle, h.2.1, h.2.2.1, h.2.2.2.1, h.2.2.2.2.fr ((fr_c78 s x y z u).2.1 8 (Nat.zero_testBit _)) ((fr_c78 s x y z u).2.1 10 (Nat.zero_testBit _)) (Nat.le_refl _)⟩
theorem SGp.le (h : SGp π δ L P k0 T V W a s k X t v w) : a ≤ L.length ∧ L.length ≤ 16384 := ⟨h.1.1.2.2.1.2.2, h.1.1.1.2.1⟩
theorem SGp.reb (h : SGp π δ L P k0 T V W a s k X t v w) {a' : Nat} {X' : List xF} {T' V' W' : Nat} (h' : SGp π' δ' L P k T' V' W' a' s' k' X' t' v' w') (h1 : T ≤ T') (h2 : V ≤ V') (h3 : W ≤ W') : SGp π' δ' L P k0 T V W a' s' k' X' t' v' w' := ⟨h'.1, h'.2.1, h.2.2.1.trans (h'.2.2.1.mono h1 h2 h3), h'.2.2.2⟩
theorem SGp.own {t1 v1 w1 : Nat} (h : SGp π δ L P k0 T V W a s k X t v w) : SGp π δ L P k t1 v1 w1 a s k X t v w := ⟨h.1, h.2.1, KB.refl, h.2.2.2⟩
theorem SGp.top (h : SGp π δ L P k0 T V W a s k X t v w) : SGp π δ L P k0 T V W a s (kf k 10 (xn t')) X t' v w := h.mv cFr.refl (kFr.sf kFr.refl rfl) ⟨rfl, h.2.1.2⟩ (KB.fr (F := 1024) (A := 0) (kFr.sf kFr.refl rfl) rfl) (Or.inr ⟨rfl, rfl, rfl⟩)
theorem SGp.psh (h : SGp π δ L P k0 T V W a s k X t v w) (hT : T ≤ t) (ht : t ≤ 1000000) : SGp π δ L P k0 T V W a s (k179 k g p q c).1 X (t + 1) v w ∧ GT t g p q c (k179 k g p q c).1 := by
  obtain ⟨g1, g2⟩ := GT.psh (v := V) (w := W) (g := g) (a := p) (b := q) (c := c) h.2.1.1 ht
  exact ⟨h.mv cFr.refl ((fr_k179 k g p q c).mono rfl rfl) ⟨g1.1, ((fr_k179 k g p q c).1 15 rfl).trans h.2.1.2.1, ((fr_k179 k g p q c).1 20 rfl).trans h.2.1.2.2⟩ (g2.mono hT (Nat.le_refl _) (Nat.le_refl _)) (Or.inr ⟨(fr_k179 k g p q c).2 16 rfl, (fr_k179 k g p q c).2 17 rfl, (fr_k179 k g p q c).2 18 rfl⟩), g1⟩
theorem SGp.put (h : SGp π δ L P k0 T V W a s k X t v w) : SGp π (δ.1, δ.2 ++ [(x, y, z, u)]) L P k0 T V W a s (k189 k x y z u).1 X t v w := by
  have f := fr_k189 k x y z u
  exact ⟨h.1.put, ⟨(f.1 10 rfl).trans h.2.1.1, (f.1 15 rfl).trans h.2.1.2.1, (f.1 20 rfl).trans h.2.1.2.2⟩, h.2.2.1.trans (KB.fr f rfl), h.2.2.2⟩
theorem SGp.val (h : SGp none δ L P k0 T V W a s k X t v w) (hV : V ≤ v) (hv : v ≤ 1000000) : SGp none δ L P k0 T V W a s (k190 k x y z).1 X t (v + 1) w ∧ (k190 k x y z).1.2 16 v = x ∧ (k190 k x y z).1.2 17 v = y ∧ (k190 k x y z).1.2 18 v = z := by
  have f := fr_k190 k x y z
  obtain ⟨p1, p2⟩ := val_psh (t := T) (v := V) (w := W) (x := x) (y := y) (z := z) h.2.1.2.1 hv hV
  refine ⟨h.mv cFr.refl (f.mono rfl rfl) ⟨(f.1 10 rfl).trans h.2.1.1, p1, (f.1 20 rfl).trans h.2.1.2.2⟩ p2, ?_, ?_, ?_⟩
  · show upd (k.2 16) (k.1 15).toNatClampNeg x v = x
    rw [h.2.1.2.1, xn_nat (by omega)]
    exact if_pos rfl
  · show upd (k.2 17) (k.1 15).toNatClampNeg y v = y
    rw [h.2.1.2.1, xn_nat (by omega)]
    exact if_pos rfl
  · show upd (k.2 18) (k.1 15).toNatClampNeg z v = z
    rw [h.2.1.2.1, xn_nat (by omega)]
    exact if_pos rfl
theorem SGp.lod (h : SGp (some (v, true)) (d1, []) L P k0 T V W a s k X t (v + 1) w) (hV : V ≤ v) (hv : v ≤ 1000000) : SGp none (d1, []) L P k0 T V W a s (k204 k).1 X t (v + 1) w ∧ (k204 k).1.2 16 v = 0 := by
  have f := fr_k204 k
  exact ⟨⟨h.1.lod h.2.1.2.1 hv, ⟨(f.1 10 rfl).trans h.2.1.1, (f.1 15 rfl).trans h.2.1.2.1, (f.1 20 rfl).trans h.2.1.2.2⟩, h.2.2.1.trans (KB.q k204_q (fun i hi => k204_16 h.2.1.2.1 hv (by omega))), h.2.2.2⟩, k204_16v h.2.1.2.1 hv⟩
theorem SGp.dwn (h : SGp none δ L P k0 T V W a s k X t (v + 1) w) (hv : v ≤ 1000000) : SGp none δ L P k0 T V W a s (kf k 15 (k.1 15 - 1)) X t v w := by
  have e1 : k.1 15 - 1 = xn v := by
    rw [h.2.1.2.1]
    have := xn_sub (n := 1) (m := v) (by omega)
    rw [Nat.add_comm 1] at this
    exact this
  have f : kFr 32768 0 k (kf k 15 (k.1 15 - 1)) := kFr.sf kFr.refl rfl
  exact h.mv cFr.refl (f.mono rfl rfl) ⟨h.2.1.1, e1, h.2.1.2.2⟩ (KB.fr f rfl)
theorem SGp.awy (h : SGp (some (v, true)) (d1, []) L P k0 T V W a s k X t (v + 1) w) (hV : V ≤ v) (hv : v ≤ 1000000) : SGp none (d1, []) L P k0 T V W a s (k209 k).1 X t v w := (h.lod hV hv).1.dwn hv
theorem k216_n (h15 : k.1 15 = xn (v + 1)) (hv : v ≤ 1000000) (hk : k216 k ≠ 0) : k.2 16 v = 0 ∨ k.2 16 v = 1 ∨ k.2 16 v = 2 := by
  have e1 : k.1 15 - 1 = xn v := by
    rw [h15]
    have := xn_sub (n := 1) (m := v) (by omega)
    rw [Nat.add_comm 1] at this
    exact this
  have ekr : kr k 16 (k.1 15 - 1) = k.2 16 v := by
    rw [e1]
    show k.2 16 (xn v).toNatClampNeg = _
    rw [xn_nat (by omega)]
  unfold k216 at hk
  rw [ekr] at hk
  by_cases c1 : k.2 16 v = 1
  · exact Or.inr (Or.inl c1)
  · rw [if_neg c1] at hk
    by_cases c2 : k.2 16 v = 2
    · exact Or.inr (Or.inr c2)
    · rw [if_pos c2] at hk
      exact absurd rfl hk
/-- the value on top is loaded, which the class has not written yet -/
theorem SGp.lop {R : List xR} (h : SGp (some (v, false)) δ L P k0 T V W a s k X t (v + 1) w) (hV : V ≤ v) (hv : v ≤ 1000000) (hr : OR (some (v, true)) R a k X) : SGp none (δ.1, δ.2 ++ R) L P k0 T V W a s (k204 k).1 X t (v + 1) w ∧ (k204 k).1.2 16 v = 0 := by
  have f := fr_k204 k
  exact ⟨⟨h.1.lop h.2.1.2.1 hv hr, ⟨(f.1 10 rfl).trans h.2.1.1, (f.1 15 rfl).trans h.2.1.2.1, (f.1 20 rfl).trans h.2.1.2.2⟩, h.2.2.1.trans (KB.q k204_q (fun i hi => k204_16 h.2.1.2.1 hv (by omega))), h.2.2.2⟩, k204_16v h.2.1.2.1 hv⟩
/-- a call or three dots become an added row -/
theorem SGp.opa (h' : SGp (some (v, true)) ([], []) L P k0 T V W a s k X t (v + 1) w) (hv : v ≤ 1000000) (hk : k216 k ≠ 0) (hlo : LO s k v) : SG L P k0 T V W a (c96 s).1 (k217 k).1 X t v w := by
  have hkk := k216_n h'.2.1.2.1 hv hk
  have hk12 : k.2 16 v = 1 ∨ k.2 16 v = 2 := by
    rcases hkk with z | z
    · have e1 : k.1 15 - 1 = xn v := by
        rw [h'.2.1.2.1]
        have := xn_sub (n := 1) (m := v) (by omega)
        rw [Nat.add_comm 1] at this
        exact this
      have ekr : kr k 16 (k.1 15 - 1) = k.2 16 v := by
        rw [e1]
        show k.2 16 (xn v).toNatClampNeg = _
        rw [xn_nat (by omega)]
      unfold k216 at hk
      rw [ekr, z] at hk
      exact absurd (by decide) hk
    · exact z
  have h := h'.str hkk
  have hX := h.1.2.2.2.2.2.2.1
  cases X with
  | nil => exact absurd rfl hX
  | cons f r =>
    obtain ⟨o1, o2, o3, o4⟩ := own_k h.1.2.1 h.1.szn
    have e1 : k.1 15 - 1 = xn v := by
      rw [h.2.1.2.1]
      have := xn_sub (n := 1) (m := v) (by omega)
      rw [Nat.add_comm 1] at this
      exact this
    have fk : kFr 32768 4722366482869645213696 k (k217 k).1 := by
      unfold k217
      split
      · exact kFr.sf (kFr.sa kFr.refl rfl) rfl
      · exact kFr.sf (kFr.sa kFr.refl rfl) rfl
    have fc := fr_c96 s
    have e15 : (k217 k).1.1 15 = xn v := by
      unfold k217
      split
      · exact e1
      · exact e1
    obtain ⟨R, r1, r2⟩ := h.1.2.2.2.2.2.2.2
    have r1 : R = [] := r1
    subst r1
    have en : s.now - 1 = f.1 - 1 := by rw [o2]
    have nr : NR 0 ([], []) P.2.2 (c96 s).1 (k217 k).1 (f :: r) := NR.opa r2 (by omega) (own_5 h.1.2.1 rfl h.1.k53) h.1.k53 h.2.1.2.1 hv hk12 hlo.1 (by rw [← en]; exact hlo.2 hk12)
    refine ⟨h.1.fro fc fk rfl rfl rfl rfl rfl rfl (h.1.2.2.2.2.2.1.fr (fc.ou rfl) fk rfl rfl rfl (Or.inl rfl)) ⟨[], rfl, nr⟩, ⟨(fk.1 10 rfl).trans h.2.1.1, e15, (fk.1 20 rfl).trans h.2.1.2.2⟩, h.2.2.1.trans (KB.fr fk rfl), h.2.2.2.1, h.2.2.2.2.fr (fc.2.1 8 (Nat.zero_testBit _)) (fc.2.1 10 (Nat.zero_testBit _)) (Nat.le_refl _)⟩
theorem SGp.cal (h : SGp none δ L P k0 T V W a s k X t (v + 1) w) (hV : V ≤ v) (hv : v ≤ 1000000) : SGp none (δ.1, δ.2 ++ [(13, x, y ||| 2, z)]) L P k0 T V W a s (k213 k x y z).1 X t (v + 1) w ∧ (k213 k x y z).1.2 16 v = 1 ∧ LG ((k213 k x y z).1.2 17 v).toNatClampNeg (s.now - 1) (k213 k x y z).1 := by
  obtain ⟨q1, q2, q3, -⟩ := ((h.put (x := 13) (y := x) (z := y ||| 2) (u := z)).dwn hv).val (x := 1) (y := (k189 k 13 x (y ||| 2) z).2) (z := z) hV hv
  refine ⟨q1, q2, ?_⟩
  have hX := h.1.2.2.2.2.2.2.1
  cases X with
  | nil => exact absurd rfl hX
  | cons f r =>
    obtain ⟨o1, o2, -, -⟩ := own_k h.1.2.1 h.1.szn
    obtain ⟨R, -, r2⟩ := h.1.2.2.2.2.2.2.2
    have q3' : (k213 k x y z).1.2 17 v = (k189 k 13 x (y ||| 2) z).2 := q3
    rw [q3', o2]
    have f2 : kFr 32768 458752 (k189 k 13 x (y ||| 2) z).1 (k213 k x y z).1 := kFr.sf (kFr.sa (kFr.sa (kFr.sa (kFr.sf kFr.refl rfl) rfl) rfl) rfl) rfl
    exact (k189_g r2 o1).lg.fr f2 rfl rfl
theorem RO.rm (h : RO L a t v) : RM L a t v [] := ⟨h.1, h.2⟩
theorem RO.up {a' : Nat} (h : RO L a t v) (ha : a ≤ a') : RO L a' t v := ⟨by have := h.1; omega, by have := h.2; omega⟩
/-- a word more gives room for sixteen -/
theorem RO.nx {t1 v1 : Nat} (h : RO L a t v) (ha : a < L.length) (h1 : t1 ≤ t + 16) (h2 : v1 ≤ v + 16) : RO L (a + 1) t1 v1 := ⟨by have := h.1; omega, by have := h.2; omega⟩
theorem WR.same (h : WR L a s k) (h' : WR L a s' k') : c53 s' = c53 s ∧ k183 k' = k183 k := by
  rcases h.kd with ⟨q, q1, q2, q3, -⟩ | ⟨q1, q2, q3⟩
  · obtain ⟨z1, z2⟩ := kd_of h' q1
    exact ⟨z1.trans q2.symm, z2.trans q3.symm⟩
  · rcases h'.kd with ⟨p, p1, -⟩ | ⟨p1, p2, p3⟩
    · exact absurd (List.getElem?_eq_some_iff.mp p1).1 (by omega)
    · exact ⟨p2.trans q2.symm, p3.trans q3.symm⟩
/-- the words that are due -/
theorem SGp.adv {k1 : kS} {s1 : cS} (h : SGp π δ L P k0 T V W a s k X t v w) (hw : RWp π (δ.1, δ.2, P.2.2) L (a + 1) s1 k1 X) (hc : cFr 51539607552 0 0 0 s s1) (f : kFr 48 0 k k1) : SGp π δ L P k0 T V W (a + 1) s1 k1 X t v w := ⟨hw, ⟨(f.1 10 rfl).trans h.2.1.1, (f.1 15 rfl).trans h.2.1.2.1, (f.1 20 rfl).trans h.2.1.2.2⟩, h.2.2.1.trans (KB.fr f rfl), by have := h.2.2.2.1; omega, h.2.2.2.2.fr (hc.2.1 8 (Nat.zero_testBit _)) (hc.2.1 10 (Nat.zero_testBit _)) (Nat.le_succ _)⟩
theorem SGp.tkp {K : Int32} (h : SGp π δ L P k0 T V W a s k X t v w) (hp : PLN K) : (∃ q s1, L[a]? = some q ∧ q.1 = K ∧ c64 s K = (s1, some q.2.1) ∧ k200 k K = (kf k 4 (k.1 4 + 1), 1) ∧ SGp π δ L P k0 T V W (a + 1) s1 (kf k 4 (k.1 4 + 1)) X t v w ∧ cFr 51539607552 0 0 0 s s1) ∨ ((c64 s K).2 = none ∧ (k200 k K).2 = 0 ∧ (k200 k K).1.1 6 ≠ 0) := by
  rcases tk_pl h.1 hp.1 hp.2.1 hp.2.2.1 hp.2.2.2 with ⟨q, s1, q1, q2, q3, q4, q5, q6⟩ | z
  · exact Or.inl ⟨q, s1, q1, q2, q3, q4, h.adv q5 q6 (kFr.sf kFr.refl rfl), q6⟩
  · exact Or.inr z
theorem SGp.tke {K : Int32} (h : SGp π δ L P k0 T V W a s k X t v w) (hp : ENT K) : (∃ q s1 k1, L[a]? = some q ∧ q.1 = K ∧ c64 s K = (s1, some q.2.1) ∧ k193 k K = (k1, 1) ∧ SGp π δ L P k0 T V W (a + 1) s1 k1 X t v w ∧ cFr 51539607552 0 0 0 s s1 ∧ kFr 48 0 k k1) ∨ ((c64 s K).2 = none ∧ (k193 k K).2 = 0 ∧ (k193 k K).1.1 6 ≠ 0) := by
  rcases tk_en h.1 hp.1 hp.2.1 hp.2.2.1 hp.2.2.2 with ⟨q, s1, k1, q1, q2, q3, q4, q5, q6, q7, q8⟩ | z
  · exact Or.inl ⟨q, s1, k1, q1, q2, q3, q4, h.adv q5 q6 q7, q6, q7⟩
  · exact Or.inr z
theorem SGp.tkl {K : Int32} (h : SGp π δ L P k0 T V W a s k X t v w) (hp : LEV K) : (∃ q s1 k1, L[a]? = some q ∧ q.1 = K ∧ c64 s K = (s1, some q.2.1) ∧ k199 k K = (k1, 1) ∧ SGp π δ L P k0 T V W (a + 1) s1 k1 X t v w ∧ cFr 51539607552 0 0 0 s s1 ∧ kFr 48 0 k k1) ∨ ((c64 s K).2 = none ∧ (k199 k K).2 = 0 ∧ (k199 k K).1.1 6 ≠ 0) := by
  rcases tk_le h.1 hp.1 hp.2.1 hp.2.2.1 hp.2.2.2 with ⟨q, s1, k1, q1, q2, q3, q4, q5, q6, q7, q8⟩ | z
  · exact Or.inl ⟨q, s1, k1, q1, q2, q3, q4, h.adv q5 q6 q7, q6, q7⟩
  · exact Or.inr z
/-- a word that is there is read -/
theorem SGp.skp {K : Int32} (h : SGp π δ L P k0 T V W a s k X t v w) (hK : c53 s = K) (hp : PLN K) : ∃ q s1, L[a]? = some q ∧ q.1 = K ∧ c55 s = (s1, some q.2.1) ∧ SGp π δ L P k0 T V W (a + 1) s1 (kf k 4 (k.1 4 + 1)) X t v w ∧ cFr 51539607552 0 0 0 s s1 := by
  rcases h.tkp hp with ⟨q, s1, q1, q2, q3, q4, q5, q6⟩ | ⟨-, z, -⟩
  · exact ⟨q, s1, q1, q2, by rw [← c64_yes hK]; exact q3, q5, q6⟩
  · unfold k200 at z
    rw [if_pos ((h.1.1.is hp.1 hp.2.1).mp hK)] at z
    exact absurd (show (1 : Int32) = 0 from z) (by decide)
theorem SGp.ske {K : Int32} (h : SGp π δ L P k0 T V W a s k X t v w) (hK : c53 s = K) (hp : ENT K) : (∃ q s1 k1, L[a]? = some q ∧ q.1 = K ∧ c55 s = (s1, some q.2.1) ∧ k193 k K = (k1, 1) ∧ SGp π δ L P k0 T V W (a + 1) s1 k1 X t v w ∧ cFr 51539607552 0 0 0 s s1 ∧ kFr 48 0 k k1) ∨ ((c55 s).2 = none ∧ (k193 k K).2 = 0 ∧ (k193 k K).1.1 6 ≠ 0) := by
  rw [← c64_yes hK]
  exact h.tke hp
theorem SGp.is {K : Int32} (h : SGp π δ L P k0 T V W a s k X t v w) (h0 : K ≠ 0) (h1 : K ≠ -1) : c53 s = K ↔ k183 k = K := h.1.1.is h0 h1
theorem SGp.lt {K : Int32} (h : SGp π δ L P k0 T V W a s k X t v w) (hK : c53 s = K) (h0 : K ≠ 0) : a < L.length := by
  rcases h.1.1.kd with ⟨q, q1, -⟩ | ⟨-, q2, -⟩
  · exact (List.getElem?_eq_some_iff.mp q1).1
  · exact absurd (hK.symm.trans q2) h0
theorem lt_of {q : xR} (h : L[a]? = some q) : a < L.length := (List.getElem?_eq_some_iff.mp h).1
theorem RWp.lof {d : Dw} {n : Nat} (h : RWp none d L a s k X) (hn : k.2 16 n ≠ 3) : RWp (some (n, false)) d L a s k X := ⟨h.1, h.2.1, h.2.2.1, h.2.2.2.1, h.2.2.2.2.1, Or.inl ⟨hn, h.2.2.2.2.2.1⟩, h.2.2.2.2.2.2.1, h.2.2.2.2.2.2.2⟩
/-- a value may wait here that is no name -/
theorem SGp.lof {n : Nat} (h : SGp none δ L P k0 T V W a s k X t v w) (hn : k.2 16 n ≠ 3) : SGp (some (n, false)) δ L P k0 T V W a s k X t v w := ⟨h.1.lof hn, h.2⟩
/-- the class writes what a prefix stands for -/
theorem SGp.stl {n : Nat} (h : SGp (some (n, false)) ([], δ.2) L P k0 T V W a s k X t v w) (hf : FM X s k n y) : SGp (some (n, true)) ([], δ.2) L P k0 T V W a (c100 s y).1 k X t v w := ⟨h.1.stl hf, h.2.1, h.2.2.1, h.2.2.2.1, h.2.2.2.2.ts (TS.of (fr_c100 s y) rfl) (Nat.le_refl _)⟩
/-- both write -/
theorem SGp.pc {x' y' z' u' : Int32} (h : SG L P k0 T V W a s k X t v w) (e : (x, y, z, u) = (x', y', z', u')) (hwm : wfa (x, y, z, u) := by exact wfa_o rfl) : SG L P k0 T V W a (c78 s x y z u).1 (k189 k x' y' z' u').1 X t v w := ((h.put).cle).de0 (by rw [e]) (wfl_c hwm wfl_0)
theorem LO.tr {n : Nat} (h1 : k.2 16 n ≠ 1) (h2 : k.2 16 n ≠ 2) : LO s k n := LO.no h1 h2
theorem LO.fr {F T B G F' A' n : Nat} (h : LO s k n) (hc : cFr F T B G s s') (hk : kFr F' A' k k') (c4 : G &&& 21 = 0 := by rfl) (k1 : F' &&& 295147905179352826112 = 0 := by rfl) (k2 : A' &&& 590295810358705848320 = 0 := by rfl) : LO s' k' n := by
  have en := hc.2.2.2.1 (tb0 c4 (by decide))
  have er := hc.2.2.2.2.2.2.1 (tb0 c4 (by decide))
  have ec := hc.2.2.2.2.2.1 (tb0 c4 (by decide))
  have e16 := hk.2 16 (tb0 k2 (by decide))
  refine ⟨fun hl => ?_, fun z => ?_⟩
  · have e97 : c97 s' = c97 s := by
      unfold c97 c98 tg
      rw [en, er, ec]
    rw [e97, e16]
    rw [en, er] at hl
    exact h.1 hl
  · rw [e16] at z
    rw [en, hk.2 17 (tb0 k2 (by decide))]
    exact (h.2 z).fr hk (sub0 k1 rfl) (sub0 k2 rfl)
theorem FM.fr {F T' B G F' A' n : Nat} (h : FM X s k n x) (hc : cFr F T' B G s s') (hk : kFr F' A' k k') (c1 : F &&& 5624283154906465964396868320115065947514615156095070133813248 = 0 := by rfl) (k1 : F' &&& 4620693219829612544 = 0 := by rfl) (k2 : A' &&& 285924533142699835396 = 0 := by rfl) : FM X s' k' n x := by
  have e16 := hk.2 16 (tb0 k2 (by decide))
  have e17 := hk.2 17 (tb0 k2 (by decide))
  have e18 := hk.2 18 (tb0 k2 (by decide))
  have ek : kr k' 2 (k'.2 18 n) = kr k 2 (k.2 18 n) := by
    unfold kr
    rw [hk.2 2 (tb0 k2 (by decide)), e18]
  unfold FM at h ⊢
  rw [ek, e16, e17, e18, hc.1 12 7 (by decide) (tb0 c1 (by decide)), hc.1 12 8 (by decide) (tb0 c1 (by decide)), hc.1 12 9 (by decide) (tb0 c1 (by decide)), hc.1 7 6 (by decide) (tb0 c1 (by decide)), hc.1 7 7 (by decide) (tb0 c1 (by decide))]
  rcases h with ⟨h1, h2, h3, h4, h5, s0, b, h6, h7, h8, h9⟩ | h | h | h | h
  · exact Or.inl ⟨h1, h2, h3, h4, h5, s0, b, h6, h7, OU.fr h8 (fun _ => ⟨rfl, rfl⟩) hk k1 (sub0 k2 rfl), h9⟩
  · exact Or.inr (Or.inl h)
  · exact Or.inr (Or.inr (Or.inl h))
  · exact Or.inr (Or.inr (Or.inr (Or.inl h)))
  · exact Or.inr (Or.inr (Or.inr (Or.inr h)))
theorem WR.tx {q : xR} {i : Nat} {z : Int32} (h : WR L a s k) (hi : L[i]? = some q) (hz : z = xn i) : kr k 2 z = q.2.1 := by
  have hl := (List.getElem?_eq_some_iff.mp hi).1
  have h16 := h.1.2.1
  rw [hz]
  show k.2 2 (xn i).toNatClampNeg = _
  rw [xn_nat (by omega)]
  exact (h.2.1.2 i q hi).2
/-- contracts of expressions, at any place -/
def E70 (rc : cRC) (L : List xR) : Prop := ∀ X t v w, X ≠ [] → R70 rc L X t v w
/-- an expression is due above a goal -/
theorem ex_call (h70 : E70 rc L) (h : SG L P k0 T V W a s k X t v w) (hX : X ≠ []) (hT : T ≤ t) (hV : V ≤ v) (hW : W ≤ w) (hr : RO L a (t + 2) v) : QC (fun s' k' _ => ∃ a', a < a' ∧ SGp (some (v, true)) ([], []) L P k0 T V W a' s' k' X (t + 1) (v + 1) w ∧ LR s' k' v ∧ GT t g p q c k') (k186 (k179 k g p q c).1 0).1 (rc 70 s 0 0 0 0 0 0 0) := by
  obtain ⟨h1, g1⟩ := h.psh (g := g) (p := p) (q := q) (c := c) hT (by have := hr.1; omega)
  generalize (k179 k g p q c).1 = k1 at h1 g1
  show QC _ (k179 k1 23 0 0 0).1 _
  obtain ⟨h2, g2⟩ := h1.psh (g := 23) (p := 0) (q := 0) (c := 0) (by omega) (by have := hr.1; omega)
  have b2 : KB (t + 1) v w k1 (k179 k1 23 0 0 0).1 := (GT.psh (t := t + 1) (g := 23) (a := 0) (b := 0) (c := 0) h1.2.1.1 (by have := hr.1; omega)).2
  generalize (k179 k1 23 0 0 0).1 = k2 at h2 g2 b2
  have ec := h70 X (t + 1) v w hX a s k2 P h2.1 ⟨trivial, g2.2.1, g2.2.2.1, h2.2.1.1, h2.2.1.2.1, NV0⟩ h2.2.2.2.2 ⟨by have := hr.1; show t + 1 + 2 * 0 + _ + 8 ≤ _; omega, by have := hr.2; show v + 0 + _ + 8 ≤ _; omega⟩ ⟨h2.2.1.2.2, h2.2.2.2.1⟩
  intro s' o e
  obtain ⟨e1, e2⟩ := ec s' o e
  refine ⟨fun x z => ?_, e2⟩
  obtain ⟨j, a', r1, ⟨r2, rT, rL⟩, r3, r4, r5, r6⟩ := e1 (by rw [z]; exact fun q => nomatch q)
  exact ⟨j, a', r1, ⟨r2, ⟨r3, r4, r5.trans h2.2.1.2.2⟩, h2.2.2.1.trans (r6.mono (by omega) hV hW), by have := h2.2.2.2.1; omega, rT, by have := h2.2.2.2.2.2.1; omega, by have := h2.2.2.2.2.2.2; omega⟩, rL, g1.bck (b2.trans r6) r3⟩
end SGS
