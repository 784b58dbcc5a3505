/-! THE WALK OVER BOTH: a local statement -/
section LOE
variable {δ : Int32} {L : List xR} {P : PT} {k0 k k' : kS} {T V W a t v w n : Nat} {s s' : cS} {X : List xF} {f : xF} {r : List xF} {x y z y1 y2 y3 y4 y6 y7 cl pw nm at' : Int32} {rc : cRC}
theorem QC.run {Q : cS → kS → Int32 → Prop} {q : Option (cS × Option Int32)} (h : QC Q k q) : QC (fun s' k' x => Q s' k' x ∧ ∃ j, k' = kit j k) k q := fun s' o e => by
  obtain ⟨h1, h2⟩ := h s' o e
  exact ⟨fun x z => (h1 x z).imp (fun j hj => ⟨hj, j, rfl⟩), h2⟩
theorem kst_2 : (kst k).2 2 = k.2 2 := by
  unfold kst k175b13
  split
  · rfl
  · exact (fr_k180 _ _ _ _ _).2 2 rfl
theorem kit_2 : ∀ {j : Nat} {k : kS}, (kit j k).2 2 = k.2 2 := by
  intro j
  induction j with
  | zero => intro k; rfl
  | succ j ih => intro k; exact (ih (k := kst k)).trans kst_2
/-- those that waited are there on both sides; the class has written one row more -/
theorem LSt.rvl {p : List xR} {b : xB} {bs : List xB} (h : SGp none δ L P k0 t v w a s k (fwp f p :: r) t v (w + p.length)) (hx : WX y k w p) (hp : f.2.2.1 = []) (hb : f.2.2.2.1 = b :: bs) : ∃ X', SGp none (δ - 1 - nc4 p) L P k0 t v w a (c149 s (xn f.2.1.length)).1 (k241 k pw (xn w)).1 X' t v w ∧ XQ (f :: r) X' := by
  obtain ⟨hwa, hwb, -⟩ := hx
  have hle := h.le
  have hw := h.2.2.2.1
  have hs : SZ (xdn (fwp f p) (p.map rev1) :: r) := SZ_of (by
    rw [sz_xdn, List.length_map]
    have := h.sz
    omega)
  obtain ⟨n1, n2⟩ := RN.rvl (w := pw) (n := w) h.1.2.1 h.SZ hs hwa h.2.1.2.2 (by show w + p.length ≤ _; omega)
  have fk := fr_k241 k pw (xn w)
  have fc := fr_c149 s (xn f.2.1.length)
  have kz := szX_kl (X := fwp f p :: r)
  have sz := h.sz
  have orv : OU (bd a) (c149 s (xn f.2.1.length)).1 (k241 k pw (xn w)).1 (xrv (fwp f p) :: r) := OU.rvl (f := fwp f p) h.1.2.2.2.2.2.1 (by have := h.bl; omega) h.1.2.1.2.1 h.SZ h.2.1.2.2 (by show w + p.length ≤ _; omega) (by show _ + p.length ≤ _; omega) (fc.ou rfl)
  have kl : (kL (fwp f p :: r)).length = (kL r).length + f.2.1.length := by
    show (kL r ++ f.2.1).length = _
    rw [List.length_append]
  obtain ⟨m1, m2, m3⟩ := NC.rvl (f := fwp f p) (s' := (c149 s (xn f.2.1.length)).1) (w := pw) (n := w) h.nc h.fb h.cc h.1.2.1 h.SZ h.2.1.2.2 (by show w + p.length ≤ _; omega) (by show (kL r).length + f.2.1.length + p.length ≤ _; omega) (fun j q hq => ⟨hwb j q hq, (hwa j q hq).2.2.1⟩) (fun x j => fc.2.2.1 x j (Nat.zero_testBit _)) (fc.nr rfl) (fc.2.2.2.1 rfl)
  refine ⟨xrv (fwp f p) :: r, ⟨⟨h.1.1.fr fc fk rfl rfl rfl rfl rfl, n1, by rw [sz_xrv]; exact h.sz, by rw [fk.1 53 rfl]; exact h.1.2.2.2.1, ⟨h.1.2.2.2.2.1.1, m2, m3, h.lv.same rfl (fc.2.1 28 rfl).1 (fc.2.1 28 rfl).2⟩, orv, (fun z => nomatch z), m1.eq (Int32.add_zero _).symm⟩, ⟨(fk.1 10 rfl).trans h.2.1.1, (fk.1 15 rfl).trans h.2.1.2.1, n2⟩, h.2.2.1.trans (KB.fr fk rfl), by omega, h.2.2.2.2.ts (TS.of fc rfl) (Nat.le_refl _)⟩, f, _, r, p.map rev1, b, b, bs, rfl, rfl, ⟨hp, rfl, rfl⟩, rfl, ⟨hb, hb, rfl, rfl⟩, rfl⟩
noncomputable def klz (pw W : Int32) (k : kS) : kS × Int32 := if (k183 k) ≠ 59 then k238_345 ((k240 k ((k.1 20) - W)).1) pw W else k238_328 ((k179 (kf k 4 ((k.1 4) + 1)) 18 pw W 0).1)
/-- when the names are read -/
def E147E (rc : cRC) (L : List xR) : Prop := ∀ {P : PT} (a0 : Nat) (k0 : kS) (a : Nat) (s : cS) (k : kS) (f : xF) (r : List xF) (p : List xR) (t v w : Nat) (pw y1 y3 y4 y6 : Int32), LSt y3 L P k0 t v w a s k f r p → f.2.2.1 = [] → XB (f :: r) → a0 < a → RO L a (t + 8) (v + 8) → QC (SP L P k0 t v w a0 (f :: r)) (klz pw (xn w) k).1 (rc 147027 s 0 y1 (xn f.2.1.length) y3 y4 0 y6)
theorem ln_fin2 {p : List xR} {a0 : Nat} (h : SGp none (0 + 1) L P k0 t v w a s k (fwp f p :: r) t v (w + p.length)) (hx : WX y3 k w p) (hp : f.2.2.1 = []) (hB : XB (f :: r)) (ha : a0 < a) : QC (SP L P k0 t v w a0 (f :: r)) (k241 k pw (xn w)).1 (c147_200 rc s (xn f.2.1.length) y3 y4 z) := by
  obtain ⟨f', r', b, bs, e1, b1, b2, b3⟩ := hB
  cases e1
  obtain ⟨X', g1, g2⟩ := LSt.rvl (pw := pw) h hx hp b2
  have st := st_k241 k pw (xn w)
  unfold c147_200 c147_209
  by_cases c : y3 < 0
  · rw [if_pos c]
    by_cases c8 : (k241 k pw (xn w)).1.1 8 = 0
    · have e := hx.2.2 (st c8)
      rw [if_pos c] at e
      rw [e] at g1
      exact QC.ret ⟨a, X', ha, g1.deq rfl, g2⟩
    · exact QC.ret ⟨a, X', ha, g1.any (Or.inl c8), g2⟩
  · rw [if_neg c]
    by_cases c8 : (k241 k pw (xn w)).1.1 8 = 0
    · have e := hx.2.2 (st c8)
      rw [if_neg c] at e
      rw [e] at g1
      exact QC.ret ⟨a, X', ha, g1.cle.deq rfl, g2⟩
    · exact QC.ret ⟨a, X', ha, g1.cle.any (Or.inl c8), g2⟩
theorem ln_end {p : List xR} {a0 : Nat} (hl : F112 rc L) (h : LSt y3 L P k0 t v w a s k f r p) (hp : f.2.2.1 = []) (hB : XB (f :: r)) (ha : a0 < a) (hr : RO L a (t + 8) (v + 8)) : QC (SP L P k0 t v w a0 (f :: r)) (klz pw (xn w) k).1 (c147_142 rc s y1 (xn f.2.1.length) y3 y4) := by
  have ht : t + 8 ≤ 1000000 := by have := hr.1; omega
  have hv : v + 8 ≤ 1000000 := by have := hr.2; omega
  have hle := h.1.le
  have hww := h.1.2.2.2.1
  have szp : f.2.1.length + p.length ≤ 1000000 := by
    have z := h.1.SZ.g
    have e : (fL (fwp f p :: r)).length = (fL r).length + (f.2.1.length + p.length) := by
      show (fL r ++ (f.2.1 ++ p)).length = _
      rw [List.length_append, List.length_append]
    omega
  have en6 : c75 s - xn f.2.1.length = xn p.length := by
    rw [XC.cnt h.1.1.2.1.1 h.1.SZ]
    show xn (f.2.1 ++ p).length - xn f.2.1.length = _
    rw [List.length_append, xn_sub (by omega)]
  have e20 : ∀ k4 : kS, k4.1 20 = xn (w + p.length) → k4.1 20 - xn w = xn p.length := fun k4 z => by rw [z, xn_sub (by omega)]
  unfold c147_142 klz
  by_cases c59 : c53 s = 59
  · rw [if_neg (fun z => z ((h.1.is (by decide) (by decide)).mp c59)), if_neg (fun z => z c59)]
    rw [en6]
    obtain ⟨q, s1, q1, q2, q3, q4, q5⟩ := h.1.skp c59 pl59
    rw [q3, rbd_th (w := q.2.1) rfl]
    have fk1 : kFr 16 0 k (kf k 4 (k.1 4 + 1)) := kFr.sf kFr.refl rfl
    have wa1 : WX y3 (kf k 4 (k.1 4 + 1)) w p := h.2.same (kSt.of fk1 rfl) rfl (fun _ _ => rfl) (fun _ _ => rfl)
    generalize kf k 4 (k.1 4 + 1) = k1 at q4 wa1
    obtain ⟨h2, g2⟩ := q4.psh (g := 18) (p := pw) (q := xn w) (c := 0) (Nat.le_refl _) (by omega)
    have f2 := fr_k179 k1 18 pw (xn w) 0
    have wa2 : WX y3 (k179 k1 18 pw (xn w) 0).1 w p := wa1.same (kSt.of f2 rfl) rfl (fun _ _ => rfl) (fun _ _ => rfl)
    unfold k238_328
    generalize (k179 k1 18 pw (xn w) 0).1 = k2 at h2 g2 wa2
    show QC _ _ (c147_175 rc s1 y1 (xn f.2.1.length) y3 y4 (xn p.length) q.2.1)
    unfold c147_175
    refine ((hl k2 (t + 1) v (w + p.length) (a + 1) s1 k2 (fwp f p :: r) (t + 1) v (w + p.length) h2.own (fun z => nomatch z) (Nat.le_refl _) (Nat.le_refl _) (Nat.le_refl _) ⟨by have := hr.1; omega, by have := hr.2; omega⟩).run).bnd ?_
    rintro s3 k3 x3 ⟨⟨a3, u1, u2, uL, u19, ux1, ux2⟩, j, rfl⟩
    have g3 := g2.bck u2.2.2.1 u2.2.1.1
    have f214 := fr_k214 k2
    have wa3 : WX y3 (kit j (k214 k2).1) w p := wa2.same ((kSt.of f214 rfl).trans kit_st) (kit_2.trans (f214.2 2 rfl)) (fun i hi => u2.2.2.1.2.2 21 i (by decide) hi) (fun i hi => u2.2.2.1.2.2 23 i (by decide) hi)
    generalize kit j (k214 k2).1 = k3 at u2 g3 wa3 uL u19
    have h3 := (h2.reb u2 (by omega) (Nat.le_refl _) (by omega)).top (t' := t)
    refine QC.pop g3 (by omega) ?_
    rw [k180_g18]
    have wa4 : WX y3 (kf k3 10 (xn t)) w p := wa3
    have uL4 : LR s3 (kf k3 10 (xn t)) v := uL
    have u194 : x3 = (kf k3 10 (xn t)).1 19 := u19
    generalize kf k3 10 (xn t) = k4 at h3 wa4 uL4 u194
    unfold k180_332
    have hle3 := h3.le
    have hx3 : x3 = xn x3.toInt.toNat := xn_eq (by omega) (by omega)
    have h5 := h3.fit (x := xn p.length) (y := x3) (wn := p.length) (hn := x3.toInt.toNat) uL4 (Nat.le_refl _) (by omega) rfl hx3 (by omega) (by omega) (by omega)
    rw [e20 k4 h3.2.1.2.2]
    rw [u194] at h5 ⊢
    have fk5 := fr_k258 k4 (xn p.length) (k4.1 19)
    have wa5 : WX y3 (k258 k4 (xn p.length) (k4.1 19)).1 w p := wa4.same (kSt.of fk5 rfl) (fk5.2 2 rfl) (fun i _ => by rw [fk5.2 21 rfl]) (fun i _ => by rw [fk5.2 23 rfl])
    generalize (k258 k4 (xn p.length) (k4.1 19)).1 = k5 at h5 wa5
    show QC _ _ (c147_200 rc (c78 (c117 s3 (xn p.length) (k4.1 19)).1 27 (xn f.2.1.length) (xn p.length) y1).1 (xn f.2.1.length) y3 y4 (c78 (c117 s3 (xn p.length) (k4.1 19)).1 27 (xn f.2.1.length) (xn p.length) y1).2)
    exact ln_fin2 h5.cle wa5 hp hB (by omega)
  · rw [if_pos (fun z => c59 ((h.1.is (by decide) (by decide)).mpr z)), if_pos c59]
    rw [en6, e20 k h.1.2.1.2.2]
    unfold k238_345
    show QC _ _ (c147_200 rc (c78 (c117 s (xn p.length) 0).1 27 (xn f.2.1.length) (xn p.length) y1).1 (xn f.2.1.length) y3 y4 (c78 (c117 s (xn p.length) 0).1 27 (xn f.2.1.length) (xn p.length) y1).2)
    have h5 := h.1.fit0 (x := xn p.length) (n := p.length) rfl (by omega)
    have fk5 := fr_k240 k (xn p.length)
    have wa5 : WX y3 (k240 k (xn p.length)).1 w p := h.2.same (kSt.of fk5 rfl) (fk5.2 2 rfl) (fun i _ => by rw [fk5.2 21 rfl]) (fun i _ => by rw [fk5.2 23 rfl])
    generalize (k240 k (xn p.length)).1 = k5 at h5 wa5
    exact ln_fin2 h5.cle wa5 hp hB ha
noncomputable def kln (pw W : Int32) (R : Nat × (kS × Int32 × Int32)) : kS × Int32 := if R.1 = 1 then (R.2.1, 0) else if R.1 = 2 then (R.2.1, 0) else klz pw W R.2.1
def E147L (rc : cRC) (L : List xR) : Prop := ∀ {P : PT} (a0 : Nat) (k0 : kS) (a : Nat) (s s1 : cS) (x : Int32) (k : kS) (f : xF) (r : List xF) (p : List xR) (t v w : Nat) (pw y1 y3 y4 y6 cl : Int32) (R : Nat × (kS × Int32 × Int32)), c55 s = (s1, some x) → LSt y3 L P k0 t v w a s1 k f r p → f.2.2.1 = [] → XB (f :: r) → a0 < a → RO L a (t + 8) (v + 8) → (y3 < 0 ↔ cl = 0) → (∃ m', kwh (k238b113 pw (xn w)) m' (k, 1, cl) = R) → R.1 ≠ 0 → 0 ≤ y6.toInt → y6.toInt ≤ a → QC (SP L P k0 t v w a0 (f :: r)) (kln pw (xn w) R).1 (rc 147027 s 0 y1 (xn f.2.1.length) y3 y4 1 y6)
theorem ln_rnd {p : List xR} {a0 : Nat} {s1 : cS} {R : Nat × (kS × Int32 × Int32)} (hL : E147L rc L) (hE : E147E rc L) (hs : c55 s = (s1, some x)) (h : LSt y3 L P k0 t v w a s1 k f r p) (hp : f.2.2.1 = []) (hB : XB (f :: r)) (ha : a0 < a) (hr : RO L a (t + 8) (v + 8)) (hcl : y3 < 0 ↔ cl = 0) (hR : ∃ m', kwh (k238b113 pw (xn w)) m' (k, 1, cl) = R) (hR0 : R.1 ≠ 0) (hy0 : 0 ≤ y6.toInt) (hy : y6.toInt ≤ a) : QC (SP L P k0 t v w a0 (f :: r)) (kln pw (xn w) R).1 (c147_27 rc s y1 (xn f.2.1.length) y3 y4 1 y6) := by
  have hle := h.1.le
  have hnx : ∀ st, k238b113 pw (xn w) (k, 1, cl) = (0, st) → ∃ m', kwh (k238b113 pw (xn w)) m' st = R := fun st e => by
    obtain ⟨m', hm⟩ := hR
    cases m' with
    | zero => rw [← hm] at hR0; exact absurd rfl hR0
    | succ m' =>
      rw [kwh_go (by rw [e]), e] at hm
      exact ⟨m', hm⟩
  have hst : ∀ q : Nat × (kS × Int32 × Int32), k238b113 pw (xn w) (k, 1, cl) = q → q.1 ≠ 0 → R = q := fun q e h0 => kwh_un hR ⟨1, by rw [kwh_out (by rw [e]; exact h0), e]⟩ hR0 h0
  have y61 : (y6 + 1).toInt = y6.toInt + 1 := i_add rfl (show (1 : Int32).toInt = 1 from rfl) (by omega) (by omega)
  unfold c147_27
  rw [if_neg (show ¬ (1 : Int32) = 0 from by decide), if_neg (by rw [i_lt]; have : (16384 : Int32).toInt = 16384 := rfl; omega), hs, rbd_th (w := x) rfl]
  rcases ln_one (rc := rc) (y1 := y1) (y2 := xn f.2.1.length) (y4 := y4) (y6 := y6) (x := x) (pw := pw) (W' := xn w) h hcl with ⟨s', p', a', k', y3', y4', mr, cl', q1, q2, q3, q4, q5⟩ | ⟨s', c, k', m, c', q1, q2, q3, q4⟩
  · show QC _ _ (c147_47 rc s1 y1 (xn f.2.1.length) y3 y4 y6 x)
    rw [q1]
    unfold c147_134
    rcases q5 with ⟨rfl, q5⟩ | ⟨rfl, s2, x2, q5, q6⟩
    · have e3 : k238b113 pw (xn w) (k', 0, cl') = (3, (k', 0, cl')) := by
        unfold k238b113
        rw [if_pos rfl]
      have eR : R = (3, (k', 0, cl')) := kwh_un (hnx _ q2) ⟨1, by rw [kwh_out (by rw [e3]; exact Nat.succ_ne_zero _), e3]⟩ hR0 (Nat.succ_ne_zero _)
      rw [eR]
      exact hE a0 k0 a' s' k' f r p' t v w pw y1 y3' y4' (y6 + 1) q5 hp hB (by omega) ⟨by have := hr.1; omega, by have := hr.2; omega⟩
    · exact hL a0 k0 a' s' s2 x2 k' f r p' t v w pw y1 y3' y4' (y6 + 1) cl' R q5 q6 hp hB (by omega) ⟨by have := hr.1; omega, by have := hr.2; omega⟩ q4 (hnx _ q2) hR0 (by omega) (by omega)
  · show QC _ _ (c147_47 rc s1 y1 (xn f.2.1.length) y3 y4 y6 x)
    rw [q1]
    refine QC.thn ?_
    rcases q3 with rfl | rfl
    · rw [hst _ q2 (Nat.succ_ne_zero _)]
      exact q4
    · rw [hst _ q2 (Nat.succ_ne_zero _)]
      exact q4
theorem ln_ter : ∀ (d : Nat) {y3 : Int32} {a : Nat} {s1 : cS} {k : kS} {p : List xR} {cl : Int32}, LSt y3 L P k0 t v w a s1 k f r p → (y3 < 0 ↔ cl = 0) → L.length - a ≤ d → ∃ R, (∃ m', kwh (k238b113 pw (xn w)) m' (k, 1, cl) = R) ∧ R.1 ≠ 0 := by
  intro d
  induction d with
  | zero =>
    intro y3 a s1 k p cl h hcl hd
    rcases ln_one (rc := cfix 0) (y1 := 0) (y2 := 0) (y3 := y3) (y4 := 0) (y6 := 0) (x := 0) (pw := pw) (W' := xn w) (cl := cl) h hcl with ⟨s', p', a', k', y3', y4', mr, cl', q1, q2, q3, q4, q5⟩ | ⟨s', c, k', m, c', q1, q2, q3, q4⟩
    · have : a' ≤ L.length := by
        rcases q5 with ⟨-, q⟩ | ⟨-, s2, x2, -, q⟩
        · exact q.1.le.1
        · exact q.1.le.1
      omega
    · exact ⟨_, ⟨1, by rw [kwh_out (by rw [q2]; rcases q3 with e | e <;> rw [e] <;> exact Nat.succ_ne_zero _), q2]⟩, by rcases q3 with e | e <;> rw [e] <;> exact Nat.succ_ne_zero _⟩
  | succ d ih =>
    intro y3 a s1 k p cl h hcl hd
    rcases ln_one (rc := cfix 0) (y1 := 0) (y2 := 0) (y3 := y3) (y4 := 0) (y6 := 0) (x := 0) (pw := pw) (W' := xn w) (cl := cl) h hcl with ⟨s', p', a', k', y3', y4', mr, cl', q1, q2, q3, q4, q5⟩ | ⟨s', c, k', m, c', q1, q2, q3, q4⟩
    · rcases q5 with ⟨rfl, q5⟩ | ⟨rfl, s2, x2, q5, q6⟩
      · have e3 : k238b113 pw (xn w) (k', 0, cl') = (3, (k', 0, cl')) := by
          unfold k238b113
          rw [if_pos rfl]
        exact ⟨_, kw_step (by rw [q2]) (by rw [q2]; exact ⟨1, by rw [kwh_out (by rw [e3]; exact Nat.succ_ne_zero _), e3]⟩), Nat.succ_ne_zero _⟩
      · obtain ⟨R, r1, r2⟩ := ih (cl := cl') q6 q4 (by omega)
        exact ⟨R, kw_step (by rw [q2]) (by rw [q2]; exact r1), r2⟩
    · exact ⟨_, ⟨1, by rw [kwh_out (by rw [q2]; rcases q3 with e | e <;> rw [e] <;> exact Nat.succ_ne_zero _), q2]⟩, by rcases q3 with e | e <;> rw [e] <;> exact Nat.succ_ne_zero _⟩
def E147 (rc : cRC) (L : List xR) : Prop := ∀ {P : PT} (a : Nat) (s : cS) (k : kS) (X : List xF) (t v w : Nat), SG L P k t v w a s k X t v w → XB X → RO L (a + 1) (t + 8) (v + 8) → c53 s = 22 → kc L (a + 1) ≠ 18 → QC (SP L P k t v w a X) (k228 k 22).1 (rc 147 s 0 0 0 0 0 0 0)
theorem st_loc (hL : E147L rc L) (hE : E147E rc L) (h : SG L P k t v w a s k X t v w) (hB : XB X) (hr : RO L (a + 1) (t + 8) (v + 8)) (c : c53 s = 22) (hk : kc L (a + 1) ≠ 18) : QC (SP L P k t v w a X) (k228 k 22).1 (c147 rc s) := by
  have hle := h.le
  rw [k228_k22]
  obtain ⟨f, r, rfl, b1⟩ : ∃ f r, X = f :: r ∧ f.2.2.1 = [] := by
    obtain ⟨f, r, b, bs, e1, e2, -⟩ := hB
    exact ⟨f, r, e1, e2⟩
  have ecnt : c75 s = xn f.2.1.length := by
    rw [XC.cnt h.1.2.1.1 h.SZ, b1, List.append_nil]
  unfold c147 k238
  rw [ecnt]
  obtain ⟨q, s1, q1, q2, q3, q4, q5⟩ := h.skp c pl22
  have hlt := lt_of q1
  generalize kf k 4 (k.1 4 + 1) = k1 at q4
  have n18 : c53 s1 ≠ 18 := fun z => by
    rcases q4.1.1.kd with ⟨p, p1, p2, -⟩ | ⟨p1, p2, -⟩
    · refine hk ?_
      unfold kc
      rw [p1]
      exact p2.symm.trans z
    · rw [p2] at z
      exact absurd z (by decide)
  rw [if_pos (fun z => n18 ((q4.is (by decide) (by decide)).mpr z)), q4.2.1.2.2]
  have ef : fwp f [] = f := by
    unfold fwp
    rw [← b1]
  have h2 : LSt (-1) L P k t v w (a + 1) s1 k1 f r [] := ⟨by rw [ef]; exact q4, (fun j q hq => nomatch hq), (fun j q hq => nomatch hq), fun _ => by rw [if_pos (by decide)]; rfl⟩
  obtain ⟨R, r1, r2⟩ := ln_ter (pw := k.1 4) (L.length - (a + 1)) (cl := 0) h2 (by decide) (Nat.le_refl _)
  have ek : kfin (k238b113 (k.1 4) (xn w)) (k1, 1, 0) = R := kfin_of r1 r2
  rw [ek]
  exact ln_rnd hL hE q3 h2 b1 hB (by omega) ⟨by have := hr.1; omega, by have := hr.2; omega⟩ (by decide) r1 r2 (by decide) (Int.natCast_nonneg _)
end LOE
