/-! THE WALK OVER BOTH: a local statement -/
section LOE
variable {δ : Df} {L : List xR} {P : PT} {k0 k k' : kS} {T V W a t v w n : Nat} {s s' : cS} {X : List xF} {f : xF} {r : List xF} {x y z y1 y2 y3 y4 y6 y7 cl pw nm at' : Int32} {rc : cRC}
theorem QC.run {Q : cS → kS → Int32 → Prop} {q : Option (cS × Option Int32)} (h : QC Q k q) : QC (fun s' k' x => Q s' k' x ∧ ∃ j, k' = kit j k) k q := fun s' o e => by
  obtain ⟨h1, h2⟩ := h s' o e
  exact ⟨fun x z => (h1 x z).imp (fun j hj => ⟨hj, j, rfl⟩), h2⟩
theorem kst_2 : (kst k).2 2 = k.2 2 := by
  unfold kst k175b13
  split
  · rfl
  · exact (fr_k180 _ _ _ _ _).2 2 rfl
theorem kit_2 : ∀ {j : Nat} {k : kS}, (kit j k).2 2 = k.2 2 := by
  intro j
  induction j with
  | zero => intro k; rfl
  | succ j ih => intro k; exact (ih (k := kst k)).trans kst_2
theorem b99_r {q0 : Nat} {H : List hE} {X : List xF} {n b x0 : Nat} : ∀ (p : List xR) (i : Nat) (k : kS) (D : Df), NR q0 D H s k X → kr k 33 (k.1 32) = xn x0 → s.now = x0 + 1 → (x0 : Int) < (k.1 53).toInt → (k.1 53).toInt ≤ 1000000 → y4 = xn (i + p.length) → n + i + p.length ≤ 1000000 → b + i + p.length ≤ 1000000 → (∀ j q, p[j]? = some q → (k.2 21 (n + i + j) = 2 ↔ q.2.1 &&& 4 ≠ 0)) → ∃ m k', kwh (k241b99 (xn n) (xn b) y4) m (k, xn i) = (1, (k', xn (i + p.length))) ∧ NR q0 (D.1, D.2 ++ clr k (n + i) (b + i) p) H s k' X := by
  intro p
  induction p with
  | nil =>
    intro i k D h h33 hnw hx h53 hy4 hn hb hq
    have e : k241b99 (xn n) (xn b) y4 (k, xn i) = (1, (k, xn i)) := by
      unfold k241b99
      rw [if_pos (by show y4 ≤ xn i; rw [hy4]; exact Int32.le_refl _)]
    exact ⟨1, k, by rw [kwh_out (by rw [e]; exact Nat.succ_ne_zero _), e]; rfl, by show NR q0 (D.1, D.2 ++ []) H s k X; rw [List.append_nil]; exact h⟩
  | cons q p ih =>
    intro i k D h h33 hnw hx h53 hy4 hn hb hq
    have hl : (q :: p).length = p.length + 1 := rfl
    have hc : ¬ y4 ≤ xn i := by rw [hy4, i_le, xn_i (by omega), xn_i (by omega)]; omega
    have e2x : ∀ j, kr k j (xn n + xn i) = k.2 j (n + i) := fun j => by
      show k.2 j (xn n + xn i).toNatClampNeg = _
      rw [xn_add (by omega), xn_nat (by omega)]
    have hq0 := hq 0 q rfl
    rw [Nat.add_zero] at hq0
    have ea : i + (q :: p).length = i + 1 + p.length := by omega
    have eD : ∀ k1 : kS, k1.2 23 = k.2 23 → clr k1 (n + (i + 1)) (b + (i + 1)) p = clr k (n + i + 1) (b + i + 1) p := fun k1 z => by
      rw [show n + (i + 1) = n + i + 1 by omega, show b + (i + 1) = b + i + 1 by omega]
      exact clr_same (fun j _ => by rw [z])
    by_cases c2 : k.2 21 (n + i) = 2
    · have e : k241b99 (xn n) (xn b) y4 (k, xn i) = (0, ((k189 k 28 (xn (b + i)) 0 (k.2 23 (n + i))).1, xn (i + 1))) := by
        unfold k241b99
        dsimp only
        rw [if_neg hc, e2x, if_neg (fun z => z c2), xn_succ (by omega), xn_add (by omega), e2x]
      have hf := fr_k189 k 28 (xn (b + i)) 0 (k.2 23 (n + i))
      have h1 := h.putn (a := 28) (b := xn (b + i)) (c := 0) (e := k.2 23 (n + i)) h33 hnw hx h53
      generalize (k189 k 28 (xn (b + i)) 0 (k.2 23 (n + i))).1 = k1 at e hf h1
      have n33 : kr k1 33 (k1.1 32) = xn x0 := by
        unfold kr at h33 ⊢
        rw [hf.1 32 rfl, hf.2 33 rfl]
        exact h33
      obtain ⟨m, k', r1, r2⟩ := ih (i + 1) k1 _ h1 n33 hnw (by rw [hf.1 53 rfl]; exact hx) (by rw [hf.1 53 rfl]; exact h53) (by rw [hy4, ea]) (by omega) (by omega) (fun j q' hj => by
        have z := hq (j + 1) q' (by rw [List.getElem?_cons_succ]; exact hj)
        rw [hf.2 21 rfl, show n + (i + 1) + j = n + i + (j + 1) by omega]
        exact z)
      rw [← ea] at r1
      refine ⟨m + 1, k', by rw [kwh_go (by rw [e]), e]; exact r1, ?_⟩
      rw [eD k1 (hf.2 23 rfl)] at r2
      show NR q0 (D.1, D.2 ++ ((if q.2.1 &&& 4 ≠ 0 then [((28 : Int32), xn (b + i), (0 : Int32), k.2 23 (n + i))] else []) ++ clr k (n + i + 1) (b + i + 1) p)) H s k' X
      rw [if_pos (hq0.mp c2), ← List.append_assoc]
      exact r2
    · have e : k241b99 (xn n) (xn b) y4 (k, xn i) = (0, (k, xn (i + 1))) := by
        unfold k241b99
        dsimp only
        rw [if_neg hc, e2x, if_pos c2, xn_succ (by omega)]
      obtain ⟨m, k', r1, r2⟩ := ih (i + 1) k D h h33 hnw hx h53 (by rw [hy4, ea]) (by omega) (by omega) (fun j q' hj => by
        have z := hq (j + 1) q' (by rw [List.getElem?_cons_succ]; exact hj)
        rw [show n + (i + 1) + j = n + i + (j + 1) by omega]
        exact z)
      rw [← ea] at r1
      refine ⟨m + 1, k', by rw [kwh_go (by rw [e]), e]; exact r1, ?_⟩
      rw [eD k rfl] at r2
      show NR q0 (D.1, D.2 ++ ((if q.2.1 &&& 4 ≠ 0 then [((28 : Int32), xn (b + i), (0 : Int32), k.2 23 (n + i))] else []) ++ clr k (n + i + 1) (b + i + 1) p)) H s k' X
      rw [if_neg (fun z => c2 (hq0.mpr z))]
      exact r2
/-- those that waited are there: rows, numbers, what is to be closed -/
theorem NR.rvl {D : Df} {H : List hE} {w : Int32} {n : Nat} (h : NR 0 D H s k (f :: r)) (h53 : (k.1 53).toInt ≤ 1000000) (hb : FB s k (sh (f :: r))) (hcl : CL k (f :: r)) (hn : RN s k (f :: r)) (hz : SZ (f :: r)) (h20 : k.1 20 = xn (n + f.2.2.1.length)) (hnn : n + f.2.2.1.length ≤ 1000000) (hlen : (kL r).length + f.2.1.length + f.2.2.1.length ≤ 1000000) (hq : ∀ j q, f.2.2.1[j]? = some q → (k.2 21 (n + j) = 2 ↔ q.2.1 &&& 4 ≠ 0) ∧ (q.2.1 = 0 ∨ q.2.1 = 2 ∨ q.2.1 = 6)) (hc : ∀ x j, s'.b x j = s.b x j) (fc : cFr 0 16384 0 0 s s') : NR 0 (D.1, D.2 ++ ((27, xn f.2.1.length, xn f.2.2.1.length, w) :: clr k n f.2.1.length f.2.2.1)) H s' (k241 k w (xn n)).1 (xrv f :: r) ∧ FB s' (k241 k w (xn n)).1 (sh (xrv f :: r)) ∧ CL (k241 k w (xn n)).1 (xrv f :: r) := by
  obtain ⟨o1, o2, o3, o4⟩ := own_k hn hz
  obtain ⟨a1, a2, a3⟩ := XK.at hn hz
  have e197 : k197 k = xn f.2.1.length := XK.cnt hn.2.1 hz
  have e20 : k.1 20 - xn n = xn f.2.2.1.length := by rw [h20, xn_sub (by omega)]
  obtain ⟨m, k', r1, r2, r3, r4, r5, r6, r7, r8⟩ := rv2_go (r := r) (y1 := w) (y2 := xn n) (y3 := k197 k) (y4 := k.1 20 - xn n) (x0 := f.1 - 1) (B := (kL r).length) f.2.2.1 n f.2.1.length f k hcl a1 a2 a3 (by show (kL r ++ f.2.1).length = _; rw [List.length_append]) (by omega) (by omega) h20 hnn hq
  have hk' := kfin_of ⟨m, r1⟩ (Nat.succ_ne_zero 0)
  have p0 : kFr 2164261632 288230378265640960 k k' := by
    have z := kfin_fr1 (t := (k, xn n)) (fun t => fr_k241b16 w (xn n) (k197 k) (k.1 20 - xn n) t)
    rw [hk'] at z
    exact z
  have hx5 := own_5 hn rfl h53
  have nk' : NR 0 D H s k' (f :: r) := h.fr0 (cFr.refl (F := 0) (T := 0) (B := 0) (G := 0)) p0 rfl rfl rfl rfl r7 (fun z => absurd z (by decide))
  have p1 := fr_k189 k' 27 (k197 k) (k.1 20 - xn n) w
  have n1 := nk'.putn (a := 27) (b := k197 k) (c := k.1 20 - xn n) (e := w) r8 (by omega) (by rw [r5]; exact hx5) (by rw [r5]; exact h53)
  have ek : (k241 k w (xn n)).1 = kf (kfin (k241b99 (xn n) (k197 k) (k.1 20 - xn n)) ((k189 k' 27 (k197 k) (k.1 20 - xn n) w).1, 0)).2.1 20 (xn n) := by
    unfold k241 k241_95
    rw [hk']
  have p2 : kFr 295147905179352825856 18300323042624482050048 (k189 k' 27 (k197 k) (k.1 20 - xn n) w).1 (kfin (k241b99 (xn n) (k197 k) (k.1 20 - xn n)) ((k189 k' 27 (k197 k) (k.1 20 - xn n) w).1, 0)).2.1 := (kfin_fr1 (t := ((k189 k' 27 (k197 k) (k.1 20 - xn n) w).1, 0)) (fun t => fr_k241b99 (xn n) (k197 k) (k.1 20 - xn n) t)).mono rfl rfl
  generalize (k189 k' 27 (k197 k) (k.1 20 - xn n) w).1 = k2 at p1 n1 ek p2
  rw [e197, e20] at n1 ek p2
  have n33 : kr k2 33 (k2.1 32) = xn (f.1 - 1) := by
    unfold kr at r8 ⊢
    rw [p1.1 32 rfl, p1.2 33 rfl]
    exact r8
  have e532 : k2.1 53 = k.1 53 := (p1.1 53 rfl).trans r5
  obtain ⟨m2, k3, t1, t2⟩ := b99_r (y4 := xn f.2.2.1.length) (n := n) (b := f.2.1.length) (x0 := f.1 - 1) f.2.2.1 0 k2 _ n1 n33 (by omega) (by rw [e532]; exact hx5) (by rw [e532]; exact h53) (by rw [Nat.zero_add]) (by omega) (by omega) (fun j q hj => by
    rw [p1.2 21 rfl, r6, Nat.add_zero]
    exact (hq j q hj).1)
  have ec : clr k2 (n + 0) (f.2.1.length + 0) f.2.2.1 = clr k n f.2.1.length f.2.2.1 := clr_same (fun i _ => by rw [p1.2 23 rfl, p0.2 23 rfl])
  rw [ec] at t2
  have hk3 := kfin_of ⟨m2, t1⟩ (Nat.succ_ne_zero 0)
  have e0 : (0 : Int32) = xn 0 := rfl
  rw [e0, hk3] at ek p2
  have p2' : kFr 295147905179352825856 18300323042624482050048 k2 k3 := p2
  have e8 : k3.1 8 = 0 → k.1 8 = 0 := fun z => r7 (by rw [← p1.1 8 rfl, ← p2'.1 8 rfl]; exact z)
  have eA : ∀ j, (j = 30 ∨ j = 54 ∨ j = 55 ∨ j = 56 ∨ j = 57 ∨ j = 58 ∨ j = 59) → k3.2 j = k'.2 j := fun j hj => by
    rcases hj with rfl | rfl | rfl | rfl | rfl | rfl | rfl <;> exact (p2'.2 _ rfl).trans (p1.2 _ rfl)
  have e53 : k3.1 53 = k.1 53 := (p2'.1 53 rfl).trans ((p1.1 53 rfl).trans r5)
  rw [ek]
  refine ⟨?_, ?_, ?_⟩
  · have t3 := (t2.fr0 fc (show kFr 1048576 0 k3 (kf k3 20 (xn n)) from kFr.sf kFr.refl rfl) rfl rfl rfl rfl id (fun z => absurd z (by decide))).xx (X' := xrv f :: r) rfl
    have eL : ∀ (l1 l2 : List xR) (q : xR), (l1 ++ [q]) ++ l2 = l1 ++ (q :: l2) := fun l1 l2 q => by rw [List.append_assoc]; rfl
    rw [← eL]
    exact t3
  · refine FB.b7 (f' := xrv f) (x0 := f.1 - 1) (v := s.b f.1 7) hb (by omega) rfl (fun x j _ _ _ => hc x j) (hc _ _) e8 e53 (fun j h1 h2 h3 => (eA j (by omega)).trans (r4 j (by omega))) (fun x hx => ?_) (fun hv => ?_) (fun h9 => by show sm (k3.2 58 (f.1 - 1)); rw [eA 58 (by decide), r3, upd_at]; split; exact h9; exact sm_mx h9 (by omega))
    · show k3.2 58 x = _
      rw [eA 58 (by decide), r3, upd_nt hx]
    · show _ = mw (shF (xrv f)).2 (k3.2 58 (f.1 - 1))
      rw [eA 58 (by decide), r3, upd_at, hv, shF0 (f := xrv f) rfl, mw0]
      by_cases c : f.2.2.1 = []
      · rw [if_pos c, shF0 c, mw0]
      · have hp : 0 < f.2.2.1.length := List.length_pos_iff.mpr c
        have s1 : (shF f).2 = f.2.1.length + f.2.2.1.length := if_neg c
        rw [if_neg c, s1, mw_mxn (by omega)]
  · refine CL.sub (k := k') (X := (f.1, f.2.1 ++ f.2.2.1.map rev1, f.2.2.1, f.2.2.2.1, f.2.2.2.2) :: r) r2 (fun _ _ q => q) (fun z => ?_) (eA 30 (Or.inl rfl))
    rw [← p1.1 8 rfl, ← p2'.1 8 rfl]
    exact z
/-- those that waited are there on both sides; the class has written one row more -/
theorem LSt.rvl {p : List xR} {b : xB} {bs : List xB} (h : SGp none δ L P k0 t v w a s k (fwp f p :: r) t v (w + p.length)) (hx : WX y z f.2.1.length k w p) (hp : f.2.2.1 = []) (hb : f.2.2.2.1 = b :: bs) : ∃ X', SGp none (δ.1, δ.2 ++ ((27, xn f.2.1.length, xn p.length, pw) :: clr k w f.2.1.length p)) L P k0 t v w a (c149 s (xn f.2.1.length)).1 (k241 k pw (xn w)).1 X' t v w ∧ XQ (f :: r) X' := by
  obtain ⟨hwa, hwb, -⟩ := hx
  have hle := h.le
  have hw := h.2.2.2.1
  have hs : SZ (xdn (fwp f p) (p.map rev1) :: r) := SZ_of (by
    rw [sz_xdn, List.length_map]
    have := h.sz
    omega)
  obtain ⟨n1, n2⟩ := RN.rvl (w := pw) (n := w) h.1.2.1 h.SZ hs hwa h.2.1.2.2 (by show w + p.length ≤ _; omega)
  have fk := fr_k241 k pw (xn w)
  have fc := fr_c149 s (xn f.2.1.length)
  have kz := szX_kl (X := fwp f p :: r)
  have sz := h.sz
  have orv : OU (bd a) (c149 s (xn f.2.1.length)).1 (k241 k pw (xn w)).1 (xrv (fwp f p) :: r) := OU.rvl (f := fwp f p) h.1.2.2.2.2.2.1 (by have := h.bl; omega) h.1.2.1.2.1 h.SZ h.2.1.2.2 (by show w + p.length ≤ _; omega) (by show _ + p.length ≤ _; omega) (fc.ou rfl)
  have kl : (kL (fwp f p :: r)).length = (kL r).length + f.2.1.length := by
    show (kL r ++ f.2.1).length = _
    rw [List.length_append]
  obtain ⟨m1, m2, m3⟩ := NR.rvl (f := fwp f p) (s' := (c149 s (xn f.2.1.length)).1) (w := pw) (n := w) h.nc h.1.k53 h.fb h.cc h.1.2.1 h.SZ h.2.1.2.2 (by show w + p.length ≤ _; omega) (by show (kL r).length + f.2.1.length + p.length ≤ _; omega) (fun j q hq => ⟨hwb j q hq, (hwa j q hq).2.2.1⟩) (fun x j => fc.2.2.1 x j (Nat.zero_testBit _)) fc
  refine ⟨xrv (fwp f p) :: r, ⟨⟨h.1.1.fr fc fk rfl rfl rfl rfl rfl, n1, by rw [sz_xrv]; exact h.sz, by rw [fk.1 53 rfl]; exact h.1.2.2.2.1, ⟨h.1.2.2.2.2.1.1, m2, m3, h.lv.same rfl (fc.2.1 28 rfl).1 (fc.2.1 28 rfl).2⟩, orv, (fun z => nomatch z), ⟨[], rfl, m1⟩⟩, ⟨(fk.1 10 rfl).trans h.2.1.1, (fk.1 15 rfl).trans h.2.1.2.1, n2⟩, h.2.2.1.trans (KB.fr fk rfl), by omega, h.2.2.2.2.ts (TS.of fc rfl) (Nat.le_refl _)⟩, f, _, r, p.map rev1, b, b, bs, rfl, rfl, ⟨hp, rfl, rfl⟩, rfl, ⟨hb, hb, rfl, rfl⟩, rfl⟩
noncomputable def klz (pw W : Int32) (k : kS) : kS × Int32 := if (k183 k) ≠ 59 then k238_345 ((k240 k ((k.1 20) - W)).1) pw W else k238_328 ((k179 (kf k 4 ((k.1 4) + 1)) 18 pw W 0).1)
/-- when the names are read -/
def E147E (rc : cRC) (L : List xR) : Prop := ∀ {P : PT} (a0 : Nat) (k0 : kS) (a : Nat) (s : cS) (k : kS) (f : xF) (r : List xF) (p : List xR) (t v w : Nat) (pw y1 y3 y4 y6 : Int32), LSt y3 y4 L P k0 t v w a s k f r p → y1 = pw → f.2.2.1 = [] → XB (f :: r) → a0 < a → RO L a (t + 8) (v + 8) → QC (SP L P k0 t v w a0 (f :: r)) (klz pw (xn w) k).1 (rc 147027 s 0 y1 (xn f.2.1.length) y3 y4 0 y6)
theorem ln_fin2 {p : List xR} {a0 : Nat} (h : SGp none ([(27, xn f.2.1.length, xn p.length, pw)], []) L P k0 t v w a s k (fwp f p :: r) t v (w + p.length)) (hx : WX y3 y4 f.2.1.length k w p) (hp : f.2.2.1 = []) (hB : XB (f :: r)) (ha : a0 < a) : QC (SP L P k0 t v w a0 (f :: r)) (k241 k pw (xn w)).1 (c147_200 rc s (xn f.2.1.length) y3 y4 z) := by
  obtain ⟨f', r', b, bs, e1, b1, b2, b3⟩ := hB
  cases e1
  obtain ⟨X', g1, g2⟩ := LSt.rvl (pw := pw) h hx hp b2
  have hz := SZ.fl (f := fwp f p) h.SZ
  have hz2 : f.2.1.length ≤ 1000000 := hz
  have hw9 := h.2.2.2.1
  have hle9 := h.le
  have h27 : wfa (27, xn f.2.1.length, xn p.length, pw) := wfa_b (by decide) (by decide) (by rw [xn_i (by omega)]; omega) (fun _ => by rw [xn_i (by omega)]; omega)
  have st := st_k241 k pw (xn w)
  unfold c147_200 c147_209
  by_cases c : y3 < 0
  · rw [if_pos c]
    exact QC.ret ⟨a, X', ha, g1.de8 (fun c8 => by rw [hx.2.2 (st c8), if_pos c]; rfl) (wfl_c h27 wfl_0), g2⟩
  · rw [if_neg c]
    exact QC.ret ⟨a, X', ha, g1.cle.de8 (fun c8 => by rw [hx.2.2 (st c8), if_neg c]; rfl) (wfl_c h27 (wfl_1 rfl)), g2⟩
theorem ln_end {p : List xR} {a0 : Nat} (hl : F112 rc L) (h : LSt y3 y4 L P k0 t v w a s k f r p) (hyp : y1 = pw) (hp : f.2.2.1 = []) (hB : XB (f :: r)) (ha : a0 < a) (hr : RO L a (t + 8) (v + 8)) : QC (SP L P k0 t v w a0 (f :: r)) (klz pw (xn w) k).1 (c147_142 rc s y1 (xn f.2.1.length) y3 y4) := by
  have ht : t + 8 ≤ 1000000 := by have := hr.1; omega
  have hv : v + 8 ≤ 1000000 := by have := hr.2; omega
  have hle := h.1.le
  have hww := h.1.2.2.2.1
  have szp : f.2.1.length + p.length ≤ 1000000 := by
    have z := h.1.SZ.g
    have e : (fL (fwp f p :: r)).length = (fL r).length + (f.2.1.length + p.length) := by
      show (fL r ++ (f.2.1 ++ p)).length = _
      rw [List.length_append, List.length_append]
    omega
  have en6 : c75 s - xn f.2.1.length = xn p.length := by
    rw [XC.cnt h.1.1.2.1.1 h.1.SZ]
    show xn (f.2.1 ++ p).length - xn f.2.1.length = _
    rw [List.length_append, xn_sub (by omega)]
  have e20 : ∀ k4 : kS, k4.1 20 = xn (w + p.length) → k4.1 20 - xn w = xn p.length := fun k4 z => by rw [z, xn_sub (by omega)]
  unfold c147_142 klz
  by_cases c59 : c53 s = 59
  · rw [if_neg (fun z => z ((h.1.is (by decide) (by decide)).mp c59)), if_neg (fun z => z c59)]
    rw [en6]
    obtain ⟨q, s1, q1, q2, q3, q4, q5⟩ := h.1.skp c59 pl59
    rw [q3, rbd_th (w := q.2.1) rfl]
    have fk1 : kFr 16 0 k (kf k 4 (k.1 4 + 1)) := kFr.sf kFr.refl rfl
    have wa1 : WX y3 y4 f.2.1.length (kf k 4 (k.1 4 + 1)) w p := h.2.same (kSt.of fk1 rfl) rfl (fun _ _ => rfl) (fun _ _ => rfl)
    generalize kf k 4 (k.1 4 + 1) = k1 at q4 wa1
    obtain ⟨h2, g2⟩ := q4.psh (g := 18) (p := pw) (q := xn w) (c := 0) (Nat.le_refl _) (by omega)
    have f2 := fr_k179 k1 18 pw (xn w) 0
    have wa2 : WX y3 y4 f.2.1.length (k179 k1 18 pw (xn w) 0).1 w p := wa1.same (kSt.of f2 rfl) rfl (fun _ _ => rfl) (fun _ _ => rfl)
    unfold k238_328
    generalize (k179 k1 18 pw (xn w) 0).1 = k2 at h2 g2 wa2
    show QC _ _ (c147_175 rc s1 y1 (xn f.2.1.length) y3 y4 (xn p.length) q.2.1)
    unfold c147_175
    refine ((hl k2 (t + 1) v (w + p.length) (a + 1) s1 k2 (fwp f p :: r) (t + 1) v (w + p.length) h2.own (fun z => nomatch z) (Nat.le_refl _) (Nat.le_refl _) (Nat.le_refl _) ⟨by have := hr.1; omega, by have := hr.2; omega⟩).run).bnd ?_
    rintro s3 k3 x3 ⟨⟨a3, u1, u2, uL, u19, ux1, ux2⟩, j, rfl⟩
    have g3 := g2.bck u2.2.2.1 u2.2.1.1
    have f214 := fr_k214 k2
    have wa3 : WX y3 y4 f.2.1.length (kit j (k214 k2).1) w p := wa2.same ((kSt.of f214 rfl).trans kit_st) (kit_2.trans (f214.2 2 rfl)) (fun i hi => u2.2.2.1.2.2 21 i (by decide) hi) (fun i hi => u2.2.2.1.2.2 23 i (by decide) hi)
    generalize kit j (k214 k2).1 = k3 at u2 g3 wa3 uL u19
    have h3 := (h2.reb u2 (by omega) (Nat.le_refl _) (by omega)).top (t' := t)
    refine QC.pop g3 (by omega) ?_
    rw [k180_g18]
    have wa4 : WX y3 y4 f.2.1.length (kf k3 10 (xn t)) w p := wa3.same (kSt.of (show kFr 1024 0 k3 (kf k3 10 (xn t)) from kFr.sf kFr.refl rfl) rfl) rfl (fun _ _ => rfl) (fun _ _ => rfl)
    have uL4 : LR s3 (kf k3 10 (xn t)) v := uL
    have u194 : x3 = (kf k3 10 (xn t)).1 19 := u19
    generalize kf k3 10 (xn t) = k4 at h3 wa4 uL4 u194
    unfold k180_332
    have hle3 := h3.le
    have hx3 : x3 = xn x3.toInt.toNat := xn_eq (by omega) (by omega)
    have h5 := h3.fit (x := xn p.length) (y := x3) (wn := p.length) (hn := x3.toInt.toNat) uL4 (Nat.le_refl _) (by omega) rfl hx3 (by omega) (by omega) (by omega)
    rw [e20 k4 h3.2.1.2.2]
    rw [u194] at h5 ⊢
    have fk5 := fr_k258 k4 (xn p.length) (k4.1 19)
    have wa5 : WX y3 y4 f.2.1.length (k258 k4 (xn p.length) (k4.1 19)).1 w p := wa4.same (kSt.of fk5 rfl) (fk5.2 2 rfl) (fun i _ => by rw [fk5.2 21 rfl]) (fun i _ => by rw [fk5.2 23 rfl])
    generalize (k258 k4 (xn p.length) (k4.1 19)).1 = k5 at h5 wa5
    show QC _ _ (c147_200 rc (c78 (c117 s3 (xn p.length) (k4.1 19)).1 27 (xn f.2.1.length) (xn p.length) y1).1 (xn f.2.1.length) y3 y4 (c78 (c117 s3 (xn p.length) (k4.1 19)).1 27 (xn f.2.1.length) (xn p.length) y1).2)
    exact ln_fin2 (h5.cle.eq (by rw [hyp]; rfl)) wa5 hp hB (by omega)
  · rw [if_pos (fun z => c59 ((h.1.is (by decide) (by decide)).mpr z)), if_pos c59]
    rw [en6, e20 k h.1.2.1.2.2]
    unfold k238_345
    show QC _ _ (c147_200 rc (c78 (c117 s (xn p.length) 0).1 27 (xn f.2.1.length) (xn p.length) y1).1 (xn f.2.1.length) y3 y4 (c78 (c117 s (xn p.length) 0).1 27 (xn f.2.1.length) (xn p.length) y1).2)
    have h5 := h.1.fit0 (x := xn p.length) (n := p.length) rfl (by omega)
    have fk5 := fr_k240 k (xn p.length)
    have wa5 : WX y3 y4 f.2.1.length (k240 k (xn p.length)).1 w p := h.2.same (kSt.of fk5 rfl) (fk5.2 2 rfl) (fun i _ => by rw [fk5.2 21 rfl]) (fun i _ => by rw [fk5.2 23 rfl])
    generalize (k240 k (xn p.length)).1 = k5 at h5 wa5
    exact ln_fin2 (h5.cle.eq (by rw [hyp]; rfl)) wa5 hp hB ha
noncomputable def kln (pw W : Int32) (R : Nat × (kS × Int32 × Int32)) : kS × Int32 := if R.1 = 1 then (R.2.1, 0) else if R.1 = 2 then (R.2.1, 0) else klz pw W R.2.1
def E147L (rc : cRC) (L : List xR) : Prop := ∀ {P : PT} (a0 : Nat) (k0 : kS) (a : Nat) (s s1 : cS) (x : Int32) (k : kS) (f : xF) (r : List xF) (p : List xR) (t v w : Nat) (pw y1 y3 y4 y6 cl : Int32) (R : Nat × (kS × Int32 × Int32)), c55 s = (s1, some x) → LSt y3 y4 L P k0 t v w a s1 k f r p → y1 = pw → f.2.2.1 = [] → XB (f :: r) → a0 < a → RO L a (t + 8) (v + 8) → (y3 < 0 ↔ cl = 0) → (∃ m', kwh (k238b113 pw (xn w)) m' (k, 1, cl) = R) → R.1 ≠ 0 → 0 ≤ y6.toInt → y6.toInt ≤ a → QC (SP L P k0 t v w a0 (f :: r)) (kln pw (xn w) R).1 (rc 147027 s 0 y1 (xn f.2.1.length) y3 y4 1 y6)
theorem ln_rnd {p : List xR} {a0 : Nat} {s1 : cS} {R : Nat × (kS × Int32 × Int32)} (hL : E147L rc L) (hE : E147E rc L) (hs : c55 s = (s1, some x)) (h : LSt y3 y4 L P k0 t v w a s1 k f r p) (hyp : y1 = pw) (hp : f.2.2.1 = []) (hB : XB (f :: r)) (ha : a0 < a) (hr : RO L a (t + 8) (v + 8)) (hcl : y3 < 0 ↔ cl = 0) (hR : ∃ m', kwh (k238b113 pw (xn w)) m' (k, 1, cl) = R) (hR0 : R.1 ≠ 0) (hy0 : 0 ≤ y6.toInt) (hy : y6.toInt ≤ a) : QC (SP L P k0 t v w a0 (f :: r)) (kln pw (xn w) R).1 (c147_27 rc s y1 (xn f.2.1.length) y3 y4 1 y6) := by
  have hle := h.1.le
  have hnx : ∀ st, k238b113 pw (xn w) (k, 1, cl) = (0, st) → ∃ m', kwh (k238b113 pw (xn w)) m' st = R := fun st e => by
    obtain ⟨m', hm⟩ := hR
    cases m' with
    | zero => rw [← hm] at hR0; exact absurd rfl hR0
    | succ m' =>
      rw [kwh_go (by rw [e]), e] at hm
      exact ⟨m', hm⟩
  have hst : ∀ q : Nat × (kS × Int32 × Int32), k238b113 pw (xn w) (k, 1, cl) = q → q.1 ≠ 0 → R = q := fun q e h0 => kwh_un hR ⟨1, by rw [kwh_out (by rw [e]; exact h0), e]⟩ hR0 h0
  have y61 : (y6 + 1).toInt = y6.toInt + 1 := i_add rfl (show (1 : Int32).toInt = 1 from rfl) (by omega) (by omega)
  unfold c147_27
  rw [if_neg (show ¬ (1 : Int32) = 0 from by decide), if_neg (by rw [i_lt]; have : (16384 : Int32).toInt = 16384 := rfl; omega), hs, rbd_th (w := x) rfl]
  rcases ln_one (rc := rc) (y1 := y1) (y2 := xn f.2.1.length) (y4 := y4) (y6 := y6) (x := x) (pw := pw) (W' := xn w) h hcl with ⟨s', p', a', k', y3', y4', mr, cl', q1, q2, q3, q4, q5⟩ | ⟨s', c, k', m, c', q1, q2, q3, q4⟩
  · show QC _ _ (c147_47 rc s1 y1 (xn f.2.1.length) y3 y4 y6 x)
    rw [q1]
    unfold c147_134
    rcases q5 with ⟨rfl, q5⟩ | ⟨rfl, s2, x2, q5, q6⟩
    · have e3 : k238b113 pw (xn w) (k', 0, cl') = (3, (k', 0, cl')) := by
        unfold k238b113
        rw [if_pos rfl]
      have eR : R = (3, (k', 0, cl')) := kwh_un (hnx _ q2) ⟨1, by rw [kwh_out (by rw [e3]; exact Nat.succ_ne_zero _), e3]⟩ hR0 (Nat.succ_ne_zero _)
      rw [eR]
      exact hE a0 k0 a' s' k' f r p' t v w pw y1 y3' y4' (y6 + 1) q5 hyp hp hB (by omega) ⟨by have := hr.1; omega, by have := hr.2; omega⟩
    · exact hL a0 k0 a' s' s2 x2 k' f r p' t v w pw y1 y3' y4' (y6 + 1) cl' R q5 q6 hyp hp hB (by omega) ⟨by have := hr.1; omega, by have := hr.2; omega⟩ q4 (hnx _ q2) hR0 (by omega) (by omega)
  · show QC _ _ (c147_47 rc s1 y1 (xn f.2.1.length) y3 y4 y6 x)
    rw [q1]
    refine QC.thn ?_
    rcases q3 with rfl | rfl
    · rw [hst _ q2 (Nat.succ_ne_zero _)]
      exact q4
    · rw [hst _ q2 (Nat.succ_ne_zero _)]
      exact q4
theorem ln_ter : ∀ (d : Nat) {y3 y4 : Int32} {a : Nat} {s1 : cS} {k : kS} {p : List xR} {cl : Int32}, LSt y3 y4 L P k0 t v w a s1 k f r p → (y3 < 0 ↔ cl = 0) → L.length - a ≤ d → ∃ R, (∃ m', kwh (k238b113 pw (xn w)) m' (k, 1, cl) = R) ∧ R.1 ≠ 0 := by
  intro d
  induction d with
  | zero =>
    intro y3 y4 a s1 k p cl h hcl hd
    rcases ln_one (rc := cfix 0) (y1 := 0) (y2 := 0) (y3 := y3) (y4 := y4) (y6 := 0) (x := 0) (pw := pw) (W' := xn w) (cl := cl) h hcl with ⟨s', p', a', k', y3', y4', mr, cl', q1, q2, q3, q4, q5⟩ | ⟨s', c, k', m, c', q1, q2, q3, q4⟩
    · have : a' ≤ L.length := by
        rcases q5 with ⟨-, q⟩ | ⟨-, s2, x2, -, q⟩
        · exact q.1.le.1
        · exact q.1.le.1
      omega
    · exact ⟨_, ⟨1, by rw [kwh_out (by rw [q2]; rcases q3 with e | e <;> rw [e] <;> exact Nat.succ_ne_zero _), q2]⟩, by rcases q3 with e | e <;> rw [e] <;> exact Nat.succ_ne_zero _⟩
  | succ d ih =>
    intro y3 y4 a s1 k p cl h hcl hd
    rcases ln_one (rc := cfix 0) (y1 := 0) (y2 := 0) (y3 := y3) (y4 := y4) (y6 := 0) (x := 0) (pw := pw) (W' := xn w) (cl := cl) h hcl with ⟨s', p', a', k', y3', y4', mr, cl', q1, q2, q3, q4, q5⟩ | ⟨s', c, k', m, c', q1, q2, q3, q4⟩
    · rcases q5 with ⟨rfl, q5⟩ | ⟨rfl, s2, x2, q5, q6⟩
      · have e3 : k238b113 pw (xn w) (k', 0, cl') = (3, (k', 0, cl')) := by
          unfold k238b113
          rw [if_pos rfl]
        exact ⟨_, kw_step (by rw [q2]) (by rw [q2]; exact ⟨1, by rw [kwh_out (by rw [e3]; exact Nat.succ_ne_zero _), e3]⟩), Nat.succ_ne_zero _⟩
      · obtain ⟨R, r1, r2⟩ := ih (cl := cl') q6 q4 (by omega)
        exact ⟨R, kw_step (by rw [q2]) (by rw [q2]; exact r1), r2⟩
    · exact ⟨_, ⟨1, by rw [kwh_out (by rw [q2]; rcases q3 with e | e <;> rw [e] <;> exact Nat.succ_ne_zero _), q2]⟩, by rcases q3 with e | e <;> rw [e] <;> exact Nat.succ_ne_zero _⟩
def E147 (rc : cRC) (L : List xR) : Prop := ∀ {P : PT} (a : Nat) (s : cS) (k : kS) (X : List xF) (t v w : Nat), SG L P k t v w a s k X t v w → XB X → RO L (a + 1) (t + 8) (v + 8) → c53 s = 22 → kc L (a + 1) ≠ 18 → QC (SP L P k t v w a X) (k228 k 22).1 (rc 147 s 0 0 0 0 0 0 0)
theorem st_loc (hL : E147L rc L) (hE : E147E rc L) (h : SG L P k t v w a s k X t v w) (hB : XB X) (hr : RO L (a + 1) (t + 8) (v + 8)) (c : c53 s = 22) (hk : kc L (a + 1) ≠ 18) : QC (SP L P k t v w a X) (k228 k 22).1 (c147 rc s) := by
  have hle := h.le
  rw [k228_k22]
  obtain ⟨f, r, rfl, b1⟩ : ∃ f r, X = f :: r ∧ f.2.2.1 = [] := by
    obtain ⟨f, r, b, bs, e1, e2, -⟩ := hB
    exact ⟨f, r, e1, e2⟩
  have ecnt : c75 s = xn f.2.1.length := by
    rw [XC.cnt h.1.2.1.1 h.SZ, b1, List.append_nil]
  unfold c147 k238
  rw [ecnt]
  obtain ⟨q, s1, q1, q2, q3, q4, q5⟩ := h.skp c pl22
  have hlt := lt_of q1
  generalize kf k 4 (k.1 4 + 1) = k1 at q4
  have n18 : c53 s1 ≠ 18 := fun z => by
    rcases q4.1.1.kd with ⟨p, p1, p2, -⟩ | ⟨p1, p2, -⟩
    · refine hk ?_
      unfold kc
      rw [p1]
      exact p2.symm.trans z
    · rw [p2] at z
      exact absurd z (by decide)
  rw [if_pos (fun z => n18 ((q4.is (by decide) (by decide)).mpr z)), q4.2.1.2.2]
  have ef : fwp f [] = f := by
    unfold fwp
    rw [← b1]
  have h2 : LSt (-1) 0 L P k t v w (a + 1) s1 k1 f r [] := ⟨by rw [ef]; exact q4, (fun j q hq => nomatch hq), (fun j q hq => nomatch hq), fun _ => by rw [if_pos (by decide)]; rfl⟩
  obtain ⟨R, r1, r2⟩ := ln_ter (pw := k.1 4) (L.length - (a + 1)) (cl := 0) h2 (by decide) (Nat.le_refl _)
  have ek : kfin (k238b113 (k.1 4) (xn w)) (k1, 1, 0) = R := kfin_of r1 r2
  rw [ek]
  exact ln_rnd hL hE q3 h2 h.w63 b1 hB (by omega) ⟨by have := hr.1; omega, by have := hr.2; omega⟩ (by decide) r1 r2 (by decide) (Int.natCast_nonneg _)
end LOE
