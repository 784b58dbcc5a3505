/-! THE WALK OVER BOTH: do, while, repeat -/
section ST2
variable {L : List xR} {P : PT} {k0 k k' : kS} {T V W a t v w : Nat} {s s' : cS} {X X' : List xF} {x y y1 y2 : Int32} {rc : cRC} {Q : cS → kS → Int32 → Prop} {fc : cS → Option (cS × Option Int32)}
theorem st_do (h128 : E128 rc L) (h : SG L P k t v w a s k X t v w) (hB : XB X) (hr : RO L (a + 1) (t + 8) (v + 8)) (c : c53 s = 12) (hf : ∀ s1 k1 a1 X1, a < a1 → SG L P k t v w a1 s1 k1 X1 t v w → XQ X X1 → QC Q k1 (fc s1)) : QC Q (k228 k 12).1 (rbd (some (c55 s)) (fun _ _ => rbd (rc 128 (c55 s).1 0 0 0 0 0 0 0) (fun s6 _ => rbd (some (c64 s6 15)) (fun _ _ => fc (c64 s6 15).1)))) := by
  have ht : t + 8 ≤ 1000000 := by have := hr.1; omega
  rw [k228_k12]
  rcases h.ske c en12 with ⟨q, s1, k1, q1, q2, q3, q4, q5, q6, q7⟩ | ⟨q1, q2, q3⟩
  · rw [q3, rbd_th (w := q.2.1) rfl, q4]
    show QC Q (k228_207 k1 1).1 _
    unfold k228_207 k228_218 k228_226
    rw [if_pos (by decide)]
    refine (h128 0 0 0 (a + 1) s1 k1 X t v w 2 0 0 0 (SE.of q5.own) hB (Or.inl ⟨rfl, rfl, rfl⟩) (by have := h.sz; omega) ⟨by have := hr.1; omega, by have := hr.2; omega⟩).bnd ?_
    rintro s2 k2 x2 (⟨a2, X2, u1, u2, u3, u4⟩ | ⟨u1, u2⟩)
    · refine QC.pop u4 (by omega) ?_
      rw [k180_g2]
      unfold k180_123
      generalize (k242 (kf k2 10 (xn t))).1 = k3 at u2
      have h3 := (SE.of q5).reb u2 (Nat.le_refl _) (Nat.le_refl _) (Nat.le_refl _)
      rcases (SE.to h3).tkl lv15 with ⟨p, s5, k5, p1, p2, p3, p4, p5, p6, p7⟩ | ⟨p1, p2, p3⟩
      · show QC Q (k199 k3 15).1 (rbd (some (c64 s2 15)) (fun _ _ => fc (c64 s2 15).1))
        rw [p3, rbd_th (w := p.2.1) rfl, p4]
        exact hf s5 k5 (a2 + 1) X2 (by omega) p5 u3
      · show QC Q (k199 k3 15).1 (rbd (some (c64 s2 15)) (fun _ _ => fc (c64 s2 15).1))
        rw [rbd_thn p1]
        exact QC.thn p3
    · show QC Q k2 (rbd (some (c64 s2 15)) (fun _ _ => fc (c64 s2 15).1))
      rw [rbd_thn (c64_no (fun z => u2 (Or.inr (Or.inr (Or.inr (Or.inl z))))))]
      exact QC.thn u1
  · rw [rbd_thn q1]
    refine QC.thn ?_
    unfold k228_207
    rw [if_neg (fun z => z q2)]
    exact q3
theorem SGp.fr1 {F A : Nat} (h : SG L P k0 T V W a s k X t v w) (f : kFr F A k k') (k1 : F &&& 299768897608096974193 = 0 := by rfl) (k2 : A &&& 18587391190861269661702 = 0 := by rfl) : SG L P k0 T V W a s k' X t v w := SE.to (SEp.kq (SE.of h) f k1 k2)
/-- a loop begins, ends -/
theorem LVv.lop {x : Int32} {n : Nat} (h : LVv [] s X) (hx : x = xn n) (hl : (s.r (.s 28)).toInt < 1048576) : LVv [n] (c131 s x).1 X := by
  obtain ⟨U, h1, h2⟩ := h
  refine ⟨_, (h1.add (a := x) (b := s.r (.s 30)) (c := 0) (d := 0) (by have := h1.1; omega)).1, ?_⟩
  rw [List.map_append, h2, List.append_nil, List.map_append, hx]
  rfl
theorem LVv.lcl {i n : Nat} (h : LVv [n] s X) (hl : (s.r (.s 28)).toInt < 1048576) : LVv [] (c132 s i).1 X := by
  obtain ⟨U, h1, h2⟩ := h
  have hk : cFr 0 1073741824 0 4 s (tct (kfin (c132b20 i (tg s (.s 28) (s.r (.s 28) - 1) 1)) (s, tg s (.s 28) (s.r (.s 28) - 1) 1)).2.1 (.s 30) (tg s (.s 28) (s.r (.s 28) - 1) 1)) := cFr.tcts ((cFr.mono (cfin_fr1 (t := (s, tg s (.s 28) (s.r (.s 28) - 1) 1)) (fun t => fr_c132b20 i (tg s (.s 28) (s.r (.s 28) - 1) 1) t)) rfl rfl rfl rfl)) rfl
  unfold c132 c132_59
  generalize tct (kfin (c132b20 i (tg s (.s 28) (s.r (.s 28) - 1) 1)) (s, tg s (.s 28) (s.r (.s 28) - 1) 1)).2.1 (.s 30) (tg s (.s 28) (s.r (.s 28) - 1) 1) = s1 at hk
  have h3 : TR s1 (.s 28) U := h1.same (hk.2.1 28 rfl).1 (hk.2.1 28 rfl).2
  have hlen : U.length = (fLv X).length + 1 := by
    have := congrArg List.length h2
    rw [List.length_map, List.length_map, List.length_append] at this
    exact this
  have e2 : (s1.r (.s 28) - 1).toInt = ((fLv X).length : Int) := by
    rw [i_sub h3.1 (show (1 : Int32).toInt = 1 from rfl) (by omega) (by have := h1.1; omega)]
    omega
  refine ⟨U.take (fLv X).length, h3.cut (n := s1.r (.s 28) - 1) (k := (fLv X).length) e2 (by omega), ?_⟩
  rw [List.map_take, h2, List.append_nil, List.map_append, List.take_append_of_le_length (by rw [List.length_map]; exact Nat.le_refl _), List.take_of_length_le (by rw [List.length_map]; exact Nat.le_refl _)]
theorem SE.lop (h : SG L P k0 T V W a s k X t v w) (hB : XB X) : SE 1 L P k0 T V W a (c131 s (c75 s)).1 k X t v w := by
  obtain ⟨f, r, b, bs, rfl, b1, -⟩ := hB
  have hz := h.SZ
  have hg := hz.g
  have hlp := h.1.2.1.1.lp
  have ecnt : c75 s = xn f.2.1.length := by rw [XC.cnt h.1.2.1.1 hz, b1, List.append_nil]
  have fc := fr_c131 s (c75 s)
  refine SEp.nam (SE.of h) fc (kFr.refl (F := 0) (A := 0)) (RE.lop (e := 0) h.1.2.1 (by omega)) h.sz (h.ou fc (kFr.refl (F := 0) (A := 0))) ⟨h.ne, h.nc.lop (by omega), h.fb.fr fc (kFr.refl (F := 0) (A := 0)) rfl rfl id rfl, h.cc, ?_⟩
  exact h.lv.lop ecnt (by omega)
/-- as SE, but nothing of rows -/
def SX (e : Nat) (L : List xR) (P : PT) (k0 : kS) (T V W a : Nat) (s : cS) (k : kS) (X : List xF) (t v w : Nat) : Prop := (WR L a s k ∧ RE (er e) s k X ∧ szX X ≤ 8 * a + 8 ∧ (k.1 53).toInt ≤ a + 1 ∧ L.length ≤ 600 ∧ OU (bd a) s k X ∧ X ≠ [] ∧ FB s k (sh X) ∧ CL k X ∧ LVv (pnd (er e) X) s X) ∧ KP t v w k ∧ KB T V W k0 k ∧ w ≤ a ∧ CP P a s
theorem SEp.sx {δ : Df} {e : Nat} (h : SEp δ e L P k0 T V W a s k X t v w) : SX e L P k0 T V W a s k X t v w := ⟨⟨h.1.1, h.1.2.1, h.1.2.2.1, h.1.2.2.2.1, h.1.2.2.2.2.1, h.1.2.2.2.2.2.1, h.ne.1, h.ne.2.2.1, h.ne.2.2.2.1, h.ne.2.2.2.2⟩, h.2⟩
theorem SX.se {δ : Df} {e : Nat} (h : SX e L P k0 T V W a s k X t v w) (n : NR e δ P.2.2 s k X) : SEp δ e L P k0 T V W a s k X t v w := ⟨⟨h.1.1, h.1.2.1, h.1.2.2.1, h.1.2.2.2.1, h.1.2.2.2.2.1, h.1.2.2.2.2.2.1, h.1.2.2.2.2.2.2.1, n, h.1.2.2.2.2.2.2.2.1, h.1.2.2.2.2.2.2.2.2.1, h.1.2.2.2.2.2.2.2.2.2⟩, h.2⟩
theorem SX.pp {e : Nat} {H : List hE} (h : SX e L P k0 T V W a s k X t v w) : SX e L (P.1, P.2.1, H) k0 T V W a s k X t v w := h
theorem SX.le {e : Nat} (h : SX e L P k0 T V W a s k X t v w) : a ≤ L.length ∧ L.length ≤ 16384 := ⟨h.1.1.2.2.1.2.2, h.1.1.1.2.1⟩
theorem SX.SZ {e : Nat} (h : SX e L P k0 T V W a s k X t v w) : SZ X := SZ_of (by have := h.1.2.2.1; have := h.le; omega)
theorem SX.fr {e : Nat} {F T' B G F' A' : Nat} (h : SX e L P k0 T V W a s k X t v w) (hc : cFr F T' B G s s') (hk : kFr F' A' k k') (c1 : F &&& 822752278660603021077484591278675410950110812984694428651290624 = 0 := by rfl) (c2 : T' &&& 352404744 = 0 := by rfl) (c3 : B &&& 8188 = 0 := by rfl) (c4 : G &&& 11 = 0 := by rfl) (k1 : F' &&& 4620992428744148337 = 0 := by rfl) (k2 : A' &&& 287065817272136726534 = 0 := by rfl) : SX e L P k0 T V W a s' k' X t v w := by
  refine ⟨⟨h.1.1.fr hc hk (tb0 c2 (by decide)) (tb0 c1 (by decide)) (tb0 c1 (by decide)) (sub0 k1 rfl) (sub0 k2 rfl), h.1.2.1.frm hc hk (tb0 c1 (by decide)) (tb0 c1 (by decide)) (tb0 c1 (by decide)) (tb0 c1 (by decide)) (sub0 c2 rfl) (sub0 c3 rfl) (sub0 c4 rfl) (sub0 k1 rfl) (sub0 k2 rfl) (tb0 k1 (by decide)) (tb0 k1 (by decide)), h.1.2.2.1, ?_, h.1.2.2.2.2.1, OU.fr h.1.2.2.2.2.2.1 (hc.ou (tb0 c4 (by decide))) hk (sub0 k1 rfl) (sub0 k2 rfl), h.1.2.2.2.2.2.2.1, h.1.2.2.2.2.2.2.2.1.fr hc hk (sub0 c3 rfl) (sub0 k2 rfl) (kSt.of hk (tb0 k1 (by decide))) (hk.1 53 (tb0 k1 (by decide))), h.1.2.2.2.2.2.2.2.2.1.sub (fun _ _ q => q) (kSt.of hk (tb0 k1 (by decide))) (hk.2 30 (tb0 k2 (by decide))), h.1.2.2.2.2.2.2.2.2.2.same rfl (hc.2.1 28 (tb0 c2 (by decide))).1 (hc.2.1 28 (tb0 c2 (by decide))).2⟩, ⟨(hk.1 10 (tb0 k1 (by decide))).trans h.2.1.1, (hk.1 15 (tb0 k1 (by decide))).trans h.2.1.2.1, (hk.1 20 (tb0 k1 (by decide))).trans h.2.1.2.2⟩, h.2.2.1.trans (KB.fr hk (sub0 k2 rfl)), h.2.2.2.1, h.2.2.2.2.ts (TS.of hc (sub0 c2 rfl)) (Nat.le_refl _)⟩
  rw [hk.1 53 (tb0 k1 (by decide))]
  exact h.1.2.2.2.1
theorem SX.adv {e : Nat} {k1 : kS} {s1 : cS} (h : SX e L P k0 T V W a s k X t v w) (hw : WR L (a + 1) s1 k1) (hc : cFr 51539607552 0 0 0 s s1) (f : kFr 48 0 k k1) : SX e L P k0 T V W (a + 1) s1 k1 X t v w := ⟨⟨hw, h.1.2.1.frm hc f rfl rfl rfl rfl rfl rfl rfl rfl rfl rfl rfl, by have := h.1.2.2.1; omega, by rw [f.1 53 rfl]; have := h.1.2.2.2.1; omega, h.1.2.2.2.2.1, (OU.fr h.1.2.2.2.2.2.1 (hc.ou rfl) f rfl rfl).mono (bd_mono (Nat.le_succ _)), h.1.2.2.2.2.2.2.1, h.1.2.2.2.2.2.2.2.1.fr hc f rfl rfl (kSt.of f rfl) (f.1 53 rfl), h.1.2.2.2.2.2.2.2.2.1.sub (fun _ _ q => q) (kSt.of f rfl) (f.2 30 rfl), h.1.2.2.2.2.2.2.2.2.2.same rfl (hc.2.1 28 rfl).1 (hc.2.1 28 rfl).2⟩, ⟨(f.1 10 rfl).trans h.2.1.1, (f.1 15 rfl).trans h.2.1.2.1, (f.1 20 rfl).trans h.2.1.2.2⟩, h.2.2.1.trans (KB.fr f rfl), by have := h.2.2.2.1; omega, h.2.2.2.2.ts (TS.of hc rfl) (Nat.le_succ _)⟩
theorem SX.tkl {e : Nat} {K : Int32} (h : SX e L P k0 T V W a s k X t v w) (hp : LEV K) : (∃ q s1 k1, L[a]? = some q ∧ q.1 = K ∧ c64 s K = (s1, some q.2.1) ∧ k199 k K = (k1, 1) ∧ SX e L P k0 T V W (a + 1) s1 k1 X t v w ∧ cFr 51539607552 0 0 0 s s1 ∧ kFr 48 0 k k1) ∨ ((c64 s K).2 = none ∧ (k199 k K).2 = 0 ∧ (k199 k K).1.1 6 ≠ 0) := by
  rcases tk_kd h.1.1 hp.1 hp.2.1 with ⟨q, q1, q2, q3, q4, q5⟩ | ⟨q1, q2, q3⟩
  · left
    obtain ⟨u1, u2⟩ := h.1.1.le q1 (by rw [q2]; exact hp.2.2.1 s) (by rw [q2]; exact hp.2.2.2 s)
    have hc : cFr 51539607552 0 0 0 s (nf (nf s 2 3 (s.f 2 3 - 1)) 2 2 (xn (a + 1))) := (cFr.refl.sf rfl).sf rfl
    have hk : kFr 48 0 k (kf (kf k 4 (k.1 4 + 1)) 5 (k.1 5 - 1)) := kFr.sf (kFr.sf kFr.refl rfl) rfl
    refine ⟨q, _, _, q1, q2, by rw [q5, u1], ?_, h.adv u2 hc hk, hc, hk⟩
    unfold k199 k200
    rw [if_pos q4]
    rfl
  · right
    refine ⟨q3, ?_⟩
    unfold k199 k200
    rw [if_neg q2]
    unfold k199_5
    rw [if_neg (fun z => z (k194_f (by decide)).2.2)]
    exact ⟨rfl, (k194_f (by decide)).1⟩
theorem SX.lcl {e i : Nat} (h : SX e L P k0 T V W a s k X t v w) (he : e = 1 ∨ e = 2) : SX 0 L P k0 T V W a (c132 s i).1 k X t v w := by
  have hz := h.SZ
  have hg := hz.g
  have er1 : er e = 1 := by rcases he with z | z <;> (subst z; rfl)
  have hre := h.1.2.1
  rw [er1] at hre
  have hlp := hre.1.lp
  have n := RE.lcl (e := 0) (x := i) hre (by omega)
  have fc := fr_c132 s i
  refine ⟨⟨h.1.1.fr fc (kFr.refl (F := 0) (A := 0)) rfl rfl rfl rfl rfl, n, h.1.2.2.1, h.1.2.2.2.1, h.1.2.2.2.2.1, OU.fr h.1.2.2.2.2.2.1 (fc.ou rfl) (kFr.refl (F := 0) (A := 0)) rfl rfl, h.1.2.2.2.2.2.2.1, h.1.2.2.2.2.2.2.2.1.fr fc (kFr.refl (F := 0) (A := 0)) rfl rfl id rfl, h.1.2.2.2.2.2.2.2.2.1, ?_⟩, h.2.1, h.2.2.1, h.2.2.2.1, h.2.2.2.2.ts (TS.of fc rfl) (Nat.le_refl _)⟩
  obtain ⟨m, hm⟩ : ∃ m, pnd 1 X = [m] := by
    cases X with
    | nil => exact ⟨_, rfl⟩
    | cons f r => exact ⟨_, rfl⟩
  have z := h.1.2.2.2.2.2.2.2.2.2
  rw [er1, hm] at z
  exact z.lcl (by omega)
theorem SX.e28 {e : Nat} (h : SX e L P k0 T V W a s k X t v w) (he : e = 1 ∨ e = 2) : (s.r (.s 28)).toInt ≤ 1000001 := by
  have hg := h.SZ.g
  have er1 : er e = 1 := by rcases he with z | z <;> (subst z; rfl)
  have hre := h.1.2.1
  rw [er1] at hre
  have hlp := hre.1.lp
  omega
/-- the loop ends on both sides -/
theorem SEp.lcl {f : xF} {r : List xF} (h : SE 2 L P k0 T V W a s k (f :: r) t v w) : SG L P k0 T V W a (c132 s s.now).1 (k246 k).1 (f :: r) t v w := by
  obtain ⟨o1, o2, o3, o4⟩ := own_e h.1.2.1 h.SZ
  have n := h.ne.2.1.lcl o2 o3 o1 (own_e5 h.1.2.1 h.k53) h.k53 (h.sx.e28 (Or.inr rfl))
  have hx := (h.sx.fr (cFr.refl (F := 0) (T := 0) (B := 0) (G := 0)) (fr_k246 k)).lcl (i := s.now) (Or.inr rfl)
  exact SE.to (hx.se n)
/-- while -/
def E130 (rc : cRC) (L : List xR) : Prop := ∀ {P : PT} (a : Nat) (s : cS) (k : kS) (X : List xF) (t v w : Nat), SG L P k t v w a s k X t v w → XB X → RO L (a + 1) (t + 8) (v + 8) → c53 s = 31 → QC (SP L P k t v w a X) (k228 k 31).1 (rc 130 s 0 0 0 0 0 0 0)
theorem wh_end {f : xF} {r : List xF} {X2 : List xF} {i a2 : Nat} {s2 : cS} {k3 : kS} {vc vk : Int32} (h3 : SE 2 L (P.1, P.2.1, (f.1 - 1, i, 1, x.toNatClampNeg, vc, vk) :: (gho y1 y ++ P.2.2)) k t v w a2 s2 k3 X2 t v w) (hi : y2.toInt = i) (ha : a < a2) (hq : XQ (f :: r) X2) : QC (SP L P k t v w a (f :: r)) (k245_4 k3 x y).1 (c130_74 rc s2 y1 y2) := by
  obtain ⟨f0, f', r', l, b, b', bs, x1, x2, ⟨x3, x4, x5⟩, x6, x7, x8⟩ := hq
  cases x1
  subst x2
  have hq' : XQ (f :: r) (f' :: r) := ⟨f, f', r, l, b, b', bs, rfl, rfl, ⟨x3, x4, x5⟩, x6, x7, x8⟩
  rw [← x5] at h3
  obtain ⟨o1, o2, o3, o4⟩ := own_e h3.1.2.1 h3.SZ
  have e1 : f'.1 - 1 + 1 = f'.1 := by omega
  have hx5 := own_e5 h3.1.2.1 h3.k53
  have h53 := h3.k53
  unfold k245_4 k245_13 k245_28
  have f1 := fr_k189 k3 36 y 0 0
  have n0 := h3.ne.2.1
  have hx0 := (h3.sx.fr (cFr.refl (F := 0) (T := 0) (B := 0) (G := 0)) f1)
  have p33 := k33_put (a := 36) (b := y) (c := 0) (e := 0) o1
  have e28 := h3.sx.e28 (Or.inr rfl)
  have n1 : NR 2 ([], [(36, y, 0, 0)]) ((f'.1 - 1, i, 1, x.toNatClampNeg, vc, vk) :: (gho y1 y ++ P.2.2)) s2 (k189 k3 36 y 0 0).1 (f' :: r) := n0.putn o1 (by omega) hx5 h53
  have h54 : ((k189 k3 36 y 0 0).1.1 53).toInt ≤ 1000000 := by rw [f1.1 53 rfl]; exact h53
  have hx6 : ((f'.1 - 1 : Nat) : Int) < ((k189 k3 36 y 0 0).1.1 53).toInt := by rw [f1.1 53 rfl]; exact hx5
  generalize (k189 k3 36 y 0 0).1 = k4 at n1 hx0 p33 h54 hx6
  have e210 : k210 k4 = k4.2 60 (f'.1 - 1) := k210_60 hx0.1.2.1 hx0.SZ
  generalize k210 k4 = v0 at e210
  have f2 : kFr 0 2361183241434822606848 k4 (ka k4 71 x v0) := kFr.sa kFr.refl rfl
  have n2 := n1.ks1 (v := v0) h54
  have hx1 := hx0.fr (cFr.refl (F := 0) (T := 0) (B := 0) (G := 0)) f2
  have ev : v0 = (ka k4 71 x v0).2 60 (f'.1 - 1) := by rw [f2.2 60 rfl]; exact e210
  have p34 : kr (ka k4 71 x v0) 33 ((ka k4 71 x v0).1 32) = xn (f'.1 - 1) := p33
  have h55 : ((ka k4 71 x v0).1 53).toInt ≤ 1000000 := h54
  have hx7 : ((f'.1 - 1 : Nat) : Int) < ((ka k4 71 x v0).1 53).toInt := hx6
  generalize ka k4 71 x v0 = k5 at n2 hx1 ev p34 h55 hx7
  have f6 := fr_k246 k5
  have hx2 := hx1.fr (cFr.refl (F := 0) (T := 0) (B := 0) (G := 0)) f6
  unfold c130_74
  rcases hx2.tkl lv15 with ⟨p, s7, k7, p1, p2, p3, p4, p5, p6, p7⟩ | ⟨p1, p2, p3⟩
  · rw [p3, rbd_th (w := p.2.1) rfl, p4]
    unfold c130_83 c130_93 c130_106
    have n3 : NR 2 ([], [(36, y, 0, 0)]) ((f'.1 - 1, i, 1, x.toNatClampNeg, vc, v0) :: (gho y1 y ++ P.2.2)) s7 k5 (f' :: r) := n2.fr p6 (kFr.refl (F := 0) (A := 0)) rfl rfl rfl rfl id
    have n4 := n3.cle (a := 36) (b := y1) (c := 0) (e := 0)
    have n5 : NR 2 ([], []) ((f'.1 - 1, i, 1, x.toNatClampNeg, vc, v0) :: (gho y1 y ++ P.2.2)) (c78 s7 36 y1 0 0).1 k5 (f' :: r) := by
      by_cases c : y1 = y
      · exact n4.de0 (by rw [c]; rfl)
      · exact NR.nvh (a := y1) (b := y) c (n4.pmH List.perm_middle.symm)
    have x8' := p5.fr (fr_c78 s7 36 y1 0 0) (kFr.refl (F := 0) (A := 0))
    have en : (c78 s7 36 y1 0 0).1.now = f'.1 - 1 + 1 := by
      rw [c78_now, p6.2.2.2.1 (Nat.zero_testBit _)]
      omega
    have e28' : ((c78 s7 36 y1 0 0).1.r (.s 28)).toInt ≤ 1000001 := x8'.e28 (Or.inr rfl)
    generalize (c78 s7 36 y1 0 0).1 = s8 at n5 x8' en e28'
    have n6 : NR 2 ([], []) (gho y1 y ++ P.2.2) (c109 s8 s8.now y2 1).1 k5 (f' :: r) := by
      show NR 2 ([], []) (gho y1 y ++ P.2.2) (ts s8 (.i s8.now) y2 1 (s8.r (.i s8.now))) k5 (f' :: r)
      rw [en]
      exact n5.cld hi (fun _ => hx7) (fun _ => ev)
    have f9 := fr_c109 s8 s8.now y2 1
    have x9 := x8'.fr f9 (kFr.refl (F := 0) (A := 0))
    have en9 : (c109 s8 s8.now y2 1).1.now = f'.1 := by
      rw [f9.2.2.2.1 rfl, en, e1]
    have e28'' : ((c109 s8 s8.now y2 1).1.r (.s 28)).toInt ≤ 1000001 := x9.e28 (Or.inr rfl)
    generalize (c109 s8 s8.now y2 1).1 = s9 at n6 x9 en9 e28''
    have n7 := (n6.ghx.lcl en9 o3 p34 hx7 h55 e28'').fr (cFr.refl (F := 0) (T := 0) (B := 0) (G := 0)) p7 rfl rfl rfl rfl (fun z => (p7.1 8 rfl).symm.trans z)
    exact QC.ret ⟨a2 + 1, f' :: r, by omega, SE.to (SX.se (P := P) (x9.lcl (i := s9.now) (Or.inr rfl)) n7), hq'⟩
  · rw [rbd_thn p1]
    exact QC.thn p3
theorem st_whl (h70 : E70 rc L) (h128 : E128 rc L) (h : SG L P k t v w a s k X t v w) (hB : XB X) (hr : RO L (a + 1) (t + 8) (v + 8)) (c : c53 s = 31) : QC (SP L P k t v w a X) (k228 k 31).1 (c130 rc s) := by
  have ht : t + 8 ≤ 1000000 := by have := hr.1; omega
  have hv : v + 8 ≤ 1000000 := by have := hr.2; omega
  obtain ⟨f, r, b, bs, rfl, e2, e3, e4⟩ := hB
  have hB : XB (f :: r) := ⟨f, r, b, bs, rfl, e2, e3, e4⟩
  rw [k228_k31]
  unfold c130 c130_20
  have e4' := h.w63
  have h0 := h.ttp.cle (x := 34) (y := 0) (z := 0) (u := c63 s)
  have c' : c53 (c78 s 34 0 0 (c63 s)).1 = 31 := (c53_fr (fr_c78 s 34 0 0 (c63 s))).trans c
  generalize (c78 s 34 0 0 (c63 s)).1 = s0 at h0 c'
  obtain ⟨q, s1, q1, q2, q3, q4, q5⟩ := h0.skp c' pl31
  rw [q3, rbd_th (w := q.2.1) rfl]
  have e210 : k210 (kf k 4 (k.1 4 + 1)) = k210 k := rfl
  generalize kf k 4 (k.1 4 + 1) = k1 at q4 e210
  obtain ⟨h2, g2⟩ := q4.psh (g := 3) (p := k210 k1) (q := 0) (c := 0) (Nat.le_refl _) (by omega)
  unfold k228_254 k228_263 c130_28
  generalize (k179 k1 3 (k210 k1) 0 0).1 = k2 at h2 g2
  refine (ex_go h70 ((h2.put (x := 34) (y := 0) (z := 0) (u := k.1 4)).de0 (by rw [e4'])) g2.put hB.ne (Nat.le_refl _) (Nat.le_refl _) (Nat.le_refl _) ⟨by have := hr.1; omega, by have := hr.2; omega⟩).bnd ?_
  rintro s3 k3 x3 ⟨a3, u1, u2, -, u3⟩
  refine QC.pop u3 (by omega) ?_
  rw [k180_g3]
  have h4' := (u2.top (t' := t)).awy (Nat.le_refl _) (by omega)
  obtain ⟨-, o2, -, -⟩ := own_k h4'.1.2.1 h4'.SZ
  have ci := c78_i (b1 := 35) (b2 := 0) (b3 := 0) (b4 := 0) h4'.nc.1 o2
  have ci0 := h4'.nc.1 f.1
  have ec : (c78 s3 35 0 0 0).2 = s3.r (.i f.1) := by rw [← o2]; exact tad_2
  have h4 := h4'.cle (x := 35) (y := 0) (z := 0) (u := 0)
  unfold k244
  generalize (k209 (kf k3 10 (xn t))).1 = k4 at h4
  show QC _ (k244_4 k4 (k210 k1)).1 (c130_42 rc (c78 s3 35 0 0 0).1 (c98 s) (c78 s3 35 0 0 0).2)
  rw [ec]
  generalize (c78 s3 35 0 0 0).1 = s4 at h4 ci
  unfold k244_4 c130_42
  rcases h4.tke en12 with ⟨p, s5, k5, p1, p2, p3, p4, p5, p6, p7⟩ | ⟨p1, p2, p3⟩
  · rw [p3, rbd_th (w := p.2.1) rfl, p4]
    show QC _ (k244_10 k5 (k210 k1) 1).1 (c130_70 rc (c131 s5 (c75 s5)).1 (c98 s) (s3.r (.i f.1)))
    unfold k244_10 k244_23 k244_29 c130_70
    rw [if_pos (by decide)]
    obtain ⟨m1, m2, m3, m4⟩ := own_k p5.1.2.1 p5.SZ
    have jg := k189_g (b1 := 35) (b2 := 0) (b3 := 0) (b4 := 0) p5.nc m1
    have ci5 : (s5.r (.i f.1)).toInt = ((s3.r (.i f.1)).toNatClampNeg : Nat) + 1 ∨ 1048576 ≤ (s5.r (.i f.1)).toInt := by
      rw [p6.2.2.2.2.2.2.1 (Nat.zero_testBit _)]
      exact ci
    have h5 := SEp.hol (j := 1) (SEp.of (p5.put (x := 35) (y := 0) (z := 0) (u := 0))) ci5 jg (Or.inl rfl) rfl rfl (fun q => absurd rfl q) (fun _ => rfl) (by unfold jmp; decide)
    have h6 := SE.lop (SE.to h5) hB
    generalize (k189 k5 35 0 0 0).2 = g35 at h6 ⊢
    generalize (k189 k5 35 0 0 0).1 = k6 at h6
    refine (h128 1 2 1 (a3 + 1) _ k6 (f :: r) t v w 4 _ (k210 k1) 0 h6.own hB (Or.inr ⟨rfl, rfl, rfl⟩) (by have := h.sz; omega) ⟨by have := hr.1; omega, by have := hr.2; omega⟩).bnd ?_
    rintro s7 k7 x7 (⟨a7, X7, w1, w2, w3, w4⟩ | ⟨w1, w2⟩)
    · refine QC.pop w4 (by omega) ?_
      rw [k180_g4]
      rw [e210]
      exact wh_end (h6.reb w2 (Nat.le_refl _) (Nat.le_refl _) (Nat.le_refl _)) (nat_xn ci0) (by omega) w3
    · show QC _ k7 (c130_74 rc s7 (c98 s) (s3.r (.i f.1)))
      unfold c130_74
      rw [rbd_thn (c64_no (fun z => w2 (Or.inr (Or.inr (Or.inr (Or.inl z))))))]
      exact QC.thn w1
  · rw [rbd_thn p1]
    refine QC.thn ?_
    unfold k244_10
    rw [if_neg (fun z => z p2)]
    exact p3
theorem GT.fr {F A : Nat} {g p q c : Int32} (h : GT t g p q c k) (f : kFr F A k k') (k1 : F &&& 1024 = 0 := by rfl) (k2 : A &&& 15169536 = 0 := by rfl) : GT t g p q c k' := by
  have tb : ∀ (A M j : Nat), A &&& M = 0 → M.testBit j = true → A.testBit j = false := fun A M j ez hj => by
    have := congrArg (fun q => q.testBit j) ez
    simp only [Nat.testBit_and, hj, Bool.and_true, Nat.zero_testBit] at this
    exact this
  exact h.bck (v := 0) (w := 0) (KB.fr f k2) ((f.1 10 (tb _ _ 10 k1 (by decide))).trans h.1)
/-- repeat -/
def E133 (rc : cRC) (L : List xR) : Prop := ∀ {P : PT} (a : Nat) (s : cS) (k : kS) (X : List xF) (t v w : Nat), SG L P k t v w a s k X t v w → XB X → RO L (a + 1) (t + 8) (v + 8) → c53 s = 26 → QC (SP L P k t v w a X) (k228 k 26).1 (rc 133 s 0 0 0 0 0 0 0)
theorem rp_end {f g' : xF} {r : List xF} {b2 : xB} {bs : List xB} {a2 : Nat} {s2 : cS} {k2 : kS} (h : SG L P k t v w a2 s2 k2 (g' :: r) t v w) {d' : xB} (w8 : g'.2.2.2.1 = d' :: b2 :: bs) (w4 : g'.2.2.1 = []) (w10 : d'.2.2.2 = 1) (ha : a < a2) (hq : XQ (f :: r) (xc g' :: r)) : QC (SP L P k t v w a (f :: r)) (k247_80 k2).1 (c133_158 rc s2) := by
  have h1 := h.cls w8 w4 w10 (Or.inr ⟨rfl, rfl⟩)
  unfold k247_80 c133_158 c133_165
  generalize (k224 k2).1 = k3 at h1
  generalize (c81 s2).1 = s3 at h1
  exact QC.ret ⟨a2, _, ha, h1.lcl, hq⟩
theorem SP.ghx {a1 b1 : Int32} {r : Option (cS × Option Int32)} (h : QC (SP L (P.1, P.2.1, gho a1 b1 ++ P.2.2) k t v w a X) k' r) : QC (SP L P k t v w a X) k' r := h.mono (fun s1 k1 _ ⟨a', X', q1, q2, q3⟩ => ⟨a', X', q1, SE.to (SEp.ghx (SE.of q2)), q3⟩)
theorem rp_mid {f g' : xF} {r : List xF} {b2 : xB} {bs : List xB} {a2 : Nat} {s2 : cS} {k2 : kS} (h : SG L (P.1, P.2.1, gho y x ++ P.2.2) k t v w a2 s2 k2 (g' :: r) t v w) {d' : xB} (w8 : g'.2.2.2.1 = d' :: b2 :: bs) (w4 : g'.2.2.1 = []) (w10 : d'.2.2.2 = 1) (ha : a < a2) (hq : XQ (f :: r) (xc g' :: r)) : QC (SP L P k t v w a (f :: r)) (k247_4 k2 x).1 (c133_71 rc s2 y) := by
  have hh := has_b h.1.2.1 h.SZ w8 w4 (by rw [w10]; decide)
  have hbn : d'.1 ≤ g'.2.1.length := by
    have z := h.1.2.1.2.2.1.1
    rw [w8] at z
    exact z.1
  have e33 : ∀ {P' : PT} {s3 : cS} {k3 : kS}, SG L P' k t v w a2 s3 k3 (g' :: r) t v w → ((33, c82 s3, 0, 0) : xR) = (33, k232 k3, 0, 0) := fun q => by
    rw [bef_c q.1.2.1.1 q.SZ w8 hbn, bef_k q.1.2.1.2.1 q.SZ w8 hbn (by rw [w10]; decide)]
  refine SP.ghx (a1 := y) (b1 := x) ?_
  unfold c133_71 k247_4
  by_cases c1 : c129 s2 = 0
  · rw [if_pos c1, if_pos (hh.mp c1)]
    unfold k247_79
    exact rp_end (SE.to (SEp.pcg (P := P) (H1 := []) (SE.of h) (fun z => by rw [z]))) w8 w4 w10 ha hq
  · rw [if_neg c1, if_neg (fun z => c1 (hh.mpr z))]
    unfold c133_90 c133_106 c133_116 c133_129 c133_144 k247_20 k247_33 k247_43 k247_66
    obtain ⟨h1, i0⟩ := SEp.jmp (j := 1) (x1 := 37) (y1 := 0) (z1 := 0) (u1 := 0) (y2 := 0) (z2 := 0) (SE.of h) (Or.inl ⟨rfl, rfl⟩) (by unfold jmp; decide)
    generalize (c78 s2 37 0 0 0).2 = ic at h1 i0 ⊢
    generalize (k189 k2 37 0 0 0).2 = ik at h1 ⊢
    generalize (c78 s2 37 0 0 0).1 = s3 at h1 ⊢
    generalize (k189 k2 37 0 0 0).1 = k3 at h1 ⊢
    have h2 := SEp.pc h1 (e33 (SE.to h1))
    generalize (c78 s3 33 (c82 s3) 0 0).1 = s4 at h2 ⊢
    generalize (k189 k3 33 (k232 k3) 0 0).1 = k4 at h2 ⊢
    have h3 := SEp.pcg (P := P) (H1 := [(g'.1 - 1, ic.toNatClampNeg, 1, ik.toNatClampNeg, 0, 0)]) (x := 36) (y := y) (z := 0) (u := 0) (x' := 36) (y' := x) (z' := 0) (u' := 0) h2 (fun z => by rw [z])
    generalize (c78 s4 36 y 0 0).1 = s5 at h3 ⊢
    generalize (k189 k4 36 x 0 0).1 = k5 at h3 ⊢
    have h4 := SEp.ks1 (P := P) (z := k210 k5) h3
    have e210 : k210 k5 = k210 (ka k5 71 ik (k210 k5)) := rfl
    generalize hk6 : ka k5 71 ik (k210 k5) = k6 at h4 e210 ⊢
    rw [e210] at h4
    have h5 := SEp.cld (P := P) h4 (nat_xn i0) (Or.inl rfl)
    generalize hs6 : (c109 s5 s5.now ic (xn 1)).1 = s6 at h5
    have hs6 : (c109 s5 s5.now ic 1).1 = s6 := hs6
    rw [hs6]
    exact rp_end (SE.to (SEp.pc h5 (e33 (SE.to h5)))) w8 w4 w10 ha hq
theorem st_rep (h70 : E70 rc L) (h52 : E52 rc L) (h : SG L P k t v w a s k X t v w) (hB : XB X) (hr : RO L (a + 1) (t + 8) (v + 8)) (c : c53 s = 26) : QC (SP L P k t v w a X) (k228 k 26).1 (c133 rc s) := by
  have ht : t + 8 ≤ 1000000 := by have := hr.1; omega
  have hv : v + 8 ≤ 1000000 := by have := hr.2; omega
  obtain ⟨f, r, b, bs, rfl, e2, e3, e4⟩ := hB
  rw [k228_k26]
  unfold c133 c133_20
  have e4' := h.w63
  have h0 := h.ttp.cle (x := 34) (y := 0) (z := 0) (u := c63 s)
  have c' : c53 (c78 s 34 0 0 (c63 s)).1 = 26 := (c53_fr (fr_c78 s 34 0 0 (c63 s))).trans c
  generalize (c78 s 34 0 0 (c63 s)).1 = s0 at h0 c'
  rcases h0.ske c' en26 with ⟨q, s1, k1, q1, q2, q3, q4, q5, q6, q7⟩ | ⟨q1, q2, q3⟩
  · have e210 : k210 k1 = k210 k := k210_fr q7 rfl rfl
    rw [q3, rbd_th (w := q.2.1) rfl, q4]
    show QC _ (k228_278 k1 (k.1 4) 1).1 (c133_53 rc (c51 (c131 s1 (c75 s1)).1).1 (c98 s))
    unfold k228_278
    rw [if_pos (by decide)]
    unfold k228_295 k228_304 k228_310 c133_53
    obtain ⟨h2, g2⟩ := q5.psh (g := 5) (p := k210 k1) (q := 0) (c := 0) (Nat.le_refl _) (by omega)
    generalize (k179 k1 5 (k210 k1) 0 0).1 = k2 at h2 g2
    have h3 := (h2.put (x := 34) (y := 0) (z := 0) (u := k.1 4)).de0 (by rw [e4'])
    have g3 := g2.put (x := 34) (y := 0) (z := 0) (u := k.1 4)
    generalize (k189 k2 34 0 0 (k.1 4)).1 = k3 at h3 g3
    have h4 := SE.lop h3 ⟨f, r, b, bs, rfl, e2, e3, e4⟩
    have h5 := h4.bgn (kd := 1) e2 (Or.inr ⟨rfl, rfl⟩) (by have := h.sz; omega)
    have g5 := g3.fr (fr_k177 k3 1)
    have hB1 : XB (xo f 1 :: r) := ⟨xo f 1, r, _, f.2.2.2.1, rfl, e2, rfl, by show (1 : Nat) ≠ 2; decide⟩
    refine (bk_go h52 h5 g5 hB1 (Nat.le_refl _) (Nat.le_refl _) (Nat.le_refl _) ⟨by have := hr.1; omega, by have := hr.2; omega⟩).bnd ?_
    rintro s6 k6 x6 (⟨a6, X6, v1, v2, v3, v4⟩ | ⟨v1, v2⟩)
    · refine QC.pop v4 (by omega) ?_
      rw [k180_g5]
      have h7 := v2.top (t' := t)
      generalize kf k6 10 (xn t) = k7 at h7
      have hne : X6 ≠ [] := (hB1.nxt v3).ne
      obtain ⟨g0, g', r', l, d, d', ds, w1, w2, ⟨w3, w4, w5⟩, w6, ⟨w7, w8, w9, w10⟩, w11⟩ := v3
      cases w1
      cases w7
      rw [e3] at w8
      have hd : d'.1 = f.2.1.length := by
        rw [w9]
        show (f.2.1 ++ f.2.2.1).length = _
        rw [e2, List.append_nil]
      have xq : XQ (f :: r) (xc g' :: r) := XQ.cls (n := 0) e2 e3 w5 w6 w8 hd w11
      show QC _ (k180_156 (k199 k7 30).1 (k210 k1) (k199 k7 30).2).1 (c133_57 rc s6 (c98 s))
      unfold c133_57
      rcases h7.tkl lv30 with ⟨p, s8, k8, p1, p2, p3, p4, p5, p6, p7⟩ | ⟨p1, p2, p3⟩
      · rw [p3, rbd_th (w := p.2.1) rfl, p4]
        show QC _ (k180_156 k8 (k210 k1) 1).1 (c133_66 rc s8 (c98 s) p.2.1)
        unfold k180_156 k180_171 c133_66
        rw [if_pos (by decide)]
        refine (ex_call h70 p5 hne (Nat.le_refl _) (Nat.le_refl _) (Nat.le_refl _) ⟨by have := hr.1; omega, by have := hr.2; omega⟩).bnd ?_
        rintro s9 k9 x9 ⟨a9, u1, u2, -, u3⟩
        refine QC.pop u3 (by omega) ?_
        rw [k180_g6]
        unfold k247
        have h10 := (u2.top (t' := t)).awy (Nat.le_refl _) (by omega)
        generalize (k209 (kf k9 10 (xn t))).1 = k10 at h10
        rw [w2] at h10
        rw [e210]
        exact rp_mid h10 w8 w4 w10 (by omega) xq
      · rw [rbd_thn p1]
        refine QC.thn ?_
        unfold k180_156
        rw [if_neg (fun z => z p2)]
        exact p3
    · show QC _ k6 (c133_57 rc s6 (c98 s))
      unfold c133_57
      rw [rbd_thn (c64_no (fun z => v2 (Or.inr (Or.inr (Or.inr (Or.inr z))))))]
      exact QC.thn v1
  · rw [rbd_thn q1]
    refine QC.thn ?_
    unfold k228_278
    rw [if_neg (fun z => z q2)]
    exact q3
end ST2
