/-! OUTERS IN THE WALK: declarations, a function begins -/
/-- the reference has one local more -/
def dc1 (k k' : kS) : Prop := k'.2 26 = upd (k.2 26) (k.1 24).toNatClampNeg (k.1 32) ∧ k'.2 27 = upd (k.2 27) (k.1 24).toNatClampNeg (k.1 31) ∧ k'.1 31 = k.1 31 + 1 ∧ k'.1 24 = k.1 24 + 1 ∧ k'.1 32 = k.1 32 ∧ k'.1 53 = k.1 53 ∧ k'.1 62 = k.1 62 ∧ ∀ j, (j = 63 ∨ j = 64 ∨ j = 65 ∨ j = 66 ∨ j = 67) → k'.2 j = k.2 j
section DC1
variable {s s' : cS} {k k' k'' : kS} {f f' : xF} {r : List xF} {b b' : Nat}
theorem dc1.fr {F A : Nat} (h : dc1 k k') (g : kFr F A k' k'') (hF : F &&& 4620693224141357056 = 0) (hA : A &&& 285924533142699376640 = 0) : dc1 k k'' := by
  obtain ⟨h1, h2, h3, h4, h5, h6, h7, h8⟩ := h
  refine ⟨(g.2 26 (tb0 hA (by decide))).trans h1, (g.2 27 (tb0 hA (by decide))).trans h2, (g.1 31 (tb0 hF (by decide))).trans h3, (g.1 24 (tb0 hF (by decide))).trans h4, (g.1 32 (tb0 hF (by decide))).trans h5, (g.1 53 (tb0 hF (by decide))).trans h6, (g.1 62 (tb0 hF (by decide))).trans h7, fun j hj => ?_⟩
  refine Eq.trans ?_ (h8 j hj)
  rcases hj with rfl | rfl | rfl | rfl | rfl
  · exact g.2 _ (tb0 hA (by decide))
  · exact g.2 _ (tb0 hA (by decide))
  · exact g.2 _ (tb0 hA (by decide))
  · exact g.2 _ (tb0 hA (by decide))
  · exact g.2 _ (tb0 hA (by decide))
theorem dc1.pre {F A : Nat} (h : dc1 k' k'') (g : kFr F A k k') (hF : F &&& 4620693224141357056 = 0) (hA : A &&& 285924533142699376640 = 0) : dc1 k k'' := by
  obtain ⟨h1, h2, h3, h4, h5, h6, h7, h8⟩ := h
  rw [g.2 26 (tb0 hA (by decide)), g.1 24 (tb0 hF (by decide)), g.1 32 (tb0 hF (by decide))] at h1
  rw [g.2 27 (tb0 hA (by decide)), g.1 24 (tb0 hF (by decide)), g.1 31 (tb0 hF (by decide))] at h2
  refine ⟨h1, h2, by rw [h3, g.1 31 (tb0 hF (by decide))], by rw [h4, g.1 24 (tb0 hF (by decide))], by rw [h5, g.1 32 (tb0 hF (by decide))], by rw [h6, g.1 53 (tb0 hF (by decide))], by rw [h7, g.1 62 (tb0 hF (by decide))], fun j hj => ?_⟩
  rw [h8 j hj]
  rcases hj with rfl | rfl | rfl | rfl | rfl
  · exact g.2 _ (tb0 hA (by decide))
  · exact g.2 _ (tb0 hA (by decide))
  · exact g.2 _ (tb0 hA (by decide))
  · exact g.2 _ (tb0 hA (by decide))
  · exact g.2 _ (tb0 hA (by decide))
theorem dc1_18 {t c cl : Int32} : dc1 k (k196_18 k t c cl).1 := by
  unfold k196_18
  split
  · refine ⟨rfl, rfl, rfl, rfl, rfl, rfl, rfl, fun j hj => ?_⟩
    rcases hj with rfl | rfl | rfl | rfl | rfl <;> rfl
  · refine ⟨rfl, rfl, rfl, rfl, rfl, rfl, rfl, fun j hj => ?_⟩
    rcases hj with rfl | rfl | rfl | rfl | rfl <;> rfl
theorem dc1_196 {t c cl w : Int32} : dc1 k (k196 k t c cl w).1 := by
  unfold k196
  split
  · exact dc1_18
  · exact dc1_18.pre (fr_k191 k 16 w) rfl rfl
theorem OU.dc1 (h : OU b s k (f :: r)) (hb : b < 1000000) (hb1 : b ≤ b') (hb2 : b + 1 + f'.2.2.1.length ≤ b' + f.2.2.1.length) (h1 : f'.1 = f.1) (h2 : f'.2.1.length = f.2.1.length + 1) (hu : ∀ x, s'.r (.u x) = s.r (.u x) ∧ s'.c (.u x) = s.c (.u x)) (h24 : k.1 24 = xn (kL (f :: r)).length) (hl : (kL (f :: r)).length ≤ 1000000) (h32 : k.1 32 = xn r.length) (hd : dc1 k k') : OU b' s' k' (f' :: r) := by
  have e : (k.1 24).toNatClampNeg = (kL (f :: r)).length := by rw [h24]; exact xn_nat (by omega)
  obtain ⟨d1, d2, d3, d4, d5, d6, d7, d8⟩ := hd
  rw [e, h32] at d1
  rw [e] at d2
  exact h.psh hb hb1 hb2 h1 h2 hu d1 d2 d3 d6 d7 d8
/-- a local is declared on both sides -/
theorem OU.dcl {t c cl w : Int32} {q : xR} (h : OU b s k (f :: r)) (hb : b < 1000000) (hk : XK k (f :: r)) (hz : SZ (f :: r)) (hu : ∀ x, s'.r (.u x) = s.r (.u x) ∧ s'.c (.u x) = s.c (.u x)) : OU (b + 1) s' (k196 k t c cl w).1 (xd f q :: r) :=
  h.dc1 (f' := xd f q) hb (Nat.le_succ _) (by show b + 1 + f.2.2.1.length ≤ _; omega) rfl (by show (f.2.1 ++ [q]).length = _; rw [List.length_append]; rfl) hu hk.a24 hz.kl (hk.a32 hz) dc1_196
theorem kL_xd {q : xR} : (kL (xd f q :: r)).length = (kL (f :: r)).length + 1 := by
  show (kL r ++ (f.2.1 ++ [q])).length = (kL r ++ f.2.1).length + 1
  simp only [List.length_append, List.length_cons, List.length_nil]
  omega
theorem kL_xdn {l : List xR} : (kL (xdn f l :: r)).length = (kL (f :: r)).length + l.length := by
  rw [xdn_all]
  show (kL r ++ (f.2.1 ++ l)).length = (kL r ++ f.2.1).length + l.length
  simp only [List.length_append]
  omega
/-- hidden locals -/
theorem hid_go {w y : Int32} : ∀ (l : List xR) (n : Nat) (f : xF) (k : kS) (b : Nat), OU b s k (f :: r) → k.1 24 = xn (kL (f :: r)).length → k.1 32 = xn r.length → (kL (f :: r)).length + l.length ≤ 1000000 → b + l.length ≤ 1000000 → n + l.length ≤ 1000 → ∃ m k', kwh (k254b3 (xn (n + l.length)) y w) m (k, xn n) = (1, (k', xn (n + l.length))) ∧ OU (b + l.length) s k' (xdn f l :: r) := by
  intro l
  induction l with
  | nil =>
    intro n f k b h h24 h32 hz hb hn
    have e : k254b3 (xn (n + ([] : List xR).length)) y w (k, xn n) = (1, (k, xn n)) := by
      unfold k254b3
      rw [if_pos (by show xn (n + 0) ≤ xn n; exact Int32.le_refl _)]
    exact ⟨1, k, by rw [kwh_out (by rw [e]; exact Nat.succ_ne_zero _), e]; rfl, h⟩
  | cons q l ih =>
    intro n f k b h h24 h32 hz hb hn
    have hl : (q :: l).length = l.length + 1 := rfl
    have step : ∃ k1, k254b3 (xn (n + (q :: l).length)) y w (k, xn n) = (0, (k1, xn (n + 1))) ∧ dc1 k k1 := by
      have hc : ¬ xn (n + (q :: l).length) ≤ xn n := by rw [i_le, xn_i (by omega), xn_i (by omega)]; omega
      have hd : ∀ c cl i, dc1 k (ka (k196 k 0 c cl w).1 28 i 1) := fun c cl i => dc1_196.fr (F := 0) (A := 268435456) (kFr.sa kFr.refl rfl) rfl rfl
      unfold k254b3
      dsimp only
      rw [if_neg hc, xn_succ (by omega)]
      by_cases c1 : y = 0
      · rw [if_pos c1]
        exact ⟨_, rfl, hd _ _ _⟩
      · rw [if_neg c1]
        split
        · exact ⟨_, rfl, hd _ _ _⟩
        · exact ⟨_, rfl, hd _ _ _⟩
    obtain ⟨k1, e, d1⟩ := step
    have o1 : OU (b + 1) s k1 (xd f q :: r) := h.dc1 (f' := xd f q) (by omega) (Nat.le_succ _) (by show b + 1 + f.2.2.1.length ≤ _; omega) rfl (by show (f.2.1 ++ [q]).length = _; rw [List.length_append]; rfl) (fun _ => ⟨rfl, rfl⟩) h24 (by omega) h32 d1
    have ea : n + (q :: l).length = n + 1 + l.length := by omega
    obtain ⟨m, k', r1, r2⟩ := ih (n + 1) (xd f q) k1 (b + 1) o1 (by rw [d1.2.2.2.1, h24, kL_xd, xn_succ (by omega)]) (d1.2.2.2.2.1.trans h32) (by rw [kL_xd]; omega) (by omega) (by omega)
    rw [← ea] at r1
    refine ⟨m + 1, k', by rw [kwh_go (by rw [e]), e]; exact r1, ?_⟩
    rw [show b + (q :: l).length = b + 1 + l.length by omega]
    exact r2
theorem OU.hid {N w y : Int32} {l : List xR} (h : OU b s k (f :: r)) (h24 : k.1 24 = xn (kL (f :: r)).length) (h32 : k.1 32 = xn r.length) (hl : (kL (f :: r)).length + l.length ≤ 1000000) (hb : b + l.length ≤ 1000000) (hn : l.length ≤ 1000) (hN : N = xn l.length) (hu : ∀ x, s'.r (.u x) = s.r (.u x) ∧ s'.c (.u x) = s.c (.u x)) : OU (b + l.length) s' (k254 k N y w).1 (xdn f l :: r) := by
  obtain ⟨m, k', r1, r2⟩ := hid_go (s := s) (w := w) (y := y) l 0 f k b h h24 h32 hl hb (by omega)
  have e0 : (0 : Int32) = xn 0 := rfl
  rw [Nat.zero_add] at r1
  have ek : k254 k N y w = (k', 0) := by
    unfold k254
    rw [hN, e0, kfin_of ⟨m, r1⟩ (Nat.succ_ne_zero 0)]
  rw [ek]
  exact OU.fr r2 hu (kFr.refl (F := 0) (A := 0)) rfl rfl
/-- those that waited are there -/
theorem rvl_go {y1 y2 y3 y4 : Int32} : ∀ (p : List xR) (n : Nat) (f : xF) (k : kS), OU b s k ((f.1, f.2.1, p, f.2.2.2.1, f.2.2.2.2) :: r) → b < 1000000 → k.1 24 = xn (kL (f :: r)).length → k.1 32 = xn r.length → (kL (f :: r)).length + p.length ≤ 1000000 → k.1 20 = xn (n + p.length) → n + p.length ≤ 1000000 → ∃ m k', kwh (k241b16 y1 y2 y3 y4) m (k, xn n) = (1, (k', xn (n + p.length))) ∧ OU b s k' ((f.1, f.2.1 ++ p.map rev1, [], f.2.2.2.1, f.2.2.2.2) :: r) := by
  intro p
  induction p with
  | nil =>
    intro n f k h hb h24 h32 hz h20 hn
    have e : k241b16 y1 y2 y3 y4 (k, xn n) = (1, (k, xn n)) := by
      unfold k241b16
      rw [if_pos (by show k.1 20 ≤ xn n; rw [h20]; exact Int32.le_refl _)]
    refine ⟨1, k, by rw [kwh_out (by rw [e]; exact Nat.succ_ne_zero _), e]; rfl, ?_⟩
    show OU b s k ((f.1, f.2.1 ++ [], [], f.2.2.2.1, f.2.2.2.2) :: r)
    rw [List.append_nil]
    exact h
  | cons q p ih =>
    intro n f k h hb h24 h32 hz h20 hn
    have hl : (q :: p).length = p.length + 1 := rfl
    have hc : ¬ k.1 20 ≤ xn n := by rw [h20, i_le, xn_i (by omega), xn_i (by omega)]; omega
    have step : ∃ t c cl w, k241b16 y1 y2 y3 y4 (k, xn n) = (0, ((k196 k t c cl w).1, xn (n + 1))) := by
      unfold k241b16
      dsimp only
      rw [if_neg hc, xn_succ (by omega)]
      split
      · split
        · exact ⟨_, _, _, _, rfl⟩
        · exact ⟨_, _, _, _, rfl⟩
      · split
        · exact ⟨_, _, _, _, rfl⟩
        · exact ⟨_, _, _, _, rfl⟩
    obtain ⟨t, c, cl, w, e⟩ := step
    have d1 := dc1_196 (k := k) (t := t) (c := c) (cl := cl) (w := w)
    have hf := fr_k196 k t c cl w
    generalize (k196 k t c cl w).1 = k1 at e d1 hf
    have o1 : OU b s k1 (((xd f (rev1 q)).1, (xd f (rev1 q)).2.1, p, (xd f (rev1 q)).2.2.2.1, (xd f (rev1 q)).2.2.2.2) :: r) := OU.dc1 (f' := ((xd f (rev1 q)).1, (xd f (rev1 q)).2.1, p, (xd f (rev1 q)).2.2.2.1, (xd f (rev1 q)).2.2.2.2)) h hb (Nat.le_refl _) (by show b + 1 + p.length ≤ b + (q :: p).length; omega) rfl (by show (f.2.1 ++ [rev1 q]).length = f.2.1.length + 1; rw [List.length_append]; rfl) (fun _ => ⟨rfl, rfl⟩) h24 (by show (kL (f :: r)).length ≤ _; omega) h32 d1
    have ea : n + (q :: p).length = n + 1 + p.length := by omega
    obtain ⟨m, k', r1, r2⟩ := ih (n + 1) (xd f (rev1 q)) k1 o1 hb (by rw [d1.2.2.2.1, h24, kL_xd, xn_succ (by omega)]) (d1.2.2.2.2.1.trans h32) (by rw [kL_xd]; omega) (by rw [hf.1 20 rfl, h20, ea]) (by omega)
    rw [← ea] at r1
    refine ⟨m + 1, k', by rw [kwh_go (by rw [e]), e]; exact r1, ?_⟩
    have el : f.2.1 ++ (q :: p).map rev1 = (f.2.1 ++ [rev1 q]) ++ p.map rev1 := by
      rw [List.append_assoc]
      rfl
    rw [el]
    exact r2
theorem OU.rvl {w : Int32} {n : Nat} (h : OU b s k (f :: r)) (hb : b < 1000000) (hk : XK k (f :: r)) (hz : SZ (f :: r)) (h20 : k.1 20 = xn (n + f.2.2.1.length)) (hn : n + f.2.2.1.length ≤ 1000000) (hl : (kL (f :: r)).length + f.2.2.1.length ≤ 1000000) (hu : ∀ x, s'.r (.u x) = s.r (.u x) ∧ s'.c (.u x) = s.c (.u x)) : OU b s' (k241 k w (xn n)).1 (xrv f :: r) := by
  obtain ⟨m, k', r1, r2⟩ := rvl_go (s := s) (y1 := w) (y2 := xn n) (y3 := k197 k) (y4 := k.1 20 - xn n) f.2.2.1 n f k h hb hk.a24 (hk.a32 hz) hl h20 hn
  have hk' := kfin_of ⟨m, r1⟩ (Nat.succ_ne_zero 0)
  have ek : (k241 k w (xn n)).1 = kf (kfin (k241b99 (xn n) (k197 k) (k.1 20 - xn n)) ((k189 k' 27 (k197 k) (k.1 20 - xn n) w).1, 0)).2.1 20 (xn n) := by
    unfold k241 k241_95
    rw [hk']
  have p1 := fr_k189 k' 27 (k197 k) (k.1 20 - xn n) w
  have p2 : kFr 295147905179352825856 18300323042624482050048 (k189 k' 27 (k197 k) (k.1 20 - xn n) w).1 (kfin (k241b99 (xn n) (k197 k) (k.1 20 - xn n)) ((k189 k' 27 (k197 k) (k.1 20 - xn n) w).1, 0)).2.1 := (kfin_fr1 (t := ((k189 k' 27 (k197 k) (k.1 20 - xn n) w).1, 0)) (fun t => fr_k241b99 (xn n) (k197 k) (k.1 20 - xn n) t)).mono rfl rfl
  rw [ek]
  have x2 := OU.fr (OU.fr (s' := s') r2 hu p1 rfl rfl) (s' := s') (fun _ => ⟨rfl, rfl⟩) p2 rfl rfl
  generalize (kfin (k241b99 (xn n) (k197 k) (k.1 20 - xn n)) ((k189 k' 27 (k197 k) (k.1 20 - xn n) w).1, 0)).2.1 = k3 at x2
  exact OU.fr x2 (fun _ => ⟨rfl, rfl⟩) (F := 1048576) (A := 0) (kFr.sf kFr.refl rfl) rfl rfl
theorem tct0 {t : cT} (h : 0 ≤ (s.r t).toInt) : ((tct s t 0).r t).toInt = 0 := by
  have z0 : (0 : Int32).toInt = 0 := rfl
  unfold tct
  rw [if_neg (by decide)]
  split
  · rename_i z
    rw [i_le] at z
    omega
  · rw [nt_r]
    rfl
theorem c29_u {x : Nat} {v : Int32} : (∀ y, y ≠ x → (c29 s x v).1.r (.u y) = s.r (.u y) ∧ (c29 s x v).1.c (.u y) = s.c (.u y)) ∧ (0 ≤ (s.r (.u x)).toInt → ((c29 s x v).1.r (.u x)).toInt = 0) := by
  have n1 : ∀ y, cT.u y ≠ cT.i x := fun y z => by cases z
  constructor
  · intro y hy
    have n2 : cT.u y ≠ cT.u x := fun z => hy (Sum.inr.inj (Sum.inr.inj z))
    show (tct (tct (nb (nb (nb (nb (nb (nb (nb (nb (nb (nb (nb s x 2 v) x 3 (-1)) x 8 (-1)) x 4 0) x 5 0) x 6 0) x 7 0) x 9 0) x 10 0) x 11 0) x 12 0) (.i x) 0) (.u x) 0).r (.u y) = s.r (.u y) ∧ (tct (tct (nb (nb (nb (nb (nb (nb (nb (nb (nb (nb (nb s x 2 v) x 3 (-1)) x 8 (-1)) x 4 0) x 5 0) x 6 0) x 7 0) x 9 0) x 10 0) x 11 0) x 12 0) (.i x) 0) (.u x) 0).c (.u y) = s.c (.u y)
    rw [(tct_r n2).1, (tct_r n2).2, (tct_r (n1 y)).1, (tct_r (n1 y)).2]
    exact ⟨rfl, rfl⟩
  · intro h
    show ((tct (tct (nb (nb (nb (nb (nb (nb (nb (nb (nb (nb (nb s x 2 v) x 3 (-1)) x 8 (-1)) x 4 0) x 5 0) x 6 0) x 7 0) x 9 0) x 10 0) x 11 0) x 12 0) (.i x) 0) (.u x) 0).r (.u x)).toInt = 0
    refine tct0 ?_
    rw [(tct_r (n1 x)).1]
    exact h
theorem c46_u {w : Int32} {x : Nat} : (c46 s w).1.r (.u x) = (c13 s).1.r (.u x) ∧ (c46 s w).1.c (.u x) = (c13 s).1.c (.u x) := by
  have key : ∀ (s1 : cS) (z0 : Int32) (y : Nat), (c46_30 s1 w y z0 y).1.r (.u x) = s1.r (.u x) ∧ (c46_30 s1 w y z0 y).1.c (.u x) = s1.c (.u x) := fun s1 z0 y => (fr_c51 _).2.2.2.2.2.2.2 rfl x
  unfold c46 c46_7
  split
  · exact key _ _ _
  · exact key _ _ _
theorem c13_u {n : Nat} (h5 : s.f 5 1 = xn n) (hn : n ≤ 1000000) (h56 : (s.f 5 1).toInt ≤ (s.f 6 1).toInt) : (∀ x, x ≠ n + 1 → (c13 s).1.r (.u x) = s.r (.u x) ∧ (c13 s).1.c (.u x) = s.c (.u x)) ∧ (0 ≤ (s.r (.u (n + 1))).toInt → ((c13 s).1.r (.u (n + 1))).toInt = 0) := by
  have e5 : (s.f 5 1).toInt.toNat + 1 = n + 1 := by rw [h5, xn_i (by omega)]; omega
  by_cases c1 : s.f 5 1 < s.f 6 1
  · unfold c13
    rw [if_pos c1, e5]
    exact c29_u
  · have e6 : (s.f 6 1).toInt.toNat + 1 = n + 1 := by
      rw [i_lt] at c1
      rw [← e5]
      omega
    unfold c13
    rw [if_neg c1, e5, e6]
    obtain ⟨u1, u2⟩ := c29_u (s := bnew s (n + 1)) (x := n + 1) (v := s.f 5 1)
    have rb : ∀ x, (bnew s (n + 1)).r (.u x) = if x = n + 1 then 0 else s.r (.u x) := fun x => by
      show (if cT.u x = .i (n + 1) ∨ cT.u x = .u (n + 1) then 0 else s.r (.u x)) = _
      by_cases c : x = n + 1
      · rw [if_pos c, if_pos (Or.inr (by rw [c]))]
      · rw [if_neg c, if_neg (fun z => z.elim (fun q => by cases q) (fun q => c (Sum.inr.inj (Sum.inr.inj q))))]
    refine ⟨fun x hx => ?_, fun _ => ?_⟩
    · obtain ⟨v1, v2⟩ := u1 x hx
      refine ⟨v1.trans ?_, v2⟩
      rw [rb, if_neg hx]
    · refine u2 ?_
      rw [rb, if_pos rfl]
      decide
/-- a function begins on both sides -/
theorem OU.bgc {w : Int32} {n : Nat} {X : List xF} (h : OU b s k X) (hn : k.1 53 = xn n) (hn2 : n < 1000000) (h5 : s.f 5 1 = k.1 53) (h56 : (s.f 5 1).toInt ≤ (s.f 6 1).toInt) (h1 : f.1 = n + 1) (h2 : f.2.1 = []) (h3 : f.2.2.1 = []) (e53 : k'.1 53 = k.1 53 + 1) (e62 : k'.1 62 = k.1 62) (e31 : k'.1 31 = k.1 31) (eA : ∀ j, j = 26 ∨ j = 27 ∨ j = 63 ∨ j = 64 ∨ j = 65 ∨ j = 66 → k'.2 j = k.2 j) (e67 : k'.2 67 = upd (k.2 67) n 0) : OU b (c46 s w).1 k' (f :: X) := by
  obtain ⟨u1, u2⟩ := c13_u (h5.trans hn) (by omega) h56
  have hr : 0 ≤ (s.r (.u (n + 1))).toInt := by
    obtain ⟨E, N, c, o1, ⟨o2, on⟩, -⟩ := h
    have eN : N = n := xn_inj (by omega) (by omega) (o1.symm.trans hn)
    exact on n (by omega)
  exact h.bgn hn hn2 h1 h2 h3 (fun x hx => ⟨c46_u.1.trans (u1 x hx).1, c46_u.2.trans (u1 x hx).2⟩) (by rw [c46_u.1]; exact u2 hr) e53 e62 e31 eA e67
end DC1
