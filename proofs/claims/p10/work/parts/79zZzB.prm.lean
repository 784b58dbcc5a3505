/-! THE WALK OVER BOTH: a function's names -/
section PRM
variable {L : List xR} {P : PT} {k0 : kS} {T V W t v w : Nat} {r : List xF}
def kpar (y : Int32) (R : Nat × (kS × Int32)) : kS × Int32 := if R.1 = 1 then (kf (ka R.2.1 56 y 1) 4 ((R.2.1.1 4) + 1), 1) else if R.1 = 2 then ((k194 R.2.1 7).1, (k194 R.2.1 7).2) else (R.2.1, 1)
theorem par_end {m : Nat} {s s' : cS} {x : Nat} {y3 : Int32} {o : Option Int32} (h : cfix m 77020 s x 0 y3 0 0 0 0 = some (s', o)) : s' = nb s x 4 (c75 s) ∧ o = some 0 := by
  cases m with
  | zero => cases h
  | succ m =>
    rw [cf77020] at h
    unfold c77_20 c77_124 at h
    rw [if_pos rfl] at h
    cases h
    exact ⟨rfl, rfl⟩
theorem cFr.symm {F T B G : Nat} {s s' : cS} (h : cFr F T B G s s') : cFr F T B G s' s := ⟨fun k j hj hk => (h.1 k j hj hk).symm, fun k hk => ⟨(h.2.1 k hk).1.symm, (h.2.1 k hk).2.symm⟩, fun x j hj => (h.2.2.1 x j hj).symm, fun q => (h.2.2.2.1 q).symm, fun q => (h.2.2.2.2.1 q).symm, fun q x => (h.2.2.2.2.2.1 q x).symm, fun q x => (h.2.2.2.2.2.2.1 q x).symm, fun q x => ⟨(h.2.2.2.2.2.2.2 q x).1.symm, (h.2.2.2.2.2.2.2 q x).2.symm⟩⟩
theorem c75_nb {s : cS} {x j : Nat} {y : Int32} (h : j ≠ 9) : c75 (nb s x j y) = c75 s := by
  show s.r (.s 14) - (nb s x j y).b s.now 9 = s.r (.s 14) - s.b s.now 9
  congr 1
  by_cases c : s.now = x
  · rw [c, nb_eq]
    exact upd_nt (fun z => h z.symm)
  · rw [nb_ne c]
theorem nb_same {s : cS} {x j : Nat} {y : Int32} (h : s.b x j = y) : nb s x j y = s := by
  have e : (fun a => if a = x then upd (s.b a) j y else s.b a) = s.b := by
    funext a
    by_cases c : a = x
    · rw [if_pos c, c, ← h, upd_id]
    · rw [if_neg c]
  show (s.1, (fun a => if a = x then upd (s.b a) j y else s.b a), s.2.2) = s
  rw [e]
/-- a plain word is read while the class has not yet noted how many names there are -/
theorem SGp.skq {π : PM} {δ : Df} {K y : Int32} {a x : Nat} {s : cS} {k : kS} {X : List xF} (h : SGp π δ L P k0 T V W a (nb s x 4 y) k X t v w) (hK : c53 s = K) (hp : PLN K) : ∃ q s1, L[a]? = some q ∧ q.1 = K ∧ c55 s = (s1, some q.2.1) ∧ SGp π δ L P k0 T V W (a + 1) (nb s1 x 4 y) (kf k 4 (k.1 4 + 1)) X t v w ∧ cFr 51539607552 0 0 0 s s1 := by
  obtain ⟨q, s1, q1, q2, q3, q4, q5⟩ := h.skp (K := K) (show c53 (nb s x 4 y) = K from hK) hp
  have hw : WR L a s k := h.1.1
  obtain ⟨w1, w2⟩ := hw.pl q1 (by rw [q2]; exact hp.2.2.1 s) (by rw [q2]; exact hp.2.2.2 s)
  obtain ⟨w3, w4⟩ := h.1.1.pl q1 (by rw [q2]; exact hp.2.2.1 _) (by rw [q2]; exact hp.2.2.2 _)
  rw [w3] at q3
  have e : s1 = nf (nb s x 4 y) 2 2 (xn (a + 1)) := (Prod.mk.inj q3).1.symm
  refine ⟨q, nf s 2 2 (xn (a + 1)), q1, q2, w1, ?_, cFr.refl.sf rfl⟩
  rw [e] at q4
  exact q4
/-- names and dots of one body change on both sides -/
theorem FB0.b45 {s s' : cS} {k k' : kS} {S : xS} {x0 : Nat} (h : FB0 s k S) (hb : ∀ y j, 2 ≤ j → j ≤ 8 → ((j ≠ 4 ∧ j ≠ 5) ∨ y ≠ x0 + 1) → s'.b y j = s.b y j) (h4 : s.b (x0 + 1) 4 = k.2 55 x0 → s'.b (x0 + 1) 4 = k'.2 55 x0) (h5 : s.b (x0 + 1) 5 = k.2 56 x0 → s'.b (x0 + 1) 5 = k'.2 56 x0) (e8 : k'.1 8 = 0 → k.1 8 = 0) (e53 : k'.1 53 = k.1 53) (eA : ∀ j, 54 ≤ j → j ≤ 59 → j ≠ 55 → j ≠ 56 → k'.2 j = k.2 j) (e55 : ∀ x, x ≠ x0 → k'.2 55 x = k.2 55 x) (e56 : ∀ x, x ≠ x0 → k'.2 56 x = k.2 56 x) : FB0 s' k' S := by
  intro z x hx
  rw [e53] at hx
  obtain ⟨⟨g2, g3, g4, g5, g8⟩, g6, g7⟩ := h (e8 z) x hx
  refine ⟨⟨?_, ?_, ?_, ?_, ?_⟩, fun q => ?_, ?_⟩
  · rw [hb _ _ (by decide) (by decide) (Or.inl ⟨by decide, by decide⟩)]; exact g2
  · rw [hb _ _ (by decide) (by decide) (Or.inl ⟨by decide, by decide⟩), eA _ (by decide) (by decide) (by decide) (by decide)]; exact g3
  · by_cases c : x = x0
    · rw [c] at g4 ⊢
      exact h4 g4
    · rw [hb _ _ (by decide) (by decide) (Or.inr (by omega)), e55 x c]
      exact g4
  · by_cases c : x = x0
    · rw [c] at g5 ⊢
      exact h5 g5
    · rw [hb _ _ (by decide) (by decide) (Or.inr (by omega)), e56 x c]
      exact g5
  · rw [hb _ _ (by decide) (by decide) (Or.inl ⟨by decide, by decide⟩), eA _ (by decide) (by decide) (by decide) (by decide)]; exact g8
  · rw [hb _ _ (by decide) (by decide) (Or.inl ⟨by decide, by decide⟩), eA _ (by decide) (by decide) (by decide) (by decide)]; exact g6 q
  · rw [hb _ _ (by decide) (by decide) (Or.inl ⟨by decide, by decide⟩), eA _ (by decide) (by decide) (by decide) (by decide)]; exact g7
theorem FB.b45 {s s' : cS} {k k' : kS} {S : xS} {x0 : Nat} (h : FB s k S) (hb : ∀ y j, 2 ≤ j → j ≤ 8 → ((j ≠ 4 ∧ j ≠ 5) ∨ y ≠ x0 + 1) → s'.b y j = s.b y j) (h4 : s.b (x0 + 1) 4 = k.2 55 x0 → s'.b (x0 + 1) 4 = k'.2 55 x0) (h5 : s.b (x0 + 1) 5 = k.2 56 x0 → s'.b (x0 + 1) 5 = k'.2 56 x0) (e8 : k'.1 8 = 0 → k.1 8 = 0) (e53 : k'.1 53 = k.1 53) (eA : ∀ j, 54 ≤ j → j ≤ 59 → j ≠ 55 → j ≠ 56 → k'.2 j = k.2 j) (e55 : ∀ x, x ≠ x0 → k'.2 55 x = k.2 55 x) (e56 : ∀ x, x ≠ x0 → k'.2 56 x = k.2 56 x) : FB s' k' S := ⟨h.1.b45 hb h4 h5 e8 e53 eA e55 e56, h.2.same e8 e53 (eA 58 (by decide) (by decide) (by decide) (by decide))⟩
theorem nb_o {s : cS} {x j x' j' : Nat} {y : Int32} (h : j' ≠ j ∨ x' ≠ x) : (nb s x j y).b x' j' = s.b x' j' := by
  by_cases c : x' = x
  · rw [c, nb_eq]
    exact upd_nt (h.resolve_right (fun z => z c))
  · rw [nb_ne c]
theorem nb_v {s : cS} {x j : Nat} {y : Int32} : (nb s x j y).b x j = y := by
  rw [nb_eq]
  exact upd_at
/-- one name more on both sides -/
theorem par_one {a : Nat} {s : cS} {k K K2 K3 : kS} {f : xF} {tt ww w' : Int32} (h : SG L P k0 T V W a (nb s f.1 4 (xn f.2.1.length)) K (f :: r) t v w) (hp : f.2.2.1 = []) (eK : K.2 = k.2) (eK8 : K.1 8 = k.1 8) (eK53 : K.1 53 = k.1 53) (hR : RN s (ka k 55 (xn (f.1 - 1)) (kr k 55 (xn (f.1 - 1)) + 1)) (f :: r)) (hK2 : K2 = (k196 (ka k 55 (xn (f.1 - 1)) (kr k 55 (xn (f.1 - 1)) + 1)) tt 0 0 w').1) (eK3 : K3.2 = K2.2) (eK38 : K3.1 8 = K2.1 8) (eK353 : K3.1 53 = K2.1 53) (fK : kFr 2164261632 324259175284604928 K K3) (n3 : RN (c74 s tt 1 ww).1 K3 (xd f (tt, 1, 0, 0) :: r)) (hz : szX (xd f (tt, 1, 0, 0) :: r) ≤ 8 * a + 8) (o3 : OU (bd a) (c74 s tt 1 ww).1 K3 (xd f (tt, 1, 0, 0) :: r)) : SG L P k0 T V W a (nb (c74 s tt 1 ww).1 f.1 4 (xn (xd f (tt, 1, 0, 0)).2.1.length)) K3 (xd f (tt, 1, 0, 0) :: r) t v w := by
  have hle := h.le
  have hz0 := h.SZ
  have hz' : SZ (xd f (tt, 1, 0, 0) :: r) := SZ_of (by omega)
  have el : (xd f (tt, 1, 0, 0)).2.1.length = f.2.1.length + 1 := by show (f.2.1 ++ [_]).length = _; rw [List.length_append]; rfl
  have el2 : ((xd f (tt, 1, 0, 0)).2.1 ++ (xd f (tt, 1, 0, 0)).2.2.1).length = f.2.1.length + 1 := by
    show (_ ++ f.2.2.1).length = _
    rw [hp, List.append_nil]
    exact el
  have hl : f.2.1.length + 1 ≤ 1000000 := by
    have z := hz'.kl
    have e : (kL (xd f (tt, 1, 0, 0) :: r)).length = (kL r).length + (f.2.1.length + 1) := by
      show (kL r ++ (xd f (tt, 1, 0, 0)).2.1).length = _
      rw [List.length_append, el]
    omega
  obtain ⟨o1, o2, og, o4⟩ := own_k hR hz0
  obtain ⟨a1, a2, a3⟩ := XK.at hR hz0
  obtain ⟨b1, b2, b3⟩ := c74_b n3.1 hz'
  rw [o2, el2] at b2
  rw [o2] at b1
  have d := dc2_196 (k := ka k 55 (xn (f.1 - 1)) (kr k 55 (xn (f.1 - 1)) + 1)) (t := tt) (c := 0) (cl := 0) (w := w')
  rw [← hK2] at d
  have ex : f.1 = (f.1 - 1) + 1 := by omega
  have e8 : K3.1 8 = 0 → K.1 8 = 0 := fun z => by
    rw [eK38, hK2] at z
    rw [eK8]
    have q := st_k196 (ka k 55 (xn (f.1 - 1)) (kr k 55 (xn (f.1 - 1)) + 1)) tt 0 0 w' z
    exact q
  have hk55 : K3.2 55 = upd (K.2 55) (f.1 - 1) (K.2 55 (f.1 - 1) + 1) := by
    rw [eK3, d.2.2.2.2.2.2.2 55 (by decide), eK]
    show upd (k.2 55) (xn (f.1 - 1)).toNatClampNeg (k.2 55 (xn (f.1 - 1)).toNatClampNeg + 1) = _
    rw [xn_nat (by omega)]
  have hkA : ∀ j, (j = 54 ∨ j = 56 ∨ j = 57 ∨ j = 59 ∨ j = 60) → K3.2 j = K.2 j := fun j hj => by
    have z := d.2.2.2.2.2.2.2 j (by omega)
    rw [eK3, eK, z]
    rcases hj with rfl | rfl | rfl | rfl | rfl <;> rfl
  have hk58 : K3.2 58 = upd (K.2 58) (f.1 - 1) (mxn (K.2 58 (f.1 - 1)) (f.2.1.length + 1)) := by
    rw [eK3, eK]
    exact d.n58 a1 a2 a3 (by omega) (by
      have z := hz'.kl
      have e : (kL (xd f (tt, 1, 0, 0) :: r)).length = (kL r).length + (f.2.1.length + 1) := by
        show (kL r ++ (xd f (tt, 1, 0, 0)).2.1).length = _
        rw [List.length_append, el]
      omega)
  have hfl1 : f.2.1.length + 1 ≤ 1000000 := by
    have z := hz'.kl
    have e : (kL (xd f (tt, 1, 0, 0) :: r)).length = (kL r).length + (f.2.1.length + 1) := by
      show (kL r ++ (xd f (tt, 1, 0, 0)).2.1).length = _
      rw [List.length_append, el]
    omega
  have e53 : K3.1 53 = K.1 53 := by
    rw [eK353, eK53, d.2.2.2.2.2.2.1]
    rfl
  have c1 : cFr 196608 16384 144 0 s (nb s f.1 4 (xn f.2.1.length)) := cFr.refl.sb rfl
  have c2 : cFr 196608 16384 144 0 s (nb (c74 s tt 1 ww).1 f.1 4 (xn (xd f (tt, 1, 0, 0)).2.1.length)) := (cFr.mono (fr_c74 s tt 1 ww) rfl rfl rfl rfl).sb rfl
  have hc := c1.symm.trans c2
  have hb1 : FB (nb (nb s f.1 4 (xn f.2.1.length)) f.1 4 (xn (xd f (tt, 1, 0, 0)).2.1.length)) (ka K 55 (xn (f.1 - 1)) (K.2 55 (f.1 - 1) + 1)) (sh (f :: r)) := by
    refine FB.b45 (x0 := f.1 - 1) h.fb (fun y j h1 h2 hj => nb_o (by rcases hj with z | z; exact Or.inl z.1; exact Or.inr (by rw [ex]; exact z))) (fun z => ?_) (fun z => ?_) id rfl (fun j h1 h2 h3 h4 => ?_) (fun x hx => ?_) (fun x _ => rfl)
    · rw [← ex] at z ⊢
      rw [nb_v] at z ⊢
      show _ = upd (K.2 55) (xn (f.1 - 1)).toNatClampNeg (K.2 55 (f.1 - 1) + 1) (f.1 - 1)
      rw [xn_nat (by omega), upd_at, ← z, el, xn_succ (by omega)]
    · rw [nb_o (Or.inl (by decide))]
      exact z
    · have hj : j = 54 ∨ j = 57 ∨ j = 58 ∨ j = 59 := by omega
      rcases hj with rfl | rfl | rfl | rfl <;> rfl
    · show upd (K.2 55) (xn (f.1 - 1)).toNatClampNeg (K.2 55 (f.1 - 1) + 1) x = _
      rw [xn_nat (by omega), upd_nt hx]
  have hb2 : FB (nb (c74 s tt 1 ww).1 f.1 4 (xn (xd f (tt, 1, 0, 0)).2.1.length)) K3 (sh (xd f (tt, 1, 0, 0) :: r)) := by
    refine FB.b7 (f := f) (f' := xd f (tt, 1, 0, 0)) (x0 := f.1 - 1) (v := mxn (s.b f.1 7) (f.2.1.length + 1)) hb1 ex rfl (fun x j h1 h2 hj => ?_) ?_ e8 e53 (fun j h1 h2 h3 => ?_) (fun x hx => ?_) (fun hv => ?_) (fun h9 => by rw [hk58, upd_at]; exact sm_mx h9 hfl1)
    · by_cases c : j = 4 ∧ x = f.1
      · rw [c.1, c.2, nb_v, nb_v]
      · have c' : j ≠ 4 ∨ x ≠ f.1 := by
          by_cases c4 : j = 4
          · exact Or.inr (fun z => c ⟨c4, z⟩)
          · exact Or.inl c4
        rw [nb_o c', nb_o c', nb_o c']
        exact b1 x j hj
    · rw [nb_o (Or.inl (by decide))]
      exact b2
    · by_cases c : j = 55
      · rw [c, hk55]
        show _ = upd (K.2 55) (xn (f.1 - 1)).toNatClampNeg (K.2 55 (f.1 - 1) + 1)
        rw [xn_nat (by omega)]
      · rw [hkA j (by omega)]
        have hj : j = 54 ∨ j = 56 ∨ j = 57 ∨ j = 59 := by omega
        rcases hj with rfl | rfl | rfl | rfl <;> rfl
    · rw [hk58, upd_nt hx]
      rfl
    · rw [nb_o (Or.inl (by decide)), nb_o (Or.inl (by decide))] at hv
      have hv' : s.b f.1 7 = mw (shF f).2 (K.2 58 (f.1 - 1)) := hv
      rw [hk58, upd_at, shF0 (f := xd f (tt, 1, 0, 0)) hp, mw0, hv', shF0 hp, mw0]
  have hcl : CL K3 (xd f (tt, 1, 0, 0) :: r) := by
    have z : CL K2 (xd f (tt, 1, 0, 0) :: r) := by
      rw [hK2]
      refine CL.dcl (st := 0) (w := 0) (q := (tt, 1, 0, 0)) ?_ hR.2.1 hz0 (show (0 : Int32) ≠ 0 ↔ (1 : Int32) &&& 4 ≠ 0 from by decide)
      exact CL.sub (k := K) h.cc (fun _ _ q => q) (fun z => by rw [eK8]; exact z) (by show k.2 30 = _; rw [eK])
    exact z.sub (fun _ _ q => q) (fun z => by rw [← eK38]; exact z) (by rw [eK3])
  refine h.nam hc fK (n3.frm (cFr.sb (F := 0) (T := 0) (B := 16) (G := 0) cFr.refl rfl) (kFr.refl (F := 0) (A := 0)) rfl rfl rfl rfl rfl rfl rfl rfl rfl rfl rfl) hz (OU.fr (F := 0) (A := 0) o3 (fun _ => ⟨rfl, rfl⟩) kFr.refl rfl rfl) ⟨(fun z => nomatch z), ?_, hb2, hcl, h.lv.same rfl (hc.2.1 28 rfl).1 (hc.2.1 28 rfl).2⟩
  exact (h.nc.fr0 hc fK rfl rfl rfl rfl e8 (fun z => absurd z (by decide))).xx rfl
theorem par_all : ∀ (m : Nat) {a : Nat} {s : cS} {k : kS} {f : xF} {y3 : Int32} {s' : cS} {o : Option Int32}, cfix m 77020 s f.1 1 y3 0 0 0 0 = some (s', o) → SG L P k0 T V W a (nb s f.1 4 (xn f.2.1.length)) k (f :: r) t v w → f.2.2.1 = [] → 0 ≤ y3.toInt → y3.toInt ≤ a → ∃ R, (∃ m', kwh (k198b2 (xn (f.1 - 1))) m' (k, 1) = R) ∧ R.1 ≠ 0 ∧ (∀ x, o = some x → ∃ a' f', a ≤ a' ∧ (kpar (xn (f.1 - 1)) R).2 = 1 ∧ SG L P k0 T V W a' s' (kpar (xn (f.1 - 1)) R).1 (f' :: r) t v w ∧ f'.1 = f.1 ∧ f'.2.2.1 = [] ∧ f'.2.2.2.1 = f.2.2.2.1) ∧ (o = none → (kpar (xn (f.1 - 1)) R).2 = 0 ∧ (kpar (xn (f.1 - 1)) R).1.1 6 ≠ 0) := by
  intro m
  induction m with
  | zero => intro a s k f y3 s' o hm; cases hm
  | succ m ih =>
    intro a s k f y3 s' o hm h hp hy0 hy
    have hle := h.le
    have y31 : (y3 + 1).toInt = y3.toInt + 1 := i_add rfl (show (1 : Int32).toInt = 1 from rfl) (by omega) (by omega)
    rw [cf77020] at hm
    unfold c77_20 at hm
    rw [if_neg (by decide), if_neg (by rw [i_lt]; have : (16384 : Int32).toInt = 16384 := rfl; omega)] at hm
    have i72 : c53 s = 72 ↔ k183 k = 72 := h.is (K := 72) (by decide) (by decide)
    have i1 : c53 s = 1 ↔ k183 k = 1 := h.is (K := 1) (by decide) (by decide)
    by_cases c72 : c53 s = 72
    · rw [if_neg (fun z => z c72)] at hm
      obtain ⟨q, s1, q1, q2, q3, q4, q5⟩ := h.skq c72 pl72
      rw [q3, rbd_th (w := q.2.1) rfl] at hm
      have hm2 : cfix m 77020 (nb s1 f.1 5 1) f.1 0 (y3 + 1) 0 0 0 0 = some (s', o) := hm
      obtain ⟨z1, z2⟩ := par_end hm2
      refine ⟨(1, (k, 1)), ⟨1, ?_⟩, (show (1 : Nat) ≠ 0 from by decide), fun x hx => ?_, fun z => by rw [z2] at z; cases z⟩
      · have e : k198b2 (xn (f.1 - 1)) (k, 1) = (1, (k, 1)) := by
          unfold k198b2
          rw [if_neg (show ¬ (1 : Int32) = 0 from by decide), if_neg (fun z => z (i72.mp c72))]
        rw [kwh_out (by rw [e]; exact Nat.succ_ne_zero _), e]
      · have h0 : cFr 0 0 48 0 s1 (nb s1 f.1 4 (xn f.2.1.length)) := cFr.refl.sb rfl
        have h1 : cFr 0 0 48 0 s1 (nb (nb s1 f.1 5 1) f.1 4 (xn f.2.1.length)) := (cFr.refl.sb rfl).sb rfl
        have hc := h0.symm.trans h1
        have h016 : cFr 0 0 16 0 s1 (nb s1 f.1 4 (xn f.2.1.length)) := cFr.refl.sb rfl
        have hn := (q4.rn h016.symm (kFr.refl (F := 0) (A := 0))).dts
        have hof := own_k (q4.rn h016.symm (kFr.refl (F := 0) (A := 0))) q4.SZ
        have e75 : c75 (nb s1 f.1 5 1) = xn f.2.1.length := by
          rw [c75_nb (by decide), ← c75_nb (s := s1) (x := f.1) (j := 4) (y := xn f.2.1.length) (by decide), XC.cnt q4.1.2.1.1 q4.SZ, hp, List.append_nil]
        refine ⟨a + 1, (f.1, f.2.1, f.2.2.1, f.2.2.2.1, 1), by omega, rfl, ?_, rfl, hp, rfl⟩
        rw [z1, e75]
        have hk : kFr 0 72057594037927936 (kf k 4 (k.1 4 + 1)) (ka (kf k 4 (k.1 4 + 1)) 56 (xn (f.1 - 1)) 1) := kFr.sa kFr.refl rfl
        have hc2 : cFr 0 0 16 0 (nb s1 f.1 5 1) (nb (nb s1 f.1 5 1) f.1 4 (xn f.2.1.length)) := cFr.refl.sb rfl
        have ex : f.1 = (f.1 - 1) + 1 := by omega
        have fbn : FB (nb (nb s1 f.1 5 1) f.1 4 (xn f.2.1.length)) (ka (kf k 4 (k.1 4 + 1)) 56 (xn (f.1 - 1)) 1) (sh ((f.1, f.2.1, f.2.2.1, f.2.2.2.1, 1) :: r)) := by
          have z : FB (nb (nb s1 f.1 5 1) f.1 4 (xn f.2.1.length)) (ka (kf k 4 (k.1 4 + 1)) 56 (xn (f.1 - 1)) 1) (sh (f :: r)) := by
            refine FB.b45 (x0 := f.1 - 1) q4.fb (fun y j h1 h2 hj => ?_) (fun z => ?_) (fun z => ?_) id rfl (fun j h1 h2 h3 h4 => ?_) (fun x hx => rfl) (fun x hx => ?_)
            · have o4 : j ≠ 4 ∨ y ≠ f.1 := by rcases hj with z | z; exact Or.inl z.1; exact Or.inr (by rw [ex]; exact z)
              have o5 : j ≠ 5 ∨ y ≠ f.1 := by rcases hj with z | z; exact Or.inl z.2; exact Or.inr (by rw [ex]; exact z)
              rw [nb_o o4, nb_o o5, nb_o o4]
            · rw [← ex] at z ⊢
              rw [nb_v] at z ⊢
              exact z
            · rw [← ex, nb_o (Or.inl (by decide)), nb_v]
              show _ = upd (k.2 56) (xn (f.1 - 1)).toNatClampNeg 1 (f.1 - 1)
              rw [xn_nat (by omega), upd_at]
            · have hj : j = 54 ∨ j = 57 ∨ j = 58 ∨ j = 59 := by omega
              rcases hj with rfl | rfl | rfl | rfl <;> rfl
            · show upd (k.2 56) (xn (f.1 - 1)).toNatClampNeg 1 x = k.2 56 x
              rw [xn_nat (by omega), upd_nt hx]
          exact z
        exact q4.nam hc hk (hn.frm hc2 (kFr.refl (F := 0) (A := 0)) rfl rfl rfl rfl rfl rfl rfl rfl rfl rfl rfl) (by have := h.sz; show szX (f :: r) ≤ _; omega) ((q4.ou hc hk).cut rfl (Nat.le_refl _) (Nat.le_refl _)) ⟨(fun z => nomatch z), (q4.nc.fr0 hc hk rfl rfl rfl rfl id (fun z => absurd z (by decide))).xx rfl, fbn, q4.cc.sub (fun _ _ q => q) id rfl, q4.lv.same rfl (hc.2.1 28 (Nat.zero_testBit _)).1 (hc.2.1 28 (Nat.zero_testBit _)).2⟩
    · rw [if_pos c72] at hm
      by_cases c1 : c53 s = 1
      · obtain ⟨q, s1, q1, q2, q3, q4, q5⟩ := h.skq c1 pl1
        rw [c64_yes c1, q3, rbd_th (w := q.2.1) rfl] at hm
        have hm2 : c77_88 (cfix m) (c74 s1 q.2.1 1 (c63 s)).1 f.1 y3 = some (s', o) := hm
        have et : kr k 2 (k.1 4) = q.2.1 := by
          rcases h.1.1.kd with ⟨q', g1, g2, g3, g4, g5, -⟩ | ⟨g1, -⟩
          · rw [q1] at g1
            cases g1
            exact g5
          · exact absurd (lt_of q1) (by omega)
        obtain ⟨K2, hK2⟩ : ∃ K2, K2 = (k196 (ka k 55 (xn (f.1 - 1)) ((kr k 55 (xn (f.1 - 1))) + 1)) (kr k 2 (k.1 4)) 0 0 (k.1 4)).1 := ⟨_, rfl⟩
        have f55 : kFr 0 36028797018963968 k (ka k 55 (xn (f.1 - 1)) ((kr k 55 (xn (f.1 - 1))) + 1)) := kFr.sa kFr.refl rfl
        have f2 : kFr 2164261632 324259175284604928 k K2 := by
          rw [hK2]
          exact (f55.mono rfl rfl).trans ((fr_k196 _ _ _ _ _).mono rfl rfl)
        have cs1 : cFr 51539607552 0 16 0 (nb s f.1 4 (xn f.2.1.length)) s1 := by
          have z1 : cFr 51539607552 0 16 0 s (nb s f.1 4 (xn f.2.1.length)) := cFr.refl.sb rfl
          exact z1.symm.trans (cFr.mono q5 rfl rfl rfl rfl)
        have rk : RN s1 (ka k 55 (xn (f.1 - 1)) ((kr k 55 (xn (f.1 - 1))) + 1)) (f :: r) := h.rn cs1 f55
        have n2 : RN (c74 s1 q.2.1 1 (c63 s)).1 K2 (xd f (q.2.1, 1, 0, 0) :: r) := by
          rw [hK2, et]
          exact rk.dcl h.SZ hp (by decide) (by decide)
        have f3 : kFr 2164261648 324259175284604928 k (kf K2 4 (K2.1 4 + 1)) := kFr.sf (f2.mono rfl rfl) rfl
        have e4 : (kf K2 4 (K2.1 4 + 1)).1 4 = k.1 4 + 1 := by
          show K2.1 4 + 1 = _
          rw [f2.1 4 rfl]
        have f4 : kFr 2164261632 324259175284604928 (kf k 4 (k.1 4 + 1)) (kf K2 4 (K2.1 4 + 1)) := f3.at4 e4 rfl
        have n3 : RN (c74 s1 q.2.1 1 (c63 s)).1 (kf K2 4 (K2.1 4 + 1)) (xd f (q.2.1, 1, 0, 0) :: r) := n2.frm (cFr.refl (F := 0) (T := 0) (B := 0) (G := 0)) (kFr.sf (F := 16) (A := 0) kFr.refl rfl) rfl rfl rfl rfl rfl rfl rfl rfl rfl rfl rfl
        have o2 : OU (bd a + 1) (c74 s1 q.2.1 1 (c63 s)).1 K2 (xd f (q.2.1, 1, 0, 0) :: r) := by
          rw [hK2]
          exact OU.dcl (h.ou cs1 f55) (by have := h.bl; omega) rk.2.1 h.SZ ((fr_c74 _ _ _ _).ou rfl)
        have o3 : OU (bd (a + 1)) (c74 s1 q.2.1 1 (c63 s)).1 (kf K2 4 (K2.1 4 + 1)) (xd f (q.2.1, 1, 0, 0) :: r) := (OU.fr (F := 16) (A := 0) o2 (fun _ => ⟨rfl, rfl⟩) (kFr.sf kFr.refl rfl) rfl rfl).mono (by have := h.bl; omega)
        have h3 : SG L P k0 T V W (a + 1) (nb (c74 s1 q.2.1 1 (c63 s)).1 f.1 4 (xn (xd f (q.2.1, 1, 0, 0)).2.1.length)) (kf K2 4 (K2.1 4 + 1)) (xd f (q.2.1, 1, 0, 0) :: r) t v w := par_one (k := k) (K2 := K2) q4 hp rfl rfl rfl rk (by rw [hK2, et]) rfl rfl rfl f4 n3 (by have := h.sz; rw [sz_xd]; omega) o3
        have eb : k198b2 (xn (f.1 - 1)) (k, 1) = (if (k183 (kf K2 4 (K2.1 4 + 1))) ≠ 69 then (0, (kf (kf K2 4 (K2.1 4 + 1)) 4 ((K2.1 4 + 1) + 0), 0)) else (0, (kf (kf K2 4 (K2.1 4 + 1)) 4 ((K2.1 4 + 1) + 1), 1))) := by
          unfold k198b2
          rw [if_neg (show ¬ (1 : Int32) = 0 from by decide), if_pos (fun z => c72 (i72.mpr z)), if_pos (i1.mp c1), hK2]
        generalize (c74 s1 q.2.1 1 (c63 s)).1 = s2 at hm2 h3
        unfold c77_88 c77_105 at hm2
        have i69 : c53 s2 = 69 ↔ k183 (kf K2 4 (K2.1 4 + 1)) = 69 := h3.is (K := 69) (by decide) (by decide)
        by_cases c69 : c53 s2 = 69
        · rw [if_neg (fun z => z c69)] at hm2
          rw [if_neg (fun z => z (i69.mp c69))] at eb
          unfold c77_106 at hm2
          rw [if_neg (by decide)] at hm2
          obtain ⟨p, s5, p1, p2, p3, p4, p5⟩ := h3.skq c69 pl69
          rw [p3, rbd_th (w := p.2.1) rfl] at hm2
          have hm3 : cfix m 77020 s5 (xd f (q.2.1, 1, 0, 0)).1 1 (y3 + 1) 0 0 0 0 = some (s', o) := hm2
          obtain ⟨R, ⟨m', r1⟩, r2, r3, r4⟩ := ih (f := xd f (q.2.1, 1, 0, 0)) hm3 p4 hp (by omega) (by omega)
          refine ⟨R, ⟨m' + 1, ?_⟩, r2, fun x hx => ?_, r4⟩
          · rw [kwh_go (by rw [eb]), eb]
            exact r1
          · obtain ⟨a', f', u1, u2, u3, u4, u5, u6⟩ := r3 x hx
            exact ⟨a', f', by omega, u2, u3, u4, u5, u6⟩
        · rw [if_pos c69] at hm2
          rw [if_pos (fun z => c69 (i69.mpr z))] at eb
          unfold c77_106 at hm2
          rw [if_pos rfl] at hm2
          obtain ⟨z1, z2⟩ := par_end hm2
          have ek : kf (kf K2 4 (K2.1 4 + 1)) 4 ((K2.1 4 + 1) + 0) = kf K2 4 (K2.1 4 + 1) := by
            rw [kf_kf, Int32.add_zero]
          rw [ek] at eb
          refine ⟨(3, (kf K2 4 (K2.1 4 + 1), 0)), ⟨2, ?_⟩, (show (3 : Nat) ≠ 0 from by decide), fun x hx => ?_, fun z => by rw [z2] at z; cases z⟩
          · rw [kwh_go (by rw [eb]), eb]
            have e3 : k198b2 (xn (f.1 - 1)) (kf K2 4 (K2.1 4 + 1), 0) = (3, (kf K2 4 (K2.1 4 + 1), 0)) := by
              unfold k198b2
              rw [if_pos rfl]
            show kwh _ 1 _ = _
            rw [kwh_out (by rw [e3]; exact (show ¬ (3 : Nat) = 0 from by decide)), e3]
          · have e75 : c75 s2 = xn (xd f (q.2.1, 1, 0, 0)).2.1.length := by
              have z := XC.cnt h3.1.2.1.1 h3.SZ
              rw [c75_nb (by decide)] at z
              rw [z]
              show xn (_ ++ f.2.2.1).length = _
              rw [hp, List.append_nil]
            refine ⟨a + 1, xd f (q.2.1, 1, 0, 0), by omega, rfl, ?_, rfl, hp, rfl⟩
            rw [z1, e75]
            exact h3
      · rw [rbd_thn (c64_no c1)] at hm
        cases hm
        refine ⟨(2, (k, 1)), ⟨1, ?_⟩, (show (2 : Nat) ≠ 0 from by decide), (fun x z => nomatch z), fun _ => ⟨(k194_f (by decide)).2.2, (k194_f (by decide)).1⟩⟩
        have e : k198b2 (xn (f.1 - 1)) (k, 1) = (2, (k, 1)) := by
          unfold k198b2
          rw [if_neg (show ¬ (1 : Int32) = 0 from by decide), if_pos (fun z => c72 (i72.mpr z)), if_neg (fun z => c1 (i1.mpr z))]
        rw [kwh_out (by rw [e]; exact Nat.succ_ne_zero _), e]
/-- a function's names -/
def E77 (rc : cRC) (L : List xR) : Prop := ∀ {P : PT} (k0 : kS) (T V W a : Nat) (s : cS) (k : kS) (f : xF) (r : List xF) (t v w : Nat) (s' : cS) (o : Option Int32), rc 77 s f.1 0 0 0 0 0 0 = some (s', o) → SG L P k0 T V W a (nb s f.1 4 (xn f.2.1.length)) k (f :: r) t v w → f.2.2.1 = [] → (∀ x, o = some x → ∃ a' k' f', a ≤ a' ∧ (∀ y3, k195_183 k y3 (xn (f.1 - 1)) = k195_201 k' y3) ∧ SG L P k0 T V W a' s' k' (f' :: r) t v w ∧ f'.1 = f.1 ∧ f'.2.2.1 = [] ∧ f'.2.2.2.1 = f.2.2.2.1) ∧ (o = none → ∀ y3, (k195_183 k y3 (xn (f.1 - 1))).1.1 6 ≠ 0)
theorem e77 (m : Nat) : E77 (cfix m) L := by
  intro P k0 T V W a s k f r t v w s' o hm h hp
  cases m with
  | zero => cases hm
  | succ m =>
    rw [cf77] at hm
    have i61 : c53 s = 61 ↔ k183 k = 61 := h.is (K := 61) (by decide) (by decide)
    unfold c77 at hm
    by_cases c61' : c53 s = 61
    · rw [if_pos c61'] at hm
      have hm2 : cfix (m + 1) 77020 s f.1 0 0 0 0 0 0 = some (s', o) := hm
      obtain ⟨z1, z2⟩ := par_end hm2
      refine ⟨fun x hx => ⟨a, k, f, Nat.le_refl _, fun y3 => ?_, ?_, rfl, hp, rfl⟩, fun z => by rw [z2] at z; cases z⟩
      · unfold k195_183
        rw [if_pos (i61.mp c61')]
      · have e75 : c75 s = xn f.2.1.length := by
          have z := XC.cnt h.1.2.1.1 h.SZ
          rw [c75_nb (by decide), hp, List.append_nil] at z
          exact z
        rw [z1, e75]
        exact h
    · rw [if_neg c61'] at hm
      have hm2 : cfix (m + 1) 77020 s f.1 1 0 0 0 0 0 = some (s', o) := hm
      obtain ⟨R, r1, r2, r3, r4⟩ := par_all (m + 1) hm2 h hp (by decide) (Int.natCast_nonneg _)
      have ek : k198 k (xn (f.1 - 1)) = kpar (xn (f.1 - 1)) R := by
        show kpar _ (kfin (k198b2 (xn (f.1 - 1))) (k, 1)) = _
        rw [kfin_of r1 r2]
      have e183 : ∀ y3, k195_183 k y3 (xn (f.1 - 1)) = k195_198 (kpar (xn (f.1 - 1)) R).1 y3 (kpar (xn (f.1 - 1)) R).2 := fun y3 => by
        unfold k195_183
        rw [if_neg (fun z => c61' (i61.mpr z)), ek]
      refine ⟨fun x hx => ?_, fun z y3 => ?_⟩
      · obtain ⟨a', f', u1, u2, u3, u4, u5, u6⟩ := r3 x hx
        refine ⟨a', _, f', u1, fun y3 => ?_, u3, u4, u5, u6⟩
        rw [e183, u2]
        unfold k195_198
        rw [if_neg (by decide)]
      · obtain ⟨u1, u2⟩ := r4 z
        rw [e183, u1]
        unfold k195_198
        rw [if_pos rfl]
        exact u2
end PRM
