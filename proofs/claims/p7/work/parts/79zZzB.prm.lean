/-! THE WALK OVER BOTH: a function's names -/
section PRM
variable {L : List xR} {k0 : kS} {T V W t v w : Nat} {r : List xF}
def kpar (y : Int32) (R : Nat × (kS × Int32)) : kS × Int32 := if R.1 = 1 then (kf (ka R.2.1 56 y 1) 4 ((R.2.1.1 4) + 1), 1) else if R.1 = 2 then ((k194 R.2.1 7).1, (k194 R.2.1 7).2) else (R.2.1, 1)
theorem par_end {m : Nat} {s s' : cS} {x : Nat} {y3 : Int32} {o : Option Int32} (h : cfix m 77020 s x 0 y3 0 0 0 0 = some (s', o)) : s' = nb s x 4 (c75 s) ∧ o = some 0 := by
  cases m with
  | zero => cases h
  | succ m =>
    rw [cf77020] at h
    unfold c77_20 c77_124 at h
    rw [if_pos rfl] at h
    cases h
    exact ⟨rfl, rfl⟩
theorem par_all : ∀ (m : Nat) {a : Nat} {s : cS} {k : kS} {f : xF} {y3 : Int32} {s' : cS} {o : Option Int32}, cfix m 77020 s f.1 1 y3 0 0 0 0 = some (s', o) → SG L k0 T V W a s k (f :: r) t v w → f.2.2.1 = [] → 0 ≤ y3.toInt → y3.toInt ≤ a → ∃ R, (∃ m', kwh (k198b2 (xn (f.1 - 1))) m' (k, 1) = R) ∧ R.1 ≠ 0 ∧ (∀ x, o = some x → ∃ a' f', a ≤ a' ∧ (kpar (xn (f.1 - 1)) R).2 = 1 ∧ SG L k0 T V W a' s' (kpar (xn (f.1 - 1)) R).1 (f' :: r) t v w ∧ f'.1 = f.1 ∧ f'.2.2.1 = [] ∧ f'.2.2.2.1 = f.2.2.2.1) ∧ (o = none → (kpar (xn (f.1 - 1)) R).2 = 0 ∧ (kpar (xn (f.1 - 1)) R).1.1 6 ≠ 0) := by
  intro m
  induction m with
  | zero => intro a s k f y3 s' o hm; cases hm
  | succ m ih =>
    intro a s k f y3 s' o hm h hp hy0 hy
    have hle := h.le
    have y31 : (y3 + 1).toInt = y3.toInt + 1 := i_add rfl (show (1 : Int32).toInt = 1 from rfl) (by omega) (by omega)
    rw [cf77020] at hm
    unfold c77_20 at hm
    rw [if_neg (by decide), if_neg (by rw [i_lt]; have : (16384 : Int32).toInt = 16384 := rfl; omega)] at hm
    have i72 := h.is (K := 72) (by decide) (by decide)
    have i1 := h.is (K := 1) (by decide) (by decide)
    by_cases c72 : c53 s = 72
    · rw [if_neg (fun z => z c72)] at hm
      obtain ⟨q, s1, q1, q2, q3, q4, q5⟩ := h.skp c72 pl72
      rw [q3, rbd_th (w := q.2.1) rfl] at hm
      have hm2 : cfix m 77020 (nb s1 f.1 5 1) f.1 0 (y3 + 1) 0 0 0 0 = some (s', o) := hm
      obtain ⟨z1, z2⟩ := par_end hm2
      refine ⟨(1, (k, 1)), ⟨1, ?_⟩, (show (1 : Nat) ≠ 0 from by decide), fun x hx => ?_, fun z => by rw [z2] at z; cases z⟩
      · have e : k198b2 (xn (f.1 - 1)) (k, 1) = (1, (k, 1)) := by
          unfold k198b2
          rw [if_neg (show ¬ (1 : Int32) = 0 from by decide), if_neg (fun z => z (i72.mp c72))]
        rw [kwh_out (by rw [e]; exact Nat.succ_ne_zero _), e]
      · have hn := (h.rn q5 (kFr.refl (F := 0) (A := 0))).dts
        refine ⟨a + 1, (f.1, f.2.1, f.2.2.1, f.2.2.2.1, 1), by omega, rfl, ?_, rfl, hp, rfl⟩
        rw [z1]
        have hk : kFr 0 72057594037927936 (kf k 4 (k.1 4 + 1)) (ka (kf k 4 (k.1 4 + 1)) 56 (xn (f.1 - 1)) 1) := kFr.sa kFr.refl rfl
        have hc : cFr 0 0 48 0 s1 (nb (nb s1 f.1 5 1) f.1 4 (c75 (nb s1 f.1 5 1))) := (cFr.refl.sb rfl).sb rfl
        have hc2 : cFr 0 0 16 0 (nb s1 f.1 5 1) (nb (nb s1 f.1 5 1) f.1 4 (c75 (nb s1 f.1 5 1))) := cFr.refl.sb rfl
        have hk2 : kFr 16 0 (ka k 56 (xn (f.1 - 1)) 1) (ka (kf k 4 (k.1 4 + 1)) 56 (xn (f.1 - 1)) 1) := kFr.sf (j := 4) (v := k.1 4 + 1) (kFr.refl (s := ka k 56 (xn (f.1 - 1)) 1)) rfl
        exact q4.nam hc hk (hn.frm hc2 hk2 rfl rfl rfl rfl rfl rfl rfl rfl rfl rfl rfl) (by have := h.sz; show szX (f :: r) ≤ _; omega) ((q4.ou hc hk).cut rfl (Nat.le_refl _) (Nat.le_refl _))
    · rw [if_pos c72] at hm
      by_cases c1 : c53 s = 1
      · obtain ⟨q, s1, q1, q2, q3, q4, q5⟩ := h.skp c1 pl1
        rw [c64_yes c1, q3, rbd_th (w := q.2.1) rfl] at hm
        have hm2 : c77_88 (cfix m) (c74 s1 q.2.1 1 (c63 s)).1 f.1 y3 = some (s', o) := hm
        have et : kr k 2 (k.1 4) = q.2.1 := by
          rcases h.1.1.kd with ⟨q', g1, g2, g3, g4, g5, -⟩ | ⟨g1, -⟩
          · rw [q1] at g1
            cases g1
            exact g5
          · exact absurd (lt_of q1) (by omega)
        obtain ⟨K2, hK2⟩ : ∃ K2, K2 = (k196 (ka k 55 (xn (f.1 - 1)) ((kr k 55 (xn (f.1 - 1))) + 1)) (kr k 2 (k.1 4)) 0 0 (k.1 4)).1 := ⟨_, rfl⟩
        have f55 : kFr 0 36028797018963968 k (ka k 55 (xn (f.1 - 1)) ((kr k 55 (xn (f.1 - 1))) + 1)) := kFr.sa kFr.refl rfl
        have f2 : kFr 2164261632 324259175284604928 k K2 := by
          rw [hK2]
          exact (f55.mono rfl rfl).trans ((fr_k196 _ _ _ _ _).mono rfl rfl)
        have n2 : RN (c74 s1 q.2.1 1 (c63 s)).1 K2 (xd f (q.2.1, 1, 0, 0) :: r) := by
          rw [hK2, et]
          exact (h.rn q5 f55).dcl h.SZ hp (by decide) (by decide)
        have f3 : kFr 2164261648 324259175284604928 k (kf K2 4 (K2.1 4 + 1)) := kFr.sf (f2.mono rfl rfl) rfl
        have e4 : (kf K2 4 (K2.1 4 + 1)).1 4 = k.1 4 + 1 := by
          show K2.1 4 + 1 = _
          rw [f2.1 4 rfl]
        have f4 : kFr 2164261632 324259175284604928 (kf k 4 (k.1 4 + 1)) (kf K2 4 (K2.1 4 + 1)) := f3.at4 e4 rfl
        have n3 : RN (c74 s1 q.2.1 1 (c63 s)).1 (kf K2 4 (K2.1 4 + 1)) (xd f (q.2.1, 1, 0, 0) :: r) := n2.frm (cFr.refl (F := 0) (T := 0) (B := 0) (G := 0)) (kFr.sf (F := 16) (A := 0) kFr.refl rfl) rfl rfl rfl rfl rfl rfl rfl rfl rfl rfl rfl
        have o2 : OU (bd a + 1) (c74 s1 q.2.1 1 (c63 s)).1 K2 (xd f (q.2.1, 1, 0, 0) :: r) := by
          rw [hK2]
          exact OU.dcl (h.ou q5 f55) (by have := h.bl; omega) (h.rn q5 f55).2.1 h.SZ ((fr_c74 _ _ _ _).ou rfl)
        have o3 : OU (bd (a + 1)) (c74 s1 q.2.1 1 (c63 s)).1 (kf K2 4 (K2.1 4 + 1)) (xd f (q.2.1, 1, 0, 0) :: r) := (OU.fr (F := 16) (A := 0) o2 (fun _ => ⟨rfl, rfl⟩) (kFr.sf kFr.refl rfl) rfl rfl).mono (by have := h.bl; omega)
        have h3 : SG L k0 T V W (a + 1) (c74 s1 q.2.1 1 (c63 s)).1 (kf K2 4 (K2.1 4 + 1)) (xd f (q.2.1, 1, 0, 0) :: r) t v w := q4.nam (fr_c74 _ _ _ _) f4 n3 (by have := h.sz; rw [sz_xd]; omega) o3
        have eb : k198b2 (xn (f.1 - 1)) (k, 1) = (if (k183 (kf K2 4 (K2.1 4 + 1))) ≠ 69 then (0, (kf (kf K2 4 (K2.1 4 + 1)) 4 ((K2.1 4 + 1) + 0), 0)) else (0, (kf (kf K2 4 (K2.1 4 + 1)) 4 ((K2.1 4 + 1) + 1), 1))) := by
          unfold k198b2
          rw [if_neg (show ¬ (1 : Int32) = 0 from by decide), if_pos (fun z => c72 (i72.mpr z)), if_pos (i1.mp c1), hK2]
        generalize (c74 s1 q.2.1 1 (c63 s)).1 = s2 at hm2 h3
        unfold c77_88 c77_105 at hm2
        by_cases c69 : c53 s2 = 69
        · rw [if_neg (fun z => z c69)] at hm2
          rw [if_neg (fun z => z ((h3.is (by decide) (by decide)).mp c69))] at eb
          unfold c77_106 at hm2
          rw [if_neg (by decide)] at hm2
          obtain ⟨p, s5, p1, p2, p3, p4, p5⟩ := h3.skp c69 pl69
          rw [p3, rbd_th (w := p.2.1) rfl] at hm2
          have hm3 : cfix m 77020 s5 (xd f (q.2.1, 1, 0, 0)).1 1 (y3 + 1) 0 0 0 0 = some (s', o) := hm2
          obtain ⟨R, ⟨m', r1⟩, r2, r3, r4⟩ := ih hm3 p4 hp (by omega) (by omega)
          refine ⟨R, ⟨m' + 1, ?_⟩, r2, fun x hx => ?_, r4⟩
          · rw [kwh_go (by rw [eb]), eb]
            exact r1
          · obtain ⟨a', f', u1, u2, u3, u4, u5, u6⟩ := r3 x hx
            exact ⟨a', f', by omega, u2, u3, u4, u5, u6⟩
        · rw [if_pos c69] at hm2
          rw [if_pos (fun z => c69 ((h3.is (by decide) (by decide)).mpr z))] at eb
          unfold c77_106 at hm2
          rw [if_pos rfl] at hm2
          obtain ⟨z1, z2⟩ := par_end hm2
          have ek : kf (kf K2 4 (K2.1 4 + 1)) 4 ((K2.1 4 + 1) + 0) = kf K2 4 (K2.1 4 + 1) := by
            rw [kf_kf, Int32.add_zero]
          rw [ek] at eb
          refine ⟨(3, (kf K2 4 (K2.1 4 + 1), 0)), ⟨2, ?_⟩, (show (3 : Nat) ≠ 0 from by decide), fun x hx => ?_, fun z => by rw [z2] at z; cases z⟩
          · rw [kwh_go (by rw [eb]), eb]
            have e3 : k198b2 (xn (f.1 - 1)) (kf K2 4 (K2.1 4 + 1), 0) = (3, (kf K2 4 (K2.1 4 + 1), 0)) := by
              unfold k198b2
              rw [if_pos rfl]
            show kwh _ 1 _ = _
            rw [kwh_out (by rw [e3]; exact (show ¬ (3 : Nat) = 0 from by decide)), e3]
          · have hc : cFr 0 0 16 0 s2 (nb s2 f.1 4 (c75 s2)) := cFr.refl.sb rfl
            refine ⟨a + 1, xd f (q.2.1, 1, 0, 0), by omega, rfl, ?_, rfl, hp, rfl⟩
            rw [z1]
            exact h3.cl hc
      · rw [rbd_thn (c64_no c1)] at hm
        cases hm
        refine ⟨(2, (k, 1)), ⟨1, ?_⟩, (show (2 : Nat) ≠ 0 from by decide), (fun x z => nomatch z), fun _ => ⟨(k194_f (by decide)).2.2, (k194_f (by decide)).1⟩⟩
        have e : k198b2 (xn (f.1 - 1)) (k, 1) = (2, (k, 1)) := by
          unfold k198b2
          rw [if_neg (show ¬ (1 : Int32) = 0 from by decide), if_pos (fun z => c72 (i72.mpr z)), if_neg (fun z => c1 (i1.mpr z))]
        rw [kwh_out (by rw [e]; exact Nat.succ_ne_zero _), e]
/-- a function's names -/
def E77 (rc : cRC) (L : List xR) : Prop := ∀ (k0 : kS) (T V W a : Nat) (s : cS) (k : kS) (f : xF) (r : List xF) (t v w : Nat) (s' : cS) (o : Option Int32), rc 77 s f.1 0 0 0 0 0 0 = some (s', o) → SG L k0 T V W a s k (f :: r) t v w → f.2.2.1 = [] → (∀ x, o = some x → ∃ a' k' f', a ≤ a' ∧ (∀ y3, k195_183 k y3 (xn (f.1 - 1)) = k195_201 k' y3) ∧ SG L k0 T V W a' s' k' (f' :: r) t v w ∧ f'.1 = f.1 ∧ f'.2.2.1 = [] ∧ f'.2.2.2.1 = f.2.2.2.1) ∧ (o = none → ∀ y3, (k195_183 k y3 (xn (f.1 - 1))).1.1 6 ≠ 0)
theorem e77 (m : Nat) : E77 (cfix m) L := by
  intro k0 T V W a s k f r t v w s' o hm h hp
  cases m with
  | zero => cases hm
  | succ m =>
    rw [cf77] at hm
    have i61 := h.is (K := 61) (by decide) (by decide)
    unfold c77 at hm
    by_cases c61' : c53 s = 61
    · rw [if_pos c61'] at hm
      have hm2 : cfix (m + 1) 77020 s f.1 0 0 0 0 0 0 = some (s', o) := hm
      obtain ⟨z1, z2⟩ := par_end hm2
      refine ⟨fun x hx => ⟨a, k, f, Nat.le_refl _, fun y3 => ?_, ?_, rfl, hp, rfl⟩, fun z => by rw [z2] at z; cases z⟩
      · unfold k195_183
        rw [if_pos (i61.mp c61')]
      · rw [z1]
        have hc : cFr 0 0 16 0 s (nb s f.1 4 (c75 s)) := cFr.refl.sb rfl
        exact h.cl hc
    · rw [if_neg c61'] at hm
      have hm2 : cfix (m + 1) 77020 s f.1 1 0 0 0 0 0 = some (s', o) := hm
      obtain ⟨R, r1, r2, r3, r4⟩ := par_all (m + 1) hm2 h hp (by decide) (Int.natCast_nonneg _)
      have ek : k198 k (xn (f.1 - 1)) = kpar (xn (f.1 - 1)) R := by
        show kpar _ (kfin (k198b2 (xn (f.1 - 1))) (k, 1)) = _
        rw [kfin_of r1 r2]
      have e183 : ∀ y3, k195_183 k y3 (xn (f.1 - 1)) = k195_198 (kpar (xn (f.1 - 1)) R).1 y3 (kpar (xn (f.1 - 1)) R).2 := fun y3 => by
        unfold k195_183
        rw [if_neg (fun z => c61' (i61.mpr z)), ek]
      refine ⟨fun x hx => ?_, fun z y3 => ?_⟩
      · obtain ⟨a', f', u1, u2, u3, u4, u5, u6⟩ := r3 x hx
        refine ⟨a', _, f', u1, fun y3 => ?_, u3, u4, u5, u6⟩
        rw [e183, u2]
        unfold k195_198
        rw [if_neg (by decide)]
      · obtain ⟨u1, u2⟩ := r4 z
        rw [e183, u1]
        unfold k195_198
        rw [if_pos rfl]
        exact u2
end PRM
