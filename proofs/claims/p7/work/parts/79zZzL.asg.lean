/-! THE WALK OVER BOTH: assignments and calls -/
section ASG
variable {L : List xR} {k0 k k' : kS} {T V W a t v w n : Nat} {s s' : cS} {X X' : List xF} {f : xF} {r : List xF} {x y z y1 y2 y3 y4 p : Int32} {rc : cRC}
theorem SGp.wai (h : SG L k0 T V W a s k X t v w) {F A : Nat} {w' : Nat} (f : kFr F A k k') (h20 : k'.1 20 = xn w') (hw : w' ≤ a) (hb : KB T V W k k') (k1 : F &&& 4620992428743099761 = 0 := by rfl) (k2 : A &&& 286002967758988378118 = 0 := by rfl) : SG L k0 T V W a s k' X t v w' := by
  have tb : ∀ (A M j : Nat), A &&& M = 0 → M.testBit j = true → A.testBit j = false := fun A M j ez hj => by
    have := congrArg (fun q => q.testBit j) ez
    simp only [Nat.testBit_and, hj, Bool.and_true, Nat.zero_testBit] at this
    exact this
  have sub : ∀ (A M N : Nat), A &&& M = 0 → M &&& N = N → A &&& N = 0 := fun A M N e1 e2 => by
    rw [← e2, ← Nat.and_assoc, e1, Nat.zero_and]
  exact ⟨h.1.fr (cFr.refl (F := 0) (T := 0) (B := 0) (G := 0)) f rfl rfl rfl rfl (sub _ _ _ k1 rfl) k2, ⟨(f.1 10 (tb _ _ 10 k1 (by decide))).trans h.2.1.1, (f.1 15 (tb _ _ 15 k1 (by decide))).trans h.2.1.2.1, h20⟩, h.2.2.1.trans hb, hw⟩
/-- something more waits -/
theorem SGp.kee (h : SG L k0 T V W a s k X t v w) (hW : W ≤ w) (hw : w + 1 ≤ a) : SG L k0 T V W a s (k239 k x y z).1 X t v (w + 1) := by
  have hle := h.le
  have ix : (k.1 20).toNatClampNeg = w := by rw [h.2.1.2.2]; exact xn_nat (by omega)
  have e20 : (k239 k x y z).1.1 20 = xn (w + 1) := by
    show k.1 20 + 1 = _
    rw [h.2.1.2.2, xn_succ (by omega)]
  refine h.wai (fr_k239 k x y z) e20 hw ⟨fun j i hj hi => ?_, fun j i hj hi => ?_, fun j i hj hi => ?_⟩
  · rcases hj with rfl | rfl | rfl | rfl <;> rfl
  · rcases hj with rfl | rfl | rfl <;> rfl
  · rcases hj with rfl | rfl | rfl
    · show upd (k.2 21) (k.1 20).toNatClampNeg x i = _
      rw [ix]; exact if_neg (by omega)
    · show upd (k.2 22) (k.1 20).toNatClampNeg y i = _
      rw [ix]; exact if_neg (by omega)
    · show upd (k.2 23) (k.1 20).toNatClampNeg z i = _
      rw [ix]; exact if_neg (by omega)
/-- the values are stored: what waited is gone -/
theorem SGp.sto {w1 : Nat} (h : SGp (some v) L k0 T V W a s k X t (v + 1) w1) (hV : V ≤ v) (hv : v ≤ 1000000) (hw : w ≤ a) : SG L k0 T V W a s (k265 k x (xn w)).1 X t v w := by
  unfold k265
  have h1 := h.adj (x := x) (y := k.1 19) hV hv
  generalize (k258 k x (k.1 19)).1 = k1 at h1
  unfold k265_9
  have fl : kFr 295147905179352825856 18300323042624482050048 k1 (kfin (k265b16 (xn w)) (k1, 0, x - 1)).2.1 := kfin_fr (f := fun t : kS × Int32 × Int32 => t.1) (fun t => fr_k265b16 (xn w) t) (k1, 0, x - 1)
  have h2 := h1.fr1 fl
  generalize (kfin (k265b16 (xn w)) (k1, 0, x - 1)).2.1 = k2 at h2
  have fin : ∀ k3 : kS, SG L k0 T V W a s k3 X t v w1 → SG L k0 T V W a s (kf k3 20 (xn w)) X t v w := fun k3 h3 => h3.wai (F := 1048576) (A := 0) (kFr.sf kFr.refl rfl) rfl hw (KB.fr (F := 1048576) (A := 0) (kFr.sf kFr.refl rfl) rfl)
  by_cases c : (kfin (k265b16 (xn w)) (k1, 0, x - 1)).2.2.1 ≤ 0
  · rw [if_pos c]
    exact fin _ h2
  · rw [if_neg c]
    unfold k265_117
    exact fin _ h2.put
/-- behind a target: is there one more -/
def E59L (rc : cRC) (L : List xR) : Prop := ∀ (a0 n : Nat) (k0 : kS) (a : Nat) (s : cS) (k Kg : kS) (X : List xF) (t v w : Nat) (y2 y3 : Int32), SG L k0 t v w a s k X t (v + 1) (w + n + 1) → XB X → a0 < a → RO L a (t + 8) (v + 8) → (k183 k = 59 ∨ k183 k = 69 → Kg = (k264_175 k (xn n) (xn w) (k183 k)).1) → (¬ (k183 k = 59 ∨ k183 k = 69) → Kg.1 6 ≠ 0) → 0 ≤ y3.toInt → y3.toInt ≤ a → QC (SP L k0 t v w a0 X) Kg (rc 59032 s 0 y2 y3 0 0 0 0)
/-- a target is read -/
theorem tg_one {fc : cS → Option (cS × Option Int32)} {Q : cS → kS → Int32 → Prop} {form : Int32} (h : SGp (some v) L k0 t v w a s k X (t + 1) (v + 1) (w + n)) (hB : XB X) (g : GT t 21 (xn n) (xn w) 0 k) (hf : FM X s k v form) (hw : w + n + 1 ≤ a) (h4 : form = 4 → 1 ≤ n) (hr : RO L a (t + 8) (v + 8)) (hgo : ∀ s1 k1 Kg, SG L k0 t v w a s1 k1 X t (v + 1) (w + n + 1) → (k183 k1 = 59 ∨ k183 k1 = 69 → Kg = (k264_175 k1 (xn n) (xn w) (k183 k1)).1) → (¬ (k183 k1 = 59 ∨ k183 k1 = 69) → Kg.1 6 ≠ 0) → QC Q Kg (fc s1)) : QC Q k (rbd (some (c113 s form)) (fun _ _ => fc (c113 s form).1)) := by
  have hle := h.le
  have ht : t + 8 ≤ 1000000 := by have := hr.1; omega
  have hv : v + 8 ≤ 1000000 := by have := hr.2; omega
  refine QC.pop g (by omega) ?_
  rw [k180_g21]
  have h1 := h.top (t' := t)
  have hf1 : FM X s (kf k 10 (xn t)) v form := hf
  generalize kf k 10 (xn t) = k1 at h1 hf1
  have ev : k1.1 15 - 1 = xn v := by
    rw [h1.2.1.2.1]
    have := xn_sub (n := 1) (m := v) (by omega)
    rw [Nat.add_comm 1] at this
    exact this
  have ekr : ∀ j, kr k1 j (k1.1 15 - 1) = k1.2 j v := fun j => by
    rw [ev]
    show k1.2 j (xn v).toNatClampNeg = _
    rw [xn_nat (by omega)]
  have n0 : 1 ≤ n → (xn n) ≠ 0 := fun hn z => by
    have : (xn n).toInt = (0 : Int32).toInt := by rw [z]
    rw [xn_i (by omega)] at this
    have z0 : (0 : Int32).toInt = 0 := rfl
    omega
  have e264 : ∀ y3, k1.2 16 v = y3 → (y3 = 1 → xn n ≠ 0) → (k264 k1 (xn n) (xn w)).1 = (k264_84 k1 (xn n) (xn w) y3 (k183 k1) (if k183 k1 = 59 ∨ k183 k1 = 69 then 1 else 0)).1 := fun y3 e1 e2 => by
    have k37 : ∀ z0 : Int32, (k264_37 k1 (xn n) (xn w) y3 (k183 k1) z0).1 = (k264_84 k1 (xn n) (xn w) y3 (k183 k1) z0).1 := fun z0 => by
      unfold k264_37
      by_cases c1 : y3 ≠ 1
      · rw [if_pos c1]
      · rw [if_neg c1, if_pos (e2 (Decidable.not_not.mp c1))]
    unfold k264 k264_32
    rw [ekr, e1]
    by_cases c59 : k183 k1 = 59
    · rw [if_pos c59, if_pos (Or.inl c59)]
      exact k37 1
    · rw [if_neg c59]
      by_cases c69 : k183 k1 = 69
      · rw [if_neg (fun z => z c69), if_pos (Or.inr c69)]
        exact k37 1
      · rw [if_pos c69, if_neg (fun z => z.elim c59 c69)]
        exact k37 0
  have stop : ∀ (s2 : cS) y3, k1.2 16 v = y3 → y3 < 3 → (y3 = 1 → xn n ≠ 0) → QC Q (k264 k1 (xn n) (xn w)).1 (some (s2, none)) := fun s2 y3 e1 e2 e3 => by
    refine QC.thn ?_
    rw [e264 y3 e1 e3]
    unfold k264_84 k264_94
    rw [if_pos e2]
    exact (k194_f (by decide)).1
  rcases hf1 with ⟨rfl, hk, hx⟩ | ⟨rfl, hk⟩ | ⟨rfl, hk⟩ | ⟨rfl, hk⟩ | ⟨rfl, hk⟩
  · have ec : c113 s 1 = ((tad (c114 s (s.f 7 6)).1 (.s 10) (c116 (c114 s (s.f 7 6)).1 (c101 (c114 s (s.f 7 6)).1)) (c102 (c114 s (s.f 7 6)).1) ((c114 s (s.f 7 6)).1.f 7 6) 0).1, some 0) := by
      unfold c113
      rw [if_pos rfl]
      rfl
    rw [ec, rbd_th (w := 0) rfl, e264 3 hk (fun z => absurd z (by decide))]
    have fc1 := fr_c114 s (s.f 7 6)
    have n2 : RN (c114 s (s.f 7 6)).1 (k237 k1 (kr k1 18 (k1.1 15 - 1))).1 X := RN.con h1.1.2.1 h1.SZ (by rw [ekr]; exact hx)
    have oT : OU (bd a) (c114 s (s.f 7 6)).1 (k237 k1 (kr k1 18 (k1.1 15 - 1))).1 X := by
      rcases h1.1.2.2.2.2.2 with ⟨z, -⟩ | ⟨-, s0, b, z2, z3, z4, z5⟩
      · exact absurd hk z
      · rw [ekr]
        exact OU.fr (h1.1.tgt (w := k1.2 18 v) z2 z3 z4 rfl) (fun x => ⟨(fc1.ou rfl x).1.trans (z5 x).1, (fc1.ou rfl x).2.trans (z5 x).2⟩) (kFr.refl (F := 0) (A := 0)) rfl rfl
    have h2 : SG L k0 t v w a (c114 s (s.f 7 6)).1 (k237 k1 (kr k1 18 (k1.1 15 - 1))).1 X t (v + 1) (w + n) := h1.nam fc1 (fr_k237 k1 _) n2 h1.sz oT
    have ek2 : k183 (k237 k1 (kr k1 18 (k1.1 15 - 1))).1 = k183 k1 := (h1.1.1.same h2.1.1).2
    generalize (c114 s (s.f 7 6)).1 = s2 at h2
    generalize hK2 : k237 k1 (kr k1 18 (k1.1 15 - 1)) = K2 at h2 ek2
    have fr10 : ∀ x1 x2 x3 x4, cFr 0 1024 0 0 s2 (tad s2 (.s 10) x1 x2 x3 x4).1 := fun x1 x2 x3 x4 => cFr.refl.tads rfl
    have h3 := fun x1 x2 x3 => ((h2.cl (fr10 (c116 s2 (c101 s2)) (c102 s2) (s2.f 7 6) 0)).kee (x := x1) (y := x2) (z := x3) (by omega) hw)
    have e3 : ∀ x1 x2 x3, k183 (k239 K2.1 x1 x2 x3).1 = k183 k1 := fun x1 x2 x3 => ek2
    refine hgo _ (k239 K2.1 K2.2 (K2.1.1 75) (kr k1 18 (k1.1 15 - 1))).1 _ (h3 _ _ _) ?_ ?_
    · intro hgo
      rw [e3] at hgo
      rw [if_pos hgo, e3]
      unfold k264_84
      rw [if_neg (by decide), if_pos (by decide), if_neg (fun z => z rfl), hK2]
      rfl
    · intro hno
      rw [e3] at hno
      rw [if_neg hno]
      unfold k264_84 k264_94
      rw [if_neg (by decide), if_neg (fun z => z rfl)]
      exact (k194_f (by decide)).1
  · have ec : c113 s 2 = ((tad (c78 s 5 (s.f 7 7) 0 0).1 (.s 10) 32 0 ((c78 s 5 (s.f 7 7) 0 0).1.f 7 6) 0).1, some 0) := by
      unfold c113
      rw [if_neg (by decide), if_pos rfl]
      rfl
    rw [ec, rbd_th (w := 0) rfl, e264 5 hk (fun z => absurd z (by decide))]
    have h1 := h1.str (by rw [hk]; decide)
    have h2 := (h1.put (x := 5) (y := kr k1 17 (k1.1 15 - 1)) (z := 0) (u := 0)).cl (fr_c78 s 5 (s.f 7 7) 0 0)
    have ek2 : k183 (k189 k1 5 (kr k1 17 (k1.1 15 - 1)) 0 0).1 = k183 k1 := (h1.1.1.same h2.1.1).2
    generalize (c78 s 5 (s.f 7 7) 0 0).1 = s2 at h2
    generalize hK2 : k189 k1 5 (kr k1 17 (k1.1 15 - 1)) 0 0 = K2 at h2 ek2
    have fr10 : cFr 0 1024 0 0 s2 (tad s2 (.s 10) 32 0 (s2.f 7 6) 0).1 := cFr.refl.tads rfl
    have h3 := (h2.cl fr10).kee (x := 3) (y := 0) (z := kr k1 18 (k1.1 15 - 1)) (by omega) hw
    have e3 : k183 (k239 K2.1 3 0 (kr k1 18 (k1.1 15 - 1))).1 = k183 k1 := ek2
    refine hgo _ _ _ h3 ?_ ?_
    · intro hgo
      rw [e3] at hgo
      rw [if_pos hgo, e3]
      unfold k264_84
      rw [if_neg (by decide), if_pos (by decide), if_pos (by decide), if_neg (fun z => z rfl), hK2]
      rfl
    · intro hno
      rw [e3] at hno
      rw [if_neg hno]
      unfold k264_84 k264_94
      rw [if_neg (by decide), if_neg (fun z => z rfl)]
      exact (k194_f (by decide)).1
  · have ec : c113 s 3 = ((tad s (.s 10) 32 0 (s.f 7 6) 0).1, some 0) := by
      unfold c113
      rw [if_neg (by decide), if_neg (by decide), if_pos rfl]
    rw [ec, rbd_th (w := 0) rfl, e264 4 hk (fun z => absurd z (by decide))]
    have h1 := h1.str (by rw [hk]; decide)
    have fr10 : cFr 0 1024 0 0 s (tad s (.s 10) 32 0 (s.f 7 6) 0).1 := cFr.refl.tads rfl
    have h3 := (h1.cl fr10).kee (x := 3) (y := 0) (z := kr k1 18 (k1.1 15 - 1)) (by omega) hw
    have e3 : k183 (k239 k1 3 0 (kr k1 18 (k1.1 15 - 1))).1 = k183 k1 := rfl
    refine hgo _ _ _ h3 ?_ ?_
    · intro hgo
      rw [e3] at hgo
      rw [if_pos hgo, e3]
      unfold k264_84
      rw [if_neg (by decide), if_pos (by decide), if_pos (by decide), if_pos (by decide)]
      rfl
    · intro hno
      rw [e3] at hno
      rw [if_neg hno]
      unfold k264_84 k264_94
      rw [if_neg (by decide), if_neg (fun z => z rfl)]
      exact (k194_f (by decide)).1
  · have ec : (c113 s 4).2 = none := by
      unfold c113
      rw [if_neg (by decide), if_neg (by decide), if_neg (by decide), cbd_none rfl]
      rfl
    rw [rbd_thn ec]
    exact stop _ 1 hk (by decide) (fun _ => n0 (h4 rfl))
  · have ec : (c113 s 0).2 = none := by
      unfold c113
      rw [if_neg (by decide), if_neg (by decide), if_neg (by decide), cbd_none rfl]
      rfl
    rw [rbd_thn ec]
    exact stop _ 0 hk (by decide) (fun z => absurd z (by decide))
theorem as_rnd {a0 : Nat} {Kg : kS} (hL : E59L rc L) (hl : F112 rc L) (h60 : E60 rc L) (h : SG L k0 t v w a s k X t (v + 1) (w + n + 1)) (hB : XB X) (ha : a0 < a) (hr : RO L a (t + 8) (v + 8)) (hg : k183 k = 59 ∨ k183 k = 69 → Kg = (k264_175 k (xn n) (xn w) (k183 k)).1) (hno : ¬ (k183 k = 59 ∨ k183 k = 69) → Kg.1 6 ≠ 0) (hy0 : 0 ≤ y3.toInt) (hy : y3.toInt ≤ a) : QC (SP L k0 t v w a0 X) Kg (c59_32 rc s y2 y3) := by
  have hle := h.le
  have ht : t + 8 ≤ 1000000 := by have := hr.1; omega
  have hv : v + 8 ≤ 1000000 := by have := hr.2; omega
  have hwa := h.2.2.2
  have i59 := h.is (K := 59) (by decide) (by decide)
  have i69 := h.is (K := 69) (by decide) (by decide)
  have h1 := h.dwn (by omega)
  unfold c59_32
  by_cases c69 : c53 s = 69
  · rw [hg (Or.inr (i69.mp c69)), i69.mp c69, if_neg (fun z => z c69), if_neg (by rw [i_lt]; have : (16384 : Int32).toInt = 16384 := rfl; omega)]
    unfold k264_175
    rw [if_neg (fun z => z rfl)]
    unfold k264_213 k264_222
    obtain ⟨q, s1, q1, q2, q3, q4, q5⟩ := h1.skp c69 pl69
    have hlt := lt_of q1
    rw [q3, rbd_th (w := q.2.1) rfl]
    have h2 : SG L k0 t v w (a + 1) s1 (kf (kf k 15 (k.1 15 - 1)) 4 (k.1 4 + 1)) X t v (w + n + 1) := q4
    generalize kf (kf k 15 (k.1 15 - 1)) 4 (k.1 4 + 1) = k2 at h2
    rw [xn_succ (by omega)]
    obtain ⟨h3, g3⟩ := h2.psh (g := 21) (p := xn (n + 1)) (q := xn w) (c := 0) (Nat.le_refl _) (by omega)
    generalize (k179 k2 21 (xn (n + 1)) (xn w) 0).1 = k3 at h3 g3
    show QC _ _ (c59_58 rc s1 y2 y3 q.2.1)
    unfold c59_58
    refine (h60 (a + 1) s1 k3 X (t + 1) v (w + n + 1) h3.own hB.ne ⟨by have := hr.1; omega, by have := hr.2; omega⟩).bnd ?_
    rintro s4 k4 x4 ⟨a4, u1, u2, u3⟩
    have g4 := g3.bck u2.2.2.1 u2.2.1.1
    have h4 := h3.reb u2 (by omega) (Nat.le_refl _) (by omega)
    show QC _ _ (rbd (some (c113 s4 x4)) (fun _ _ => rc 59032 (c113 s4 x4).1 0 y2 (y3 + 1) 0 0 0 0))
    have hle4 := h4.le
    have y31 : (y3 + 1).toInt = y3.toInt + 1 := i_add rfl (show (1 : Int32).toInt = 1 from rfl) (by omega) (by omega)
    refine tg_one (n := n + 1) (fc := fun s' => rc 59032 s' 0 y2 (y3 + 1) 0 0 0 0) h4 hB g4 u3 (by omega) (fun _ => by omega) ⟨by have := hr.1; omega, by have := hr.2; omega⟩ ?_
    intro s5 k5 Kg' z1 z2 z3
    exact hL a0 (n + 1) k0 a4 s5 k5 Kg' X t v w y2 (y3 + 1) z1 hB (by omega) ⟨by have := hr.1; omega, by have := hr.2; omega⟩ z2 z3 (by omega) (by omega)
  · rw [if_pos c69]
    unfold c59_73
    by_cases c59 : c53 s = 59
    · rw [hg (Or.inl (i59.mp c59)), i59.mp c59, c64_yes c59]
      unfold k264_175
      rw [if_pos (by decide)]
      obtain ⟨q, s1, q1, q2, q3, q4, q5⟩ := h1.skp c59 pl59
      have hlt := lt_of q1
      rw [q3, rbd_th (w := q.2.1) rfl]
      have h2 : SG L k0 t v w (a + 1) s1 (kf (kf k 15 (k.1 15 - 1)) 4 (k.1 4 + 1)) X t v (w + n + 1) := q4
      generalize kf (kf k 15 (k.1 15 - 1)) 4 (k.1 4 + 1) = k2 at h2
      obtain ⟨h3, g3⟩ := h2.psh (g := 22) (p := xn n + 1) (q := xn w) (c := 0) (Nat.le_refl _) (by omega)
      generalize (k179 k2 22 (xn n + 1) (xn w) 0).1 = k3 at h3 g3
      show QC _ _ (c59_82 rc s1 y2 q.2.1)
      unfold c59_82
      refine (hl k3 (t + 1) v (w + n + 1) (a + 1) s1 k3 X (t + 1) v (w + n + 1) h3.own hB.ne (Nat.le_refl _) (Nat.le_refl _) (Nat.le_refl _) ⟨by have := hr.1; omega, by have := hr.2; omega⟩).bnd ?_
      rintro s4 k4 x4 ⟨a4, u1, u2⟩
      have g4 := g3.bck u2.2.2.1 u2.2.1.1
      have h4 := (h3.reb u2 (by omega) (Nat.le_refl _) (by omega)).top (t' := t)
      refine QC.pop g4 (by omega) ?_
      rw [k180_g22]
      have h5 := h4.sto (w := w) (x := xn n + 1) (Nat.le_refl _) (by omega) (by omega)
      exact QC.ret ⟨a4, X, by omega, (h5.cl (fr_c117 s4 _ x4)).cl (fr_c118 _ y2), XQ.refl hB⟩
    · rw [rbd_thn (c64_no c59)]
      exact QC.thn (hno (fun z => z.elim (fun q => c59 (i59.mpr q)) (fun q => c69 (i69.mpr q))))
/-- an assignment or a call -/
def E59 (rc : cRC) (L : List xR) : Prop := ∀ (a : Nat) (s : cS) (k : kS) (X : List xF) (t v w : Nat), SG L k t v w a s k X t v w → XB X → RO L (a + 1) (t + 8) (v + 8) → QC (fun s' k' x => SP L k t v w a X s' k' x ∨ (k'.1 6 ≠ 0 ∧ (c53 s' = 59 ∨ c53 s' = 69))) (k201 ((k179 ((k179 k 21 0 (k.1 20) 0).1) 28 0 0 0).1)).1 (rc 59 s 0 0 0 0 0 0 0)
theorem st_asg (hL : E59L rc L) (hl : F112 rc L) (h60 : E60 rc L) (h : SG L k t v w a s k X t v w) (hB : XB X) (hr : RO L (a + 1) (t + 8) (v + 8)) : QC (fun s' k' x => SP L k t v w a X s' k' x ∨ (k'.1 6 ≠ 0 ∧ (c53 s' = 59 ∨ c53 s' = 69))) (k201 ((k179 ((k179 k 21 0 (k.1 20) 0).1) 28 0 0 0).1)).1 (c59 rc s) := by
  have hle := h.le
  have ht : t + 8 ≤ 1000000 := by have := hr.1; omega
  have hv : v + 8 ≤ 1000000 := by have := hr.2; omega
  rw [h.2.1.2.2]
  obtain ⟨h1, g1⟩ := h.psh (g := 21) (p := 0) (q := xn w) (c := 0) (Nat.le_refl _) (by omega)
  generalize (k179 k 21 0 (xn w) 0).1 = k1 at h1 g1
  unfold c59
  refine (h60 a s k1 X (t + 1) v w h1.own hB.ne ⟨by have := hr.1; omega, by have := hr.2; omega⟩).bnd ?_
  rintro s4 k4 x4 ⟨a4, u1, u2, u3⟩
  have g4 := g1.bck u2.2.2.1 u2.2.1.1
  have h4 := h1.reb u2 (by omega) (Nat.le_refl _) (Nat.le_refl _)
  have hw := h.2.2.2
  show QC _ _ (c59_4 rc s4 x4)
  unfold c59_4
  by_cases c4 : x4 = 4
  · rw [if_neg (fun z => z c4)]
    rw [c4] at u3
    have hk : k4.2 16 v = 1 := by
      rcases u3 with ⟨z, -⟩ | ⟨z, -⟩ | ⟨z, -⟩ | ⟨-, z⟩ | ⟨z, -⟩
      · exact absurd z (by decide)
      · exact absurd z (by decide)
      · exact absurd z (by decide)
      · exact z
      · exact absurd z (by decide)
    refine QC.pop g4 (by omega) ?_
    rw [k180_g21]
    have h5 := (h4.top (t' := t)).str (by show k4.2 16 v ≠ 3; rw [hk]; decide)
    have hk1 : (kf k4 10 (xn t)).2 16 v = 1 := hk
    generalize kf k4 10 (xn t) = k5 at h5 hk1
    have ev : k5.1 15 - 1 = xn v := by
      rw [h5.2.1.2.1]
      have := xn_sub (n := 1) (m := v) (by omega)
      rw [Nat.add_comm 1] at this
      exact this
    have ekr : kr k5 16 (k5.1 15 - 1) = 1 := by
      rw [ev]
      show k5.2 16 (xn v).toNatClampNeg = _
      rw [xn_nat (by omega)]
      exact hk1
    have h6 := h5.cl (fr_c99 s4 1 0)
    have e53 := c53_fr (fr_c99 s4 1 0)
    have i59 := h6.is (K := 59) (by decide) (by decide)
    have i69 := h6.is (K := 69) (by decide) (by decide)
    generalize (c99 s4 1 0).1 = s6 at h6 i59 i69
    unfold k264 k264_32
    rw [ekr]
    have bad : (k264_37 k5 0 (xn w) 1 (k183 k5) 1).1.1 6 ≠ 0 := by
      unfold k264_37 k264_84 k264_94
      rw [if_neg (fun z => z rfl), if_neg (fun z => z rfl), if_pos (by decide), if_pos (by decide)]
      exact (k194_f (by decide)).1
    by_cases c59 : c53 s6 = 59
    · rw [if_pos (i59.mp c59)]
      exact QC.ret (Or.inr ⟨bad, Or.inl c59⟩)
    · rw [if_neg (fun z => c59 (i59.mpr z))]
      by_cases c69 : c53 s6 = 69
      · rw [if_neg (fun z => z (i69.mp c69))]
        exact QC.ret (Or.inr ⟨bad, Or.inr c69⟩)
      · rw [if_pos (fun z => c69 (i69.mpr z))]
        unfold k264_37
        rw [if_neg (fun z => z rfl), if_neg (fun z => z rfl), if_neg (fun z => z rfl)]
        have f72 : ∀ i z, kFr 0 4722366482869645213696 k5 (ka k5 72 i z) := fun i z => kFr.sa kFr.refl rfl
        exact QC.ret (Or.inl ⟨a4, X, by omega, (h6.fr1 (f72 _ _)).dwn (by omega), XQ.refl hB⟩)
  · rw [if_pos c4]
    refine tg_one (n := 0) (fc := fun s' => c59_32 rc s' (s4.r (.s 10)) 0) h4 hB g4 u3 (by omega) (fun z => absurd z c4) ⟨by have := hr.1; omega, by have := hr.2; omega⟩ ?_
    intro s5 k5 Kg' z1 z2 z3
    exact (as_rnd (n := 0) (y3 := 0) hL hl h60 z1 hB (by omega) ⟨by have := hr.1; omega, by have := hr.2; omega⟩ z2 z3 (by decide) (Int.natCast_nonneg _)).mono (fun s k x q => Or.inl q)
end ASG
