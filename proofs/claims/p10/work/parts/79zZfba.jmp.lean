/-! THE WALK OVER BOTH: jumps that wait are led -/
/-- the reference's last row is g, of the function x -/
def JG (g x : Nat) (k : kS) : Prop := k.1 8 = 0 → (k.1 68).toInt < 65536 → (k.1 68).toInt = g + 1 ∧ k.2 69 g = xn x
theorem JG.fr {g x F A : Nat} {k k' : kS} (h : JG g x k) (f : kFr F A k k') (hF : F &&& 295147905179352826112 = 0) (hA : A &&& 590295810358705651712 = 0) : JG g x k' := fun z h6 => by
  rw [f.1 8 (tb0 hF (by decide))] at z
  rw [f.1 68 (tb0 hF (by decide))] at h6 ⊢
  rw [f.2 69 (tb0 hA (by decide))]
  exact h z h6
/-- the reference's last row of the function x is g -/
def LG (g x : Nat) (k : kS) : Prop := k.1 8 = 0 → (k.1 68).toInt < 65536 → ∀ m, k.1 68 = xn m → m < 65536 → (gx (k.2 69) x m).getLast? = some g
theorem JG.lg {g x : Nat} {k : kS} (h : JG g x k) : LG g x k := fun z h6 m hm h7 => by
  obtain ⟨h1, h2⟩ := h z h6
  rw [hm, xn_i (by omega)] at h1
  have e : m = g + 1 := by omega
  subst e
  show (gx (k.2 69) x g ++ (if k.2 69 g = xn x then [g] else [])).getLast? = some g
  rw [if_pos h2]
  exact List.getLast?_concat
theorem LG.fr {g x F A : Nat} {k k' : kS} (h : LG g x k) (f : kFr F A k k') (hF : F &&& 295147905179352826112 = 0) (hA : A &&& 590295810358705651712 = 0) : LG g x k' := fun z h6 => by
  rw [f.1 8 (tb0 hF (by decide))] at z
  rw [f.1 68 (tb0 hF (by decide))] at h6 ⊢
  rw [f.2 69 (tb0 hA (by decide))]
  exact h z h6
section JLD
variable {q : Nat} {p : PM} {D : Df} {d : Dw} {H : List hE} {L : List xR} {a x i j g : Nat} {s s' : cS} {k k' : kS} {X : List xF} {vc vk v y iv : Int32}
theorem kR_71 : (∀ g', g' ≠ y.toNatClampNeg → kR (ka k 71 y v) g' = kR k g') ∧ kR (ka k 71 y v) y.toNatClampNeg = xcol (kR k y.toNatClampNeg) 1 v := by
  refine ⟨fun g' hg => ?_, ?_⟩
  · unfold kR
    show (k.2 70 g', upd (k.2 71) y.toNatClampNeg v g', k.2 72 g', k.2 73 g') = _
    unfold upd
    rw [if_neg hg]
  · unfold kR
    show (k.2 70 y.toNatClampNeg, upd (k.2 71) y.toNatClampNeg v y.toNatClampNeg, k.2 72 y.toNatClampNeg, k.2 73 y.toNatClampNeg) = _
    unfold upd
    rw [if_pos rfl]
    rfl
theorem kR_72 : (∀ g', g' ≠ y.toNatClampNeg → kR (ka k 72 y v) g' = kR k g') ∧ kR (ka k 72 y v) y.toNatClampNeg = xcol (kR k y.toNatClampNeg) 2 v := by
  refine ⟨fun g' hg => ?_, ?_⟩
  · unfold kR
    show (k.2 70 g', k.2 71 g', upd (k.2 72) y.toNatClampNeg v g', k.2 73 g') = _
    unfold upd
    rw [if_neg hg]
  · unfold kR
    show (k.2 70 y.toNatClampNeg, k.2 71 y.toNatClampNeg, upd (k.2 72) y.toNatClampNeg v y.toNatClampNeg, k.2 73 y.toNatClampNeg) = _
    unfold upd
    rw [if_pos rfl]
    rfl
theorem NR.ks1 (h : NR q D ((x, i, 1, y.toNatClampNeg, vc, vk) :: H) s k X) (h53 : (k.1 53).toInt ≤ 1000000) : NR q D ((x, i, 1, y.toNatClampNeg, vc, v) :: H) s (ka k 71 y v) X := h.go (fun _ => rfl) rfl ⟨rfl, rfl⟩ ⟨rfl, rfl⟩ id rfl rfl rfl rfl rfl rfl (fun _ _ _ Hd h3 => RWS.kset h3 h53 rfl rfl rfl rfl rfl kR_71.1 kR_71.2)
theorem NR.ks2 (h : NR q D ((x, i, 2, y.toNatClampNeg, vc, vk) :: H) s k X) (h53 : (k.1 53).toInt ≤ 1000000) : NR q D ((x, i, 2, y.toNatClampNeg, vc, v) :: H) s (ka k 72 y v) X := h.go (fun _ => rfl) rfl ⟨rfl, rfl⟩ ⟨rfl, rfl⟩ id rfl rfl rfl rfl rfl rfl (fun _ _ _ Hd h3 => RWS.kset h3 h53 rfl rfl rfl rfl rfl kR_72.1 kR_72.2)
/-- the class leads it -/
theorem NR.cs (h : NR q D ((x, i, j, g, vc, vk) :: H) s k X) (hi : iv.toInt = i) : NR q D ((x, i, j, g, v, vk) :: H) (ts s (.i (x + 1)) iv (xn j) v) k X := by
  have f : cFr 0 0 0 4 s (ts s (.i (x + 1)) iv (xn j) v) := cFr.refl.tsb rfl
  exact h.go (fun _ => ts_r _) (ts_ri (x := 0)).2 (f.2.1 28 (Nat.zero_testBit _)) (f.2.1 30 (Nat.zero_testBit _)) id rfl rfl rfl rfl rfl rfl (fun _ _ _ Hd h3 => RWS.cset h3 hi)
theorem NR.drp (h : NR q D ((x, i, j, g, vc, vk) :: H) s k X) (hv : k.1 8 = 0 → (k.1 68).toInt < 65536 → FL s k → ∀ Hd, RWS D (((x, i, j, g, vc, vk) :: H) ++ Hd) s k → vc = vk) : NR q D H s k X := h.go (fun _ => rfl) rfl ⟨rfl, rfl⟩ ⟨rfl, rfl⟩ id rfl rfl rfl rfl rfl rfl (fun z h6 hf Hd h3 => RWS.drop h3 (fun z h6 hf => hv z h6 hf Hd h3))
/-- the class leads it to the same place as the reference has -/
theorem NR.cld (h : NR q ([], []) ((x, i, j, g, vc, vk) :: H) s k X) (hi : iv.toInt = i) (hx : k.1 8 = 0 → (x : Int) < (k.1 53).toInt) (hv : k.1 8 = 0 → vk = k.2 60 x) : NR q ([], []) H (ts s (.i (x + 1)) iv (xn j) (s.r (.i (x + 1)))) k X := by
  refine (h.cs (v := s.r (.i (x + 1))) hi).drp (fun z h6 hf Hd hR => ?_)
  rw [hv z, ← hR.cnt z h6 hf (hx z), ts_r]
theorem NR.hol {r r' : xR} (h : NR q ([r], [r']) H s k X) (hn : s.now = x + 1) (hc : (s.r (.i (x + 1))).toInt = i + 1 ∨ 1048576 ≤ (s.r (.i (x + 1))).toInt) (hk : JG g x k) (hj : j = 1 ∨ j = 2) (ho : r.1 = r'.1) (hw : r.2.2.2 = r'.2.2.2) (ha : j ≠ 1 → r.2.1 = r'.2.1) (hb : j ≠ 2 → r.2.2.1 = r'.2.2.1) (hjm : jmp r.1) (hx : (x : Int) < (k.1 53).toInt) (hwr : wfo r.1 = true ∨ (j = 2 ∧ wfa r) := by exact Or.inl rfl) : NR q ([], []) ((x, i, j, g, xg r j, xg r' j) :: H) s k X := h.go (fun _ => rfl) rfl ⟨rfl, rfl⟩ ⟨rfl, rfl⟩ id rfl rfl rfl rfl rfl rfl (fun z h6 hf Hd h3 => RWS.hol h3 hn (by
  rcases hc with e | e
  · exact e
  · have := hf x hx
    omega) hk hj ho hw ha hb hjm hx hwr)
/-- the number of the row that the reference has written -/
theorem k189_g {x0 : Nat} {b1 b2 b3 b4 : Int32} (h : NR q D H s k X) (h33 : kr k 33 (k.1 32) = xn x0) : JG (k189 k b1 b2 b3 b4).2.toNatClampNeg x0 (k189 k b1 b2 b3 b4).1 := fun z h6 => by
  have i6 : (65536 : Int32).toInt = 65536 := rfl
  rw [(fr_k189 k b1 b2 b3 b4).1 8 rfl] at z
  obtain ⟨⟨n, n1, n2⟩, -⟩ := h.2 z
  have cn : n < 65536 := by
    by_cases cn : n < 65536
    · exact cn
    · have e68 : (k189 k b1 b2 b3 b4).1.1 68 = k.1 68 := by
        unfold k189
        rw [if_pos (by rw [n1, i_le, xn_i (by omega), i6]; omega)]
        rfl
      rw [e68, n1, xn_i (by omega)] at h6
      omega
  obtain ⟨e68, e69, -⟩ := k189_68 (a := b1) (b := b2) (c := b3) (e := b4) n1 cn
  have e2 : (k189 k b1 b2 b3 b4).2 = (k189 k b1 b2 b3 b4).1.1 68 - 1 := by
    unfold k189
    split <;> rfl
  have e3 : (k189 k b1 b2 b3 b4).2 = xn n := by
    rw [e2, e68]
    have := xn_sub (n := 1) (m := n) (by omega)
    rw [Nat.add_comm 1] at this
    exact this
  rw [e3, xn_nat (by omega)]
  refine ⟨by rw [e68, xn_i (by omega)]; omega, ?_⟩
  rw [e69, h33]
  exact if_pos rfl
/-- the number of the row that the class has written -/
theorem c78_i {x0 : Nat} {b1 b2 b3 b4 : Int32} (h : ∀ x, 0 ≤ (s.r (.i x)).toInt) (hn : s.now = x0) : ((c78 s b1 b2 b3 b4).1.r (.i x0)).toInt = ((s.r (.i x0)).toNatClampNeg : Nat) + 1 ∨ 1048576 ≤ ((c78 s b1 b2 b3 b4).1.r (.i x0)).toInt := by
  have i0 : (1048576 : Int32).toInt = 1048576 := rfl
  have h0 := h x0
  have er : (c78 s b1 b2 b3 b4).1.r (.i x0) = if s.r (.i x0) < 1048576 then s.r (.i x0) + 1 else s.r (.i x0) := by
    rw [← hn]
    exact tad_ri
  rw [er]
  by_cases c2 : s.r (.i x0) < 1048576
  · rw [if_pos c2]
    rw [i_lt] at c2
    left
    rw [i_add rfl (show (1 : Int32).toInt = 1 from rfl) (by omega) (by omega)]
    have e : ((s.r (.i x0)).toNatClampNeg : Int) = (s.r (.i x0)).toInt := by
      unfold Int32.toNatClampNeg
      omega
    omega
  · rw [if_neg c2]
    rw [i_lt] at c2
    right
    omega
theorem nat_xn {v : Int32} (h : 0 ≤ v.toInt) : v.toInt = (v.toNatClampNeg : Nat) := by
  unfold Int32.toNatClampNeg
  omega
theorem and_1 {t : Int32} : t &&& 1 = 0 ∨ t &&& 1 = 1 := by
  have e : ∀ x : BitVec 32, x &&& 1#32 = 0#32 ∨ x &&& 1#32 = 1#32 := fun x => by
    have h : (x &&& 1#32).toNat = x.toNat % 2 := by
      rw [BitVec.toNat_and]
      exact Nat.and_one_is_mod _
    rcases Nat.mod_two_eq_zero_or_one x.toNat with z | z
    · exact Or.inl (BitVec.eq_of_toNat_eq (by rw [h, z]; rfl))
    · exact Or.inr (BitVec.eq_of_toNat_eq (by rw [h, z]; rfl))
  rcases e t.toBitVec with z | z
  · exact Or.inl (Int32.toBitVec_inj.mp z)
  · exact Or.inr (Int32.toBitVec_inj.mp z)
theorem and_17 {t : Int32} : (0 ≤ ((t &&& 1) ||| 4).toInt ∧ ((t &&& 1) ||| 4).toInt ≤ 7) ∧ (0 ≤ ((t &&& 1) ||| 0).toInt ∧ ((t &&& 1) ||| 0).toInt ≤ 7) := by
  rcases and_1 (t := t) with e | e <;> (rw [e]; decide)
/-- both change the last row, which is no jump: its last column but one -/
theorem NR.ls2 {v' : Int32} (h : NR q ([], []) H s k X) (hn : s.now = x + 1) (hx : (x : Int) < (k.1 53).toInt) (h53 : (k.1 53).toInt ≤ 1000000) (hop : (s.r (.i s.now)).toInt < 1048576 → ¬ jmp (c97 s)) (hG : LG y.toNatClampNeg x k) (hv : tg s (.i s.now) (c98 s - 1) 2 = k.2 72 y.toNatClampNeg → v = v') (hv7 : 0 ≤ v.toInt ∧ v.toInt ≤ 7) : NR q ([], []) H (ts s (.i s.now) (c98 s - 1) 2 v) (ka k 72 y v') X := by
  have f : cFr 0 0 0 4 s (ts s (.i s.now) (c98 s - 1) 2 v) := cFr.refl.tsb rfl
  refine h.go (k' := ka k 72 y v') (fun _ => ts_r _) (ts_ri (x := 0)).2 (f.2.1 28 (Nat.zero_testBit _)) (f.2.1 30 (Nat.zero_testBit _)) id rfl rfl rfl rfl rfl rfl (fun z8 h6' hf' Hd h3 => ?_)
  have hc := h3.cnt z8 h6' hf' hx
  obtain ⟨n, n1, n2, n3⟩ := h3.2 z8
  have n4 : n < 65536 := by rw [n1, xn_i (by omega)] at h6'; omega
  have hl := hG z8 h6' n n1 n4
  have g1 := ((n3 n4 hf').2 x hx).1
  have hle := gx_le (ow := k.2 69) (x := x) (n := n)
  have hne : 1 ≤ (gx (k.2 69) x n).length := by
    cases hq : gx (k.2 69) x n with
    | nil => rw [hq] at hl; cases hl
    | cons g l => exact Nat.succ_le_succ (Nat.zero_le _)
  have er : (s.r (.i (x + 1))).toInt = (gx (k.2 69) x n).length := by rw [hc, g1, xn_i (by omega)]
  obtain ⟨i, hi⟩ : ∃ i, (gx (k.2 69) x n).length = i + 1 := ⟨(gx (k.2 69) x n).length - 1, by omega⟩
  have e98 : (c98 s - 1).toInt = i := by
    unfold c98
    rw [hn, i_sub er (show (1 : Int32).toInt = 1 from rfl) (by omega) (by omega)]
    omega
  have hop' : ¬ jmp (tg s (.i (x + 1)) (c98 s - 1) 0) := by
    have := hop (by rw [hn]; exact hf' x hx)
    unfold c97 at this
    rw [hn] at this
    exact this
  rw [hn] at hv ⊢
  exact h3.lset (j := 2) e98 (by omega) hx h53 hop' (by decide) hG rfl rfl rfl rfl rfl kR_72.1 kR_72.2 hv (fun u hu => wfa_c2 hu hv7.1 hv7.2)
/-- a call or three dots become an added row -/
theorem NR.opa {n : Nat} (h : NR q ([], []) H s k X) (hn : s.now = x + 1) (hx : (x : Int) < (k.1 53).toInt) (h53 : (k.1 53).toInt ≤ 1000000) (h15 : k.1 15 = xn (n + 1)) (hnn : n ≤ 1000000) (hk : k.2 16 n = 1 ∨ k.2 16 n = 2) (hlo : (s.r (.i s.now)).toInt < 1048576 → (k.2 16 n = 1 → c97 s = 13) ∧ (k.2 16 n = 2 → c97 s = 6)) (hG : LG (k.2 17 n).toNatClampNeg x k) : NR q ([], []) H (c96 s).1 (k217 k).1 X := by
  have e1 : k.1 15 - 1 = xn n := by
    rw [h15]
    have := xn_sub (n := 1) (m := n) (by omega)
    rw [Nat.add_comm 1] at this
    exact this
  have ekr : ∀ j, kr k j (k.1 15 - 1) = k.2 j n := fun j => by
    rw [e1]
    show k.2 j (xn n).toNatClampNeg = _
    rw [xn_nat (by omega)]
  have fin : ∀ (s1 : cS) (v : Int32), NR q ([], []) H s1 (ka k 72 (k.2 17 n) v) X → NR q ([], []) H s1 (k217_46 k v (k.2 17 n)).1 X := fun s1 v z => z.fr (cFr.refl (F := 0) (T := 0) (B := 0) (G := 0)) (show kFr 32768 0 (ka k 72 (k.2 17 n) v) (kf (ka k 72 (k.2 17 n) v) 15 (k.1 15 - 1)) from kFr.sf kFr.refl rfl) rfl rfl rfl rfl id
  have hop : (s.r (.i s.now)).toInt < 1048576 → ¬ jmp (c97 s) := fun hl z => by
    obtain ⟨q1, q2⟩ := hlo hl
    unfold jmp at z
    rcases hk with y | y
    · exact z.2.1 (q1 y)
    · exact z.1 (q2 y)
  unfold k217
  rw [ekr 16, ekr 17]
  by_cases cr : (s.r (.i s.now)).toInt < 1048576
  · obtain ⟨q1, q2⟩ := hlo cr
    unfold c96
    rcases hk with y | y
    · rw [if_pos (by rw [q1 y]; decide), if_neg (by rw [y]; decide)]
      refine fin _ _ (NR.ls2 h hn hx h53 hop hG (fun e => ?_) and_17.1)
      show (tg s (.i s.now) (c98 s - 1) 2 &&& 1) ||| 4 = (k.2 72 (k.2 17 n).toNatClampNeg &&& 1) ||| 4
      rw [e]
    · rw [if_neg (by rw [q2 y]; decide), if_pos (by rw [y]; decide)]
      exact fin _ _ (NR.ls2 h hn hx h53 hop hG (fun _ => rfl) (by decide))
  · have dead : ∀ v v' : Int32, NR q ([], []) H (ts s (.i s.now) (c98 s - 1) 2 v) (k217_46 k v' (k.2 17 n)).1 X := fun v v' => by
      refine ⟨fun z => by rw [ts_r]; exact h.1 z, fun z => ?_⟩
      obtain ⟨h0, -⟩ := h.2 z
      refine ⟨h0, fun h6 hf => ?_⟩
      have := hf x hx
      rw [ts_r] at this
      rw [hn] at cr
      exact absurd this cr
    unfold c96
    split
    · split
      · exact dead _ _
      · exact dead _ _
    · split
      · exact dead _ _
      · exact dead _ _
end JLD
