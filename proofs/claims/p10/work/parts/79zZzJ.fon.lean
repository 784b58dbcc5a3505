/-! THE WALK OVER BOTH: for with numbers -/
theorem szX_kl : ∀ {X : List xF}, (kL X).length ≤ szX X := by
  intro X
  induction X with
  | nil => exact Nat.zero_le _
  | cons f r ih =>
    have e1 : (kL (f :: r)).length = (kL r).length + f.2.1.length := by show (kL r ++ f.2.1).length = _; rw [List.length_append]
    have e2 : szX (f :: r) = szX r + szF f := rfl
    unfold szF at e2
    omega
theorem OU.hidn {s s' : cS} {k : kS} {f : xF} {r : List xF} {b n : Nat} {N w y : Int32} {l : List xR} (hn' : l.length = n) (h : OU b s k (f :: r)) (h24 : k.1 24 = xn (kL (f :: r)).length) (h32 : k.1 32 = xn r.length) (hl : (kL (f :: r)).length + n ≤ 1000000) (hb : b + n ≤ 1000000) (hn : n ≤ 1000) (hN : N = xn n) (hu : ∀ x, s'.r (.u x) = s.r (.u x) ∧ s'.c (.u x) = s.c (.u x)) : OU (b + n) s' (k254 k N y w).1 (xdn f l :: r) := by
  subst hn'
  exact h.hid h24 h32 hl hb hn hN hu
/-- rows while names don't matter -/
def NS (q : Nat) (D : Df) (H : List hE) (x0 : Nat) (s : cS) (k : kS) (X : List xF) : Prop := NR q D H s k X ∧ kr k 33 (k.1 32) = xn x0 ∧ s.now = x0 + 1 ∧ x0 ≤ 1000000 ∧ (x0 : Int) < (k.1 53).toInt ∧ (k.1 53).toInt ≤ 1000000
section NSS
variable {q : Nat} {D : Df} {H H1 H2 : List hE} {x0 i g : Nat} {s s' : cS} {k k' : kS} {X X' : List xF} {x y z u x' y' z' u' a1 b1 vc vk iv : Int32}
theorem NS.fr {F T B G F' A' : Nat} (h : NS q D H x0 s k X) (hc : cFr F T B G s s') (hk : kFr F' A' k k') (c2 : T &&& 1342177280 = 0 := by rfl) (c4 : G &&& 21 = 0 := by rfl) (k1 : F' &&& 295156912520341487872 = 0 := by rfl) (k2 : A' &&& 18300325373597722869760 = 0 := by rfl) : NS q D H x0 s' k' X := by
  refine ⟨h.1.fr hc hk c2 c4 (sub0 k1 rfl) (sub0 k2 rfl) (fun z => by rw [← hk.1 8 (tb0 k1 (by decide))]; exact z), ?_, (hc.2.2.2.1 (tb0 c4 (by decide))).trans h.2.2.1, h.2.2.2.1, by rw [hk.1 53 (tb0 k1 (by decide))]; exact h.2.2.2.2.1, by rw [hk.1 53 (tb0 k1 (by decide))]; exact h.2.2.2.2.2⟩
  have q := h.2.1
  unfold kr at q ⊢
  rw [hk.1 32 (tb0 k1 (by decide)), hk.2 33 (tb0 k2 (by decide))]
  exact q
theorem NS.cle (h : NS q D H x0 s k X) : NS q (D.1 ++ [(x, y, z, u)], D.2) H x0 (c78 s x y z u).1 k X := ⟨h.1.cle, h.2.1, by rw [c78_now]; exact h.2.2.1, h.2.2.2⟩
theorem NS.put (h : NS q D H x0 s k X) : NS q (D.1, D.2 ++ [(x, y, z, u)]) H x0 s (k189 k x y z u).1 X := by
  have hk := fr_k189 k x y z u
  exact ⟨h.1.putn h.2.1 h.2.2.1 h.2.2.2.2.1 h.2.2.2.2.2, k33_put h.2.1, h.2.2.1, h.2.2.2.1, by rw [hk.1 53 rfl]; exact h.2.2.2.2.1, by rw [hk.1 53 rfl]; exact h.2.2.2.2.2⟩
theorem SZ.fl {f : xF} {r : List xF} (h : SZ (f :: r)) : f.2.1.length ≤ 1000000 := by
  have z := h.g
  have e : (fL (f :: r)).length = (fL r).length + (f.2.1.length + f.2.2.1.length) := by
    show (fL r ++ (f.2.1 ++ f.2.2.1)).length = _
    rw [List.length_append, List.length_append]
  omega
theorem NS.pc (h : NS q ([], []) H x0 s k X) (e : (x, y, z, u) = (x', y', z', u')) (hwm : wfa (x, y, z, u) := by exact wfa_o rfl) : NS q ([], []) H x0 (c78 s x y z u).1 (k189 k x' y' z' u').1 X := by
  have q := (h.put (x := x') (y := y') (z := z') (u := u')).cle (x := x) (y := y) (z := z) (u := u)
  exact ⟨q.1.de0 (by rw [e]) (wfl_c hwm wfl_0), q.2⟩
/-- both write, a number in it is the same while rows are alike -/
theorem NS.pcg (h : NS q ([], []) (H1 ++ (gho a1 b1 ++ H2)) x0 s k X) (e : a1 = b1 → (x, y, z, u) = (x', y', z', u')) (hwm : wfa (x, y, z, u) := by exact wfa_o rfl) : NS q ([], []) (H1 ++ (gho a1 b1 ++ H2)) x0 (c78 s x y z u).1 (k189 k x' y' z' u').1 X := by
  by_cases c : a1 = b1
  · exact h.pc (e c) hwm
  · have q := (h.put (x := x') (y := y') (z := z') (u := u')).cle (x := x) (y := y) (z := z) (u := u)
    refine ⟨NR.nvh c (q.1.pmH (?_ : (H1 ++ (gho a1 b1 ++ H2)).Perm (gho a1 b1 ++ (H1 ++ H2)))), q.2⟩
    rw [← List.append_assoc, ← List.append_assoc]
    exact List.perm_append_comm.append_right _
theorem NS.of {f : xF} {r : List xF} (h : NR q D H s k (f :: r)) (hn : RN s k (f :: r)) (hz : SZ (f :: r)) (h53 : (k.1 53).toInt ≤ 1000000) : NS q D H (f.1 - 1) s k (f :: r) := by
  obtain ⟨o1, o2, o3, o4⟩ := own_k hn hz
  exact ⟨h, o1, by omega, by omega, own_5 hn rfl h53, h53⟩
theorem NS.k60 (h : NS q D H x0 s k X) : k210 k = k.2 60 x0 := by
  have := h.2.2.2.1
  unfold k210
  rw [h.2.1]
  show k.2 60 (xn x0).toNatClampNeg = _
  rw [xn_nat (by omega)]
/-- both lead a jump here: its last column but one -/
theorem NS.ld2 (h : NS q ([], []) ((x0, i, 2, y.toNatClampNeg, vc, vk) :: H) x0 s k X) (hi : iv.toInt = i) : NS q ([], []) H x0 (c109 s s.now iv 2).1 (ka k 72 y (k210 k)) X := by
  have n1 := NR.ks2 (v := k210 k) h.1 h.2.2.2.2.2
  have e60 := h.k60
  have f2 : kFr 0 4722366482869645213696 k (ka k 72 y (k210 k)) := kFr.sa kFr.refl rfl
  have p33 : kr (ka k 72 y (k210 k)) 33 ((ka k 72 y (k210 k)).1 32) = xn x0 := h.2.1
  have e61 : k210 k = (ka k 72 y (k210 k)).2 60 x0 := by rw [f2.2 60 rfl]; exact e60
  have h5 : (x0 : Int) < ((ka k 72 y (k210 k)).1 53).toInt ∧ ((ka k 72 y (k210 k)).1 53).toInt ≤ 1000000 := h.2.2.2.2
  generalize k210 k = v0 at n1 e61 p33 h5 ⊢
  generalize ka k 72 y v0 = k2 at n1 e61 p33 h5 ⊢
  refine ⟨?_, p33, ?_, h.2.2.2.1, h5⟩
  · show NR q ([], []) H (ts s (.i s.now) iv 2 (s.r (.i s.now))) k2 X
    rw [h.2.2.1]
    exact NR.cld n1 hi (fun _ => h5.1) (fun _ => e61)
  · exact ((fr_c109 s s.now iv 2).2.2.2.1 rfl).trans h.2.2.1
end NSS
/-- a block that is hidden is closed by the class, with a loop that has no block any more -/
theorem NR.clh {D : Df} {H : List hE} {s : cS} {k : kS} {f : xF} {r : List xF} {b b2 : xB} {bs : List xB} {e : Nat} (h : NR 2 D H s k (f :: r)) (hx : XC e s (f :: r)) (hz : SZ (f :: r)) (hb : f.2.2.2.1 = b :: b2 :: bs) (hp : f.2.2.1 = []) (hn : b.1 ≤ f.2.1.length) (h1f : 1 ≤ f.1) (hk : b.2.2.2 = 2) : NR 2 D H (c81 s).1 k (xc f :: r) := by
  refine h.c81x hx hz hb hp hn h1f (kFr.refl (F := 0) (A := 0)) rfl rfl rfl id (fun p Gs Hr Hbs HK z hpn d5 g2 t2 q1 l1 l2 => ?_)
  obtain ⟨Gr, Gf, b1, b3, b4⟩ := d5
  have b4 : BGr k (f.1 - 1) (jfK (jx r)) (jb f.2.2.2.1) Gf := b4
  rw [hb] at b4
  obtain ⟨Hb', HB2, t3, t4, t5⟩ := t2
  have t5 : GL k (f.1 - 1) (jLab (b2.2 :: jb bs)) ((jfUm (jx r)).length + (jUm (jb bs)).length) b2.2.2.1 HB2 := t5
  have hgx : GX k (jx (xc f :: r)) (Hr ++ (Hbs ++ HK)) := by
    rw [jx_c hb]
    refine ⟨Hr, Hbs ++ HK, rfl, g2, Hb', HB2 ++ HK, by rw [t3, List.append_assoc], t4, ?_⟩
    have key : GL k (f.1 - 1) (jLab (b2.2 :: jb bs)) ((jfUm (jx r)).length + (jUm (jb bs)).length) (b2.2.2.1 ++ xcb b) (HB2 ++ HK) := by
      refine t5.app ?_
      unfold xcb mvd
      refine GL.map ?_
      have el : (jfUm (jx r)).length + (jUm (jb bs)).length + (b2.2.2.1.filter (fun g => !(seen (jLab (b2.2 :: jb bs)) g.1))).length = (jfUm (jx r)).length + (jUm (jb (b2 :: bs))).length := by
        show _ = (jfUm (jx r)).length + (jUm (jb bs) ++ b2.2.2.1.filter (fun g => !(seen (jLab (b2.2 :: jb bs)) g.1))).length
        rw [List.length_append]
        omega
      rw [el]
      exact q1
    exact key
  have hl3 : (∀ i q, (jfLab (jx (xc f :: r)))[i]? = some q → k.2 46 i = q.2.1) := fun i q hi => by
    rw [jx_c hb] at hi
    have hi : (jfLab (jx r) ++ jLab (jb (b2 :: bs)))[i]? = some q := hi
    refine l1 i q ?_
    show (jfLab (jx r) ++ jLab (jb f.2.2.2.1))[i]? = some q
    rw [hb]
    show (jfLab (jx r) ++ (jLab (jb (b2 :: bs)) ++ b.2.1))[i]? = some q
    rw [← List.append_assoc, List.getElem?_append_left (List.getElem?_eq_some_iff.mp hi).1]
    exact hi
  have hl4 : ∀ g ∈ jx (xc f :: r), ((jLab g.2).map (fun l => l.1)).Nodup := fun g hg => by
    rw [jx_c hb] at hg
    rcases List.mem_cons.mp hg with e | e
    · rw [e]
      have z := l2 (f.1, jb f.2.2.2.1) List.mem_cons_self
      rw [hb] at z
      have z : ((jLab (jb (b2 :: bs)) ++ b.2.1).map (fun l => l.1)).Nodup := z
      rw [List.map_append] at z
      exact (List.nodup_append.mp z).1
    · exact l2 g (List.mem_cons_of_mem _ e)
  have pn : PN 2 p (c81 s).1 k := hpn.same ((fr_c81 s).2.2.2.1 rfl) rfl (fun _ => rfl)
  rcases b4 with ⟨z1, -⟩ | ⟨-, b4⟩
  · rw [show b.2.2.2 = 1 from z1] at hk
    exact absurd hk (by decide)
  · refine ⟨p, Gs, pn, ⟨rfl, hl3, hl4⟩, hgx, ?_⟩
    rw [jx_c hb]
    exact ⟨Gr, Gf, b1, b3, b4⟩
/-- a for's hidden block begins -/
theorem NR.hid {D : Df} {H : List hE} {s : cS} {k k' : kS} {f fh : xF} {r : List xF} {N v w : Int32} {F' A' : Nat} (h : NR 0 D H s k (f :: r)) (h28 : (s.r (.s 28)).toInt < 1048576) (e1 : fh.1 = f.1) (e2 : jb fh.2.2.2.1 = ([], [], 2) :: jb f.2.2.2.1) (hk : kFr F' A' k k') (e8 : kSt k k') (k1 : F' &&& 295156912378607566848 = 0 := by rfl) (k2 : A' &&& 18300325373589132935168 = 0 := by rfl) : NR 1 D H (c140 s N v w).1 k' (fh :: r) := by
  obtain ⟨σ, hσ⟩ : ∃ σ, σ = (c141 (kfin (c140b19 N v w (c75 s)) ((c51 s).1, 0)).2.1 v).1 := ⟨_, rfl⟩
  have ec : (c140 s N v w).1 = (c131 σ (c75 σ)).1 := by rw [hσ]; rfl
  have f1 : cFr 196608 81920 128 0 s σ := by
    rw [hσ]
    exact cFr.trans (cFr.mono (fr_c51 s) rfl rfl rfl rfl) (cFr.trans (cFr.mono (cfin_fr1 (t := ((c51 s).1, 0)) (fun t => fr_c140b19 N v w (c75 s) t)) rfl rfl rfl rfl) (cFr.mono (fr_c141 _ v) rfl rfl rfl rfl))
  rw [ec]
  have e43 : k'.2 43 = k.2 43 := hk.2 43 (tb0 k2 (by decide))
  exact (h.opb (kd := 2) e1 e2 (by decide) f1 hk (fun i _ => by rw [e43]) e8 rfl rfl k1 (sub0 k2 rfl)).lop (by rw [(f1.2.1 28 rfl).1]; exact h28)
theorem c140_2 {s : cS} {N v w : Int32} : (c140 s N v w).2 = c75 s := rfl
theorem LVv.hid {s : cS} {f fh : xF} {r : List xF} {N v w : Int32} (h : LVv [] s (f :: r)) (h28 : (s.r (.s 28)).toInt < 1048576) (nh : XC 1 (c140 s N v w).1 (fh :: r)) (hz : SZ (fh :: r)) (hp : fh.2.2.1 = []) (hb : bLv fh.2.2.2.1 = bLv f.2.2.2.1) : LVv [fh.2.1.length] (c140 s N v w).1 (fh :: r) := by
  obtain ⟨σ, hσ⟩ : ∃ σ, σ = (c141 (kfin (c140b19 N v w (c75 s)) ((c51 s).1, 0)).2.1 v).1 := ⟨_, rfl⟩
  have ec : (c140 s N v w).1 = (c131 σ (c75 σ)).1 := by rw [hσ]; rfl
  have f1 : cFr 196608 81920 128 0 s σ := by
    rw [hσ]
    exact cFr.trans (cFr.mono (fr_c51 s) rfl rfl rfl rfl) (cFr.trans (cFr.mono (cfin_fr1 (t := ((c51 s).1, 0)) (fun t => fr_c140b19 N v w (c75 s) t)) rfl rfl rfl rfl) (cFr.mono (fr_c141 _ v) rfl rfl rfl rfl))
  have e75 : c75 σ = xn fh.2.1.length := by
    have z := nh.cnt hz
    rw [ec, hp, List.append_nil] at z
    rw [← z]
    have fc := fr_c131 σ (c75 σ)
    generalize (c131 σ (c75 σ)).1 = σ' at fc
    unfold c75
    rw [(fc.2.1 14 rfl).1, fc.2.2.2.1 rfl, fc.2.2.1 _ 9 (Nat.zero_testBit _)]
  rw [ec]
  have l1 : LVv [] σ (fh :: r) := h.same (by show (fLv r ++ bLv fh.2.2.2.1) ++ [] = (fLv r ++ bLv f.2.2.2.1) ++ []; rw [hb]) (f1.2.1 28 rfl).1 (f1.2.1 28 rfl).2
  exact l1.lop e75 (by rw [(f1.2.1 28 rfl).1]; exact h28)
section FON
variable {L : List xR} {P : PT} {k0 k k' : kS} {T V W a t v w : Nat} {s s' : cS} {X X' : List xF} {f : xF} {r : List xF} {x y z y1 y2 y3 p : Int32} {rc : cRC}
/-- a for's values: the reference is about to open the loop -/
def E139 (rc : cRC) (L : List xR) : Prop := ∀ {P : PT} (k0 : kS) (T V W a : Nat) (s : cS) (k : kS) (X : List xF) (t v w : Nat) (p : Int32), SG L P k0 T V W a s k X t v w → X ≠ [] → T ≤ t → V ≤ v → W ≤ w → RO L a (t + 2) v → QC (fun s' k' _ => ∃ a' k2, a + 3 ≤ a' ∧ SG L P k0 T V W a' s' k2 X t v w ∧ k' = (k253 k2 p).1) (k186 (k179 k 10 p 0 0).1 0).1 (rc 139 s 0 0 0 0 0 0 0)
theorem fo_val (h70 : E70 rc L) (h : SG L P k0 T V W a s k X t v w) (hX : X ≠ []) (hT : T ≤ t) (hV : V ≤ v) (hW : W ≤ w) (hr : RO L a (t + 2) v) : QC (fun s' k' _ => ∃ a' k2, a + 3 ≤ a' ∧ SG L P k0 T V W a' s' k2 X t v w ∧ k' = (k253 k2 p).1) (k186 (k179 k 10 p 0 0).1 0).1 (c139 rc s) := by
  have ht : t + 2 ≤ 1000000 := by have := hr.1; omega
  have hv : v + 2 ≤ 1000000 := by have := hr.2; omega
  unfold c139
  refine (ex_call h70 h hX hT hV hW hr).bnd ?_
  rintro s3 k3 x3 ⟨a3, u1, u2, -, u3⟩
  refine QC.pop u3 (by omega) ?_
  rw [k180_g10]
  unfold k251
  have h4 := (u2.top (t' := t)).awy hV (by omega)
  generalize (k209 (kf k3 10 (xn t))).1 = k4 at h4
  show QC _ (k251_4 k4 p).1 (c139_4 rc s3)
  unfold k251_4 c139_4
  rcases h4.tkp pl69 with ⟨o, s5, o1, o2, o3, o4, o5, o6⟩ | ⟨o1, o2, o3⟩
  · rw [o3, rbd_th (w := o.2.1) rfl, o4]
    show QC _ (k251_10 (kf k4 4 (k4.1 4 + 1)) p 1).1 (c139_13 rc s5 o.2.1)
    generalize kf k4 4 (k4.1 4 + 1) = k5 at o5
    unfold k251_10 k251_23 c139_13
    rw [if_pos (by decide)]
    refine (ex_call h70 o5 hX hT hV hW ⟨by have := hr.1; omega, by have := hr.2; omega⟩).bnd ?_
    rintro s6 k6 x6 ⟨a6, w1, w2, -, w3⟩
    refine QC.pop w3 (by omega) ?_
    rw [k180_g11]
    unfold k252
    have h7 := (w2.top (t' := t)).awy hV (by omega)
    generalize (k209 (kf k6 10 (xn t))).1 = k7 at h7
    show QC _ (k252_4 k7 p).1 (c139_18 rc s6)
    unfold k252_4 c139_18
    by_cases c69 : c53 s6 = 69
    · rw [if_neg (fun z => z ((h7.is (by decide) (by decide)).mp c69)), if_neg (fun z => z c69)]
      unfold k252_32
      obtain ⟨q, s8, q1, q2, q3, q4, q5⟩ := h7.skp c69 pl69
      rw [q3, rbd_th (w := q.2.1) rfl]
      generalize kf k7 4 (k7.1 4 + 1) = k8 at q4
      show QC _ _ (c139_37 rc s8 q.2.1)
      unfold c139_37
      refine (ex_call h70 q4 hX hT hV hW ⟨by have := hr.1; omega, by have := hr.2; omega⟩).bnd ?_
      rintro s9 k9 x9 ⟨a9, z1, z2, -, z3⟩
      refine QC.pop z3 (by omega) ?_
      rw [k180_g12]
      unfold k180_243
      exact QC.ret ⟨a9, _, by omega, (z2.top (t' := t)).awy hV (by omega), rfl⟩
    · rw [if_pos (fun z => c69 ((h7.is (by decide) (by decide)).mpr z)), if_pos c69]
      unfold k252_49
      exact QC.ret ⟨a6, _, by omega, h7.pc rfl, rfl⟩
  · rw [rbd_thn o1]
    refine QC.thn ?_
    unfold k251_10
    rw [if_neg (fun z => z o2)]
    exact o3
theorem f13 (g : GT t 13 x y z k) (ht : t ≤ 1000000) (hn : k183 (kf k 10 (xn t)) ≠ 15) : (kst k).1 6 ≠ 0 := by
  rw [kst_pop g ht, k180_g13]
  generalize kf k 10 (xn t) = k1 at hn
  unfold k255 k255_11 k255_16 k255_25 k255_40 k255_49 k255_55
  have f1 := fr_k189 k1 33 (z + 3) 0 0
  generalize (k189 k1 33 (z + 3) 0 0).1 = k2 at f1
  have f2 := fr_k224 k2
  generalize (k224 k2).1 = k3 at f2
  have f3 := fr_k189 k3 40 z y 0
  generalize (k189 k3 40 z y 0).1 = k4 at f3
  have f4 : kFr 0 4722366482869645213696 k4 (ka k4 72 x (k210 k4)) := kFr.sa kFr.refl rfl
  generalize ka k4 72 x (k210 k4) = k5 at f4
  have f5 := fr_k246 k5
  generalize (k246 k5).1 = k6 at f5
  have f6 := fr_k189 k6 41 z 0 0
  generalize (k189 k6 41 z 0 0).1 = k7 at f6
  have f7 := fr_k256 k7 z
  generalize (k256 k7 z).1 = k8 at f7
  have fa : KW k1 k8 := kFr.trans (kFr.mono f1 rfl rfl) (kFr.trans (kFr.mono f2 rfl rfl) (kFr.trans (kFr.mono f3 rfl rfl) (kFr.trans (kFr.mono f4 rfl rfl) (kFr.trans (kFr.mono f5 rfl rfl) (kFr.trans (kFr.mono f6 rfl rfl) (kFr.mono f7 rfl rfl))))))
  have e : k183 k8 = k183 k1 := by
    show k184 k8 (k8.1 4) = k184 k1 (k1.1 4)
    unfold k184
    rw [fa.1 4 rfl, fa.1 0 rfl]
    unfold kr
    rw [fa.2 1 rfl]
  unfold k199 k200
  rw [if_neg (by rw [e]; exact hn)]
  unfold k199_5
  rw [if_neg (fun z => z (k194_f (by decide)).2.2)]
  exact (k194_f (by decide)).1
/-- the blocks of a for in its function -/
theorem fo_xq {fh g' : xF} {l hl : List xR} {b2 : xB} {bs : List xB} (hp : f.2.2.1 = []) (hb : f.2.2.2.1 = b2 :: bs) (efh : fh = xdn (xo f 2) hl) (hq : XQ (xdn (xo fh 1) l :: r) (g' :: r)) : ∃ d', g'.2.2.1 = [] ∧ g'.2.2.2.1 = d' :: (f.2.1.length, [], [], 2) :: b2 :: bs ∧ d'.2.2.2 = 1 ∧ XQ (f :: r) (xc (xc g') :: r) ∧ d'.1 = f.2.1.length + hl.length ∧ g'.1 = f.1 := by
  have e1 : fh.2.2.1 = [] := by rw [efh, xdn_all]; exact hp
  have e2 : fh.2.2.2.1 = (f.2.1.length, [], [], 2) :: b2 :: bs := by
    rw [efh, xdn_all]
    show ((f.2.1 ++ f.2.2.1).length, [], [], 2) :: f.2.2.2.1 = _
    rw [hp, hb, List.append_nil]
  have e3 : fh.2.1 = f.2.1 ++ hl := by rw [efh, xdn_all]; rfl
  have e4 : fh.1 = f.1 := by rw [efh, xdn_all]; rfl
  have e5 : fh.2.2.2.2 = f.2.2.2.2 := by rw [efh, xdn_all]; rfl
  obtain ⟨g0, g1, r', l', d, d', ds, w1, w2, ⟨w3, w4, w5⟩, w6, ⟨w7, w8, w9, w10⟩, w11⟩ := hq
  cases w1
  cases w2
  rw [xdn_all] at w5 w6 w7 w11
  have z7 : (((fh.2.1 ++ fh.2.2.1).length, [], [], 1) : xB) :: fh.2.2.2.1 = d :: ds := w7
  cases z7
  rw [e2] at w8
  have hd : d'.1 = fh.2.1.length := by
    rw [w9]
    show (fh.2.1 ++ fh.2.2.1).length = _
    rw [e1, List.append_nil]
  have w6' : g'.2.1 = fh.2.1 ++ (l ++ l') := by
    rw [w6]
    show fh.2.1 ++ l ++ l' = _
    exact List.append_assoc _ _ _
  have x1 : XQ (fh :: r) (xc g' :: r) := XQ.cls (n := 0) e1 e2 w5 w6' w8 hd w11
  refine ⟨d', w4, w8, w10, ?_, by rw [hd, e3, List.length_append], w5.trans e4⟩
  obtain ⟨h0, h1, r1, m, j, j', js, v1, v2, ⟨v3, v4, v5⟩, v6, ⟨v7, v8, v9, v10⟩, v11⟩ := x1
  cases v1
  cases v2
  rw [e2] at v7
  cases v7
  refine XQ.cls (n := 0) (l := hl ++ m) hp hb (v5.trans e4) ?_ v8 v9 (v11.trans e5)
  rw [v6, e3, List.append_assoc]
def E138 (rc : cRC) (L : List xR) : Prop := ∀ {P : PT} (a : Nat) (s : cS) (k : kS) (X : List xF) (t v w : Nat), SG L P k t v w a s k X t v w → XB X → RO L (a + 1) (t + 8) (v + 8) → c53 s = 17 → kc L (a + 2) = 59 → QC (SP L P k t v w a X) (k228 k 17).1 (rc 138 s 0 0 0 0 0 0 0)
/-- the end of both blocks of a for: what is to be shown of rows -/
theorem fo_rows {g' : xF} {hb b2 : xB} {bs : List xB} {x0 : Nat} {H : List hE} {s10 : cS} {k5 : kS} {y1 yl : Int32} (n1 : NS 2 ([], []) H x0 s10 k5 (xc g' :: r)) (re : RE 1 s10 k5 (xc g' :: r)) (hz : SZ (xc g' :: r)) (hb1 : (xc g').2.2.2.1 = hb :: b2 :: bs) (hp1 : (xc g').2.2.1 = []) (hn1 : hb.1 ≤ (xc g').2.1.length) (hx : (xc g').1 = x0 + 1) (hk : hb.2.2.2 = 2) (h28 : (s10.r (.s 28)).toInt ≤ 1000001) (ey : y1 = yl) {n : Int32} : NR 0 ([], []) H (c78 (c143 s10).1 41 y1 0 0).1 (k256 (k189 (k246 k5).1 41 yl 0 0).1 n).1 (xc (xc g') :: r) := by
  have fc := fr_c81 s10
  have m1 := n1.1.clh re.1 hz hb1 hp1 hn1 (by omega) hk
  have hx2 : (xc (xc g')).1 = x0 + 1 := (xc_1 hb1).trans hx
  have en : (c81 s10).1.now = x0 + 1 := (fc.2.2.2.1 rfl).trans n1.2.2.1
  have e0 : x0 + 1 - 1 = x0 := by omega
  have m2 := NR.lcl m1 (by rw [en, hx2]) (by omega) (by rw [hx2, e0]; exact n1.2.1) (by rw [hx2, e0]; exact n1.2.2.2.2.1) n1.2.2.2.2.2 (by rw [(fc.2.1 28 rfl).1]; exact h28)
  rw [c143_e]
  have f6 := fr_k246 k5
  have f7 := fr_c132 (c81 s10).1 (c81 s10).1.now
  have ns : NS 0 ([], []) H x0 (c132 (c81 s10).1 (c81 s10).1.now).1 (k246 k5).1 (xc (xc g') :: r) := by
    refine ⟨m2, ?_, (f7.2.2.2.1 rfl).trans en, n1.2.2.2.1, by rw [f6.1 53 rfl]; exact n1.2.2.2.2.1, by rw [f6.1 53 rfl]; exact n1.2.2.2.2.2⟩
    have q := n1.2.1
    unfold kr at q ⊢
    rw [f6.1 32 rfl, f6.2 33 rfl]
    exact q
  generalize (c132 (c81 s10).1 (c81 s10).1.now).1 = s11 at ns ⊢
  generalize (k246 k5).1 = k6 at ns ⊢
  have n4 := ns.pc (x := 41) (y := y1) (z := 0) (u := 0) (x' := 41) (y' := yl) (z' := 0) (u' := 0) (by rw [ey])
  exact n4.1.fr0 (cFr.refl (F := 0) (T := 0) (B := 0) (G := 0)) (fr_k256 _ n) rfl rfl rfl rfl (kSt.of (fr_k256 _ n) rfl) (fun z => absurd z (by decide))
/-- the loop's own block ends -/
theorem fo_r1 {H' : List hE} {g' : xF} {d' hb b2 : xB} {bs : List xB} {s5 : cS} {k6 : kS} {yc : Int32} (h : SG L (P.1, P.2.1, H') k0 T V W a s5 k6 (g' :: r) t v w) (c5 : cFr 51539607552 0 0 0 s5 (c55 s5).1) (hp : g'.2.2.1 = []) (hbl : g'.2.2.2.1 = d' :: hb :: b2 :: bs) (hd : d'.2.2.2 = 1) (ed : yc = xn d'.1) : NS 2 ([], []) H' (g'.1 - 1) (c81 (c78 (c55 s5).1 33 (c82 (c55 s5).1) 0 0).1).1 (k224 (k189 k6 33 yc 0 0).1).1 (xc g' :: r) ∧ RE 1 (c81 (c78 (c55 s5).1 33 (c82 (c55 s5).1) 0 0).1).1 (k224 (k189 k6 33 yc 0 0).1).1 (xc g' :: r) ∧ 1 ≤ g'.1 ∧ ((c81 (c78 (c55 s5).1 33 (c82 (c55 s5).1) 0 0).1).1.r (.s 28)).toInt ≤ 1000001 := by
  have hbn : d'.1 ≤ g'.2.1.length := by
    have z := h.1.2.1.2.2.1.1
    rw [hbl] at z
    exact z.1
  have n0 := (NS.of h.nc h.1.2.1 h.SZ h.1.k53).fr c5 (kFr.refl (F := 0) (A := 0))
  have rn0 : RN (c55 s5).1 k6 (g' :: r) := h.rn c5 (kFr.refl (F := 0) (A := 0))
  have e82 : c82 (c55 s5).1 = xn d'.1 := bef_c rn0.1 h.SZ hbl hbn
  have n1 := n0.pc (x := 33) (y := c82 (c55 s5).1) (z := 0) (u := 0) (x' := 33) (y' := yc) (z' := 0) (u' := 0) (by rw [e82, ed])
  have hsz := h.sz
  have hlp := h.1.2.1.1.lp
  have hg0 := h.SZ.g
  have c8 := fr_c78 (c55 s5).1 33 (c82 (c55 s5).1) 0 0
  have k8 := fr_k189 k6 33 yc 0 0
  have rn1 : RN (c78 (c55 s5).1 33 (c82 (c55 s5).1) 0 0).1 (k189 k6 33 yc 0 0).1 (g' :: r) := rn0.frm c8 k8 rfl rfl rfl rfl rfl rfl rfl rfl rfl rfl rfl
  have e28 : ((c78 (c55 s5).1 33 (c82 (c55 s5).1) 0 0).1.r (.s 28)) = s5.r (.s 28) := ((c8.2.1 28 rfl).1).trans ((c5.2.1 28 rfl).1)
  generalize (c78 (c55 s5).1 33 (c82 (c55 s5).1) 0 0).1 = s8 at n1 rn1 e28 ⊢
  generalize (k189 k6 33 yc 0 0).1 = k7 at n1 rn1 ⊢
  have hz := h.SZ
  obtain ⟨o1, o2, o3, o4⟩ := own_k rn1 hz
  have re := RE.cll (e := 0) (RE.of rn1) hz hbl hp hd
  have hs : szX (xc g' :: r) ≤ 8 * a + 8 := by
    have := sz_xc (r := r) hbl
    omega
  have ej : jfK (jx (xc g' :: r)) = jfK (jx r) + jK (jb (hb :: b2 :: bs)) := by
    rw [jx_c hbl]
    rfl
  have e37 : (k224 k7).1.1 37 = xn (jfK (jx r) + jK (jb (hb :: b2 :: bs))) := by
    rw [← ej, ← jfK_len]
    exact re.2.1.2.1.1
  have zz : jfK (jx r) + jK (jb (hb :: b2 :: bs)) ≤ 1000000 := by
    rw [← ej, ← jfK_len]
    exact sz_kb hs (Nat.le_trans h.le.1 h.le.2)
  have hN : NR 2 ([], []) H' (c81 s8).1 (k224 k7).1 (xc g' :: r) := n1.1.clb rn1.1 hz hbl hp hbn o3 (fr_k224 k7) ((fr_k224 k7).2 43 rfl) (kSt.of (fr_k224 k7) rfl) (Or.inr ⟨hd, rfl, rfl, e37, zz⟩)
  have f4 := fr_k224 k7
  refine ⟨⟨hN, ?_, ((fr_c81 s8).2.2.2.1 rfl).trans n1.2.2.1, n1.2.2.2.1, by rw [f4.1 53 rfl]; exact n1.2.2.2.2.1, by rw [f4.1 53 rfl]; exact n1.2.2.2.2.2⟩, re, o3, ?_⟩
  · have q := n1.2.1
    unfold kr at q ⊢
    rw [f4.1 32 rfl, f4.2 33 rfl]
    exact q
  · rw [((fr_c81 s8).2.1 28 rfl).1, e28]
    omega
theorem fo_fin {fh g' : xF} {l hl : List xR} {b2 : xB} {bs : List xB} {a0 a' : Nat} {s5 : cS} {k6 : kS} (hp : f.2.2.1 = []) (hb : f.2.2.2.1 = b2 :: bs) (efh : fh = xdn (xo f 2) hl) (hl3 : hl.length = 3) (hq : XQ (xdn (xo fh 1) l :: r) (g' :: r)) (h : SG L (P.1, P.2.1, (f.1 - 1, y2.toNatClampNeg, 2, x.toNatClampNeg, 0, 0) :: (gho y3 y ++ P.2.2)) k0 t v w a' s5 k6 (g' :: r) t v w) (c15 : c53 s5 = 15) (ha : a0 < a') (hy2 : 0 ≤ y2.toInt) (ey : y1 = xn f.2.1.length) : QC (SP L P k0 t v w a0 (f :: r)) (k255 k6 x y (xn f.2.1.length)).1 (c138_103 rc (c81 (c78 (c55 s5).1 33 (c82 (c55 s5).1) 0 0).1).1 y1 y2 y3) := by
  obtain ⟨d', u1, u2, u3, u4, u5, u6⟩ := fo_xq hp hb efh hq
  obtain ⟨o, s7, p1, p3, p4, p5⟩ := h.skl c15 lv15
  have hle := h.le
  have hszf : f.2.1.length + 3 ≤ 1000000 := by
    have z := h.1.2.1.2.2.1.1
    rw [u2] at z
    have z1 := z.1
    have zl := h.SZ.k.1
    have e1 : (kL (g' :: r)).length = (kL r).length + g'.2.1.length := by show (kL r ++ g'.2.1).length = _; rw [List.length_append]
    omega
  have c5 : cFr 51539607552 0 0 0 s5 (c55 s5).1 := by rw [p3]; exact p5
  obtain ⟨n1, re1, o3, e28⟩ := fo_r1 (yc := xn f.2.1.length + 3) h c5 u1 u2 u3 (by rw [u5, hl3, show (3 : Int32) = xn 3 from rfl, xn_add (by omega)])
  rw [u6] at n1
  have hz1 : szX (xc g' :: r) ≤ 8 * a' + 8 := by
    have := sz_xc (r := r) u2
    have := h.sz
    omega
  have hzz : SZ (xc g' :: r) := SZ_of (by omega)
  have hb1 : (xc g').2.2.2.1 = (f.2.1.length, [], [] ++ xcb d', 2) :: b2 :: bs := by rw [xc_e u2]
  have hp1 : (xc g').2.2.1 = [] := by rw [xc_e u2]
  have hx1 : (xc g').1 = f.1 - 1 + 1 := by rw [xc_1 u2]; omega
  unfold k255 k255_11 k255_16 k255_25 k255_40 k255_49 k255_55 c138_103 c138_113 c138_127 c138_131
  have f1 := fr_k189 k6 33 (xn f.2.1.length + 3) 0 0
  generalize (k189 k6 33 (xn f.2.1.length + 3) 0 0).1 = k8 at f1 n1 re1 ⊢
  have e8 := fr_c78 (c55 s5).1 33 (c82 (c55 s5).1) 0 0
  generalize (c78 (c55 s5).1 33 (c82 (c55 s5).1) 0 0).1 = s8 at e8 n1 re1 e28 ⊢
  obtain ⟨K9, hK9⟩ : ∃ K9, K9 = (k224 k8).1 := ⟨_, rfl⟩
  rw [← hK9] at n1 re1 ⊢
  have n2 := NS.pcg (H1 := [(f.1 - 1, y2.toNatClampNeg, 2, x.toNatClampNeg, 0, 0)]) (x := 40) (y := y1) (z := y3) (u := 0) (x' := 40) (y' := xn f.2.1.length) (z' := y) (u' := 0) n1 (fun q => by rw [q, ey])
  have g1 := fr_k189 K9 40 (xn f.2.1.length) y 0
  generalize (k189 K9 40 (xn f.2.1.length) y 0).1 = k4 at g1 n2 ⊢
  have d1 := fr_c78 (c81 s8).1 40 y1 y3 0
  generalize (c78 (c81 s8).1 40 y1 y3 0).1 = s9 at d1 n2 ⊢
  have n3 := NS.ld2 n2 (nat_xn hy2)
  have n3 : NS 2 ([], []) (gho y3 y ++ P.2.2) (f.1 - 1) (c109 s9 s9.now y2 2).1 (ka k4 72 x (k210 k4)) (xc g' :: r) := n3
  have g2 : kFr 0 4722366482869645213696 k4 (ka k4 72 x (k210 k4)) := kFr.sa kFr.refl rfl
  generalize ka k4 72 x (k210 k4) = k5 at g2 n3 ⊢
  have d2 := fr_c109 s9 s9.now y2 2
  generalize (c109 s9 s9.now y2 2).1 = s10 at d2 n3 ⊢
  have d3 : cFr 0 0 0 20 (c81 s8).1 s10 := d1.trans (cFr.mono d2 rfl rfl rfl rfl)
  have g5 : QP K9 k5 := kFr.trans (kFr.mono g1 rfl rfl) (kFr.mono g2 rfl rfl)
  have re2 : RE 1 s10 k5 (xc g' :: r) := re1.frm d3 g5 rfl rfl rfl rfl rfl rfl rfl rfl rfl rfl rfl
  have nr := fo_rows (n := xn f.2.1.length) n3 re2 hzz hb1 hp1 (re2.wb hb1).1 hx1 rfl (by rw [(d3.2.1 28 rfl).1]; exact e28) ey
  have g3 := fr_k246 k5
  generalize (k246 k5).1 = k7 at g3 nr ⊢
  have g4 := fr_k189 k7 41 (xn f.2.1.length) 0 0
  generalize (k189 k7 41 (xn f.2.1.length) 0 0).1 = k9 at g4 nr ⊢
  have f9 : QP K9 k9 := kFr.trans g5 (kFr.trans (kFr.mono g3 rfl rfl) (kFr.mono g4 rfl rfl))
  rw [hK9] at f9
  obtain ⟨k11, z1, z2⟩ := fo_end (P := P) h c15 u1 u2 u3 rfl rfl e8 d3 (fr_c78 (c143 s10).1 41 y1 0 0) f1 f9 nr.ghx
  rw [z1]
  exact QC.ret ⟨a' + 1, _, by omega, z2, u4⟩
theorem SE.to1 {e a1 : Nat} {s1 : cS} {k1 : kS} {X1 : List xF} {t1 v1 w1 T1 V1 W1 : Nat} (h : SE e L P k0 T V W a s k X t v w) (h1 : SG L P k T1 V1 W1 a1 s1 k1 X1 t1 v1 w1) (i1 : T ≤ T1 := by exact Nat.le_refl _) (i2 : V ≤ V1 := by exact Nat.le_refl _) (i3 : W ≤ W1 := by exact Nat.le_refl _) : SG L P k0 T V W a1 s1 k1 X1 t1 v1 w1 := ⟨h1.1, h1.2.1, h.2.2.1.trans (h1.2.2.1.mono i1 i2 i3), h1.2.2.2⟩
theorem st_fon (h139 : E139 rc L) (h142 : E142 rc L) (h : SG L P k t v w a s k X t v w) (hB : XB X) (hr : RO L (a + 1) (t + 8) (v + 8)) (c : c53 s = 17) (hk : kc L (a + 2) = 59) : QC (SP L P k t v w a X) (k228 k 17).1 (c138 rc s) := by
  have hle := h.le
  have ht : t + 8 ≤ 1000000 := by have := hr.1; omega
  obtain ⟨f, r, b, bs, rfl, b1, b2, b3⟩ := hB
  obtain ⟨e4, e63⟩ := h.at4
  rw [k228_k17]
  unfold c138 k235
  obtain ⟨q, s1, q1, q2, q3, q4, q5⟩ := h.skp c pl17
  have hlt := lt_of q1
  have hsz := h.sz
  rw [q3, rbd_th (w := q.2.1) rfl]
  obtain ⟨e4', e63'⟩ := q4.at4
  generalize kf k 4 (k.1 4 + 1) = k1 at q4 e4'
  unfold c138_15
  rcases q4.tkp pl1 with ⟨o, s2, o1, o2, o3, o4, o5, o6⟩ | ⟨o1, o2, o3⟩
  · rw [o3, rbd_th (w := o.2.1) rfl, o4]
    have hlt2 := lt_of o1
    have c59 : c53 s2 = 59 := by
      rcases o5.1.1.kd with ⟨p, p1, p2, -⟩ | ⟨p1, -⟩
      · unfold kc at hk
        rw [show a + 2 = a + 1 + 1 from rfl, p1] at hk
        exact p2.trans hk
      · unfold kc at hk
        rw [List.getElem?_eq_none (by omega)] at hk
        exact absurd hk (by decide)
    show QC _ (k235_5 (kf k1 4 (k1.1 4 + 1)) (k.1 4) 1).1 (c138_32 rc s2 (c63 s) (c63 s1) o.2.1)
    generalize kf k1 4 (k1.1 4 + 1) = k2 at o5
    unfold k235_5 c138_32
    rw [if_pos (by decide), if_neg (fun z => z ((o5.is (by decide) (by decide)).mp c59)), c64_yes c59]
    unfold k235_37
    obtain ⟨m, s3, m1, m2, m3, m4, m5⟩ := o5.skp c59 pl59
    rw [m3, rbd_th (w := m.2.1) rfl, e4, e63, e63']
    generalize kf k2 4 (k2.1 4 + 1) = k3 at m4
    unfold c138_42
    refine (h139 k t v w (a + 1 + 1 + 1) s3 k3 (f :: r) t v w (xn a) m4 (fun z => nomatch z) (Nat.le_refl _) (Nat.le_refl _) (Nat.le_refl _) ⟨by have := hr.1; omega, by have := hr.2; omega⟩).bnd ?_
    rintro s4 _ x4 ⟨a4, k4, u1, u2, rfl⟩
    show QC _ _ (c138_47 rc s4 (xn a) (xn (a + 1)))
    unfold c138_47 k253
    rcases u2.tke en12 with ⟨p, s5, k5, p1, p2, p3, p4, p5, p6, p7⟩ | ⟨p1, p2, p3⟩
    · rw [p3, rbd_th (w := p.2.1) rfl, p4]
      have hle5 := p5.le
      show QC _ (k253_6 k5 (xn a) 1).1 (c138_56 rc s5 (xn a) (xn (a + 1)) p.2.1)
      unfold k253_6
      rw [if_pos (by decide)]
      have ecnt : k197 k5 = xn f.2.1.length := p5.1.2.1.2.1.cnt p5.SZ
      rw [ecnt]
      have hzh : SZ (xdn (xo f 2) (List.replicate (2 + 1) (0, 0, 0, 0)) :: r) := SZ_of (by rw [sz_xdn, sz_xo, List.length_replicate]; split <;> omega)
      have nh := RE.hid (n := 2) (v := 0) (w := xn a) (w' := xn a) (y := 0) p5.1.2.1 b1 (by decide) hzh (by decide)
      obtain ⟨fh, hfh⟩ : ∃ fh, fh = xdn (xo f 2) (List.replicate 2 (0, 0, 0, 0) ++ [(0, 0 ||| 0, 0, 0)]) := ⟨_, rfl⟩
      rw [← hfh] at nh
      have szh : szX (fh :: r) ≤ szX (f :: r) + 4 := by
        rw [hfh, sz_xdn, sz_xo]
        show _ + 1 + _ + 3 ≤ _
        split <;> omega
      have o6 : OU (bd a4 + 3) (c140 s5 3 0 (xn a)).1 (k254 k5 3 0 (xn a)).1 (fh :: r) := by
        rw [hfh]
        have psz := p5.sz
        have hk : (kL (xo f 2 :: r)).length + 3 ≤ 1000000 := by
          have e1 : (kL (xo f 2 :: r)).length = (kL (f :: r)).length := rfl
          have e2 := szX_kl (X := f :: r)
          omega
        have q1 : OU (bd a4) s5 k5 (xo f 2 :: r) := (u2.ou p6 p7).cut rfl (Nat.le_refl _) (Nat.le_refl _)
        have q2 : (List.replicate 2 ((0, 0, 0, 0) : xR) ++ [((0, 0 ||| 0, 0, 0) : xR)]).length = 3 := rfl
        have q3 : k5.1 24 = xn (kL (xo f 2 :: r)).length := p5.1.2.1.2.1.a24
        have q4 : k5.1 32 = xn r.length := p5.1.2.1.2.1.a32 p5.SZ
        have q5 : bd a4 + 3 ≤ 1000000 := by have := u2.bl; omega
        have q6 : (3 : Int32) = xn 3 := rfl
        exact OU.hidn q2 q1 q3 q4 hk q5 (by decide) q6 ((fr_c140 s5 3 0 (xn a)).ou rfl)
      have h6 : SE 1 L P k t v w (a4 + 1) (c140 s5 3 0 (xn a)).1 (k254 k5 3 0 (xn a)).1 (fh :: r) t v w := by
        have hq4 : ∀ i q, (List.replicate 2 ((0, 0, 0, 0) : xR) ++ [((0, 0 ||| 0, 0, 0) : xR)])[i]? = some q → (((0 : Int32) ≠ 0 ∧ i + 1 = (List.replicate 2 ((0, 0, 0, 0) : xR) ++ [((0, 0 ||| 0, 0, 0) : xR)]).length) ↔ q.2.1 &&& 4 ≠ 0) := fun i q hq => by
          have z : q.2.1 = 0 := by
            rcases List.mem_append.mp (List.mem_of_getElem? hq) with m | m
            · rw [List.eq_of_mem_replicate m]
            · rw [List.mem_singleton.mp m]
              rfl
          rw [z]
          exact ⟨fun q => absurd rfl q.1, fun q => absurd rfl q⟩
        have hb4 := FB.hid (n := 2) (v := 0) (w := xn a) (w' := xn a) (y := 0) (l := List.replicate 2 (0, 0, 0, 0) ++ [(0, 0 ||| 0, 0, 0)]) p5.fb p5.cc p5.1.2.1 p5.SZ b1 (by decide) hzh rfl hq4
        rw [← hfh] at hb4
        have hzf : SZ (fh :: r) := SZ_of (by omega)
        have hlp := p5.1.2.1.1.lp
        have hg5 := p5.SZ.g
        have lvh : LVv [fh.2.1.length] (c140 s5 3 0 (xn a)).1 (fh :: r) := p5.lv.hid (by omega) nh.1 hzf (by rw [hfh, xdn_all]; exact b1) (by rw [hfh, xdn_all]; show bLv f.2.2.2.1 ++ (if (2 : Nat) = 1 then _ else []) = _; rw [if_neg (by decide), List.append_nil])
        have fc := fr_c140 s5 3 0 (xn a)
        have fk := fr_k254 k5 3 0 (xn a)
        exact SEp.nam (SE.of p5) fc fk nh (by omega) (o6.mono (by have := u2.bl; omega)) ⟨(fun z => nomatch z), p5.nc.hid (by omega) (by rw [hfh, xdn_all]; rfl) (by rw [hfh, xdn_all]; rfl) fk (st_k254 k5 3 0 (xn a)), hb4.1, hb4.2, lvh⟩
      have ez3 : (c140 s5 3 0 (xn a)).2 = xn f.2.1.length := by
        rw [c140_2, XC.cnt p5.1.2.1.1 p5.SZ, b1, List.append_nil]
      unfold k253_22 k253_31 k253_47 k253_57 k253_63 k253_80 c138_56 c138_64 c138_74 c138_85 c138_96
      generalize (k254 k5 3 0 (xn a)).1 = k6 at h6 o6
      rw [ez3]
      generalize (c140 s5 3 0 (xn a)).1 = s6 at h6 o6
      obtain ⟨h7', i7⟩ := SEp.jmp (j := 2) (x1 := 38) (y1 := xn f.2.1.length) (z1 := 0) (u1 := xn a) (y2 := xn f.2.1.length) (z2 := 0) h6 (Or.inr ⟨rfl, rfl⟩) (by unfold jmp; decide)
      have ef : fh.1 = f.1 := by rw [hfh, xdn_all]; rfl
      rw [ef] at h7'
      have o7 := OU.fr o6 ((fr_c78 s6 38 (xn f.2.1.length) 0 (xn a)).ou rfl) (fr_k189 k6 38 (xn f.2.1.length) 0 (xn a)) rfl rfl
      generalize (k189 k6 38 (xn f.2.1.length) 0 (xn a)).2 = zb at h7' ⊢
      generalize (k189 k6 38 (xn f.2.1.length) 0 (xn a)).1 = k7 at h7' o7 ⊢
      generalize (c78 s6 38 (xn f.2.1.length) 0 (xn a)).2 = zc at h7' i7 ⊢
      generalize (c78 s6 38 (xn f.2.1.length) 0 (xn a)).1 = s7 at h7' o7 ⊢
      have h7 : SE 1 L (P.1, P.2.1, (f.1 - 1, zc.toNatClampNeg, 2, zb.toNatClampNeg, 0, 0) :: (gho (c98 s7) (k210 k7) ++ P.2.2)) k t v w (a4 + 1) s7 k7 (fh :: r) t v w := SEp.pmH (P := P) (SEp.top (P := (P.1, P.2.1, (f.1 - 1, zc.toNatClampNeg, 2, zb.toNatClampNeg, 0, 0) :: P.2.2)) h7') List.perm_middle
      have ezd : (c78 s7 34 0 0 (xn a)).2 = c98 s7 := tad_2
      have h8 := SEp.pc (x := 34) (y := 0) (z := 0) (u := xn a) (x' := 34) (y' := 0) (z' := 0) (u' := xn a) h7 rfl
      have o8 := OU.fr o7 ((fr_c78 s7 34 0 0 (xn a)).ou rfl) (fr_k189 k7 34 0 0 (xn a)) rfl rfl
      rw [ezd]
      generalize (k189 k7 34 0 0 (xn a)).1 = k8 at h8 o8 ⊢
      generalize (c78 s7 34 0 0 (xn a)).1 = s8 at h8 o8 ⊢
      have h9 := SEp.pc (x := 39) (y := xn f.2.1.length) (z := 0) (u := 0) (x' := 39) (y' := xn f.2.1.length) (z' := 0) (u' := 0) h8 rfl (wfa_b (by decide) (by decide) (by have := SZ.fl h.SZ; rw [xn_i (by omega)]; omega) (by decide))
      have o9 := OU.fr o8 ((fr_c78 s8 39 (xn f.2.1.length) 0 0).ou rfl) (fr_k189 k8 39 (xn f.2.1.length) 0 0) rfl rfl
      generalize (k189 k8 39 (xn f.2.1.length) 0 0).1 = k9 at h9 o9 ⊢
      generalize (c78 s8 39 (xn f.2.1.length) 0 0).1 = s9 at h9 o9 ⊢
      have hy : xn a + 1 = xn (a + 1) := xn_succ (by omega)
      rw [hy]
      have hp1 : fh.2.2.1 = [] := by rw [hfh, xdn_all]; exact b1
      refine (h142 (a + 1) 1 (a4 + 1) s9 k9 fh r t v w 13 zb (k210 k7) (xn f.2.1.length) h9.own hp1 (by omega) (by omega) ⟨_, by have := u2.bl; omega, o9⟩ ⟨by have := hr.1; omega, by have := hr.2; omega⟩ (fun k' g hn => f13 g (by omega) hn)).bnd ?_
      rintro sx kx xx ⟨ax, sy, Xx, lx, w1, w2, w3, w4, w5, rfl⟩
      refine QC.pop w3 (by omega) ?_
      rw [k180_g13]
      obtain ⟨g', rfl⟩ : ∃ g', Xx = g' :: r := by
        obtain ⟨g0, g1, r', l', d, d', ds, z1, z2, -⟩ := w4
        cases z1
        exact ⟨g1, z2⟩
      exact fo_fin b1 b2 hfh rfl w4 ((SE.to1 h9 w2).top (t' := t)) w5 (by omega) i7 rfl
    · rw [rbd_thn p1]
      refine QC.thn ?_
      unfold k253_6
      rw [if_neg (fun z => z p2)]
      exact p3
  · rw [rbd_thn o1]
    refine QC.thn ?_
    unfold k235_5
    rw [if_neg (fun z => z o2)]
    exact o3
end FON
