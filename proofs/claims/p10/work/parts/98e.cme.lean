/-! COMPILE ON BOTH SIDES: the end -/
section CME
variable {L : List xR} {s s1 : cS} {k : kS} {m : Nat} {w : Option Int32}
theorem kst_stop (h : k.1 10 ≤ 0) : kst k = k := by
  unfold kst k175b13
  rw [if_pos h]
theorem kit_stop (h : k.1 10 ≤ 0) : ∀ {j : Nat}, kit j k = k := by
  intro j
  induction j with
  | zero => rfl
  | succ j ih =>
    show kit j (kst k) = k
    rw [kst_stop h]
    exact ih
theorem kw_kit : ∀ (m : Nat) {k : kS}, ¬ (kwh k175b13 m k).1 = 0 → ∃ j, (kwh k175b13 m k).2 = kit j k ∧ (kit j k).1 10 ≤ 0 := by
  intro m
  induction m with
  | zero => intro k h; exact absurd rfl h
  | succ m ih =>
    intro k h
    by_cases c : (k175b13 k).1 = 0
    · rw [kwh_go c] at h ⊢
      obtain ⟨j, j1, j2⟩ := ih h
      exact ⟨j + 1, j1, j2⟩
    · rw [kwh_out c]
      by_cases d : k.1 10 ≤ 0
      · have e : k175b13 k = (1, k) := by
          unfold k175b13
          rw [if_pos d]
        exact ⟨0, by rw [e]; rfl, d⟩
      · exfalso
        apply c
        unfold k175b13
        rw [if_neg d]
theorem kit_two {i j : Nat} (hi : (kit i k).1 10 ≤ 0) : kit j k = kit i k ∨ ∃ d, kit i k = kit d (kit j k) := by
  rcases Nat.le_total i j with h | h
  · left
    obtain ⟨d, rfl⟩ := Nat.exists_eq_add_of_le h
    rw [kit_add]
    exact kit_stop hi
  · right
    obtain ⟨d, rfl⟩ := Nat.exists_eq_add_of_le h
    exact ⟨d, kit_add⟩
theorem c38_5 : (c38_32 s).1.f 5 1 = if s.f 1 0 = 0 then s.f 5 1 else 0 := by
  unfold c38_32
  by_cases c : s.f 1 0 = 0
  · have c' : c152 s = 0 := c
    rw [if_neg (fun z => z c'), if_pos c', if_pos c]
    show (tct (nf s 0 5 (c35 s)) (.s 3) 0).f 5 1 = _
    rw [tct_o.1, nf_ne (by decide)]
  · have c' : c152 s ≠ 0 := c
    rw [if_pos c', if_neg c', if_neg c]
    exact nf_at
theorem tct_z2 {t : cT} (h : 0 ≤ ((tct s t 0).r t).toInt) : ((tct s t 0).r t).toInt = 0 := by
  have z0 : (0 : Int32).toInt = 0 := rfl
  unfold tct at h ⊢
  rw [if_neg (by decide)] at h ⊢
  by_cases c : s.r t ≤ 0
  · rw [if_pos c] at h ⊢
    rw [i_le] at c
    omega
  · rw [if_neg c, nt_r]
    rfl
theorem c38_3 (h : 0 ≤ ((c38_32 s).1.r (.s 3)).toInt) : TR (c38_32 s).1 (.s 3) [] := by
  refine ⟨?_, fun i q hq => nomatch hq⟩
  show ((c38_32 s).1.r (.s 3)).toInt = 0
  unfold c38_32 at h ⊢
  by_cases c : c152 s ≠ 0
  · rw [if_pos c, if_neg c] at h ⊢
    exact tct_z2 (s := nf s 0 5 (c153 s)) (t := .s 3) h
  · rw [if_neg c, if_pos (Decidable.not_not.mp c)] at h ⊢
    exact tct_z2 (s := nf s 0 5 (c35 s)) (t := .s 3) h
theorem i0_le {x : Int32} (h : 0 ≤ x) : x ≤ 0 ↔ x = 0 := by
  rw [i_le] at h
  constructor
  · intro z
    rw [i_le] at z
    exact Int32.toInt_inj.mp (by omega)
  · intro z
    rw [z, i_le]
    exact Int.le_refl _
theorem k174_53 {y1 z0 : Int32} (h : 0 ≤ y1) : (k175_174 k y1 z0).1.1 53 = (if y1 = 0 then k.1 53 else 0) ∧ (k175_174 k y1 z0).1.1 0 = 0 := by
  unfold k175_174 k175_205 k175_216
  by_cases c : y1 = 0
  · have c' : y1 ≤ 0 := (i0_le h).mpr c
    rw [if_pos c', if_neg (fun z => z c), if_pos c', if_pos c]
    exact ⟨(fr_k266 _).1 53 rfl, (fr_k266 _).1 0 rfl⟩
  · have c' : ¬ y1 ≤ 0 := fun z => c ((i0_le h).mp z)
    rw [if_neg c', if_pos c, if_neg c', if_neg c]
    exact ⟨rfl, rfl⟩
theorem k122_53 (h6 : 0 ≤ k.1 6) (h8 : 0 ≤ k.1 8) : (k175_122 k).1.1 53 = (if k.1 6 = 0 ∧ k.1 8 = 0 then k.1 53 else 0) ∧ (k175_122 k).1.1 0 = 0 := by
  have k140 : ∀ y, 0 ≤ y → (k175_140 k y).1.1 53 = (if y = 0 then k.1 53 else 0) ∧ (k175_140 k y).1.1 0 = 0 := fun y hy => by
    unfold k175_140
    split
    · split
      · exact k174_53 hy
      · exact k174_53 hy
    · exact k174_53 hy
  unfold k175_122
  by_cases c : k.1 6 = 0
  · rw [if_pos ((i0_le h6).mpr c)]
    obtain ⟨a1, a2⟩ := k140 _ h8
    refine ⟨a1.trans ?_, a2⟩
    by_cases d : k.1 8 = 0
    · rw [if_pos d, if_pos ⟨c, d⟩]
    · rw [if_neg d, if_neg (fun z => d z.2)]
  · rw [if_neg (fun z => c ((i0_le h6).mp z))]
    obtain ⟨a1, a2⟩ := k140 _ h6
    exact ⟨a1.trans (by rw [if_neg c, if_neg (fun z => c z.1)]), a2⟩
theorem k98_bad (h6 : 0 < k.1 6) (h8 : 0 ≤ k.1 8) : (k175_98 k).1.1 53 = 0 ∧ (k175_98 k).1.1 0 = 0 := by
  have z0 : (0 : Int32).toInt = 0 := rfl
  have c : k.1 6 ≠ 0 := fun z => by
    rw [z, i_lt] at h6
    omega
  unfold k175_98
  rw [if_pos c]
  obtain ⟨a1, a2⟩ := k122_53 (k := k) (by rw [i_le]; rw [i_lt] at h6; omega) h8
  exact ⟨a1.trans (if_neg (fun z => c z.1)), a2⟩
theorem c38_u {x : Nat} : (c38_32 s).1.r (.u x) = s.r (.u x) ∧ (c38_32 s).1.c (.u x) = s.c (.u x) ∧ (c38_32 s).1.f 6 1 = s.f 6 1 := by
  have ne : ∀ b : Nat, cT.u x ≠ cT.s b := fun b z => by cases z
  unfold c38_32
  by_cases c : c152 s ≠ 0
  · rw [if_pos c, if_neg c]
    refine ⟨?_, ?_, ?_⟩
    · exact (tct_r (s := nf s 0 5 (c153 s)) (ne 3)).1
    · exact (tct_r (s := nf s 0 5 (c153 s)) (ne 3)).2
    · show (nf (tct (nf s 0 5 (c153 s)) (.s 3) 0) 5 1 0).f 6 1 = _
      rw [nf_ne (by decide), tct_o.1, nf_ne (by decide)]
  · rw [if_neg c, if_pos (Decidable.not_not.mp c)]
    refine ⟨(tct_r (s := nf s 0 5 (c35 s)) (ne 3)).1, (tct_r (s := nf s 0 5 (c35 s)) (ne 3)).2, ?_⟩
    show (tct (nf s 0 5 (c35 s)) (.s 3) 0).f 6 1 = _
    rw [tct_o.1, nf_ne (by decide)]
theorem c38_i {x : Nat} : (c38_32 s).1.r (.i x) = s.r (.i x) ∧ (c38_32 s).1.c (.i x) = s.c (.i x) ∧ (c38_32 s).1.f 6 1 = s.f 6 1 := by
  have ne : ∀ b : Nat, cT.i x ≠ cT.s b := fun b z => by cases z
  unfold c38_32
  by_cases c : c152 s ≠ 0
  · rw [if_pos c, if_neg c]
    refine ⟨?_, ?_, ?_⟩
    · exact (tct_r (s := nf s 0 5 (c153 s)) (ne 3)).1
    · exact (tct_r (s := nf s 0 5 (c153 s)) (ne 3)).2
    · show (nf (tct (nf s 0 5 (c153 s)) (.s 3) 0) 5 1 0).f 6 1 = _
      rw [nf_ne (by decide), tct_o.1, nf_ne (by decide)]
  · rw [if_neg c, if_pos (Decidable.not_not.mp c)]
    refine ⟨(tct_r (s := nf s 0 5 (c35 s)) (ne 3)).1, (tct_r (s := nf s 0 5 (c35 s)) (ne 3)).2, ?_⟩
    show (tct (nf s 0 5 (c35 s)) (.s 3) 0).f 6 1 = _
    rw [tct_o.1, nf_ne (by decide)]
theorem c38_b {x j : Nat} : (c38_32 s).1.b x j = s.b x j := by
  unfold c38_32
  by_cases c : c152 s ≠ 0
  · rw [if_pos c, if_neg c]
    show (nf (tct (nf s 0 5 (c153 s)) (.s 3) 0) 5 1 0).b x j = _
    exact congrFun (congrFun (tct_o (s := nf s 0 5 (c153 s)) (t := .s 3) (n := 0)).2.1 x) j
  · rw [if_neg c, if_pos (Decidable.not_not.mp c)]
    exact congrFun (congrFun (tct_o (s := nf s 0 5 (c35 s)) (t := .s 3) (n := 0)).2.1 x) j
theorem k122_good (h6 : k.1 6 = 0) (h8 : k.1 8 = 0) : (k175_122 k).1 = (k266 (kf (kf (ka (kf k 3 (k.1 0)) 57 0 (k.1 0)) 0 0) 53 (k.1 53))).1 := by
  have l6 : k.1 6 ≤ 0 := by rw [h6]; decide
  have l8 : k.1 8 ≤ 0 := by rw [h8]; decide
  unfold k175_122
  rw [if_pos l6]
  unfold k175_140
  rw [if_pos l6, if_pos l8]
  unfold k175_174
  rw [if_pos l8]
  unfold k175_205
  rw [if_neg (fun z => z h8)]
  unfold k175_216
  rw [if_pos l8]
/-- what a function says of itself, when a chunk has ended -/
def FKr (s : cS) (k : kS) : Prop := ∀ x : Nat, (x : Int) < (k.1 53).toInt → s.b (x + 1) 3 = k.2 54 x ∧ s.b (x + 1) 4 = k.2 55 x ∧ s.b (x + 1) 5 = k.2 56 x ∧ s.b (x + 1) 6 = k.2 57 x ∧ s.b (x + 1) 7 = k.2 58 x ∧ s.b (x + 1) 8 = k.2 59 x ∧ s.b (x + 1) 2 = xn x ∧ sm (k.2 58 x)
/-- the last function ends -/
theorem NR.fin1 {f : xF} {b : xB} {H : List hE} (h : NR 0 ([], []) H s k [f]) (hn : RN s k [f]) (hz : SZ [f]) (hb : f.2.2.2.1 = [b]) (hp : f.2.2.1 = []) (hkd : b.2.2.2 ≠ 1) : NR 0 ([], []) H (c80 s).1 (k223 k).1 [] := by
  obtain ⟨o1, o2, o3, o4⟩ := own_k hn hz
  have hbn : b.1 ≤ f.2.1.length := by
    have q := hn.2.2.1.1
    rw [hb] at q
    exact q.1
  have fk := fr_k223 k
  have los := (hn.2.1.los hz hb).2
  have e43 : (k223 k).1.2 43 = k.2 43 := fk.2 43 (Nat.zero_testBit _)
  have e51 : (k223 k).1.2 51 = k.2 51 := fk.2 51 (Nat.zero_testBit _)
  have e80 : (k223 k).1.1 8 = 0 → k.1 8 = 0 := fun z => Decidable.byContradiction (fun q => los.mpr (Or.inl q) z)
  have h1 : NR 0 ([], []) H (c81 s).1 (k223 k).1 [] := by
    refine h.c81x (bs := []) hn.1 hz hb hp hbn o3 fk rfl rfl e43 e80 (fun p Gs Hr Hbs HK z hpn d5 g2 t2 q1 l1 l2 => ?_)
    have um : bUm [b] = [] := Decidable.byContradiction (fun q => los.mpr (Or.inr q) z)
    have p0 : p = [] := by
      rcases hpn with ⟨-, z⟩ | ⟨z, -⟩ | ⟨z, -⟩
      · exact z
      · exact absurd z (by decide)
      · exact absurd z (by decide)
    subst p0
    have kn : b.2.2.1.filter (fun g => (flab b.2.1 g.1).isNone) = [] := by
      rw [List.filter_eq_nil_iff]
      intro g hg hq
      have fl : flab b.2.1 g.1 = none := Option.isNone_iff_eq_none.mp hq
      have um' : [] ++ b.2.2.1.filter (fun g => !(seen (bLab [b]) g.1)) = [] := um
      rw [List.nil_append, List.filter_eq_nil_iff] at um'
      refine um' g hg ?_
      have es : seen (bLab [b]) g.1 = false := by
        show seen ([] ++ b.2.1) g.1 = false
        rw [List.nil_append]
        exact seen_no fl
      rw [es]
      rfl
    rw [kn] at q1
    have q1 : HK = [] := q1
    have t2 : Hbs = [] := t2
    have g2 : Hr = [] := g2
    subst q1 t2 g2
    obtain ⟨Gr, Gf, b1, b2, b3⟩ := d5
    have b3 : BGr k (f.1 - 1) (jfK (jx [])) (jb f.2.2.2.1) Gf := b3
    rw [hb] at b3
    have gf : Gf = [] := by
      rcases b3 with ⟨q, -⟩ | ⟨-, q⟩
      · exact absurd q hkd
      · exact q
    subst gf
    exact ⟨[], Gr, Or.inl ⟨rfl, rfl⟩, ⟨by rw [b1]; simp only [List.append_nil], (fun i q hi => nomatch hi), (fun g hg => nomatch hg)⟩, rfl, b2⟩
  have f4 : cFr 822752278660603021077484591278675252491367932816789931674501120 67108864 0 1 (c81 s).1 (c80 s).1 := fr_c80_4 (c81 s).1
  exact h1.nw (f4.2.2.2.2.2.2.1 rfl) (f4.2.2.2.2.2.1 rfl) (f4.2.1 28 rfl) (f4.2.1 30 rfl)
theorem ml_eq {x : Nat} {U V : List xR} (h : ml (hm []) x U V) : U = V := by
  refine List.ext_getElem? (fun i => ?_)
  by_cases c : i < U.length
  · have c2 : i < V.length := by rw [← h.1]; exact c
    have e1 := List.getElem?_eq_getElem c
    have e2 := List.getElem?_eq_getElem c2
    obtain ⟨m1, m2, m3, m4⟩ := h.2 i _ _ e1 e2
    rw [e1, e2]
    refine congrArg some (Prod.ext m1 (Prod.ext (m2 (fun z => absurd z List.not_mem_nil)) (Prod.ext (m3 (fun z => absurd z List.not_mem_nil)) m4)))
  · rw [List.getElem?_eq_none (by omega), List.getElem?_eq_none (by rw [← h.1]; omega)]
/-- rows when a chunk has ended: the class's rows are the reference's, sorted -/
theorem ck_fin {s' : cS} {kA : kS} {N : Nat} (h : NR 0 ([], []) [] s k []) (h8 : k.1 8 = 0) (h68 : (k.1 68).toInt < 65536) (hfl : FL s k) (hr : ∀ x, s'.r (.i x) = s.r (.i x)) (hc : ∀ x, s'.c (.i x) = s.c (.i x)) (hN : N ≤ 1000000) (h53 : k.1 53 = xn N) (a53 : kA.1 53 = k.1 53) (a68 : kA.1 68 = k.1 68) (aj : ∀ j, j = 60 ∨ j = 69 ∨ j = 70 ∨ j = 71 ∨ j = 72 ∨ j = 73 → kA.2 j = k.2 j) : CK s' (k266 kA).1 := by
  obtain ⟨-, h2⟩ := h.2 h8
  obtain ⟨p, Hd, hp, ⟨Hg, Gs, ⟨d1, -, -⟩, d2, d3, -⟩, hR⟩ := h2 h68 hfl
  have p0 : p = [] := by
    rcases hp with ⟨-, z⟩ | ⟨z, -⟩ | ⟨z, -⟩
    · exact z
    · exact absurd z (by decide)
    · exact absurd z (by decide)
  have d2 : Hg = [] := d2
  have d3 : Gs = [] := d3
  subst p0 d2 d3
  have d1 : Hd = [] := d1
  subst d1
  obtain ⟨n, n1, n2, n3⟩ := hR.2 h8
  have n4 : n < 65536 := by rw [n1, xn_i (by omega)] at h68; omega
  obtain ⟨⟨-, g1⟩, g2⟩ := n3 n4 hfl
  have e53 : (k.1 53).toInt = N := by rw [h53, xn_i (by omega)]
  obtain ⟨⟨s1, s2⟩, s3⟩ := k266_all (k := kA) (n := n) (N := N) hN (by omega) (a53.trans h53) (a68.trans n1) (fun i hi => by
    obtain ⟨x, x1, x2⟩ := g1 i hi
    exact ⟨x, by omega, by rw [aj 69 (by decide)]; exact x2⟩) (fun x hx => by
    rw [aj 60 (by decide), aj 69 (by decide)]
    exact (g2 x (by omega)).1)
  have f2 := fr_k266 kA
  intro x hx
  rw [f2.1 53 (Nat.zero_testBit _), a53] at hx
  obtain ⟨-, U, V, u1, u2, u3, -, u5⟩ := g2 x hx
  have d1 : D1 ([], []) s x = [] := by unfold D1; rw [ite_self]
  have d2 : D2 ([], []) s x = [] := by unfold D2; rw [ite_self]
  rw [d1, List.append_nil] at u1
  rw [d2, List.append_nil] at u2
  have eU := ml_eq u3
  subst eU
  have hxN : x < N := by omega
  have hl := gx_le (ow := k.2 69) (x := x) (n := n)
  have eL : U.length = (gx (k.2 69) x n).length := by
    rw [← u2]
    unfold rx
    rw [List.length_map]
  have hs := (sx_le (ow := k.2 69) (n := n) x (by omega)).1
  refine ⟨U, sx (k.2 69) n x, ⟨u1.same (hr _) (hc _), u5⟩, by omega, by omega, ?_, ?_, fun i u hu => ?_⟩
  · rw [s1 x hxN, aj 69 (by decide), eL]
  · rw [s3 x hxN, aj 69 (by decide)]
  · rw [← u2] at hu
    unfold rx at hu
    rw [List.getElem?_map] at hu
    cases hg : (gx (k.2 69) x n)[i]? with
    | none => rw [hg] at hu; cases hu
    | some g =>
      rw [hg] at hu
      have hu : kR k g = u := Option.some.inj hu
      have hgl := (gx_lt (List.mem_of_getElem? hg)).1
      refine ⟨g, by omega, ?_, ?_⟩
      · have z := s2 x hxN i g (by rw [aj 69 (by decide)]; exact hg)
        rw [aj 69 (by decide)] at z
        exact z
      · rw [← hu]
        unfold kR
        rw [f2.2 70 rfl, f2.2 71 rfl, f2.2 72 rfl, f2.2 73 rfl, aj 70 (by decide), aj 71 (by decide), aj 72 (by decide), aj 73 (by decide)]
theorem fk_fin {s8 : cS} {kF : kS} {g' : xF} {d' : xB} {N : Nat} (hfb : FB s8 kF (sh [g'])) (hg : g'.1 = 0 + 1) (hgp : g'.2.2.1 = []) (hb : ∀ x j, (j ≠ 6 ∨ x ≠ g'.1) → s.b x j = s8.b x j) (hb6 : s.b g'.1 6 = k.1 0) (hnc : NR 0 ([], []) [] s k [g']) (hrn : RN s k [g']) (hsz : SZ [g']) (hbl : g'.2.2.2.1 = [d']) (hkd : d'.2.2.2 ≠ 1) (hk : kFr 295147905179352825856 18300323042624482050048 kF k) (hN : N ≤ 1000000) (h53 : k.1 53 = xn N) (h6 : (k223 k).1.1 6 = 0) (h8 : (k223 k).1.1 8 = 0) (n8 : k.1 8 = 0) : FKr (c38_32 (c80 s).1).1 (k175_122 (k223 k).1).1 ∧ (((k175_122 (k223 k).1).1.1 68).toInt < 65536 → FL (c38_32 (c80 s).1).1 (k175_122 (k223 k).1).1 → CK (c38_32 (c80 s).1).1 (k175_122 (k223 k).1).1) := by
  have f1 := fr_k223 k
  have hc := fr_c80 s
  have eb : ∀ x j, (c38_32 (c80 s).1).1.b x j = s.b x j := fun x j => c38_b.trans (hc.2.2.1 x j (Nat.zero_testBit _))
  obtain ⟨kA, hkA⟩ : ∃ kA, kA = kf (kf (ka (kf (k223 k).1 3 ((k223 k).1.1 0)) 57 0 ((k223 k).1.1 0)) 0 0) 53 ((k223 k).1.1 53) := ⟨_, rfl⟩
  have e122 : (k175_122 (k223 k).1).1 = (k266 kA).1 := by rw [hkA]; exact k122_good h6 h8
  have f2 := fr_k266 kA
  have a53 : kA.1 53 = xn N := by
    rw [hkA]
    exact (f1.1 53 rfl).trans h53
  have a57 : kA.2 57 = upd (kF.2 57) 0 (k.1 0) := by
    rw [hkA]
    show upd ((k223 k).1.2 57) 0 ((k223 k).1.1 0) = _
    rw [f1.2 57 (Nat.zero_testBit _), f1.1 0 rfl, hk.2 57 rfl]
  have aq : ∀ j, j ≠ 57 → kA.2 j = (k223 k).1.2 j := fun j h3 => by
    rw [hkA]
    show (if j = 57 then upd ((k223 k).1.2 j) 0 ((k223 k).1.1 0) else (k223 k).1.2 j) = _
    exact if_neg h3
  have aj : ∀ j, 54 ≤ j → j ≤ 59 → j ≠ 57 → kA.2 j = kF.2 j := fun j h1 h2 h3 => by
    rw [aq j h3, f1.2 j (Nat.zero_testBit _)]
    refine hk.2 j ?_
    rcases (by omega : j = 54 ∨ j = 55 ∨ j = 56 ∨ j = 58 ∨ j = 59) with rfl | rfl | rfl | rfl | rfl <;> rfl
  have kj : ∀ j, 54 ≤ j → j ≤ 59 → (k266 kA).1.2 j = kA.2 j := fun j h1 h2 => f2.2 j (by rcases (by omega : j = 54 ∨ j = 55 ∨ j = 56 ∨ j = 57 ∨ j = 58 ∨ j = 59) with rfl | rfl | rfl | rfl | rfl | rfl <;> rfl)
  have k53 : (k266 kA).1.1 53 = xn N := (f2.1 53 (Nat.zero_testBit _)).trans a53
  have k8 : (k266 kA).1.1 8 = 0 := by
    rw [f2.1 8 (Nat.zero_testBit _), hkA]
    exact h8
  have F8 : kF.1 8 = 0 := (hk.1 8 rfl).symm.trans n8
  have F53 : kF.1 53 = xn N := (hk.1 53 rfl).symm.trans h53
  rw [e122]
  have hS : sh [g'] = shF g' :: [] := rfl
  rw [hS] at hfb
  have fbE : FB (c38_32 (c80 s).1).1 (k266 kA).1 [] := FB.fin (v := k.1 0) (x0 := 0) hfb hg hgp (fun q hq => absurd hq List.not_mem_nil) (fun x j _ _ h => (eb x j).trans (hb x j h)) ((eb _ 6).trans hb6) (fun _ => F8) (k53.trans F53.symm) (fun j h1 h2 h3 => (kj j h1 h2).trans (aj j h1 h2 h3)) ((kj 57 (by decide) (by decide)).trans a57)
  refine ⟨fun x hx => ?_, fun h68 hfl => ?_⟩
  · obtain ⟨⟨q2, q3, q4, q5, q8⟩, q6, q7⟩ := fbE.1 k8 x hx
    exact ⟨q3, q4, q5, q6 (fun q hq => absurd hq List.not_mem_nil), q7, q8, q2, fbE.2 k8 x hx⟩
  · have a68 : kA.1 68 = (k223 k).1.1 68 := by rw [hkA]; rfl
    have c53 : kA.1 53 = (k223 k).1.1 53 := by rw [hkA]; rfl
    rw [f2.1 68 (Nat.zero_testBit _), a68] at h68
    refine ck_fin (N := N) (hnc.fin1 hrn hsz hbl hgp hkd) h8 h68 (fun x hx => ?_) (fun x => c38_i.1) (fun x => c38_i.2.1) hN ((f1.1 53 rfl).trans h53) c53 a68 (fun j hj => aq j (by omega))
    have z := hfl x (by rw [k53, ← a53, c53]; exact hx)
    rw [c38_i.1] at z
    exact z
theorem ok_fin {b : Nat} {X : List xF} (h : OU b s k X) (hn : NB s k X) (hb : b ≤ 800000) (hx : (k175_122 (k223 k).1).1.1 53 ≠ 0) (h53 : (k175_122 (k223 k).1).1.1 53 = k.1 53) : OK (c38_32 (c80 s).1).1 (k175_122 (k223 k).1).1 := by
  obtain ⟨E, N, c, o1, ⟨o2, -⟩, o3, o4, o5, o6, o7, -⟩ := h
  have f1 := fr_k223 k
  have f2 := fr_k175_122 (k223 k).1
  have ea : ∀ j, j = 63 ∨ j = 64 ∨ j = 65 ∨ j = 66 ∨ j = 67 → (k175_122 (k223 k).1).1.2 j = k.2 j := fun j hj => by
    rcases hj with rfl | rfl | rfl | rfl | rfl <;> exact (f2.2 _ rfl).trans (f1.2 _ (Nat.zero_testBit _))
  have eu : ∀ x, (c38_32 (c80 s).1).1.r (.u x) = s.r (.u x) ∧ (c38_32 (c80 s).1).1.c (.u x) = s.c (.u x) := fun x => ⟨c38_u.1.trans ((fr_c80 s).ou rfl x).1, c38_u.2.1.trans ((fr_c80 s).ou rfl x).2⟩
  refine ⟨E, N, h53.trans o1, o2, ?_, by omega, o5, fun _ => ⟨((f2.1 62 rfl).trans (f1.1 62 rfl)).trans o6.1, fun i q hq => ?_⟩, fun x hx => ⟨(o7 x hx).1.same (eu _).1 (eu _).2, by rw [ea 67 (by decide)]; exact (o7 x hx).2⟩⟩
  · rw [(c38_u (x := 0)).2.2, (fr_c80 s).1 6 1 (by decide) rfl]
    have z := hn.2.2
    rw [hn.1, o1, xn_i (by omega)] at z
    exact z
  · rw [ea 63 (by decide), ea 64 (by decide), ea 65 (by decide), ea 66 (by decide)]
    exact o6.2 i q hq
theorem cp_fin (hJ : JI L s k) (hL6 : L.length ≤ 600) (hr : CR s) (hT : ∃ n, ¬ (kwh k175b13 n (k178 (kbg k)).1).1 = 0) (e : c41 (cfix m) (c40 (c39 s).1).1 = some (s1, w)) : (c38_32 (c38f s1 w)).1.f 5 1 = (k175 k).1.1 53 ∧ (k175 k).1.1 0 = 0 ∧ ((k175 k).1.1 53 = 0 ∨ (OK (c38_32 (c38f s1 w)).1 (k175 k).1 ∧ FKr (c38_32 (c38f s1 w)).1 (k175 k).1 ∧ (((k175 k).1.1 68).toInt < 65536 → FL (c38_32 (c38f s1 w)).1 (k175 k).1 → CK (c38_32 (c38f s1 w)).1 (k175 k).1))) := by
  have z0 : (0 : Int32).toInt = 0 := rfl
  obtain ⟨b1, b2, b3⟩ := cp_beg hJ hL6 hr
  have hro : RO L 0 (0 + 4) (0 + 4) := by
    have := b2.le
    exact ⟨by omega, by omega⟩
  have hXB : XB X01 := ⟨_, [], (0, [], [], 0), [], rfl, rfl, rfl, by decide⟩
  have qc := (all_m (L := L) m).2.2.1.2.2.1 0 _ _ X01 0 0 0 b2 hXB b3 hro
  obtain ⟨n, hn⟩ := hT
  obtain ⟨jF, f1, f2⟩ := kw_kit n hn
  have hfin : (kfin k175b13 (k178 (kbg k)).1).2 = kit jF (k178 (kbg k)).1 := by rw [kfin_eq hn]; exact f1
  have e175 : k175 k = k175_9 (kbg k) := rfl
  have n8F : 0 ≤ (kit jF (k178 (kbg k)).1).1 8 := kit_n8 (by rw [(fr_k178 (kbg k)).1 8 rfl]; exact (show (0 : Int32) ≤ 0 from by decide))
  have s6F := kit_s6 (j := jF) (k := (k178 (kbg k)).1)
  have k60 : (k178 (kbg k)).1.1 6 = 0 := ((fr_k178 (kbg k)).1 6 rfl).trans rfl
  have bad : (∃ j, (kit j (k178 (kbg k)).1).1 6 ≠ 0) → (k175 k).1.1 53 = 0 ∧ (k175 k).1.1 0 = 0 := fun ⟨j, hj⟩ => by
    have hF : (kit jF (k178 (kbg k)).1).1 6 ≠ 0 := by
      rcases kit_two (j := j) f2 with q | ⟨d, q⟩
      · rw [← q]; exact hj
      · rw [q]
        rcases kit_s6 (j := d) (k := kit j (k178 (kbg k)).1) with u | ⟨u, -⟩
        · rw [u]; exact hj
        · exact absurd u hj
    have hP : 0 < (kit jF (k178 (kbg k)).1).1 6 := by
      rcases s6F with u | ⟨-, u⟩
      · exact absurd (u.trans k60) hF
      · exact u
    rw [e175]
    unfold k175_9
    rw [hfin, if_pos hF]
    exact k98_bad hP n8F
  have thr : ∀ s', (c38_32 (c38f s' none)).1.f 5 1 = 0 := fun s' => by
    rw [c38_5]
    show (if (c40 s').1.f 1 0 = 0 then (c40 s').1.f 5 1 else 0) = 0
    split
    · exact nf_at
    · rfl
  have ec : c41 (cfix m) (c40 (c39 s).1).1 = rbd (cfix m 52 (nb (c46 (bgs s) (-1)).1 (c46 (bgs s) (-1)).2 5 1) 0 0 0 0 0 0 0) (fun s8 w6 => c41_48 (cfix m) s8 (c46 (bgs s) (-1)).2) := rfl
  rw [ec, b1] at e
  cases hb : cfix m 52 (nb (c46 (bgs s) (-1)).1 1 5 1) 0 0 0 0 0 0 0 with
  | none => rw [hb] at e; cases e
  | some p =>
    obtain ⟨s8, o8⟩ := p
    obtain ⟨q1, q2⟩ := qc s8 o8 hb
    cases o8 with
    | none =>
      rw [rbd_n hb] at e
      cases e
      obtain ⟨z1, z2⟩ := bad (q2 rfl)
      exact ⟨(thr _).trans z1.symm, z2, Or.inl z1⟩
    | some x8 =>
      rw [rbd_s hb] at e
      unfold c41_48 at e
      obtain ⟨j, hj⟩ := q1 x8 rfl
      rcases hj with ⟨a8, X8, u1, u2, u3⟩ | ⟨u1, u2⟩
      · have hkj : kit j (k178 (kbg k)).1 = kit jF (k178 (kbg k)).1 := by
          have hj0 : (kit j (k178 (kbg k)).1).1 10 ≤ 0 := by rw [u2.2.1.1]; decide
          rcases kit_two (j := j) f2 with q | ⟨d, q⟩
          · exact q
          · rw [q]
            exact (kit_stop hj0).symm
        rw [hkj] at u2
        generalize hkF : kit jF (k178 (kbg k)).1 = kF at u2 hfin n8F f2
        have w6 : kF.1 6 = 0 := u2.1.1.2.2.2.2
        have w0 : kF.1 0 = xn L.length := u2.1.1.2.1.1
        have w4 : kF.1 4 = xn a8 := u2.1.1.2.2.1.2.1
        have hle := u2.le
        rw [e175]
        unfold k175_9
        rw [hfin, if_neg (fun z => z w6)]
        by_cases hend : a8 = L.length
        · have c0 : c53 s8 = 0 := by
            rcases u2.1.1.kd with ⟨q, q1, -⟩ | ⟨-, q2, -⟩
            · exact absurd (lt_of q1) (by omega)
            · exact q2
          have e65 : c65 s8 0 = (s8, some 0) := by
            unfold c65
            rw [if_pos (show tg s8 (.s 3) (s8.f 2 2) 0 = 0 from c0)]
          rw [e65, rbd_th (w := 0) rfl] at e
          have hs1 : s1 = (c80 (c78 (nb s8 1 6 (c35 s8)) 45 0 0 (c35 (nb s8 1 6 (c35 s8)))).1).1 ∧ w = some 0 := by
            have e' : some ((c80 (c78 (nb s8 1 6 (c35 s8)) 45 0 0 (c35 (nb s8 1 6 (c35 s8)))).1).1, some (0 : Int32)) = some (s1, w) := e
            cases e'
            exact ⟨rfl, rfl⟩
          rw [if_pos (by rw [w0, w4, hend, i_le]; exact Int.le_refl _)]
          unfold k175_98
          rw [if_neg (fun z => z w6)]
          unfold k175_117
          have cb : cFr 0 0 64 20 s8 (c78 (nb s8 1 6 (c35 s8)) 45 0 0 (c35 (nb s8 1 6 (c35 s8)))).1 := cFr.trans (cFr.mono (show cFr 0 0 64 0 s8 (nb s8 1 6 (c35 s8)) from cFr.refl.sb rfl) rfl rfl rfl rfl) (cFr.mono (fr_c78 (nb s8 1 6 (c35 s8)) 45 0 0 (c35 (nb s8 1 6 (c35 s8)))) rfl rfl rfl rfl)
          have fN := fr_k189 kF 45 0 0 (kF.1 0)
          have r9 := u2.rn cb fN
          have o9 := u2.ou cb fN
          have hSZ := u2.SZ
          have hbl := u2.bl.1
          have rn0 := u2.rn cb (kFr.refl (F := 0) (A := 0))
          have ew : s8.r (.s 3) = xn L.length := xn_eq u2.1.1.1.1.1 (by have := u2.1.1.1.2.1; omega)
          have ec5 : c35 (nb s8 1 6 (c35 s8)) = kF.1 0 := by
            rw [w0, ← ew]
            rfl
          have nc9 : NR 0 ([], []) [] (c78 (nb s8 1 6 (c35 s8)) 45 0 0 (c35 (nb s8 1 6 (c35 s8)))).1 (k189 kF 45 0 0 (kF.1 0)).1 X8 := by
            have q0 : NR 0 ([], []) [] (nb s8 1 6 (c35 s8)) kF X8 := NR.fr0 u2.nc (show cFr 0 0 64 0 s8 (nb s8 1 6 (c35 s8)) from cFr.refl.sb rfl) (kFr.refl (F := 0) (A := 0)) rfl rfl rfl rfl id (fun z => absurd z (by decide))
            have q := NR.put' (x := 45) (y := 0) (z := 0) (u := kF.1 0) (q0.cle (a := 45) (b := 0) (c := 0) (e := c35 (nb s8 1 6 (c35 s8)))) rn0 u2.ne hSZ u2.1.k53
            exact q.de0 (by rw [ec5])
          have fb9 := u2.fb
          have hb9 : ∀ x j, (j ≠ 6 ∨ x ≠ 1) → (c78 (nb s8 1 6 (c35 s8)) 45 0 0 (c35 (nb s8 1 6 (c35 s8)))).1.b x j = s8.b x j := fun x j h => by
            rw [(fr_c78 (nb s8 1 6 (c35 s8)) 45 0 0 (c35 (nb s8 1 6 (c35 s8)))).2.2.1 x j (Nat.zero_testBit _)]
            show (if x = 1 then upd (s8.b x) 6 (c35 s8) else s8.b x) j = _
            by_cases c1 : x = 1
            · rw [if_pos c1]
              exact if_neg (h.elim id (fun z => absurd c1 z))
            · rw [if_neg c1]
          have hb69 : (c78 (nb s8 1 6 (c35 s8)) 45 0 0 (c35 (nb s8 1 6 (c35 s8)))).1.b 1 6 = (k189 kF 45 0 0 (kF.1 0)).1.1 0 := by
            rw [(fr_c78 (nb s8 1 6 (c35 s8)) 45 0 0 (c35 (nb s8 1 6 (c35 s8)))).2.2.1 1 6 (Nat.zero_testBit _), fN.1 0 rfl, w0, ← ew]
            rfl
          have n9 : 0 ≤ (k189 kF 45 0 0 (kF.1 0)).1.1 8 := by rw [(fr_k189 kF 45 0 0 (kF.1 0)).1 8 rfl]; exact n8F
          have s9 : (k189 kF 45 0 0 (kF.1 0)).1.1 6 = 0 := ((fr_k189 kF 45 0 0 (kF.1 0)).1 6 rfl).trans w6
          have ef : ∀ s' : cS, c38f s' (some 0) = s' := fun _ => rfl
          rw [hs1.2, hs1.1, ef]
          generalize (c78 (nb s8 1 6 (c35 s8)) 45 0 0 (c35 (nb s8 1 6 (c35 s8)))).1 = s10 at r9 o9 nc9 hb9 hb69
          generalize (k189 kF 45 0 0 (kF.1 0)).1 = kN at r9 o9 nc9 hb69 fN n9 s9
          obtain ⟨g, g', r', l, d, d', ds, v1, v2, ⟨v3, v4, v5⟩, v6, ⟨v7, v8, v9, v10⟩, v11⟩ := u3
          cases v1
          cases v7
          rw [v2] at r9 o9 hSZ fb9 nc9
          obtain ⟨p1, p2⟩ := r9.2.1.los hSZ v8
          have wb := (RE.of r9).wb v8
          have hb0 := (wb.2.2.2.1 rfl).1
          have x2 := c80_f r9.1 hSZ v8 v4 hb0
          have fa : FA s10 kN [g'] := r9.2.2.2.1
          have hov : ovX [g'] ↔ ∃ q ∈ d'.2.2.1, ovr d'.2.1 q := by
            rw [ovX_c, v8, ovB_c]
            have o1 : ¬ ovB [] := fun ⟨_, hg, _⟩ => absurd hg List.not_mem_nil
            have o2 : ¬ ovX [] := fun ⟨_, hg, _⟩ => absurd hg List.not_mem_nil
            constructor
            · rintro ((z | z) | z)
              · exact z
              · exact absurd z o1
              · exact absurd z o2
            · intro z
              exact Or.inl (Or.inl z)
          have hlm : ¬ lmX [g'] := fun ⟨q, hq, z⟩ => by
            rcases List.mem_cons.mp hq with e1 | e1
            · rw [e1] at z
              exact z.1 v4
            · exact nomatch e1
          have hiff : (k223 kN).1.1 8 ≠ 0 ↔ (c80 s10).1.f 1 0 ≠ 0 := by
            rw [p2, x2, xcb_um]
            unfold FA at fa
            rw [hov] at fa
            constructor
            · rintro (z | z)
              · exact Or.inl (fa.mp (Or.inl z))
              · exact Or.inr z
            · rintro (z | z)
              · rcases fa.mpr z with y | y
                · exact Or.inl y
                · exact absurd y hlm
              · exact Or.inr z
          have m6 : (k223 kN).1.1 6 = 0 := ((fr_k223 kN).1 6 rfl).trans s9
          have m8 : 0 ≤ (k223 kN).1.1 8 := n8_k223 kN n9
          obtain ⟨t1, t2⟩ := k122_53 (k := (k223 kN).1) (by rw [m6]; decide) m8
          have hmain : (c38_32 (c80 s10).1).1.f 5 1 = (k175_122 (k223 kN).1).1.1 53 := ?_
          · refine ⟨hmain, t2, ?_⟩
            by_cases c : (k175_122 (k223 kN).1).1.1 53 = 0
            · exact Or.inl c
            · refine Or.inr ⟨ok_fin o9 r9.2.2.2.2 hbl (by rw [t1]; intro z; rw [t1] at c; exact c z) ?_, ?_⟩
              rotate_left
              · by_cases c' : (k223 kN).1.1 6 = 0 ∧ (k223 kN).1.1 8 = 0
                · obtain ⟨E9, N9, c9, o1, ⟨o2, -⟩, -⟩ := o9
                  have kn8 : kN.1 8 = 0 := Decidable.not_not.mp (fun z => p2.mpr (Or.inl z) c'.2)
                  exact fk_fin (N := N9) fb9 (v5.trans rfl) v4 (fun x j h => hb9 x j (h.imp id (fun z y => z (y.trans (v5.trans rfl).symm)))) (by rw [v5]; exact hb69) nc9 r9 hSZ v8 (by rw [v10]; decide) fN o2 o1 c'.1 c'.2 kn8
                · rw [t1, if_neg c'] at c
                  exact absurd rfl c
              rw [t1]
              by_cases c' : (k223 kN).1.1 6 = 0 ∧ (k223 kN).1.1 8 = 0
              · rw [if_pos c', (fr_k223 kN).1 53 rfl]
              · rw [t1, if_neg c'] at c
                exact absurd rfl c
          rw [t1, c38_5]
          have e5 : (c80 s10).1.f 5 1 = (k223 kN).1.1 53 := by
            rw [(fr_c80 s10).1 5 1 (by decide) rfl, (fr_k223 kN).1 53 rfl]
            exact r9.2.2.2.2.1
          by_cases c : (c80 s10).1.f 1 0 = 0
          · rw [if_pos c, if_pos ⟨m6, Decidable.not_not.mp (fun z => hiff.mp z c)⟩]
            exact e5
          · rw [if_neg c, if_neg (fun z => hiff.mpr c z.2)]
        · have c0 : c53 s8 ≠ 0 := fun z => by
            rcases u2.1.1.kd with ⟨q, q1, q2, q3, q4, q5, q6, q7⟩ | ⟨q1, -⟩
            · exact q6 (q2.symm.trans z)
            · exact hend q1
          have e65 : (c65 s8 0).2 = none := c65_no c0
          rw [rbd_thn e65] at e
          cases e
          rw [if_neg (by rw [w0, w4, i_le, xn_i (by omega), xn_i (by omega)]; omega)]
          unfold k175_97
          have p7 : (k194 kF 7).1.1 6 = 7 := by
            unfold k194
            rw [if_neg (fun z => z w6)]
            rfl
          have p8 : 0 ≤ (k194 kF 7).1.1 8 := by rw [(fr_k194 kF 7).1 8 rfl]; exact n8F
          obtain ⟨z1, z2⟩ := k98_bad (k := (k194 kF 7).1) (by rw [p7]; decide) p8
          exact ⟨(thr _).trans z1.symm, z2, Or.inl z1⟩
      · have c0 : c53 s8 ≠ 0 := fun z => u2 (Or.inl z)
        have e65 : (c65 s8 0).2 = none := c65_no c0
        rw [rbd_thn e65] at e
        cases e
        obtain ⟨z1, z2⟩ := bad ⟨j, u1⟩
        exact ⟨(thr _).trans z1.symm, z2, Or.inl z1⟩
end CME
