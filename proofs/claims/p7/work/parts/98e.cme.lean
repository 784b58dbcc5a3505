/-! COMPILE ON BOTH SIDES: the end -/
section CME
variable {L : List xR} {s s1 : cS} {k : kS} {m : Nat} {w : Option Int32}
theorem kst_stop (h : k.1 10 ≤ 0) : kst k = k := by
  unfold kst k175b13
  rw [if_pos h]
theorem kit_stop (h : k.1 10 ≤ 0) : ∀ {j : Nat}, kit j k = k := by
  intro j
  induction j with
  | zero => rfl
  | succ j ih =>
    show kit j (kst k) = k
    rw [kst_stop h]
    exact ih
theorem kw_kit : ∀ (m : Nat) {k : kS}, ¬ (kwh k175b13 m k).1 = 0 → ∃ j, (kwh k175b13 m k).2 = kit j k ∧ (kit j k).1 10 ≤ 0 := by
  intro m
  induction m with
  | zero => intro k h; exact absurd rfl h
  | succ m ih =>
    intro k h
    by_cases c : (k175b13 k).1 = 0
    · rw [kwh_go c] at h ⊢
      obtain ⟨j, j1, j2⟩ := ih h
      exact ⟨j + 1, j1, j2⟩
    · rw [kwh_out c]
      by_cases d : k.1 10 ≤ 0
      · have e : k175b13 k = (1, k) := by
          unfold k175b13
          rw [if_pos d]
        exact ⟨0, by rw [e]; rfl, d⟩
      · exfalso
        apply c
        unfold k175b13
        rw [if_neg d]
theorem kit_two {i j : Nat} (hi : (kit i k).1 10 ≤ 0) : kit j k = kit i k ∨ ∃ d, kit i k = kit d (kit j k) := by
  rcases Nat.le_total i j with h | h
  · left
    obtain ⟨d, rfl⟩ := Nat.exists_eq_add_of_le h
    rw [kit_add]
    exact kit_stop hi
  · right
    obtain ⟨d, rfl⟩ := Nat.exists_eq_add_of_le h
    exact ⟨d, kit_add⟩
theorem c38_5 : (c38_32 s).1.f 5 1 = if s.f 1 0 = 0 then s.f 5 1 else 0 := by
  unfold c38_32
  by_cases c : s.f 1 0 = 0
  · have c' : c152 s = 0 := c
    rw [if_neg (fun z => z c'), if_pos c', if_pos c]
    show (tct (nf s 0 5 (c35 s)) (.s 3) 0).f 5 1 = _
    rw [tct_o.1, nf_ne (by decide)]
  · have c' : c152 s ≠ 0 := c
    rw [if_pos c', if_neg c', if_neg c]
    exact nf_at
theorem tct_z2 {t : cT} (h : 0 ≤ ((tct s t 0).r t).toInt) : ((tct s t 0).r t).toInt = 0 := by
  have z0 : (0 : Int32).toInt = 0 := rfl
  unfold tct at h ⊢
  rw [if_neg (by decide)] at h ⊢
  by_cases c : s.r t ≤ 0
  · rw [if_pos c] at h ⊢
    rw [i_le] at c
    omega
  · rw [if_neg c, nt_r]
    rfl
theorem c38_3 (h : 0 ≤ ((c38_32 s).1.r (.s 3)).toInt) : TR (c38_32 s).1 (.s 3) [] := by
  refine ⟨?_, fun i q hq => nomatch hq⟩
  show ((c38_32 s).1.r (.s 3)).toInt = 0
  unfold c38_32 at h ⊢
  by_cases c : c152 s ≠ 0
  · rw [if_pos c, if_neg c] at h ⊢
    exact tct_z2 (s := nf s 0 5 (c153 s)) (t := .s 3) h
  · rw [if_neg c, if_pos (Decidable.not_not.mp c)] at h ⊢
    exact tct_z2 (s := nf s 0 5 (c35 s)) (t := .s 3) h
theorem i0_le {x : Int32} (h : 0 ≤ x) : x ≤ 0 ↔ x = 0 := by
  rw [i_le] at h
  constructor
  · intro z
    rw [i_le] at z
    exact Int32.toInt_inj.mp (by omega)
  · intro z
    rw [z, i_le]
    exact Int.le_refl _
theorem k174_53 {y1 z0 : Int32} (h : 0 ≤ y1) : (k175_174 k y1 z0).1.1 53 = (if y1 = 0 then k.1 53 else 0) ∧ (k175_174 k y1 z0).1.1 0 = 0 := by
  unfold k175_174 k175_205 k175_216
  by_cases c : y1 = 0
  · have c' : y1 ≤ 0 := (i0_le h).mpr c
    rw [if_pos c', if_neg (fun z => z c), if_pos c', if_pos c]
    exact ⟨(fr_k266 _).1 53 rfl, (fr_k266 _).1 0 rfl⟩
  · have c' : ¬ y1 ≤ 0 := fun z => c ((i0_le h).mp z)
    rw [if_neg c', if_pos c, if_neg c', if_neg c]
    exact ⟨rfl, rfl⟩
theorem k122_53 (h6 : 0 ≤ k.1 6) (h8 : 0 ≤ k.1 8) : (k175_122 k).1.1 53 = (if k.1 6 = 0 ∧ k.1 8 = 0 then k.1 53 else 0) ∧ (k175_122 k).1.1 0 = 0 := by
  have k140 : ∀ y, 0 ≤ y → (k175_140 k y).1.1 53 = (if y = 0 then k.1 53 else 0) ∧ (k175_140 k y).1.1 0 = 0 := fun y hy => by
    unfold k175_140
    split
    · split
      · exact k174_53 hy
      · exact k174_53 hy
    · exact k174_53 hy
  unfold k175_122
  by_cases c : k.1 6 = 0
  · rw [if_pos ((i0_le h6).mpr c)]
    obtain ⟨a1, a2⟩ := k140 _ h8
    refine ⟨a1.trans ?_, a2⟩
    by_cases d : k.1 8 = 0
    · rw [if_pos d, if_pos ⟨c, d⟩]
    · rw [if_neg d, if_neg (fun z => d z.2)]
  · rw [if_neg (fun z => c ((i0_le h6).mp z))]
    obtain ⟨a1, a2⟩ := k140 _ h6
    exact ⟨a1.trans (by rw [if_neg c, if_neg (fun z => c z.1)]), a2⟩
theorem k98_bad (h6 : 0 < k.1 6) (h8 : 0 ≤ k.1 8) : (k175_98 k).1.1 53 = 0 ∧ (k175_98 k).1.1 0 = 0 := by
  have z0 : (0 : Int32).toInt = 0 := rfl
  have c : k.1 6 ≠ 0 := fun z => by
    rw [z, i_lt] at h6
    omega
  unfold k175_98
  rw [if_pos c]
  obtain ⟨a1, a2⟩ := k122_53 (k := k) (by rw [i_le]; rw [i_lt] at h6; omega) h8
  exact ⟨a1.trans (if_neg (fun z => c z.1)), a2⟩
theorem c38_u {x : Nat} : (c38_32 s).1.r (.u x) = s.r (.u x) ∧ (c38_32 s).1.c (.u x) = s.c (.u x) ∧ (c38_32 s).1.f 6 1 = s.f 6 1 := by
  have ne : ∀ b : Nat, cT.u x ≠ cT.s b := fun b z => by cases z
  unfold c38_32
  by_cases c : c152 s ≠ 0
  · rw [if_pos c, if_neg c]
    refine ⟨?_, ?_, ?_⟩
    · exact (tct_r (s := nf s 0 5 (c153 s)) (ne 3)).1
    · exact (tct_r (s := nf s 0 5 (c153 s)) (ne 3)).2
    · show (nf (tct (nf s 0 5 (c153 s)) (.s 3) 0) 5 1 0).f 6 1 = _
      rw [nf_ne (by decide), tct_o.1, nf_ne (by decide)]
  · rw [if_neg c, if_pos (Decidable.not_not.mp c)]
    refine ⟨(tct_r (s := nf s 0 5 (c35 s)) (ne 3)).1, (tct_r (s := nf s 0 5 (c35 s)) (ne 3)).2, ?_⟩
    show (tct (nf s 0 5 (c35 s)) (.s 3) 0).f 6 1 = _
    rw [tct_o.1, nf_ne (by decide)]
theorem ok_fin {b : Nat} {X : List xF} (h : OU b s k X) (hn : NB s k X) (hb : b ≤ 800000) (hx : (k175_122 (k223 k).1).1.1 53 ≠ 0) (h53 : (k175_122 (k223 k).1).1.1 53 = k.1 53) : OK (c38_32 (c80 s).1).1 (k175_122 (k223 k).1).1 := by
  obtain ⟨E, N, c, o1, ⟨o2, -⟩, o3, o4, o5, o6, o7, -⟩ := h
  have f1 := fr_k223 k
  have f2 := fr_k175_122 (k223 k).1
  have ea : ∀ j, j = 63 ∨ j = 64 ∨ j = 65 ∨ j = 66 ∨ j = 67 → (k175_122 (k223 k).1).1.2 j = k.2 j := fun j hj => by
    rcases hj with rfl | rfl | rfl | rfl | rfl <;> exact (f2.2 _ rfl).trans (f1.2 _ (Nat.zero_testBit _))
  have eu : ∀ x, (c38_32 (c80 s).1).1.r (.u x) = s.r (.u x) ∧ (c38_32 (c80 s).1).1.c (.u x) = s.c (.u x) := fun x => ⟨c38_u.1.trans ((fr_c80 s).ou rfl x).1, c38_u.2.1.trans ((fr_c80 s).ou rfl x).2⟩
  refine ⟨E, N, h53.trans o1, o2, ?_, by omega, o5, fun _ => ⟨((f2.1 62 rfl).trans (f1.1 62 rfl)).trans o6.1, fun i q hq => ?_⟩, fun x hx => ⟨(o7 x hx).1.same (eu _).1 (eu _).2, by rw [ea 67 (by decide)]; exact (o7 x hx).2⟩⟩
  · rw [(c38_u (x := 0)).2.2, (fr_c80 s).1 6 1 (by decide) rfl]
    have z := hn.2.2
    rw [hn.1, o1, xn_i (by omega)] at z
    exact z
  · rw [ea 63 (by decide), ea 64 (by decide), ea 65 (by decide), ea 66 (by decide)]
    exact o6.2 i q hq
theorem cp_fin (hJ : JI L s k) (hL6 : L.length ≤ 600) (hr : CR s) (hT : ∃ n, ¬ (kwh k175b13 n (k178 (kbg k)).1).1 = 0) (e : c41 (cfix m) (c40 (c39 s).1).1 = some (s1, w)) : (c38_32 (c38f s1 w)).1.f 5 1 = (k175 k).1.1 53 ∧ (k175 k).1.1 0 = 0 ∧ ((k175 k).1.1 53 = 0 ∨ OK (c38_32 (c38f s1 w)).1 (k175 k).1) := by
  have z0 : (0 : Int32).toInt = 0 := rfl
  obtain ⟨b1, b2, b3⟩ := cp_beg hJ hL6 hr
  have h52 := (all_m (L := L) m).2.2.1.2.2.1
  have hro : RO L 0 (0 + 4) (0 + 4) := by
    have := b2.le
    exact ⟨by omega, by omega⟩
  have hXB : XB X01 := ⟨_, [], (0, [], [], 0), [], rfl, rfl, rfl, by decide⟩
  have qc := h52 0 _ _ X01 0 0 0 b2 hXB b3 hro
  obtain ⟨n, hn⟩ := hT
  obtain ⟨jF, f1, f2⟩ := kw_kit n hn
  have hfin : (kfin k175b13 (k178 (kbg k)).1).2 = kit jF (k178 (kbg k)).1 := by rw [kfin_eq hn]; exact f1
  have e175 : k175 k = k175_9 (kbg k) := rfl
  have n8F : 0 ≤ (kit jF (k178 (kbg k)).1).1 8 := kit_n8 (by rw [(fr_k178 (kbg k)).1 8 rfl]; exact (show (0 : Int32) ≤ 0 from by decide))
  have s6F := kit_s6 (j := jF) (k := (k178 (kbg k)).1)
  have k60 : (k178 (kbg k)).1.1 6 = 0 := ((fr_k178 (kbg k)).1 6 rfl).trans rfl
  have bad : (∃ j, (kit j (k178 (kbg k)).1).1 6 ≠ 0) → (k175 k).1.1 53 = 0 ∧ (k175 k).1.1 0 = 0 := fun ⟨j, hj⟩ => by
    have hF : (kit jF (k178 (kbg k)).1).1 6 ≠ 0 := by
      rcases kit_two (j := j) f2 with q | ⟨d, q⟩
      · rw [← q]; exact hj
      · rw [q]
        rcases kit_s6 (j := d) (k := kit j (k178 (kbg k)).1) with u | ⟨u, -⟩
        · rw [u]; exact hj
        · exact absurd u hj
    have hP : 0 < (kit jF (k178 (kbg k)).1).1 6 := by
      rcases s6F with u | ⟨-, u⟩
      · exact absurd (u.trans k60) hF
      · exact u
    rw [e175]
    unfold k175_9
    rw [hfin, if_pos hF]
    exact k98_bad hP n8F
  have thr : ∀ s', (c38_32 (c38f s' none)).1.f 5 1 = 0 := fun s' => by
    rw [c38_5]
    show (if (c40 s').1.f 1 0 = 0 then (c40 s').1.f 5 1 else 0) = 0
    split
    · exact nf_at
    · rfl
  have ec : c41 (cfix m) (c40 (c39 s).1).1 = rbd (cfix m 52 (nb (c46 (bgs s) (-1)).1 (c46 (bgs s) (-1)).2 5 1) 0 0 0 0 0 0 0) (fun s8 w6 => c41_48 (cfix m) s8 (c46 (bgs s) (-1)).2) := rfl
  rw [ec, b1] at e
  cases hb : cfix m 52 (nb (c46 (bgs s) (-1)).1 1 5 1) 0 0 0 0 0 0 0 with
  | none => rw [hb] at e; cases e
  | some p =>
    obtain ⟨s8, o8⟩ := p
    obtain ⟨q1, q2⟩ := qc s8 o8 hb
    cases o8 with
    | none =>
      rw [rbd_n hb] at e
      cases e
      obtain ⟨z1, z2⟩ := bad (q2 rfl)
      exact ⟨(thr _).trans z1.symm, z2, Or.inl z1⟩
    | some x8 =>
      rw [rbd_s hb] at e
      unfold c41_48 at e
      obtain ⟨j, hj⟩ := q1 x8 rfl
      rcases hj with ⟨a8, X8, u1, u2, u3⟩ | ⟨u1, u2⟩
      · have hkj : kit j (k178 (kbg k)).1 = kit jF (k178 (kbg k)).1 := by
          have hj0 : (kit j (k178 (kbg k)).1).1 10 ≤ 0 := by rw [u2.2.1.1]; decide
          rcases kit_two (j := j) f2 with q | ⟨d, q⟩
          · exact q
          · rw [q]
            exact (kit_stop hj0).symm
        rw [hkj] at u2
        generalize hkF : kit jF (k178 (kbg k)).1 = kF at u2 hfin n8F f2
        have w6 : kF.1 6 = 0 := u2.1.1.2.2.2.2
        have w0 : kF.1 0 = xn L.length := u2.1.1.2.1.1
        have w4 : kF.1 4 = xn a8 := u2.1.1.2.2.1.2.1
        have hle := u2.le
        rw [e175]
        unfold k175_9
        rw [hfin, if_neg (fun z => z w6)]
        by_cases hend : a8 = L.length
        · have c0 : c53 s8 = 0 := by
            rcases u2.1.1.kd with ⟨q, q1, -⟩ | ⟨-, q2, -⟩
            · exact absurd (lt_of q1) (by omega)
            · exact q2
          have e65 : c65 s8 0 = (s8, some 0) := by
            unfold c65
            rw [if_pos (show tg s8 (.s 3) (s8.f 2 2) 0 = 0 from c0)]
          rw [e65, rbd_th (w := 0) rfl] at e
          have hs1 : s1 = (c80 (c78 (nb s8 1 6 (c35 s8)) 45 0 0 (c35 (nb s8 1 6 (c35 s8)))).1).1 ∧ w = some 0 := by
            have e' : some ((c80 (c78 (nb s8 1 6 (c35 s8)) 45 0 0 (c35 (nb s8 1 6 (c35 s8)))).1).1, some (0 : Int32)) = some (s1, w) := e
            cases e'
            exact ⟨rfl, rfl⟩
          rw [if_pos (by rw [w0, w4, hend, i_le]; exact Int.le_refl _)]
          unfold k175_98
          rw [if_neg (fun z => z w6)]
          unfold k175_117
          have cb : cFr 0 0 64 0 s8 (nb s8 1 6 (c35 s8)) := cFr.refl.sb rfl
          have h9 := ((u2.cl cb).cl (fr_c78 (nb s8 1 6 (c35 s8)) 45 0 0 (c35 (nb s8 1 6 (c35 s8))))).put (x := 45) (y := 0) (z := 0) (u := kF.1 0)
          have n9 : 0 ≤ (k189 kF 45 0 0 (kF.1 0)).1.1 8 := by rw [(fr_k189 kF 45 0 0 (kF.1 0)).1 8 rfl]; exact n8F
          have s9 : (k189 kF 45 0 0 (kF.1 0)).1.1 6 = 0 := ((fr_k189 kF 45 0 0 (kF.1 0)).1 6 rfl).trans w6
          have ef : ∀ s' : cS, c38f s' (some 0) = s' := fun _ => rfl
          rw [hs1.2, hs1.1, ef]
          generalize (c78 (nb s8 1 6 (c35 s8)) 45 0 0 (c35 (nb s8 1 6 (c35 s8)))).1 = s10 at h9
          generalize (k189 kF 45 0 0 (kF.1 0)).1 = kN at h9 n9 s9
          obtain ⟨g, g', r', l, d, d', ds, v1, v2, ⟨v3, v4, v5⟩, v6, ⟨v7, v8, v9, v10⟩, v11⟩ := u3
          cases v1
          cases v7
          rw [v2] at h9
          obtain ⟨p1, p2⟩ := h9.1.2.1.2.1.los h9.SZ v8
          have wb := (RE.of h9.1.2.1).wb v8
          have hb0 := (wb.2.2.2.1 rfl).1
          have x2 := c80_f h9.1.2.1.1 h9.SZ v8 v4 hb0
          have fa : FA s10 kN [g'] := h9.1.2.1.2.2.2.1
          have hov : ovX [g'] ↔ ∃ q ∈ d'.2.2.1, ovr d'.2.1 q := by
            rw [ovX_c, v8, ovB_c]
            have o1 : ¬ ovB [] := fun ⟨_, hg, _⟩ => absurd hg List.not_mem_nil
            have o2 : ¬ ovX [] := fun ⟨_, hg, _⟩ => absurd hg List.not_mem_nil
            constructor
            · rintro ((z | z) | z)
              · exact z
              · exact absurd z o1
              · exact absurd z o2
            · intro z
              exact Or.inl (Or.inl z)
          have hlm : ¬ lmX [g'] := fun ⟨q, hq, z⟩ => by
            rcases List.mem_cons.mp hq with e1 | e1
            · rw [e1] at z
              exact z.1 v4
            · exact nomatch e1
          have hiff : (k223 kN).1.1 8 ≠ 0 ↔ (c80 s10).1.f 1 0 ≠ 0 := by
            rw [p2, x2, xcb_um]
            unfold FA at fa
            rw [hov] at fa
            constructor
            · rintro (z | z)
              · exact Or.inl (fa.mp (Or.inl z))
              · exact Or.inr z
            · rintro (z | z)
              · rcases fa.mpr z with y | y
                · exact Or.inl y
                · exact absurd y hlm
              · exact Or.inr z
          have m6 : (k223 kN).1.1 6 = 0 := ((fr_k223 kN).1 6 rfl).trans s9
          have m8 : 0 ≤ (k223 kN).1.1 8 := n8_k223 kN n9
          obtain ⟨t1, t2⟩ := k122_53 (k := (k223 kN).1) (by rw [m6]; decide) m8
          have hmain : (c38_32 (c80 s10).1).1.f 5 1 = (k175_122 (k223 kN).1).1.1 53 := ?_
          · refine ⟨hmain, t2, ?_⟩
            by_cases c : (k175_122 (k223 kN).1).1.1 53 = 0
            · exact Or.inl c
            · refine Or.inr (ok_fin h9.1.2.2.2.2.2 h9.1.2.1.2.2.2.2 h9.bl.1 (by rw [t1]; intro z; rw [t1] at c; exact c z) ?_)
              rw [t1]
              by_cases c' : (k223 kN).1.1 6 = 0 ∧ (k223 kN).1.1 8 = 0
              · rw [if_pos c', (fr_k223 kN).1 53 rfl]
              · rw [t1, if_neg c'] at c
                exact absurd rfl c
          rw [t1, c38_5]
          have e5 : (c80 s10).1.f 5 1 = (k223 kN).1.1 53 := by
            rw [(fr_c80 s10).1 5 1 (by decide) rfl, (fr_k223 kN).1 53 rfl]
            exact h9.1.2.1.2.2.2.2.1
          by_cases c : (c80 s10).1.f 1 0 = 0
          · rw [if_pos c, if_pos ⟨m6, Decidable.not_not.mp (fun z => hiff.mp z c)⟩]
            exact e5
          · rw [if_neg c, if_neg (fun z => hiff.mpr c z.2)]
        · have c0 : c53 s8 ≠ 0 := fun z => by
            rcases u2.1.1.kd with ⟨q, q1, q2, q3, q4, q5, q6, q7⟩ | ⟨q1, -⟩
            · exact q6 (q2.symm.trans z)
            · exact hend q1
          have e65 : (c65 s8 0).2 = none := c65_no c0
          rw [rbd_thn e65] at e
          cases e
          rw [if_neg (by rw [w0, w4, i_le, xn_i (by omega), xn_i (by omega)]; omega)]
          unfold k175_97
          have p7 : (k194 kF 7).1.1 6 = 7 := by
            unfold k194
            rw [if_neg (fun z => z w6)]
            rfl
          have p8 : 0 ≤ (k194 kF 7).1.1 8 := by rw [(fr_k194 kF 7).1 8 rfl]; exact n8F
          obtain ⟨z1, z2⟩ := k98_bad (k := (k194 kF 7).1) (by rw [p7]; decide) p8
          exact ⟨(thr _).trans z1.symm, z2, Or.inl z1⟩
      · have c0 : c53 s8 ≠ 0 := fun z => u2 (Or.inl z)
        have e65 : (c65 s8 0).2 = none := c65_no c0
        rw [rbd_thn e65] at e
        cases e
        obtain ⟨z1, z2⟩ := bad ⟨j, u1⟩
        exact ⟨(thr _).trans z1.symm, z2, Or.inl z1⟩
end CME
