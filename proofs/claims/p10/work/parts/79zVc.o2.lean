/-! OUTERS: one function more has the local -/
section OU2
variable {s : cS} {k : kS} {E : List (Nat × oR)} {X Y : List xF} {g h : xF}
theorem tad_oth {t t' : cT} {l : List xR} {a b c d : Int32} (h : TR s t' l) (hn : t' ≠ t) : TR (tad s t a b c d).1 t' l := by
  unfold tad
  by_cases z : s.r t < 1048576
  · rw [if_pos z]
    exact h.same (nt_rn hn) (nt_cn hn)
  · rw [if_neg z]
    exact h
theorem tad_rn {t t' : cT} {a b c d : Int32} (hn : t' ≠ t) : (tad s t a b c d).1.r t' = s.r t' := by
  unfold tad
  by_cases z : s.r t < 1048576
  · rw [if_pos z]
    exact nt_rn hn
  · rw [if_neg z]
theorem cpr_kpr {kd x id : Int32} (hs : E.length ≤ 1000000) {c : Nat} (hk : (kL (h :: Y)).length ≤ 1000000) (hi : OI k E (g :: h :: Y)) (hd : IS k (kL (h :: Y)).length c) (ha : AT k E h Y kd x id) : fpl (kpr id) (oo E (g.1 - 1)) 0 = fpl (cpr kd x) ((oo E (g.1 - 1)).map (fun q => ((q.2.1, q.2.2, 0, 0) : xR))) 0 := by
  refine fpl_eq (f := fun (q : oR) => ((q.2.1, q.2.2, 0, 0) : xR)) (fun q hq => ?_)
  obtain ⟨h', r', e1, e2⟩ := hi.2.2.1 q hq
  cases e1
  have u := AT_uni hs hk hi.2.2.2 hd e2 ha
  unfold kpr cpr
  show decide (q.1 = id) = (decide (q.2.1 = kd) && decide (q.2.2 = x))
  rw [← Bool.decide_and]
  exact decide_eq_decide.mpr u
theorem OUE.stp {P : List xF} {b : Nat} {kd x id : Int32} (hO : OUE E b s k (P ++ g :: h :: Y)) (hb : b ≤ 1000000) (hd : DF (P ++ g :: h :: Y)) (hN : ∃ n, k.1 53 = xn n ∧ n ≤ 1000000 ∧ g.1 ≤ n) (hk : (kL (P ++ g :: h :: Y)).length ≤ 1000000) (ha : AT k E h Y kd x id) : ∃ E' m, OUE E' (b + 1) (c69 s g.1 kd x).1 (k207 k (xn (g.1 - 1)) id kd x).1 (P ++ g :: h :: Y) ∧ (c69 s g.1 kd x).2 = xn m ∧ (k207 k (xn (g.1 - 1)) id kd x).2 = xn m ∧ AT (k207 k (xn (g.1 - 1)) id kd x).1 E' g (h :: Y) 0 (xn m) id := by
  obtain ⟨N, c, o1, ⟨o2, on⟩, o3, o4, o5, o6, o7, o8, o9⟩ := hO
  obtain ⟨n, n1, n2, n3⟩ := hN
  have eN : N = n := xn_inj (by omega) (by omega) (o1.symm.trans n1)
  subst eN
  have hg : 1 ≤ g.1 := DF.ge hd g (List.mem_append_right _ List.mem_cons_self)
  have hi : OI k E (g :: h :: Y) := o8.app
  have hl1 : (kL (g :: h :: Y)).length ≤ (kL (P ++ g :: h :: Y)).length := kL_app
  have hl2 : (kL (h :: Y)).length ≤ (kL (g :: h :: Y)).length := kL_app (P := [g])
  have hp := cpr_kpr (by omega) (by omega) hi (o9.less (by omega)) ha
  have ht := (o7 (g.1 - 1) (by omega)).1
  have hg1 : g.1 - 1 + 1 = g.1 := by omega
  rw [hg1] at ht
  have hz : ((oo E (g.1 - 1)).map (fun q => ((q.2.1, q.2.2, 0, 0) : xR))).length ≤ 1000000 := by
    rw [List.length_map]
    have := oo_len (E := E) (n := g.1 - 1)
    omega
  have hE : ∀ q ∈ E, q.1 ≤ 1000000 := fun q hq => by have := o5 q hq; omega
  cases hf : fpl (kpr id) (oo E (g.1 - 1)) 0 with
  | some i =>
    have r1 := c69_yes ht hz (hp.symm.trans hf)
    have r2 := k207_yes (a := kd) (b := x) (by omega) o6 (by omega) hE hf
    obtain ⟨j, q, j1, j2, j3⟩ := fpl_some hf
    have ij : i = j := by omega
    subst ij
    refine ⟨E, i, ?_, by rw [r1], by rw [r2], ?_⟩
    · rw [r1, r2]
      exact ⟨N, c, o1, ⟨o2, on⟩, by omega, by omega, o5, o6, o7, o8, o9⟩
    · rw [r2]
      exact Or.inr ⟨rfl, i, q, rfl, j2, of_decide_eq_true j3⟩
  | none =>
    have r1 := c69_no ht hz (hp.symm.trans hf)
    have r2 := k207_no (a := kd) (b := x) (by omega) o6 (by omega) hE hf
    have hnew : id ∉ (oo E (g.1 - 1)).map (fun q => q.1) := fun z => by
      obtain ⟨q, q1, q2⟩ := List.mem_map.mp z
      have := fpl_none hf q q1
      exact absurd q2 (of_decide_eq_false this)
    obtain ⟨t1, t2⟩ := ht.add (a := kd) (b := x) (c := 0) (d := 0) (by omega)
    have hlen : ((oo E (g.1 - 1)).map (fun q => ((q.2.1, q.2.2, 0, 0) : xR))).length = (oo E (g.1 - 1)).length := List.length_map _
    have hlo : (oo E (g.1 - 1)).length ≤ 1000000 := by omega
    have hx : (xn (g.1 - 1)).toNatClampNeg = g.1 - 1 := by show (xn (g.1 - 1)).toInt.toNat = _; rw [xn_i (by omega)]; omega
    have a67 : (kad k (g.1 - 1) id kd x).2 67 = upd (k.2 67) (g.1 - 1) (k.2 67 (g.1 - 1) + 1) := by
      show upd (k.2 67) (xn (g.1 - 1)).toNatClampNeg (k.2 67 (xn (g.1 - 1)).toNatClampNeg + 1) = _
      rw [hx]
    refine ⟨E ++ [(g.1 - 1, id, kd, x)], (oo E (g.1 - 1)).length, ?_, ?_, by rw [r2], ?_⟩
    · rw [r1, r2]
      refine ⟨N, c, o1, ⟨o2, fun x hx => by rw [tad_rn (fun z => by have : x + 1 = g.1 := Sum.inr.inj (Sum.inr.inj z); omega)]; exact on x hx⟩, ?_, by omega, ?_, o6.add (by omega), ?_, ?_, o9⟩
      · rw [List.length_append]
        show E.length + 1 ≤ b + 1
        omega
      · intro q hq
        rcases List.mem_append.mp hq with hq | hq
        · exact o5 q hq
        · have : q = (g.1 - 1, id, kd, x) := by
            rcases List.mem_cons.mp hq with z | z
            · exact z
            · cases z
          subst this
          show g.1 - 1 < N
          omega
      · intro y hy
        obtain ⟨y1, y2⟩ := o7 y hy
        rw [a67]
        by_cases cy : g.1 - 1 = y
        · subst cy
          rw [oo_own, List.map_append, List.length_append]
          refine ⟨?_, ?_⟩
          · rw [hg1]
            exact t1
          · unfold upd
            rw [if_pos rfl, y2]
            exact xn_succ (by omega)
        · rw [oo_other cy]
          refine ⟨tad_oth y1 (fun z => ?_), ?_⟩
          · have : y + 1 = g.1 := Sum.inr.inj (Sum.inr.inj z)
            omega
          · unfold upd
            rw [if_neg (fun z => cy z.symm)]
            exact y2
      · exact OI.fr (o8.add hd ha hnew) rfl rfl
    · rw [r1]
      exact xn_eq (by rw [t2, hlen]) (by omega)
    · rw [r2]
      refine Or.inr ⟨rfl, (oo E (g.1 - 1)).length, (id, kd, x), rfl, ?_, rfl⟩
      rw [oo_own, List.getElem?_append_right (Nat.le_refl _), Nat.sub_self]
      rfl
end OU2
