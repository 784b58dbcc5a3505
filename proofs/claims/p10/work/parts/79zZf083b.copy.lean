/-! THE CLASS: a table's array is made twice as long -/
/-- what a new array, filled, leaves -/
def Cp (aw : Nat) (S S1 : am_S) (a1 m : Nat) : Prop := a1 = S.1.length ∧ SH aw S1 ∧ Ex S S1 ∧ iv S1 = iv S ∧ (nw S1 = nw S ∧ os S1 = os S) ∧ EN S1 = EN S + 128 + m ∧ am_fs S1 = am_fs S ∧ am_arq S1 a1 = some (false, m) ∧ (∀ a' q, am_arq S a' = some q → am_arq S1 a' = some q) ∧ ∀ a', a' ≠ a1 → am_arf S1 a' = am_arf S a'
theorem ck_copy {sc : Nat × (Nat → Int32)} {d aw a n : Nat} {S : am_S} {m : Int32} (h : SH aw S) (hA : am_arq S a = some (false, n)) (hn : n ≤ 8388616) (h1 : (n : Int) < m.toInt) (h2 : m.toInt ≤ 16777216) : am_E (am_PP sc) (d + 1) 32 0 [some (.ref a), some (.int m), none] [] S (am_N fun v S1 => ∃ a1, v = some (.ref a1) ∧ Cp aw S S1 a1 m.toNatClampNeg) := by
  have hm : m.toNatClampNeg = m.toInt.toNat := cl_toNat
  refine am_e1 (v := m) hi_32_0 rfl ?_
  refine am_e2 (v := a) hi_32_1 rfl ?_
  obtain ⟨z, hz, tz⟩ := of_nat (n := n) (by omega)
  refine am_e24 hi_32_2 hA hz ?_
  refine am_e13t hi_32_3 (am_cT (m := m.toInt) (n := z.toInt) rfl rfl (by simp only [am_cI]; omega)) ?_
  refine am_e1 (v := m) hi_32_14 rfl ?_
  have hneg : ¬ m < 0 := fun q => by
    have q2 := Int32.lt_iff_toInt_lt.mp q
    have e : (0 : Int32).toInt = 0 := rfl
    omega
  refine am_eg (pc' := 17) (ls' := [some (.ref a), some (.int m), none]) (st' := [.ref S.1.length]) (S1 := am_na S m.toNatClampNeg) hi_32_15 (by decide) (by simp only [am_do]; rw [if_pos ⟨hneg, by omega⟩]; rfl) ?_
  have hsh : SH aw (am_na S m.toNatClampNeg) := na_sh h
  have hA0 : am_arq (am_na S m.toNatClampNeg) a = some (false, n) := na_arq_old hA
  have hA1 : am_arq (am_na S m.toNatClampNeg) S.1.length = some (false, m.toNatClampNeg) := na_arq_new
  refine am_e4 (ls' := [some (.ref a), some (.int m), some (.ref S.1.length)]) hi_32_17 (Nat.le_of_ble_eq_true rfl) rfl ?_
  refine am_e2 (v := a) hi_32_18 rfl ?_
  refine am_e0 hi_32_19 ?_
  refine am_e2 (v := S.1.length) hi_32_20 rfl ?_
  refine am_e0 hi_32_21 ?_
  refine am_e2 (v := a) hi_32_22 rfl ?_
  refine am_e24 hi_32_23 hA0 hz ?_
  refine am_e1 (v := m) hi_32_24 rfl ?_
  refine am_e32n (as := [.int z, .int m]) (la := [some (.int z), some (.int m)]) (rest := [.int 0, .ref S.1.length, .int 0, .ref a]) hi_32_25 (am_hd0 (M := 32) (by decide) 25) (Nat.le_of_ble_eq_true rfl) (Nat.le_of_ble_eq_true rfl) (show 2 ≤ am_P0.2.2.1 24 from by decide +kernel) rfl rfl rfl rfl (ck_min (d := d) hsh) ?_
  rintro v S1 ⟨r, rfl, rfl, q1, q2, q3⟩
  show am_E _ _ _ _ [some (.ref a), some (.int m), some (.ref S.1.length)] [.int r, .int 0, .ref S.1.length, .int 0, .ref a] _ _
  have hr : r.toInt = n := by omega
  have hrn : r.toNatClampNeg = n := by rw [cl_toNat]; omega
  have hrneg : ¬ r < 0 := fun q => by
    have q2 := Int32.lt_iff_toInt_lt.mp q
    have e : (0 : Int32).toInt = 0 := rfl
    omega
  refine am_eg (pc' := 31) (ls' := [some (.ref a), some (.int m), some (.ref S.1.length)]) (st' := []) (S1 := am_sa (am_na S m.toNatClampNeg) S.1.length m.toNatClampNeg (va_cpy (am_arf (am_na S m.toNatClampNeg) a) (am_arf (am_na S m.toNatClampNeg) S.1.length) (0 : Int32).toNatClampNeg (0 : Int32).toNatClampNeg r.toNatClampNeg)) hi_32_28 (by decide) (by
    simp only [am_do, am_arq_ok hA0, am_arq_ok hA1]
    rw [if_pos ⟨by decide, by decide, hrneg, by show (0 : Int32).toNatClampNeg + _ ≤ n; rw [hrn, show (0 : Int32).toNatClampNeg = 0 from rfl]; omega, by show (0 : Int32).toNatClampNeg + _ ≤ _; rw [hrn, show (0 : Int32).toNatClampNeg = 0 from rfl]; omega, by omega, by decide⟩]
    rfl) ?_
  refine am_e2 (v := S.1.length) hi_32_31 rfl ?_
  refine am_e34 hi_32_32 ⟨S.1.length, rfl, rfl, sa_sh hA1 hsh, ?_, ?_, ?_, ?_, ?_, ?_, fun a' q hq => ?_, fun a' ha' => ?_⟩
  · refine Ex.trans (na_ex.resolve_right (by have := h.2; omega)) (sa_ex hA1 (Or.inr h.2))
  · rw [sa_iv hA1, na_iv]
  · exact ⟨by rw [sa_nw hA1, na_nw], (sa_os hA1).trans na_os⟩
  · rw [sa_en hA1, na_en h]
  · rw [sa_fs hA1, na_fs]
  · rw [sa_arq hA1]; exact hA1
  · rw [sa_arq hA1]; exact na_arq_old hq
  · rw [sa_arf hA1 ha', na_arf_old ha']
theorem ta_grow {aw t a n a1 m : Nat} {S S1 : am_S} {r : Int32} (h : SH aw S) (ht : am_fs S t = some (3, [.ref a, .int r])) (hA : am_arq S a = some (false, n)) (h3 : t ≠ 3) (hc : Cp aw S S1 a1 m) (hm : m = 2 * n) (h32 : 32 ≤ n) (hn : n ≤ 4194308) (h0 : 0 ≤ r.toInt) (hr : 4 * r.toInt ≤ n) (hr2 : (n : Int) < 4 * r.toInt + 4) :
    Qu aw 128 S (am_so S1 t (3, [.ref a1, .int r])) ∧ (∀ j, cl (am_fs S) j = some 3 → iv (am_so S1 t (3, [.ref a1, .int r])) j 1 = iv S j 1) ∧ am_fs (am_so S1 t (3, [.ref a1, .int r])) t = some (3, [.ref a1, .int r]) ∧ am_arq (am_so S1 t (3, [.ref a1, .int r])) a1 = some (false, m) ∧ a1 ≠ aw ∧ 94 ≤ a1 := by
  obtain ⟨c1, c2, c3, c4, ⟨c5, c5o⟩, c6, c7, c8, c9, c10⟩ := hc
  have ht1 : am_fs S1 t = some (3, [.ref a, .int r]) := by rw [c7]; exact ht
  obtain ⟨rw3, haw⟩ := h.1.aw
  obtain ⟨n3, hA3, -⟩ := h.1.tb 3 aw rw3 haw
  have hne : a1 ≠ aw := fun e => by
    have h5 : am_arq S aw = none := by
      unfold am_arq
      rw [na_none (by omega)]
    rw [h5] at hA3
    cases hA3
  have h94 : 94 ≤ a1 := by rw [c1]; exact h.2
  have hA1 : am_arq S1 a = some (false, n) := c9 _ _ hA
  have hiv : ∀ j i, iv (am_so S1 t (3, [.ref a1, .int r])) j i = iv S j i ∨ (j = t ∧ i ≠ 1) := by
    intro j i
    by_cases e : j = t
    · by_cases e1 : i = 1
      · left
        subst e e1
        have e2 : iv S j 1 = r.toInt := by unfold iv; rw [ht]; rfl
        rw [e2]
        unfold iv
        rw [so_fs ht1, c_set_eq]
        rfl
      · exact Or.inr ⟨e, e1⟩
    · left
      rw [iv_so ht1 e, c4]
  have hiv1 : ∀ j, iv (am_so S1 t (3, [.ref a1, .int r])) j 1 = iv S j 1 := fun j => (hiv j 1).resolve_right (fun q => q.2 rfl)
  have nk : ∀ j c', cl (am_fs S) j = some c' → c' ≠ 3 → j ≠ t := fun j c' h6 h5 e => by
    subst e
    rw [cl_mk ht] at h6
    exact h5 (Option.some.inj h6).symm
  have n2 : (2 : Nat) ≠ t := nk 2 2 (h.1.s (2, 2) (by decide)) (by decide)
  have n12 : (12 : Nat) ≠ t := nk 12 7 (h.1.s (12, 7) (by decide)) (by decide)
  have knw : nw (am_so S1 t (3, [.ref a1, .int r])) = nw S := by
    have e : nw (am_so S1 t (3, [.ref a1, .int r])) = nw S1 := by
      unfold nw
      rw [so_fs ht1, c_set_ne n12]
    rw [e, c5]
  have nn := nk _ 8 h.nwc (by decide)
  have hlt : aw < S.1.length := am_ltl (am_arq_ok hA3)
  refine ⟨⟨⟨?_, ?_⟩, ?_, ⟨?_, ?_, hiv1 3, ?_⟩, ⟨(so_os ht1 (nk 5 4 (h.1.s (5, 4) (by decide)) (by decide)) (nk 6 5 (h.1.s (6, 5) (by decide)) (by decide)) (nk 13 5 (h.1.s (13, 5) (by decide)) (by decide))).trans c5o, knw, ?_⟩, ?_⟩, fun j _ => hiv1 j, ?_, ?_, hne, h94⟩
  · rw [so_fs ht1, so_arq ht1, so_rar ht1, so_rrf ht1]
    have := c2.1.tab (t := t) (a := a1) (n := m) (r := r) ht1 c8 (Or.inr h94) h0 (by omega) (by omega) (by omega) (by rw [if_neg h3]; exact hne) (fun q => absurd q h3)
    rw [if_neg h3] at this
    exact this
  · rw [so_len]
    exact c2.2
  · exact c3.trans (so_ex ht1 (by decide) (fun j c' fs' hj => c2.1.rf j c' fs' hj))
  · exact (hiv 2 2).resolve_right (fun q => n2 q.1)
  · exact (hiv 2 3).resolve_right (fun q => n2 q.1)
  · funext i
    unfold kA
    rw [show wr (am_so S1 t (3, [.ref a1, .int r])) = wr S from hiv1 3, so_arf ht1, c10 aw (by omega)]
  · unfold fl
    rw [knw]
    exact (hiv _ 9).resolve_right (fun q => nn q.1)
  · have hs := c_sum_upd (k := t) (f := c_phi (am_fs S1) (am_arq S1)) (f' := c_phi (c_set (am_fs S1) t (3, [.ref a1, .int r])) (am_arq S1)) _ (am_ltl (am_fs_ok ht1)) (fun j hj => by unfold c_phi; rw [c_set_ne hj])
    rw [c_phi_tab ht1 hA1, c_phi_tab (F := c_set (am_fs S1) t (3, [.ref a1, .int r])) c_set_eq c8] at hs
    have h8 := hiv1 8
    have h10 := hiv1 10
    have e8 : iv S1 8 1 = iv S 8 1 := by rw [c4]
    have e10 : iv S1 10 1 = iv S 10 1 := by rw [c4]
    have hE : EN (am_so S1 t (3, [.ref a1, .int r])) = EN S1 - (if 32 * r.toInt - 4 * (n : Int) ≤ 0 then 0 else 32 * r.toInt - 4 * (n : Int)) + (if 32 * r.toInt - 4 * (m : Int) ≤ 0 then 0 else 32 * r.toInt - 4 * (m : Int)) := by
      unfold EN
      rw [so_fs ht1, so_arq ht1, so_len, hs, h8, h10, e8, e10]
      show 128 * (S1.2.1 : Int) + S1.2.2 + _ + _ + _ = _
      omega
    rw [hE, c6]
    split <;> split <;> omega
  · rw [so_fs ht1, c_set_eq]
  · rw [so_arq ht1]
    exact c8
