/-! A GOAL IS POPPED AND RUN, WHATEVER IT IS (printed by wip/p2/run.py) -/
section POP
variable {f : Nat → Int32} {g : Nat → Nat → Int32} {gs : List mg_E} {bc : List (List Nat)} {z : Int32} {k on tw th : Int} {c : List Nat}
theorem pop_0 (h : RJ f g ((k, on, tw, th, c) :: gs) bc [] 0 []) (hz : z.toInt = (f 10).toInt - 1) (hk : ¬ k = 7 ∧ ¬ k = 9 ∧ ¬ k = 8 ∧ ¬ k = 4 ∧ ¬ k = 26) : RJ (upd f 10 z) g gs bc [] 0 [] := by
  obtain ⟨h7, h9, h8, h4, h26⟩ := hk
  have hp := rj_pop h hz
  have e1 : if k = 7 ∨ k = 9 then mj_c (g 71) c on else if k = 8 then mj_c (g 71) c tw else c = [] := hp.2.1
  rw [if_neg (by omega), if_neg h8] at e1
  subst e1
  have h1 := hp.1
  have e2 : mg_h (k, on, tw, th, []) = 0 := by
    show (if k = 7 ∨ k = 9 then on else if k = 8 then tw else 0) = 0
    rw [if_neg (by omega), if_neg h8]
  have e3 : mg_p (k, on, tw, th, []) = [] := by
    show (if k = 4 ∨ k = 8 ∨ k = 26 then [on.toNat] else []) = []
    rw [if_neg (by omega)]
  rw [e2, e3] at h1
  exact h1
theorem pop_7 (h : RJ f g ((k, on, tw, th, c) :: gs) bc [] 0 []) (hz : z.toInt = (f 10).toInt - 1) (hk : k = 7 ∨ k = 9) : RJ (upd f 10 z) g gs bc c on [] := by
  have hp := rj_pop h hz
  have h1 := hp.1
  have e2 : mg_h (k, on, tw, th, c) = on := by
    show (if k = 7 ∨ k = 9 then on else if k = 8 then tw else 0) = on
    rw [if_pos hk]
  have e3 : mg_p (k, on, tw, th, c) = [] := by
    show (if k = 4 ∨ k = 8 ∨ k = 26 then [on.toNat] else []) = []
    rw [if_neg (by omega)]
  rw [e2, e3] at h1
  exact h1
theorem pop_8 (h : RJ f g ((k, on, tw, th, c) :: gs) bc [] 0 []) (hz : z.toInt = (f 10).toInt - 1) (hk : k = 8) : RJ (upd f 10 z) g gs bc c tw [on.toNat] ∧ 0 ≤ on ∧ on < (f 68).toInt := by
  have hp := rj_pop h hz
  have h1 := hp.1
  have e2 : mg_h (k, on, tw, th, c) = tw := by
    show (if k = 7 ∨ k = 9 then on else if k = 8 then tw else 0) = tw
    rw [if_neg (by omega), if_pos hk]
  have e3 : mg_p (k, on, tw, th, c) = [on.toNat] := by
    show (if k = 4 ∨ k = 8 ∨ k = 26 then [on.toNat] else []) = [on.toNat]
    rw [if_pos (by omega)]
  rw [e2, e3] at h1
  have h2 := hp.2.2.1 (Or.inr (Or.inl hk))
  exact ⟨h1, h2.1, h2.2.1⟩
theorem pop_4 (h : RJ f g ((k, on, tw, th, c) :: gs) bc [] 0 []) (hz : z.toInt = (f 10).toInt - 1) (hk : k = 4 ∨ k = 26) : RJ (upd f 10 z) g gs bc [] 0 [on.toNat] ∧ 0 ≤ on ∧ on < (f 68).toInt := by
  have hp := rj_pop h hz
  have e1 : if k = 7 ∨ k = 9 then mj_c (g 71) c on else if k = 8 then mj_c (g 71) c tw else c = [] := hp.2.1
  rw [if_neg (by omega), if_neg (by omega)] at e1
  subst e1
  have h1 := hp.1
  have e2 : mg_h (k, on, tw, th, []) = 0 := by
    show (if k = 7 ∨ k = 9 then on else if k = 8 then tw else 0) = 0
    rw [if_neg (by omega), if_neg (by omega)]
  have e3 : mg_p (k, on, tw, th, []) = [on.toNat] := by
    show (if k = 4 ∨ k = 8 ∨ k = 26 then [on.toNat] else []) = [on.toNat]
    rw [if_pos (by omega)]
  rw [e2, e3] at h1
  have h2 := hp.2.2.1 (by show k = 4 ∨ k = 8 ∨ k = 26; omega)
  exact ⟨h1, h2.1, h2.2.1⟩
theorem pop_13 (h : RJ f g ((k, on, tw, th, c) :: gs) bc [] 0 []) (hz : z.toInt = (f 10).toInt - 1) (hk : k = 13 ∨ k = 15) : 0 ≤ on ∧ on < (f 68).toInt := (rj_pop h hz).2.2.2 hk
theorem pop_top {e : mg_E} (h : RJ f g (e :: gs) bc [] 0 []) (hz : z.toInt = (f 10).toInt - 1) : 0 ≤ z.toInt ∧ z.toInt ≤ mg_p3 gs := by
  have h1 := h.1.1
  have h2 := mg_p3_len gs
  rw [List.length_cons] at h1
  omega
end POP

theorem sq_1 {sc : Nat × (Nat → Int32)} {d : Nat} {S0 S : am_S} {f : Nat → Int32} {g : Nat → Nat → Int32} {gs : List mg_E} {bc : List (List Nat)} {c : List Nat} {z on tw th : Int32} (hS : MS S0 S (upd f 10 z) g) (hB : BI f g (((1 : Int), on.toInt, tw.toInt, th.toInt, c) :: gs) bc) (hz : z.toInt = (f 10).toInt - 1) : am_E (am_PP sc) (d + 8) 180 0 [some (.ref 39), some (.int 1), some (.int on), some (.int tw), some (.int th)] [] S (am_N fun v S1 => ∃ (f' : Nat → Int32) (g' : Nat → Nat → Int32) (gs' : List mg_E) (bc' : List (List Nat)), v = none ∧ MS S0 S1 f' g' ∧ (mg_on (upd f 10 z) (100 * ((f 0).toInt - (f 4).toInt) + mg_p3 (((1 : Int), on.toInt, tw.toInt, th.toInt, c) :: gs)) f' g' gs' bc' ∨ mg_off (upd f 10 z) f' g' bc')) := by
  obtain ⟨hR, hG, hN⟩ := hB
  obtain ⟨n0, n1, n2, n3, n4, n5, n6, n7, n8, n9, n10, n11, n12, n13, n14, n15, n16, n17, n18, n19, n20, n21⟩ := hN
  obtain ⟨⟨-, a1, a2, a3, a4, a5, a6, a7, a8⟩, hr⟩ := hG
  have a1_ : (0 : Int) ≤ (f 15).toInt := a1
  have a7_ : (f 37).toInt ≤ 2 * (f 5).toInt + 1 := a7
  have q1 : mg_p1 (((1 : Int), on.toInt, tw.toInt, th.toInt, c) :: gs) = 0 + mg_p1 gs := rfl
  have q2 : mg_p2 (((1 : Int), on.toInt, tw.toInt, th.toInt, c) :: gs) = 0 + mg_p2 gs := rfl
  have q3 : mg_p3 (((1 : Int), on.toInt, tw.toInt, th.toInt, c) :: gs) = 1 + mg_p3 gs := rfl
  have q4 : mg_p4 (((1 : Int), on.toInt, tw.toInt, th.toInt, c) :: gs) = 0 + mg_p4 gs := rfl
  have r1 := mg_p1_nn _ _ _ _ _ _ hr
  have r2 := mg_p2_nn _ _ _ _ _ _ hr
  have r4 := mg_p4_nn gs
  have ht := pop_top hR hz
  have hk3 := (mj_n_le (a := g 16) (f 15).toNatClampNeg 3).1
  have hRk := pop_0 hR hz (by decide)
  exact st_1 (gs := gs) hS hRk hr (show 0 ≤ (f 4).toInt from by omega) (show (f 4).toInt ≤ (f 0).toInt from by omega) (show (f 0).toInt ≤ 512 from by omega) (show 0 ≤ (f 24).toInt from by omega) (show (f 24).toInt + (f 20).toInt + mg_p1 gs ≤ 4 * (f 4).toInt from by omega) (show (f 20).toInt ≤ (f 4).toInt from by omega) (show (f 15).toInt + 0 + mg_p2 gs ≤ (f 4).toInt from by omega) (show 1 + mg_p3 gs ≤ 20 * (f 4).toInt + 20 from by omega) (show 0 ≤ (f 68).toInt from by omega) (show (f 68).toInt + 3 * (f 20).toInt + 0 + mg_p4 gs ≤ 60 * (f 4).toInt + 60 from by omega) (show 0 ≤ (f 62).toInt from by omega) (show (f 62).toInt + 64 * mj_n (g 16) (f 15).toNatClampNeg 3 ≤ 64 * (f 4).toInt from by omega) (show 0 ≤ (f 44).toInt from by omega) (show (f 44).toInt ≤ (f 4).toInt from by omega) (show 0 ≤ (f 48).toInt from by omega) (show (f 48).toInt ≤ (f 4).toInt from by omega) (show 1 ≤ (f 53).toInt from by omega) (show (f 53).toInt ≤ (f 4).toInt + 1 from by omega) (show 0 ≤ (f 19).toInt from by omega) (show (f 19).toInt ≤ 600 from by omega) (show 0 ≤ (f 6).toInt from by omega) (show 0 ≤ (f 8).toInt from by omega) (show 0 ≤ mg_p1 gs from by omega) (show 0 ≤ mg_p2 gs from by omega) (show 0 ≤ mg_p4 gs from by omega) (show 0 ≤ z.toInt from by omega) (show z.toInt ≤ mg_p3 gs from by omega) (show 0 ≤ mj_n (g 16) (f 15).toNatClampNeg 3 from by omega) (show 0 ≤ (f 15).toInt from by omega) (show 0 ≤ (f 20).toInt from by omega) (show 1 ≤ (f 37).toInt from by omega) (show 0 ≤ (f 32).toInt from by omega) (show (f 32).toInt ≤ (f 5).toInt from by omega) (show (f 5).toInt ≤ 48 from by omega) (show (f 37).toInt ≤ 2 * (f 5).toInt + 1 from by omega)
theorem sq_2 {sc : Nat × (Nat → Int32)} {d : Nat} {S0 S : am_S} {f : Nat → Int32} {g : Nat → Nat → Int32} {gs : List mg_E} {bc : List (List Nat)} {c : List Nat} {z on tw th : Int32} (hS : MS S0 S (upd f 10 z) g) (hB : BI f g (((2 : Int), on.toInt, tw.toInt, th.toInt, c) :: gs) bc) (hz : z.toInt = (f 10).toInt - 1) : am_E (am_PP sc) (d + 8) 180 0 [some (.ref 39), some (.int 2), some (.int on), some (.int tw), some (.int th)] [] S (am_N fun v S1 => ∃ (f' : Nat → Int32) (g' : Nat → Nat → Int32) (gs' : List mg_E) (bc' : List (List Nat)), v = none ∧ MS S0 S1 f' g' ∧ (mg_on (upd f 10 z) (100 * ((f 0).toInt - (f 4).toInt) + mg_p3 (((2 : Int), on.toInt, tw.toInt, th.toInt, c) :: gs)) f' g' gs' bc' ∨ mg_off (upd f 10 z) f' g' bc')) := by
  obtain ⟨hR, hG, hN⟩ := hB
  obtain ⟨n0, n1, n2, n3, n4, n5, n6, n7, n8, n9, n10, n11, n12, n13, n14, n15, n16, n17, n18, n19, n20, n21⟩ := hN
  obtain ⟨⟨-, a1, a2, a3, a4, a5, a6, a7, a8⟩, hr⟩ := hG
  have a1_ : (0 : Int) ≤ (f 15).toInt := a1
  have a7_ : (f 37).toInt ≤ 2 * (f 5).toInt + 0 := a7
  have q1 : mg_p1 (((2 : Int), on.toInt, tw.toInt, th.toInt, c) :: gs) = 0 + mg_p1 gs := rfl
  have q2 : mg_p2 (((2 : Int), on.toInt, tw.toInt, th.toInt, c) :: gs) = 0 + mg_p2 gs := rfl
  have q3 : mg_p3 (((2 : Int), on.toInt, tw.toInt, th.toInt, c) :: gs) = 1 + mg_p3 gs := rfl
  have q4 : mg_p4 (((2 : Int), on.toInt, tw.toInt, th.toInt, c) :: gs) = 0 + mg_p4 gs := rfl
  have r1 := mg_p1_nn _ _ _ _ _ _ hr
  have r2 := mg_p2_nn _ _ _ _ _ _ hr
  have r4 := mg_p4_nn gs
  have ht := pop_top hR hz
  have hk3 := (mj_n_le (a := g 16) (f 15).toNatClampNeg 3).1
  have hRk := pop_0 hR hz (by decide)
  exact st_2 (gs := gs) hS hRk hr (show 0 ≤ (f 4).toInt from by omega) (show (f 4).toInt ≤ (f 0).toInt from by omega) (show (f 0).toInt ≤ 512 from by omega) (show 0 ≤ (f 24).toInt from by omega) (show (f 24).toInt + (f 20).toInt + mg_p1 gs ≤ 4 * (f 4).toInt from by omega) (show (f 20).toInt ≤ (f 4).toInt from by omega) (show (f 15).toInt + 0 + mg_p2 gs ≤ (f 4).toInt from by omega) (show 1 + mg_p3 gs ≤ 20 * (f 4).toInt + 20 from by omega) (show 0 ≤ (f 68).toInt from by omega) (show (f 68).toInt + 3 * (f 20).toInt + 0 + mg_p4 gs ≤ 60 * (f 4).toInt + 60 from by omega) (show 0 ≤ (f 62).toInt from by omega) (show (f 62).toInt + 64 * mj_n (g 16) (f 15).toNatClampNeg 3 ≤ 64 * (f 4).toInt from by omega) (show 0 ≤ (f 44).toInt from by omega) (show (f 44).toInt ≤ (f 4).toInt from by omega) (show 0 ≤ (f 48).toInt from by omega) (show (f 48).toInt ≤ (f 4).toInt from by omega) (show 1 ≤ (f 53).toInt from by omega) (show (f 53).toInt ≤ (f 4).toInt + 1 from by omega) (show 0 ≤ (f 19).toInt from by omega) (show (f 19).toInt ≤ 600 from by omega) (show 0 ≤ (f 6).toInt from by omega) (show 0 ≤ (f 8).toInt from by omega) (show 0 ≤ mg_p1 gs from by omega) (show 0 ≤ mg_p2 gs from by omega) (show 0 ≤ mg_p4 gs from by omega) (show 0 ≤ z.toInt from by omega) (show z.toInt ≤ mg_p3 gs from by omega) (show 0 ≤ mj_n (g 16) (f 15).toNatClampNeg 3 from by omega) (show 0 ≤ (f 15).toInt from by omega) (show 0 ≤ (f 20).toInt from by omega) (show 1 ≤ (f 37).toInt from by omega) (show 0 ≤ (f 32).toInt from by omega) (show (f 32).toInt ≤ (f 5).toInt from by omega) (show (f 5).toInt ≤ 48 from by omega) (show (f 37).toInt ≤ 2 * (f 5).toInt + 0 from by omega)
theorem sq_3 {sc : Nat × (Nat → Int32)} {d : Nat} {S0 S : am_S} {f : Nat → Int32} {g : Nat → Nat → Int32} {gs : List mg_E} {bc : List (List Nat)} {c : List Nat} {z on tw th : Int32} (hS : MS S0 S (upd f 10 z) g) (hB : BI f g (((3 : Int), on.toInt, tw.toInt, th.toInt, c) :: gs) bc) (hz : z.toInt = (f 10).toInt - 1) : am_E (am_PP sc) (d + 8) 180 0 [some (.ref 39), some (.int 3), some (.int on), some (.int tw), some (.int th)] [] S (am_N fun v S1 => ∃ (f' : Nat → Int32) (g' : Nat → Nat → Int32) (gs' : List mg_E) (bc' : List (List Nat)), v = none ∧ MS S0 S1 f' g' ∧ (mg_on (upd f 10 z) (100 * ((f 0).toInt - (f 4).toInt) + mg_p3 (((3 : Int), on.toInt, tw.toInt, th.toInt, c) :: gs)) f' g' gs' bc' ∨ mg_off (upd f 10 z) f' g' bc')) := by
  obtain ⟨hR, hG, hN⟩ := hB
  obtain ⟨n0, n1, n2, n3, n4, n5, n6, n7, n8, n9, n10, n11, n12, n13, n14, n15, n16, n17, n18, n19, n20, n21⟩ := hN
  obtain ⟨⟨-, a1, a2, a3, a4, a5, a6, a7, a8⟩, hr⟩ := hG
  have a1_ : (1 : Int) ≤ (f 15).toInt := a1
  have a7_ : (f 37).toInt ≤ 2 * (f 5).toInt + 1 := a7
  have q1 : mg_p1 (((3 : Int), on.toInt, tw.toInt, th.toInt, c) :: gs) = 0 + mg_p1 gs := rfl
  have q2 : mg_p2 (((3 : Int), on.toInt, tw.toInt, th.toInt, c) :: gs) = 0 + mg_p2 gs := rfl
  have q3 : mg_p3 (((3 : Int), on.toInt, tw.toInt, th.toInt, c) :: gs) = 1 + mg_p3 gs := rfl
  have q4 : mg_p4 (((3 : Int), on.toInt, tw.toInt, th.toInt, c) :: gs) = 0 + mg_p4 gs := rfl
  have r1 := mg_p1_nn _ _ _ _ _ _ hr
  have r2 := mg_p2_nn _ _ _ _ _ _ hr
  have r4 := mg_p4_nn gs
  have ht := pop_top hR hz
  have hk3 := (mj_n_le (a := g 16) (f 15).toNatClampNeg 3).1
  have hRk := pop_0 hR hz (by decide)
  exact st_3 (gs := gs) hS hRk hr (show 0 ≤ (f 4).toInt from by omega) (show (f 4).toInt ≤ (f 0).toInt from by omega) (show (f 0).toInt ≤ 512 from by omega) (show 0 ≤ (f 24).toInt from by omega) (show (f 24).toInt + (f 20).toInt + mg_p1 gs ≤ 4 * (f 4).toInt from by omega) (show (f 20).toInt ≤ (f 4).toInt from by omega) (show (f 15).toInt + 0 + mg_p2 gs ≤ (f 4).toInt from by omega) (show 1 + mg_p3 gs ≤ 20 * (f 4).toInt + 20 from by omega) (show 0 ≤ (f 68).toInt from by omega) (show (f 68).toInt + 3 * (f 20).toInt + 0 + mg_p4 gs ≤ 60 * (f 4).toInt + 60 from by omega) (show 0 ≤ (f 62).toInt from by omega) (show (f 62).toInt + 64 * mj_n (g 16) (f 15).toNatClampNeg 3 ≤ 64 * (f 4).toInt from by omega) (show 0 ≤ (f 44).toInt from by omega) (show (f 44).toInt ≤ (f 4).toInt from by omega) (show 0 ≤ (f 48).toInt from by omega) (show (f 48).toInt ≤ (f 4).toInt from by omega) (show 1 ≤ (f 53).toInt from by omega) (show (f 53).toInt ≤ (f 4).toInt + 1 from by omega) (show 0 ≤ (f 19).toInt from by omega) (show (f 19).toInt ≤ 600 from by omega) (show 0 ≤ (f 6).toInt from by omega) (show 0 ≤ (f 8).toInt from by omega) (show 0 ≤ mg_p1 gs from by omega) (show 0 ≤ mg_p2 gs from by omega) (show 0 ≤ mg_p4 gs from by omega) (show 0 ≤ z.toInt from by omega) (show z.toInt ≤ mg_p3 gs from by omega) (show 0 ≤ mj_n (g 16) (f 15).toNatClampNeg 3 from by omega) (show 1 ≤ (f 15).toInt from by omega) (show 0 ≤ (f 20).toInt from by omega) (show 1 ≤ (f 37).toInt from by omega) (show 0 ≤ (f 32).toInt from by omega) (show (f 32).toInt ≤ (f 5).toInt from by omega) (show (f 5).toInt ≤ 48 from by omega) (show (f 37).toInt ≤ 2 * (f 5).toInt + 1 from by omega)
theorem sq_4 {sc : Nat × (Nat → Int32)} {d : Nat} {S0 S : am_S} {f : Nat → Int32} {g : Nat → Nat → Int32} {gs : List mg_E} {bc : List (List Nat)} {c : List Nat} {z on tw th : Int32} (hS : MS S0 S (upd f 10 z) g) (hB : BI f g (((4 : Int), on.toInt, tw.toInt, th.toInt, c) :: gs) bc) (hz : z.toInt = (f 10).toInt - 1) : am_E (am_PP sc) (d + 8) 180 0 [some (.ref 39), some (.int 4), some (.int on), some (.int tw), some (.int th)] [] S (am_N fun v S1 => ∃ (f' : Nat → Int32) (g' : Nat → Nat → Int32) (gs' : List mg_E) (bc' : List (List Nat)), v = none ∧ MS S0 S1 f' g' ∧ (mg_on (upd f 10 z) (100 * ((f 0).toInt - (f 4).toInt) + mg_p3 (((4 : Int), on.toInt, tw.toInt, th.toInt, c) :: gs)) f' g' gs' bc' ∨ mg_off (upd f 10 z) f' g' bc')) := by
  obtain ⟨hR, hG, hN⟩ := hB
  obtain ⟨n0, n1, n2, n3, n4, n5, n6, n7, n8, n9, n10, n11, n12, n13, n14, n15, n16, n17, n18, n19, n20, n21⟩ := hN
  obtain ⟨⟨-, a1, a2, a3, a4, a5, a6, a7, a8⟩, hr⟩ := hG
  have a1_ : (0 : Int) ≤ (f 15).toInt := a1
  have a7_ : (f 37).toInt ≤ 2 * (f 5).toInt + 0 := a7
  have q1 : mg_p1 (((4 : Int), on.toInt, tw.toInt, th.toInt, c) :: gs) = 0 + mg_p1 gs := rfl
  have q2 : mg_p2 (((4 : Int), on.toInt, tw.toInt, th.toInt, c) :: gs) = 0 + mg_p2 gs := rfl
  have q3 : mg_p3 (((4 : Int), on.toInt, tw.toInt, th.toInt, c) :: gs) = 1 + mg_p3 gs := rfl
  have q4 : mg_p4 (((4 : Int), on.toInt, tw.toInt, th.toInt, c) :: gs) = 0 + mg_p4 gs := rfl
  have r1 := mg_p1_nn _ _ _ _ _ _ hr
  have r2 := mg_p2_nn _ _ _ _ _ _ hr
  have r4 := mg_p4_nn gs
  have ht := pop_top hR hz
  have hk3 := (mj_n_le (a := g 16) (f 15).toNatClampNeg 3).1
  obtain ⟨hRk, o1, o2⟩ := pop_4 hR hz (by decide)
  exact st_4 (gs := gs) hS hRk hr (show 0 ≤ (f 4).toInt from by omega) (show (f 4).toInt ≤ (f 0).toInt from by omega) (show (f 0).toInt ≤ 512 from by omega) (show 0 ≤ (f 24).toInt from by omega) (show (f 24).toInt + (f 20).toInt + mg_p1 gs ≤ 4 * (f 4).toInt from by omega) (show (f 20).toInt ≤ (f 4).toInt from by omega) (show (f 15).toInt + 0 + mg_p2 gs ≤ (f 4).toInt from by omega) (show 1 + mg_p3 gs ≤ 20 * (f 4).toInt + 20 from by omega) (show 0 ≤ (f 68).toInt from by omega) (show (f 68).toInt + 3 * (f 20).toInt + 0 + mg_p4 gs ≤ 60 * (f 4).toInt + 60 from by omega) (show 0 ≤ (f 62).toInt from by omega) (show (f 62).toInt + 64 * mj_n (g 16) (f 15).toNatClampNeg 3 ≤ 64 * (f 4).toInt from by omega) (show 0 ≤ (f 44).toInt from by omega) (show (f 44).toInt ≤ (f 4).toInt from by omega) (show 0 ≤ (f 48).toInt from by omega) (show (f 48).toInt ≤ (f 4).toInt from by omega) (show 1 ≤ (f 53).toInt from by omega) (show (f 53).toInt ≤ (f 4).toInt + 1 from by omega) (show 0 ≤ (f 19).toInt from by omega) (show (f 19).toInt ≤ 600 from by omega) (show 0 ≤ (f 6).toInt from by omega) (show 0 ≤ (f 8).toInt from by omega) (show 0 ≤ mg_p1 gs from by omega) (show 0 ≤ mg_p2 gs from by omega) (show 0 ≤ mg_p4 gs from by omega) (show 0 ≤ z.toInt from by omega) (show z.toInt ≤ mg_p3 gs from by omega) (show 0 ≤ mj_n (g 16) (f 15).toNatClampNeg 3 from by omega) (show 0 ≤ (f 15).toInt from by omega) (show 0 ≤ (f 20).toInt from by omega) (show 1 ≤ (f 37).toInt from by omega) (show 0 ≤ (f 32).toInt from by omega) (show (f 32).toInt ≤ (f 5).toInt from by omega) (show (f 5).toInt ≤ 48 from by omega) (show (f 37).toInt ≤ 2 * (f 5).toInt + 0 from by omega) (show 0 ≤ on.toInt from by omega) (show on.toInt < (f 68).toInt from by omega)
theorem sq_5 {sc : Nat × (Nat → Int32)} {d : Nat} {S0 S : am_S} {f : Nat → Int32} {g : Nat → Nat → Int32} {gs : List mg_E} {bc : List (List Nat)} {c : List Nat} {z on tw th : Int32} (hS : MS S0 S (upd f 10 z) g) (hB : BI f g (((5 : Int), on.toInt, tw.toInt, th.toInt, c) :: gs) bc) (hz : z.toInt = (f 10).toInt - 1) : am_E (am_PP sc) (d + 8) 180 0 [some (.ref 39), some (.int 5), some (.int on), some (.int tw), some (.int th)] [] S (am_N fun v S1 => ∃ (f' : Nat → Int32) (g' : Nat → Nat → Int32) (gs' : List mg_E) (bc' : List (List Nat)), v = none ∧ MS S0 S1 f' g' ∧ (mg_on (upd f 10 z) (100 * ((f 0).toInt - (f 4).toInt) + mg_p3 (((5 : Int), on.toInt, tw.toInt, th.toInt, c) :: gs)) f' g' gs' bc' ∨ mg_off (upd f 10 z) f' g' bc')) := by
  obtain ⟨hR, hG, hN⟩ := hB
  obtain ⟨n0, n1, n2, n3, n4, n5, n6, n7, n8, n9, n10, n11, n12, n13, n14, n15, n16, n17, n18, n19, n20, n21⟩ := hN
  obtain ⟨⟨-, a1, a2, a3, a4, a5, a6, a7, a8⟩, hr⟩ := hG
  have a1_ : (0 : Int) ≤ (f 15).toInt := a1
  have a7_ : (f 37).toInt ≤ 2 * (f 5).toInt + 0 := a7
  have q1 : mg_p1 (((5 : Int), on.toInt, tw.toInt, th.toInt, c) :: gs) = 0 + mg_p1 gs := rfl
  have q2 : mg_p2 (((5 : Int), on.toInt, tw.toInt, th.toInt, c) :: gs) = 0 + mg_p2 gs := rfl
  have q3 : mg_p3 (((5 : Int), on.toInt, tw.toInt, th.toInt, c) :: gs) = 1 + mg_p3 gs := rfl
  have q4 : mg_p4 (((5 : Int), on.toInt, tw.toInt, th.toInt, c) :: gs) = 0 + mg_p4 gs := rfl
  have r1 := mg_p1_nn _ _ _ _ _ _ hr
  have r2 := mg_p2_nn _ _ _ _ _ _ hr
  have r4 := mg_p4_nn gs
  have ht := pop_top hR hz
  have hk3 := (mj_n_le (a := g 16) (f 15).toNatClampNeg 3).1
  have hRk := pop_0 hR hz (by decide)
  exact st_5 (gs := gs) hS hRk hr (show 0 ≤ (f 4).toInt from by omega) (show (f 4).toInt ≤ (f 0).toInt from by omega) (show (f 0).toInt ≤ 512 from by omega) (show 0 ≤ (f 24).toInt from by omega) (show (f 24).toInt + (f 20).toInt + mg_p1 gs ≤ 4 * (f 4).toInt from by omega) (show (f 20).toInt ≤ (f 4).toInt from by omega) (show (f 15).toInt + 0 + mg_p2 gs ≤ (f 4).toInt from by omega) (show 1 + mg_p3 gs ≤ 20 * (f 4).toInt + 20 from by omega) (show 0 ≤ (f 68).toInt from by omega) (show (f 68).toInt + 3 * (f 20).toInt + 0 + mg_p4 gs ≤ 60 * (f 4).toInt + 60 from by omega) (show 0 ≤ (f 62).toInt from by omega) (show (f 62).toInt + 64 * mj_n (g 16) (f 15).toNatClampNeg 3 ≤ 64 * (f 4).toInt from by omega) (show 0 ≤ (f 44).toInt from by omega) (show (f 44).toInt ≤ (f 4).toInt from by omega) (show 0 ≤ (f 48).toInt from by omega) (show (f 48).toInt ≤ (f 4).toInt from by omega) (show 1 ≤ (f 53).toInt from by omega) (show (f 53).toInt ≤ (f 4).toInt + 1 from by omega) (show 0 ≤ (f 19).toInt from by omega) (show (f 19).toInt ≤ 600 from by omega) (show 0 ≤ (f 6).toInt from by omega) (show 0 ≤ (f 8).toInt from by omega) (show 0 ≤ mg_p1 gs from by omega) (show 0 ≤ mg_p2 gs from by omega) (show 0 ≤ mg_p4 gs from by omega) (show 0 ≤ z.toInt from by omega) (show z.toInt ≤ mg_p3 gs from by omega) (show 0 ≤ mj_n (g 16) (f 15).toNatClampNeg 3 from by omega) (show 0 ≤ (f 15).toInt from by omega) (show 0 ≤ (f 20).toInt from by omega) (show 1 ≤ (f 37).toInt from by omega) (show 0 ≤ (f 32).toInt from by omega) (show (f 32).toInt ≤ (f 5).toInt from by omega) (show (f 5).toInt ≤ 48 from by omega) (show (f 37).toInt ≤ 2 * (f 5).toInt + 0 from by omega)
theorem sq_6 {sc : Nat × (Nat → Int32)} {d : Nat} {S0 S : am_S} {f : Nat → Int32} {g : Nat → Nat → Int32} {gs : List mg_E} {bc : List (List Nat)} {c : List Nat} {z on tw th : Int32} (hS : MS S0 S (upd f 10 z) g) (hB : BI f g (((6 : Int), on.toInt, tw.toInt, th.toInt, c) :: gs) bc) (hz : z.toInt = (f 10).toInt - 1) : am_E (am_PP sc) (d + 8) 180 0 [some (.ref 39), some (.int 6), some (.int on), some (.int tw), some (.int th)] [] S (am_N fun v S1 => ∃ (f' : Nat → Int32) (g' : Nat → Nat → Int32) (gs' : List mg_E) (bc' : List (List Nat)), v = none ∧ MS S0 S1 f' g' ∧ (mg_on (upd f 10 z) (100 * ((f 0).toInt - (f 4).toInt) + mg_p3 (((6 : Int), on.toInt, tw.toInt, th.toInt, c) :: gs)) f' g' gs' bc' ∨ mg_off (upd f 10 z) f' g' bc')) := by
  obtain ⟨hR, hG, hN⟩ := hB
  obtain ⟨n0, n1, n2, n3, n4, n5, n6, n7, n8, n9, n10, n11, n12, n13, n14, n15, n16, n17, n18, n19, n20, n21⟩ := hN
  obtain ⟨⟨-, a1, a2, a3, a4, a5, a6, a7, a8⟩, hr⟩ := hG
  have a1_ : (1 : Int) ≤ (f 15).toInt := a1
  have a7_ : (f 37).toInt ≤ 2 * (f 5).toInt + 2 := a7
  have q1 : mg_p1 (((6 : Int), on.toInt, tw.toInt, th.toInt, c) :: gs) = 0 + mg_p1 gs := rfl
  have q2 : mg_p2 (((6 : Int), on.toInt, tw.toInt, th.toInt, c) :: gs) = 0 + mg_p2 gs := rfl
  have q3 : mg_p3 (((6 : Int), on.toInt, tw.toInt, th.toInt, c) :: gs) = 1 + mg_p3 gs := rfl
  have q4 : mg_p4 (((6 : Int), on.toInt, tw.toInt, th.toInt, c) :: gs) = 6 + mg_p4 gs := rfl
  have r1 := mg_p1_nn _ _ _ _ _ _ hr
  have r2 := mg_p2_nn _ _ _ _ _ _ hr
  have r4 := mg_p4_nn gs
  have ht := pop_top hR hz
  have hk3 := (mj_n_le (a := g 16) (f 15).toNatClampNeg 3).1
  have hRk := pop_0 hR hz (by decide)
  exact st_6 (gs := gs) hS hRk hr (show 0 ≤ (f 4).toInt from by omega) (show (f 4).toInt ≤ (f 0).toInt from by omega) (show (f 0).toInt ≤ 512 from by omega) (show 0 ≤ (f 24).toInt from by omega) (show (f 24).toInt + (f 20).toInt + mg_p1 gs ≤ 4 * (f 4).toInt from by omega) (show (f 20).toInt ≤ (f 4).toInt from by omega) (show (f 15).toInt + 0 + mg_p2 gs ≤ (f 4).toInt from by omega) (show 1 + mg_p3 gs ≤ 20 * (f 4).toInt + 20 from by omega) (show 0 ≤ (f 68).toInt from by omega) (show (f 68).toInt + 3 * (f 20).toInt + 6 + mg_p4 gs ≤ 60 * (f 4).toInt + 60 from by omega) (show 0 ≤ (f 62).toInt from by omega) (show (f 62).toInt + 64 * mj_n (g 16) (f 15).toNatClampNeg 3 ≤ 64 * (f 4).toInt from by omega) (show 0 ≤ (f 44).toInt from by omega) (show (f 44).toInt ≤ (f 4).toInt from by omega) (show 0 ≤ (f 48).toInt from by omega) (show (f 48).toInt ≤ (f 4).toInt from by omega) (show 1 ≤ (f 53).toInt from by omega) (show (f 53).toInt ≤ (f 4).toInt + 1 from by omega) (show 0 ≤ (f 19).toInt from by omega) (show (f 19).toInt ≤ 600 from by omega) (show 0 ≤ (f 6).toInt from by omega) (show 0 ≤ (f 8).toInt from by omega) (show 0 ≤ mg_p1 gs from by omega) (show 0 ≤ mg_p2 gs from by omega) (show 0 ≤ mg_p4 gs from by omega) (show 0 ≤ z.toInt from by omega) (show z.toInt ≤ mg_p3 gs from by omega) (show 0 ≤ mj_n (g 16) (f 15).toNatClampNeg 3 from by omega) (show 1 ≤ (f 15).toInt from by omega) (show 0 ≤ (f 20).toInt from by omega) (show 1 ≤ (f 37).toInt from by omega) (show 0 ≤ (f 32).toInt from by omega) (show (f 32).toInt ≤ (f 5).toInt from by omega) (show (f 5).toInt ≤ 48 from by omega) (show (f 37).toInt ≤ 2 * (f 5).toInt + 2 from by omega)
theorem sq_7 {sc : Nat × (Nat → Int32)} {d : Nat} {S0 S : am_S} {f : Nat → Int32} {g : Nat → Nat → Int32} {gs : List mg_E} {bc : List (List Nat)} {c : List Nat} {z on tw th : Int32} (hS : MS S0 S (upd f 10 z) g) (hB : BI f g (((7 : Int), on.toInt, tw.toInt, th.toInt, c) :: gs) bc) (hz : z.toInt = (f 10).toInt - 1) : am_E (am_PP sc) (d + 8) 180 0 [some (.ref 39), some (.int 7), some (.int on), some (.int tw), some (.int th)] [] S (am_N fun v S1 => ∃ (f' : Nat → Int32) (g' : Nat → Nat → Int32) (gs' : List mg_E) (bc' : List (List Nat)), v = none ∧ MS S0 S1 f' g' ∧ (mg_on (upd f 10 z) (100 * ((f 0).toInt - (f 4).toInt) + mg_p3 (((7 : Int), on.toInt, tw.toInt, th.toInt, c) :: gs)) f' g' gs' bc' ∨ mg_off (upd f 10 z) f' g' bc')) := by
  obtain ⟨hR, hG, hN⟩ := hB
  obtain ⟨n0, n1, n2, n3, n4, n5, n6, n7, n8, n9, n10, n11, n12, n13, n14, n15, n16, n17, n18, n19, n20, n21⟩ := hN
  obtain ⟨⟨-, a1, a2, a3, a4, a5, a6, a7, a8⟩, hr⟩ := hG
  have a1_ : (1 : Int) ≤ (f 15).toInt := a1
  have a7_ : (f 37).toInt ≤ 2 * (f 5).toInt + 1 := a7
  have q1 : mg_p1 (((7 : Int), on.toInt, tw.toInt, th.toInt, c) :: gs) = 0 + mg_p1 gs := rfl
  have q2 : mg_p2 (((7 : Int), on.toInt, tw.toInt, th.toInt, c) :: gs) = 0 + mg_p2 gs := rfl
  have q3 : mg_p3 (((7 : Int), on.toInt, tw.toInt, th.toInt, c) :: gs) = 1 + mg_p3 gs := rfl
  have q4 : mg_p4 (((7 : Int), on.toInt, tw.toInt, th.toInt, c) :: gs) = 0 + mg_p4 gs := rfl
  have r1 := mg_p1_nn _ _ _ _ _ _ hr
  have r2 := mg_p2_nn _ _ _ _ _ _ hr
  have r4 := mg_p4_nn gs
  have ht := pop_top hR hz
  have hk3 := (mj_n_le (a := g 16) (f 15).toNatClampNeg 3).1
  have hRk := pop_7 hR hz (by decide)
  exact st_7 (gs := gs) hS hRk hr (show 0 ≤ (f 4).toInt from by omega) (show (f 4).toInt ≤ (f 0).toInt from by omega) (show (f 0).toInt ≤ 512 from by omega) (show 0 ≤ (f 24).toInt from by omega) (show (f 24).toInt + (f 20).toInt + mg_p1 gs ≤ 4 * (f 4).toInt from by omega) (show (f 20).toInt ≤ (f 4).toInt from by omega) (show (f 15).toInt + 0 + mg_p2 gs ≤ (f 4).toInt from by omega) (show 1 + mg_p3 gs ≤ 20 * (f 4).toInt + 20 from by omega) (show 0 ≤ (f 68).toInt from by omega) (show (f 68).toInt + 3 * (f 20).toInt + 0 + mg_p4 gs ≤ 60 * (f 4).toInt + 60 from by omega) (show 0 ≤ (f 62).toInt from by omega) (show (f 62).toInt + 64 * mj_n (g 16) (f 15).toNatClampNeg 3 ≤ 64 * (f 4).toInt from by omega) (show 0 ≤ (f 44).toInt from by omega) (show (f 44).toInt ≤ (f 4).toInt from by omega) (show 0 ≤ (f 48).toInt from by omega) (show (f 48).toInt ≤ (f 4).toInt from by omega) (show 1 ≤ (f 53).toInt from by omega) (show (f 53).toInt ≤ (f 4).toInt + 1 from by omega) (show 0 ≤ (f 19).toInt from by omega) (show (f 19).toInt ≤ 600 from by omega) (show 0 ≤ (f 6).toInt from by omega) (show 0 ≤ (f 8).toInt from by omega) (show 0 ≤ mg_p1 gs from by omega) (show 0 ≤ mg_p2 gs from by omega) (show 0 ≤ mg_p4 gs from by omega) (show 0 ≤ z.toInt from by omega) (show z.toInt ≤ mg_p3 gs from by omega) (show 0 ≤ mj_n (g 16) (f 15).toNatClampNeg 3 from by omega) (show 1 ≤ (f 15).toInt from by omega) (show 0 ≤ (f 20).toInt from by omega) (show 1 ≤ (f 37).toInt from by omega) (show 0 ≤ (f 32).toInt from by omega) (show (f 32).toInt ≤ (f 5).toInt from by omega) (show (f 5).toInt ≤ 48 from by omega) (show (f 37).toInt ≤ 2 * (f 5).toInt + 1 from by omega)
theorem sq_8 {sc : Nat × (Nat → Int32)} {d : Nat} {S0 S : am_S} {f : Nat → Int32} {g : Nat → Nat → Int32} {gs : List mg_E} {bc : List (List Nat)} {c : List Nat} {z on tw th : Int32} (hS : MS S0 S (upd f 10 z) g) (hB : BI f g (((8 : Int), on.toInt, tw.toInt, th.toInt, c) :: gs) bc) (hz : z.toInt = (f 10).toInt - 1) : am_E (am_PP sc) (d + 8) 180 0 [some (.ref 39), some (.int 8), some (.int on), some (.int tw), some (.int th)] [] S (am_N fun v S1 => ∃ (f' : Nat → Int32) (g' : Nat → Nat → Int32) (gs' : List mg_E) (bc' : List (List Nat)), v = none ∧ MS S0 S1 f' g' ∧ (mg_on (upd f 10 z) (100 * ((f 0).toInt - (f 4).toInt) + mg_p3 (((8 : Int), on.toInt, tw.toInt, th.toInt, c) :: gs)) f' g' gs' bc' ∨ mg_off (upd f 10 z) f' g' bc')) := by
  obtain ⟨hR, hG, hN⟩ := hB
  obtain ⟨n0, n1, n2, n3, n4, n5, n6, n7, n8, n9, n10, n11, n12, n13, n14, n15, n16, n17, n18, n19, n20, n21⟩ := hN
  obtain ⟨⟨-, a1, a2, a3, a4, a5, a6, a7, a8⟩, hr⟩ := hG
  have a1_ : (0 : Int) ≤ (f 15).toInt := a1
  have a7_ : (f 37).toInt ≤ 2 * (f 5).toInt + 0 := a7
  have q1 : mg_p1 (((8 : Int), on.toInt, tw.toInt, th.toInt, c) :: gs) = 0 + mg_p1 gs := rfl
  have q2 : mg_p2 (((8 : Int), on.toInt, tw.toInt, th.toInt, c) :: gs) = 0 + mg_p2 gs := rfl
  have q3 : mg_p3 (((8 : Int), on.toInt, tw.toInt, th.toInt, c) :: gs) = 1 + mg_p3 gs := rfl
  have q4 : mg_p4 (((8 : Int), on.toInt, tw.toInt, th.toInt, c) :: gs) = 0 + mg_p4 gs := rfl
  have r1 := mg_p1_nn _ _ _ _ _ _ hr
  have r2 := mg_p2_nn _ _ _ _ _ _ hr
  have r4 := mg_p4_nn gs
  have ht := pop_top hR hz
  have hk3 := (mj_n_le (a := g 16) (f 15).toNatClampNeg 3).1
  obtain ⟨hRk, o1, o2⟩ := pop_8 hR hz rfl
  exact st_8 (gs := gs) hS hRk hr (show 0 ≤ (f 4).toInt from by omega) (show (f 4).toInt ≤ (f 0).toInt from by omega) (show (f 0).toInt ≤ 512 from by omega) (show 0 ≤ (f 24).toInt from by omega) (show (f 24).toInt + (f 20).toInt + mg_p1 gs ≤ 4 * (f 4).toInt from by omega) (show (f 20).toInt ≤ (f 4).toInt from by omega) (show (f 15).toInt + 0 + mg_p2 gs ≤ (f 4).toInt from by omega) (show 1 + mg_p3 gs ≤ 20 * (f 4).toInt + 20 from by omega) (show 0 ≤ (f 68).toInt from by omega) (show (f 68).toInt + 3 * (f 20).toInt + 0 + mg_p4 gs ≤ 60 * (f 4).toInt + 60 from by omega) (show 0 ≤ (f 62).toInt from by omega) (show (f 62).toInt + 64 * mj_n (g 16) (f 15).toNatClampNeg 3 ≤ 64 * (f 4).toInt from by omega) (show 0 ≤ (f 44).toInt from by omega) (show (f 44).toInt ≤ (f 4).toInt from by omega) (show 0 ≤ (f 48).toInt from by omega) (show (f 48).toInt ≤ (f 4).toInt from by omega) (show 1 ≤ (f 53).toInt from by omega) (show (f 53).toInt ≤ (f 4).toInt + 1 from by omega) (show 0 ≤ (f 19).toInt from by omega) (show (f 19).toInt ≤ 600 from by omega) (show 0 ≤ (f 6).toInt from by omega) (show 0 ≤ (f 8).toInt from by omega) (show 0 ≤ mg_p1 gs from by omega) (show 0 ≤ mg_p2 gs from by omega) (show 0 ≤ mg_p4 gs from by omega) (show 0 ≤ z.toInt from by omega) (show z.toInt ≤ mg_p3 gs from by omega) (show 0 ≤ mj_n (g 16) (f 15).toNatClampNeg 3 from by omega) (show 0 ≤ (f 15).toInt from by omega) (show 0 ≤ (f 20).toInt from by omega) (show 1 ≤ (f 37).toInt from by omega) (show 0 ≤ (f 32).toInt from by omega) (show (f 32).toInt ≤ (f 5).toInt from by omega) (show (f 5).toInt ≤ 48 from by omega) (show (f 37).toInt ≤ 2 * (f 5).toInt + 0 from by omega) (show 0 ≤ on.toInt from by omega) (show on.toInt < (f 68).toInt from by omega)
theorem sq_9 {sc : Nat × (Nat → Int32)} {d : Nat} {S0 S : am_S} {f : Nat → Int32} {g : Nat → Nat → Int32} {gs : List mg_E} {bc : List (List Nat)} {c : List Nat} {z on tw th : Int32} (hS : MS S0 S (upd f 10 z) g) (hB : BI f g (((9 : Int), on.toInt, tw.toInt, th.toInt, c) :: gs) bc) (hz : z.toInt = (f 10).toInt - 1) : am_E (am_PP sc) (d + 8) 180 0 [some (.ref 39), some (.int 9), some (.int on), some (.int tw), some (.int th)] [] S (am_N fun v S1 => ∃ (f' : Nat → Int32) (g' : Nat → Nat → Int32) (gs' : List mg_E) (bc' : List (List Nat)), v = none ∧ MS S0 S1 f' g' ∧ (mg_on (upd f 10 z) (100 * ((f 0).toInt - (f 4).toInt) + mg_p3 (((9 : Int), on.toInt, tw.toInt, th.toInt, c) :: gs)) f' g' gs' bc' ∨ mg_off (upd f 10 z) f' g' bc')) := by
  obtain ⟨hR, hG, hN⟩ := hB
  obtain ⟨n0, n1, n2, n3, n4, n5, n6, n7, n8, n9, n10, n11, n12, n13, n14, n15, n16, n17, n18, n19, n20, n21⟩ := hN
  obtain ⟨⟨-, a1, a2, a3, a4, a5, a6, a7, a8⟩, hr⟩ := hG
  have a1_ : (0 : Int) ≤ (f 15).toInt := a1
  have a7_ : (f 37).toInt ≤ 2 * (f 5).toInt + 0 := a7
  have q1 : mg_p1 (((9 : Int), on.toInt, tw.toInt, th.toInt, c) :: gs) = 0 + mg_p1 gs := rfl
  have q2 : mg_p2 (((9 : Int), on.toInt, tw.toInt, th.toInt, c) :: gs) = 0 + mg_p2 gs := rfl
  have q3 : mg_p3 (((9 : Int), on.toInt, tw.toInt, th.toInt, c) :: gs) = 1 + mg_p3 gs := rfl
  have q4 : mg_p4 (((9 : Int), on.toInt, tw.toInt, th.toInt, c) :: gs) = 0 + mg_p4 gs := rfl
  have r1 := mg_p1_nn _ _ _ _ _ _ hr
  have r2 := mg_p2_nn _ _ _ _ _ _ hr
  have r4 := mg_p4_nn gs
  have ht := pop_top hR hz
  have hk3 := (mj_n_le (a := g 16) (f 15).toNatClampNeg 3).1
  have hRk := pop_7 hR hz (by decide)
  exact st_9 (gs := gs) hS hRk hr (show 0 ≤ (f 4).toInt from by omega) (show (f 4).toInt ≤ (f 0).toInt from by omega) (show (f 0).toInt ≤ 512 from by omega) (show 0 ≤ (f 24).toInt from by omega) (show (f 24).toInt + (f 20).toInt + mg_p1 gs ≤ 4 * (f 4).toInt from by omega) (show (f 20).toInt ≤ (f 4).toInt from by omega) (show (f 15).toInt + 0 + mg_p2 gs ≤ (f 4).toInt from by omega) (show 1 + mg_p3 gs ≤ 20 * (f 4).toInt + 20 from by omega) (show 0 ≤ (f 68).toInt from by omega) (show (f 68).toInt + 3 * (f 20).toInt + 0 + mg_p4 gs ≤ 60 * (f 4).toInt + 60 from by omega) (show 0 ≤ (f 62).toInt from by omega) (show (f 62).toInt + 64 * mj_n (g 16) (f 15).toNatClampNeg 3 ≤ 64 * (f 4).toInt from by omega) (show 0 ≤ (f 44).toInt from by omega) (show (f 44).toInt ≤ (f 4).toInt from by omega) (show 0 ≤ (f 48).toInt from by omega) (show (f 48).toInt ≤ (f 4).toInt from by omega) (show 1 ≤ (f 53).toInt from by omega) (show (f 53).toInt ≤ (f 4).toInt + 1 from by omega) (show 0 ≤ (f 19).toInt from by omega) (show (f 19).toInt ≤ 600 from by omega) (show 0 ≤ (f 6).toInt from by omega) (show 0 ≤ (f 8).toInt from by omega) (show 0 ≤ mg_p1 gs from by omega) (show 0 ≤ mg_p2 gs from by omega) (show 0 ≤ mg_p4 gs from by omega) (show 0 ≤ z.toInt from by omega) (show z.toInt ≤ mg_p3 gs from by omega) (show 0 ≤ mj_n (g 16) (f 15).toNatClampNeg 3 from by omega) (show 0 ≤ (f 15).toInt from by omega) (show 0 ≤ (f 20).toInt from by omega) (show 1 ≤ (f 37).toInt from by omega) (show 0 ≤ (f 32).toInt from by omega) (show (f 32).toInt ≤ (f 5).toInt from by omega) (show (f 5).toInt ≤ 48 from by omega) (show (f 37).toInt ≤ 2 * (f 5).toInt + 0 from by omega)
theorem sq_10 {sc : Nat × (Nat → Int32)} {d : Nat} {S0 S : am_S} {f : Nat → Int32} {g : Nat → Nat → Int32} {gs : List mg_E} {bc : List (List Nat)} {c : List Nat} {z on tw th : Int32} (hS : MS S0 S (upd f 10 z) g) (hB : BI f g (((10 : Int), on.toInt, tw.toInt, th.toInt, c) :: gs) bc) (hz : z.toInt = (f 10).toInt - 1) : am_E (am_PP sc) (d + 8) 180 0 [some (.ref 39), some (.int 10), some (.int on), some (.int tw), some (.int th)] [] S (am_N fun v S1 => ∃ (f' : Nat → Int32) (g' : Nat → Nat → Int32) (gs' : List mg_E) (bc' : List (List Nat)), v = none ∧ MS S0 S1 f' g' ∧ (mg_on (upd f 10 z) (100 * ((f 0).toInt - (f 4).toInt) + mg_p3 (((10 : Int), on.toInt, tw.toInt, th.toInt, c) :: gs)) f' g' gs' bc' ∨ mg_off (upd f 10 z) f' g' bc')) := by
  obtain ⟨hR, hG, hN⟩ := hB
  obtain ⟨n0, n1, n2, n3, n4, n5, n6, n7, n8, n9, n10, n11, n12, n13, n14, n15, n16, n17, n18, n19, n20, n21⟩ := hN
  obtain ⟨⟨-, a1, a2, a3, a4, a5, a6, a7, a8⟩, hr⟩ := hG
  have a1_ : (1 : Int) ≤ (f 15).toInt := a1
  have a7_ : (f 37).toInt ≤ 2 * (f 5).toInt + 1 := a7
  have q1 : mg_p1 (((10 : Int), on.toInt, tw.toInt, th.toInt, c) :: gs) = 0 + mg_p1 gs := rfl
  have q2 : mg_p2 (((10 : Int), on.toInt, tw.toInt, th.toInt, c) :: gs) = 0 + mg_p2 gs := rfl
  have q3 : mg_p3 (((10 : Int), on.toInt, tw.toInt, th.toInt, c) :: gs) = 1 + mg_p3 gs := rfl
  have q4 : mg_p4 (((10 : Int), on.toInt, tw.toInt, th.toInt, c) :: gs) = 0 + mg_p4 gs := rfl
  have r1 := mg_p1_nn _ _ _ _ _ _ hr
  have r2 := mg_p2_nn _ _ _ _ _ _ hr
  have r4 := mg_p4_nn gs
  have ht := pop_top hR hz
  have hk3 := (mj_n_le (a := g 16) (f 15).toNatClampNeg 3).1
  have hRk := pop_0 hR hz (by decide)
  obtain ⟨u0, u1⟩ : 0 ≤ on.toInt ∧ on.toInt ≤ 16000 := a8
  exact st_10 (gs := gs) hS hRk hr (show 0 ≤ (f 4).toInt from by omega) (show (f 4).toInt ≤ (f 0).toInt from by omega) (show (f 0).toInt ≤ 512 from by omega) (show 0 ≤ (f 24).toInt from by omega) (show (f 24).toInt + (f 20).toInt + mg_p1 gs ≤ 4 * (f 4).toInt from by omega) (show (f 20).toInt ≤ (f 4).toInt from by omega) (show (f 15).toInt + 0 + mg_p2 gs ≤ (f 4).toInt from by omega) (show 1 + mg_p3 gs ≤ 20 * (f 4).toInt + 20 from by omega) (show 0 ≤ (f 68).toInt from by omega) (show (f 68).toInt + 3 * (f 20).toInt + 0 + mg_p4 gs ≤ 60 * (f 4).toInt + 60 from by omega) (show 0 ≤ (f 62).toInt from by omega) (show (f 62).toInt + 64 * mj_n (g 16) (f 15).toNatClampNeg 3 ≤ 64 * (f 4).toInt from by omega) (show 0 ≤ (f 44).toInt from by omega) (show (f 44).toInt ≤ (f 4).toInt from by omega) (show 0 ≤ (f 48).toInt from by omega) (show (f 48).toInt ≤ (f 4).toInt from by omega) (show 1 ≤ (f 53).toInt from by omega) (show (f 53).toInt ≤ (f 4).toInt + 1 from by omega) (show 0 ≤ (f 19).toInt from by omega) (show (f 19).toInt ≤ 600 from by omega) (show 0 ≤ (f 6).toInt from by omega) (show 0 ≤ (f 8).toInt from by omega) (show 0 ≤ mg_p1 gs from by omega) (show 0 ≤ mg_p2 gs from by omega) (show 0 ≤ mg_p4 gs from by omega) (show 0 ≤ z.toInt from by omega) (show z.toInt ≤ mg_p3 gs from by omega) (show 0 ≤ mj_n (g 16) (f 15).toNatClampNeg 3 from by omega) (show 1 ≤ (f 15).toInt from by omega) (show 0 ≤ (f 20).toInt from by omega) (show 1 ≤ (f 37).toInt from by omega) (show 0 ≤ (f 32).toInt from by omega) (show (f 32).toInt ≤ (f 5).toInt from by omega) (show (f 5).toInt ≤ 48 from by omega) (show (f 37).toInt ≤ 2 * (f 5).toInt + 1 from by omega) (show 0 ≤ on.toInt from by omega) (show on.toInt ≤ 16000 from by omega)
theorem sq_11 {sc : Nat × (Nat → Int32)} {d : Nat} {S0 S : am_S} {f : Nat → Int32} {g : Nat → Nat → Int32} {gs : List mg_E} {bc : List (List Nat)} {c : List Nat} {z on tw th : Int32} (hS : MS S0 S (upd f 10 z) g) (hB : BI f g (((11 : Int), on.toInt, tw.toInt, th.toInt, c) :: gs) bc) (hz : z.toInt = (f 10).toInt - 1) : am_E (am_PP sc) (d + 8) 180 0 [some (.ref 39), some (.int 11), some (.int on), some (.int tw), some (.int th)] [] S (am_N fun v S1 => ∃ (f' : Nat → Int32) (g' : Nat → Nat → Int32) (gs' : List mg_E) (bc' : List (List Nat)), v = none ∧ MS S0 S1 f' g' ∧ (mg_on (upd f 10 z) (100 * ((f 0).toInt - (f 4).toInt) + mg_p3 (((11 : Int), on.toInt, tw.toInt, th.toInt, c) :: gs)) f' g' gs' bc' ∨ mg_off (upd f 10 z) f' g' bc')) := by
  obtain ⟨hR, hG, hN⟩ := hB
  obtain ⟨n0, n1, n2, n3, n4, n5, n6, n7, n8, n9, n10, n11, n12, n13, n14, n15, n16, n17, n18, n19, n20, n21⟩ := hN
  obtain ⟨⟨-, a1, a2, a3, a4, a5, a6, a7, a8⟩, hr⟩ := hG
  have a1_ : (1 : Int) ≤ (f 15).toInt := a1
  have a7_ : (f 37).toInt ≤ 2 * (f 5).toInt + 1 := a7
  have q1 : mg_p1 (((11 : Int), on.toInt, tw.toInt, th.toInt, c) :: gs) = 0 + mg_p1 gs := rfl
  have q2 : mg_p2 (((11 : Int), on.toInt, tw.toInt, th.toInt, c) :: gs) = 0 + mg_p2 gs := rfl
  have q3 : mg_p3 (((11 : Int), on.toInt, tw.toInt, th.toInt, c) :: gs) = 1 + mg_p3 gs := rfl
  have q4 : mg_p4 (((11 : Int), on.toInt, tw.toInt, th.toInt, c) :: gs) = 0 + mg_p4 gs := rfl
  have r1 := mg_p1_nn _ _ _ _ _ _ hr
  have r2 := mg_p2_nn _ _ _ _ _ _ hr
  have r4 := mg_p4_nn gs
  have ht := pop_top hR hz
  have hk3 := (mj_n_le (a := g 16) (f 15).toNatClampNeg 3).1
  have hRk := pop_0 hR hz (by decide)
  obtain ⟨u0, u1⟩ : 0 ≤ on.toInt ∧ on.toInt ≤ 16000 := a8
  exact st_11 (gs := gs) hS hRk hr (show 0 ≤ (f 4).toInt from by omega) (show (f 4).toInt ≤ (f 0).toInt from by omega) (show (f 0).toInt ≤ 512 from by omega) (show 0 ≤ (f 24).toInt from by omega) (show (f 24).toInt + (f 20).toInt + mg_p1 gs ≤ 4 * (f 4).toInt from by omega) (show (f 20).toInt ≤ (f 4).toInt from by omega) (show (f 15).toInt + 0 + mg_p2 gs ≤ (f 4).toInt from by omega) (show 1 + mg_p3 gs ≤ 20 * (f 4).toInt + 20 from by omega) (show 0 ≤ (f 68).toInt from by omega) (show (f 68).toInt + 3 * (f 20).toInt + 0 + mg_p4 gs ≤ 60 * (f 4).toInt + 60 from by omega) (show 0 ≤ (f 62).toInt from by omega) (show (f 62).toInt + 64 * mj_n (g 16) (f 15).toNatClampNeg 3 ≤ 64 * (f 4).toInt from by omega) (show 0 ≤ (f 44).toInt from by omega) (show (f 44).toInt ≤ (f 4).toInt from by omega) (show 0 ≤ (f 48).toInt from by omega) (show (f 48).toInt ≤ (f 4).toInt from by omega) (show 1 ≤ (f 53).toInt from by omega) (show (f 53).toInt ≤ (f 4).toInt + 1 from by omega) (show 0 ≤ (f 19).toInt from by omega) (show (f 19).toInt ≤ 600 from by omega) (show 0 ≤ (f 6).toInt from by omega) (show 0 ≤ (f 8).toInt from by omega) (show 0 ≤ mg_p1 gs from by omega) (show 0 ≤ mg_p2 gs from by omega) (show 0 ≤ mg_p4 gs from by omega) (show 0 ≤ z.toInt from by omega) (show z.toInt ≤ mg_p3 gs from by omega) (show 0 ≤ mj_n (g 16) (f 15).toNatClampNeg 3 from by omega) (show 1 ≤ (f 15).toInt from by omega) (show 0 ≤ (f 20).toInt from by omega) (show 1 ≤ (f 37).toInt from by omega) (show 0 ≤ (f 32).toInt from by omega) (show (f 32).toInt ≤ (f 5).toInt from by omega) (show (f 5).toInt ≤ 48 from by omega) (show (f 37).toInt ≤ 2 * (f 5).toInt + 1 from by omega) (show 0 ≤ on.toInt from by omega) (show on.toInt ≤ 16000 from by omega)
theorem sq_12 {sc : Nat × (Nat → Int32)} {d : Nat} {S0 S : am_S} {f : Nat → Int32} {g : Nat → Nat → Int32} {gs : List mg_E} {bc : List (List Nat)} {c : List Nat} {z on tw th : Int32} (hS : MS S0 S (upd f 10 z) g) (hB : BI f g (((12 : Int), on.toInt, tw.toInt, th.toInt, c) :: gs) bc) (hz : z.toInt = (f 10).toInt - 1) : am_E (am_PP sc) (d + 8) 180 0 [some (.ref 39), some (.int 12), some (.int on), some (.int tw), some (.int th)] [] S (am_N fun v S1 => ∃ (f' : Nat → Int32) (g' : Nat → Nat → Int32) (gs' : List mg_E) (bc' : List (List Nat)), v = none ∧ MS S0 S1 f' g' ∧ (mg_on (upd f 10 z) (100 * ((f 0).toInt - (f 4).toInt) + mg_p3 (((12 : Int), on.toInt, tw.toInt, th.toInt, c) :: gs)) f' g' gs' bc' ∨ mg_off (upd f 10 z) f' g' bc')) := by
  obtain ⟨hR, hG, hN⟩ := hB
  obtain ⟨n0, n1, n2, n3, n4, n5, n6, n7, n8, n9, n10, n11, n12, n13, n14, n15, n16, n17, n18, n19, n20, n21⟩ := hN
  obtain ⟨⟨-, a1, a2, a3, a4, a5, a6, a7, a8⟩, hr⟩ := hG
  have a1_ : (1 : Int) ≤ (f 15).toInt := a1
  have a7_ : (f 37).toInt ≤ 2 * (f 5).toInt + 1 := a7
  have q1 : mg_p1 (((12 : Int), on.toInt, tw.toInt, th.toInt, c) :: gs) = 0 + mg_p1 gs := rfl
  have q2 : mg_p2 (((12 : Int), on.toInt, tw.toInt, th.toInt, c) :: gs) = 0 + mg_p2 gs := rfl
  have q3 : mg_p3 (((12 : Int), on.toInt, tw.toInt, th.toInt, c) :: gs) = 1 + mg_p3 gs := rfl
  have q4 : mg_p4 (((12 : Int), on.toInt, tw.toInt, th.toInt, c) :: gs) = 0 + mg_p4 gs := rfl
  have r1 := mg_p1_nn _ _ _ _ _ _ hr
  have r2 := mg_p2_nn _ _ _ _ _ _ hr
  have r4 := mg_p4_nn gs
  have ht := pop_top hR hz
  have hk3 := (mj_n_le (a := g 16) (f 15).toNatClampNeg 3).1
  have hRk := pop_0 hR hz (by decide)
  obtain ⟨u0, u1⟩ : 0 ≤ on.toInt ∧ on.toInt ≤ 16000 := a8
  exact st_12 (gs := gs) hS hRk hr (show 0 ≤ (f 4).toInt from by omega) (show (f 4).toInt ≤ (f 0).toInt from by omega) (show (f 0).toInt ≤ 512 from by omega) (show 0 ≤ (f 24).toInt from by omega) (show (f 24).toInt + (f 20).toInt + mg_p1 gs ≤ 4 * (f 4).toInt from by omega) (show (f 20).toInt ≤ (f 4).toInt from by omega) (show (f 15).toInt + 0 + mg_p2 gs ≤ (f 4).toInt from by omega) (show 1 + mg_p3 gs ≤ 20 * (f 4).toInt + 20 from by omega) (show 0 ≤ (f 68).toInt from by omega) (show (f 68).toInt + 3 * (f 20).toInt + 0 + mg_p4 gs ≤ 60 * (f 4).toInt + 60 from by omega) (show 0 ≤ (f 62).toInt from by omega) (show (f 62).toInt + 64 * mj_n (g 16) (f 15).toNatClampNeg 3 ≤ 64 * (f 4).toInt from by omega) (show 0 ≤ (f 44).toInt from by omega) (show (f 44).toInt ≤ (f 4).toInt from by omega) (show 0 ≤ (f 48).toInt from by omega) (show (f 48).toInt ≤ (f 4).toInt from by omega) (show 1 ≤ (f 53).toInt from by omega) (show (f 53).toInt ≤ (f 4).toInt + 1 from by omega) (show 0 ≤ (f 19).toInt from by omega) (show (f 19).toInt ≤ 600 from by omega) (show 0 ≤ (f 6).toInt from by omega) (show 0 ≤ (f 8).toInt from by omega) (show 0 ≤ mg_p1 gs from by omega) (show 0 ≤ mg_p2 gs from by omega) (show 0 ≤ mg_p4 gs from by omega) (show 0 ≤ z.toInt from by omega) (show z.toInt ≤ mg_p3 gs from by omega) (show 0 ≤ mj_n (g 16) (f 15).toNatClampNeg 3 from by omega) (show 1 ≤ (f 15).toInt from by omega) (show 0 ≤ (f 20).toInt from by omega) (show 1 ≤ (f 37).toInt from by omega) (show 0 ≤ (f 32).toInt from by omega) (show (f 32).toInt ≤ (f 5).toInt from by omega) (show (f 5).toInt ≤ 48 from by omega) (show (f 37).toInt ≤ 2 * (f 5).toInt + 1 from by omega) (show 0 ≤ on.toInt from by omega) (show on.toInt ≤ 16000 from by omega)
theorem sq_13 {sc : Nat × (Nat → Int32)} {d : Nat} {S0 S : am_S} {f : Nat → Int32} {g : Nat → Nat → Int32} {gs : List mg_E} {bc : List (List Nat)} {c : List Nat} {z on tw th : Int32} (hS : MS S0 S (upd f 10 z) g) (hB : BI f g (((13 : Int), on.toInt, tw.toInt, th.toInt, c) :: gs) bc) (hz : z.toInt = (f 10).toInt - 1) : am_E (am_PP sc) (d + 8) 180 0 [some (.ref 39), some (.int 13), some (.int on), some (.int tw), some (.int th)] [] S (am_N fun v S1 => ∃ (f' : Nat → Int32) (g' : Nat → Nat → Int32) (gs' : List mg_E) (bc' : List (List Nat)), v = none ∧ MS S0 S1 f' g' ∧ (mg_on (upd f 10 z) (100 * ((f 0).toInt - (f 4).toInt) + mg_p3 (((13 : Int), on.toInt, tw.toInt, th.toInt, c) :: gs)) f' g' gs' bc' ∨ mg_off (upd f 10 z) f' g' bc')) := by
  obtain ⟨hR, hG, hN⟩ := hB
  obtain ⟨n0, n1, n2, n3, n4, n5, n6, n7, n8, n9, n10, n11, n12, n13, n14, n15, n16, n17, n18, n19, n20, n21⟩ := hN
  obtain ⟨⟨-, a1, a2, a3, a4, a5, a6, a7, a8⟩, hr⟩ := hG
  have a1_ : (0 : Int) ≤ (f 15).toInt := a1
  have a7_ : (f 37).toInt ≤ 2 * (f 5).toInt + 0 := a7
  have q1 : mg_p1 (((13 : Int), on.toInt, tw.toInt, th.toInt, c) :: gs) = 0 + mg_p1 gs := rfl
  have q2 : mg_p2 (((13 : Int), on.toInt, tw.toInt, th.toInt, c) :: gs) = 0 + mg_p2 gs := rfl
  have q3 : mg_p3 (((13 : Int), on.toInt, tw.toInt, th.toInt, c) :: gs) = 1 + mg_p3 gs := rfl
  have q4 : mg_p4 (((13 : Int), on.toInt, tw.toInt, th.toInt, c) :: gs) = 0 + mg_p4 gs := rfl
  have r1 := mg_p1_nn _ _ _ _ _ _ hr
  have r2 := mg_p2_nn _ _ _ _ _ _ hr
  have r4 := mg_p4_nn gs
  have ht := pop_top hR hz
  have hk3 := (mj_n_le (a := g 16) (f 15).toNatClampNeg 3).1
  have hRk := pop_0 hR hz (by decide)
  obtain ⟨o1, o2⟩ := pop_13 hR hz (by decide)
  obtain ⟨u0, u1, u2⟩ : 0 ≤ (g 34 (f 32).toInt.toNat).toInt + th.toInt ∧ (g 34 (f 32).toInt.toNat).toInt + th.toInt ≤ (g 38 ((f 37).toInt - 1).toNat).toInt ∧ ∀ b : Nat, (b : Int) < (f 37).toInt - 1 → (g 38 b).toInt ≤ (g 34 (f 32).toInt.toNat).toInt + th.toInt := a8
  exact st_13 (gs := gs) hS hRk hr u0 u1 u2 (show 0 ≤ (f 4).toInt from by omega) (show (f 4).toInt ≤ (f 0).toInt from by omega) (show (f 0).toInt ≤ 512 from by omega) (show 0 ≤ (f 24).toInt from by omega) (show (f 24).toInt + (f 20).toInt + mg_p1 gs ≤ 4 * (f 4).toInt from by omega) (show (f 20).toInt ≤ (f 4).toInt from by omega) (show (f 15).toInt + 0 + mg_p2 gs ≤ (f 4).toInt from by omega) (show 1 + mg_p3 gs ≤ 20 * (f 4).toInt + 20 from by omega) (show 0 ≤ (f 68).toInt from by omega) (show (f 68).toInt + 3 * (f 20).toInt + 0 + mg_p4 gs ≤ 60 * (f 4).toInt + 60 from by omega) (show 0 ≤ (f 62).toInt from by omega) (show (f 62).toInt + 64 * mj_n (g 16) (f 15).toNatClampNeg 3 ≤ 64 * (f 4).toInt from by omega) (show 0 ≤ (f 44).toInt from by omega) (show (f 44).toInt ≤ (f 4).toInt from by omega) (show 0 ≤ (f 48).toInt from by omega) (show (f 48).toInt ≤ (f 4).toInt from by omega) (show 1 ≤ (f 53).toInt from by omega) (show (f 53).toInt ≤ (f 4).toInt + 1 from by omega) (show 0 ≤ (f 19).toInt from by omega) (show (f 19).toInt ≤ 600 from by omega) (show 0 ≤ (f 6).toInt from by omega) (show 0 ≤ (f 8).toInt from by omega) (show 0 ≤ mg_p1 gs from by omega) (show 0 ≤ mg_p2 gs from by omega) (show 0 ≤ mg_p4 gs from by omega) (show 0 ≤ z.toInt from by omega) (show z.toInt ≤ mg_p3 gs from by omega) (show 0 ≤ mj_n (g 16) (f 15).toNatClampNeg 3 from by omega) (show 0 ≤ (f 15).toInt from by omega) (show 0 ≤ (f 20).toInt from by omega) (show 1 ≤ (f 37).toInt from by omega) (show 0 ≤ (f 32).toInt from by omega) (show (f 32).toInt ≤ (f 5).toInt from by omega) (show (f 5).toInt ≤ 48 from by omega) (show (f 37).toInt ≤ 2 * (f 5).toInt + 0 from by omega) (show 0 ≤ on.toInt from by omega) (show on.toInt < (f 68).toInt from by omega)
theorem sq_14 {sc : Nat × (Nat → Int32)} {d : Nat} {S0 S : am_S} {f : Nat → Int32} {g : Nat → Nat → Int32} {gs : List mg_E} {bc : List (List Nat)} {c : List Nat} {z on tw th : Int32} (hS : MS S0 S (upd f 10 z) g) (hB : BI f g (((14 : Int), on.toInt, tw.toInt, th.toInt, c) :: gs) bc) (hz : z.toInt = (f 10).toInt - 1) : am_E (am_PP sc) (d + 8) 180 0 [some (.ref 39), some (.int 14), some (.int on), some (.int tw), some (.int th)] [] S (am_N fun v S1 => ∃ (f' : Nat → Int32) (g' : Nat → Nat → Int32) (gs' : List mg_E) (bc' : List (List Nat)), v = none ∧ MS S0 S1 f' g' ∧ (mg_on (upd f 10 z) (100 * ((f 0).toInt - (f 4).toInt) + mg_p3 (((14 : Int), on.toInt, tw.toInt, th.toInt, c) :: gs)) f' g' gs' bc' ∨ mg_off (upd f 10 z) f' g' bc')) := by
  obtain ⟨hR, hG, hN⟩ := hB
  obtain ⟨n0, n1, n2, n3, n4, n5, n6, n7, n8, n9, n10, n11, n12, n13, n14, n15, n16, n17, n18, n19, n20, n21⟩ := hN
  obtain ⟨⟨-, a1, a2, a3, a4, a5, a6, a7, a8⟩, hr⟩ := hG
  have a1_ : (1 : Int) ≤ (f 15).toInt := a1
  have a7_ : (f 37).toInt ≤ 2 * (f 5).toInt + 1 := a7
  have q1 : mg_p1 (((14 : Int), on.toInt, tw.toInt, th.toInt, c) :: gs) = tw.toInt + mg_p1 gs := rfl
  have q2 : mg_p2 (((14 : Int), on.toInt, tw.toInt, th.toInt, c) :: gs) = 0 + mg_p2 gs := rfl
  have q3 : mg_p3 (((14 : Int), on.toInt, tw.toInt, th.toInt, c) :: gs) = 1 + mg_p3 gs := rfl
  have q4 : mg_p4 (((14 : Int), on.toInt, tw.toInt, th.toInt, c) :: gs) = 0 + mg_p4 gs := rfl
  have r1 := mg_p1_nn _ _ _ _ _ _ hr
  have r2 := mg_p2_nn _ _ _ _ _ _ hr
  have r4 := mg_p4_nn gs
  have ht := pop_top hR hz
  have hk3 := (mj_n_le (a := g 16) (f 15).toNatClampNeg 3).1
  have hRk := pop_0 hR hz (by decide)
  obtain ⟨u0, u1, u2⟩ : 0 ≤ on.toInt ∧ 1 ≤ tw.toInt ∧ on.toInt + 2 * tw.toInt ≤ 16000 := a8
  exact st_14 (gs := gs) hS hRk hr (show 0 ≤ (f 4).toInt from by omega) (show (f 4).toInt ≤ (f 0).toInt from by omega) (show (f 0).toInt ≤ 512 from by omega) (show 0 ≤ (f 24).toInt from by omega) (show (f 24).toInt + (f 20).toInt + tw.toInt + mg_p1 gs ≤ 4 * (f 4).toInt from by omega) (show (f 20).toInt ≤ (f 4).toInt from by omega) (show (f 15).toInt + 0 + mg_p2 gs ≤ (f 4).toInt from by omega) (show 1 + mg_p3 gs ≤ 20 * (f 4).toInt + 20 from by omega) (show 0 ≤ (f 68).toInt from by omega) (show (f 68).toInt + 3 * (f 20).toInt + 0 + mg_p4 gs ≤ 60 * (f 4).toInt + 60 from by omega) (show 0 ≤ (f 62).toInt from by omega) (show (f 62).toInt + 64 * mj_n (g 16) (f 15).toNatClampNeg 3 ≤ 64 * (f 4).toInt from by omega) (show 0 ≤ (f 44).toInt from by omega) (show (f 44).toInt ≤ (f 4).toInt from by omega) (show 0 ≤ (f 48).toInt from by omega) (show (f 48).toInt ≤ (f 4).toInt from by omega) (show 1 ≤ (f 53).toInt from by omega) (show (f 53).toInt ≤ (f 4).toInt + 1 from by omega) (show 0 ≤ (f 19).toInt from by omega) (show (f 19).toInt ≤ 600 from by omega) (show 0 ≤ (f 6).toInt from by omega) (show 0 ≤ (f 8).toInt from by omega) (show 0 ≤ mg_p1 gs from by omega) (show 0 ≤ mg_p2 gs from by omega) (show 0 ≤ mg_p4 gs from by omega) (show 0 ≤ z.toInt from by omega) (show z.toInt ≤ mg_p3 gs from by omega) (show 0 ≤ mj_n (g 16) (f 15).toNatClampNeg 3 from by omega) (show 1 ≤ (f 15).toInt from by omega) (show 0 ≤ (f 20).toInt from by omega) (show 1 ≤ (f 37).toInt from by omega) (show 0 ≤ (f 32).toInt from by omega) (show (f 32).toInt ≤ (f 5).toInt from by omega) (show (f 5).toInt ≤ 48 from by omega) (show (f 37).toInt ≤ 2 * (f 5).toInt + 1 from by omega) (show 0 ≤ on.toInt from by omega) (show 1 ≤ tw.toInt from by omega) (show on.toInt + 2 * tw.toInt ≤ 16000 from by omega)
theorem sq_15 {sc : Nat × (Nat → Int32)} {d : Nat} {S0 S : am_S} {f : Nat → Int32} {g : Nat → Nat → Int32} {gs : List mg_E} {bc : List (List Nat)} {c : List Nat} {z on tw th : Int32} (hS : MS S0 S (upd f 10 z) g) (hB : BI f g (((15 : Int), on.toInt, tw.toInt, th.toInt, c) :: gs) bc) (hz : z.toInt = (f 10).toInt - 1) : am_E (am_PP sc) (d + 8) 180 0 [some (.ref 39), some (.int 15), some (.int on), some (.int tw), some (.int th)] [] S (am_N fun v S1 => ∃ (f' : Nat → Int32) (g' : Nat → Nat → Int32) (gs' : List mg_E) (bc' : List (List Nat)), v = none ∧ MS S0 S1 f' g' ∧ (mg_on (upd f 10 z) (100 * ((f 0).toInt - (f 4).toInt) + mg_p3 (((15 : Int), on.toInt, tw.toInt, th.toInt, c) :: gs)) f' g' gs' bc' ∨ mg_off (upd f 10 z) f' g' bc')) := by
  obtain ⟨hR, hG, hN⟩ := hB
  obtain ⟨n0, n1, n2, n3, n4, n5, n6, n7, n8, n9, n10, n11, n12, n13, n14, n15, n16, n17, n18, n19, n20, n21⟩ := hN
  obtain ⟨⟨-, a1, a2, a3, a4, a5, a6, a7, a8⟩, hr⟩ := hG
  have a1_ : (0 : Int) ≤ (f 15).toInt := a1
  have a7_ : (f 37).toInt ≤ 2 * (f 5).toInt + 0 := a7
  have q1 : mg_p1 (((15 : Int), on.toInt, tw.toInt, th.toInt, c) :: gs) = 0 + mg_p1 gs := rfl
  have q2 : mg_p2 (((15 : Int), on.toInt, tw.toInt, th.toInt, c) :: gs) = 0 + mg_p2 gs := rfl
  have q3 : mg_p3 (((15 : Int), on.toInt, tw.toInt, th.toInt, c) :: gs) = 1 + mg_p3 gs := rfl
  have q4 : mg_p4 (((15 : Int), on.toInt, tw.toInt, th.toInt, c) :: gs) = 0 + mg_p4 gs := rfl
  have r1 := mg_p1_nn _ _ _ _ _ _ hr
  have r2 := mg_p2_nn _ _ _ _ _ _ hr
  have r4 := mg_p4_nn gs
  have ht := pop_top hR hz
  have hk3 := (mj_n_le (a := g 16) (f 15).toNatClampNeg 3).1
  have hRk := pop_0 hR hz (by decide)
  obtain ⟨o1, o2⟩ := pop_13 hR hz (by decide)
  obtain ⟨u0, u1, u2⟩ : 0 ≤ (g 34 (f 32).toInt.toNat).toInt + th.toInt ∧ (g 34 (f 32).toInt.toNat).toInt + th.toInt ≤ (g 38 ((f 37).toInt - 1).toNat).toInt ∧ ∀ b : Nat, (b : Int) < (f 37).toInt - 1 → (g 38 b).toInt ≤ (g 34 (f 32).toInt.toNat).toInt + th.toInt := a8
  exact st_15 (gs := gs) hS hRk hr u0 u1 u2 (show 0 ≤ (f 4).toInt from by omega) (show (f 4).toInt ≤ (f 0).toInt from by omega) (show (f 0).toInt ≤ 512 from by omega) (show 0 ≤ (f 24).toInt from by omega) (show (f 24).toInt + (f 20).toInt + mg_p1 gs ≤ 4 * (f 4).toInt from by omega) (show (f 20).toInt ≤ (f 4).toInt from by omega) (show (f 15).toInt + 0 + mg_p2 gs ≤ (f 4).toInt from by omega) (show 1 + mg_p3 gs ≤ 20 * (f 4).toInt + 20 from by omega) (show 0 ≤ (f 68).toInt from by omega) (show (f 68).toInt + 3 * (f 20).toInt + 0 + mg_p4 gs ≤ 60 * (f 4).toInt + 60 from by omega) (show 0 ≤ (f 62).toInt from by omega) (show (f 62).toInt + 64 * mj_n (g 16) (f 15).toNatClampNeg 3 ≤ 64 * (f 4).toInt from by omega) (show 0 ≤ (f 44).toInt from by omega) (show (f 44).toInt ≤ (f 4).toInt from by omega) (show 0 ≤ (f 48).toInt from by omega) (show (f 48).toInt ≤ (f 4).toInt from by omega) (show 1 ≤ (f 53).toInt from by omega) (show (f 53).toInt ≤ (f 4).toInt + 1 from by omega) (show 0 ≤ (f 19).toInt from by omega) (show (f 19).toInt ≤ 600 from by omega) (show 0 ≤ (f 6).toInt from by omega) (show 0 ≤ (f 8).toInt from by omega) (show 0 ≤ mg_p1 gs from by omega) (show 0 ≤ mg_p2 gs from by omega) (show 0 ≤ mg_p4 gs from by omega) (show 0 ≤ z.toInt from by omega) (show z.toInt ≤ mg_p3 gs from by omega) (show 0 ≤ mj_n (g 16) (f 15).toNatClampNeg 3 from by omega) (show 0 ≤ (f 15).toInt from by omega) (show 0 ≤ (f 20).toInt from by omega) (show 1 ≤ (f 37).toInt from by omega) (show 0 ≤ (f 32).toInt from by omega) (show (f 32).toInt ≤ (f 5).toInt from by omega) (show (f 5).toInt ≤ 48 from by omega) (show (f 37).toInt ≤ 2 * (f 5).toInt + 0 from by omega) (show 0 ≤ on.toInt from by omega) (show on.toInt < (f 68).toInt from by omega)
theorem sq_16 {sc : Nat × (Nat → Int32)} {d : Nat} {S0 S : am_S} {f : Nat → Int32} {g : Nat → Nat → Int32} {gs : List mg_E} {bc : List (List Nat)} {c : List Nat} {z on tw th : Int32} (hS : MS S0 S (upd f 10 z) g) (hB : BI f g (((16 : Int), on.toInt, tw.toInt, th.toInt, c) :: gs) bc) (hz : z.toInt = (f 10).toInt - 1) : am_E (am_PP sc) (d + 8) 180 0 [some (.ref 39), some (.int 16), some (.int on), some (.int tw), some (.int th)] [] S (am_N fun v S1 => ∃ (f' : Nat → Int32) (g' : Nat → Nat → Int32) (gs' : List mg_E) (bc' : List (List Nat)), v = none ∧ MS S0 S1 f' g' ∧ (mg_on (upd f 10 z) (100 * ((f 0).toInt - (f 4).toInt) + mg_p3 (((16 : Int), on.toInt, tw.toInt, th.toInt, c) :: gs)) f' g' gs' bc' ∨ mg_off (upd f 10 z) f' g' bc')) := by
  obtain ⟨hR, hG, hN⟩ := hB
  obtain ⟨n0, n1, n2, n3, n4, n5, n6, n7, n8, n9, n10, n11, n12, n13, n14, n15, n16, n17, n18, n19, n20, n21⟩ := hN
  obtain ⟨⟨-, a1, a2, a3, a4, a5, a6, a7, a8⟩, hr⟩ := hG
  have a1_ : (1 : Int) ≤ (f 15).toInt := a1
  have a7_ : (f 37).toInt ≤ 2 * (f 5).toInt + 1 := a7
  have q1 : mg_p1 (((16 : Int), on.toInt, tw.toInt, th.toInt, c) :: gs) = 0 + mg_p1 gs := rfl
  have q2 : mg_p2 (((16 : Int), on.toInt, tw.toInt, th.toInt, c) :: gs) = 0 + mg_p2 gs := rfl
  have q3 : mg_p3 (((16 : Int), on.toInt, tw.toInt, th.toInt, c) :: gs) = 1 + mg_p3 gs := rfl
  have q4 : mg_p4 (((16 : Int), on.toInt, tw.toInt, th.toInt, c) :: gs) = 3 + mg_p4 gs := rfl
  have r1 := mg_p1_nn _ _ _ _ _ _ hr
  have r2 := mg_p2_nn _ _ _ _ _ _ hr
  have r4 := mg_p4_nn gs
  have ht := pop_top hR hz
  have hk3 := (mj_n_le (a := g 16) (f 15).toNatClampNeg 3).1
  have hRk := pop_0 hR hz (by decide)
  exact st_16 (gs := gs) hS hRk hr (show 0 ≤ (f 4).toInt from by omega) (show (f 4).toInt ≤ (f 0).toInt from by omega) (show (f 0).toInt ≤ 512 from by omega) (show 0 ≤ (f 24).toInt from by omega) (show (f 24).toInt + (f 20).toInt + mg_p1 gs ≤ 4 * (f 4).toInt from by omega) (show (f 20).toInt ≤ (f 4).toInt from by omega) (show (f 15).toInt + 0 + mg_p2 gs ≤ (f 4).toInt from by omega) (show 1 + mg_p3 gs ≤ 20 * (f 4).toInt + 20 from by omega) (show 0 ≤ (f 68).toInt from by omega) (show (f 68).toInt + 3 * (f 20).toInt + 3 + mg_p4 gs ≤ 60 * (f 4).toInt + 60 from by omega) (show 0 ≤ (f 62).toInt from by omega) (show (f 62).toInt + 64 * mj_n (g 16) (f 15).toNatClampNeg 3 ≤ 64 * (f 4).toInt from by omega) (show 0 ≤ (f 44).toInt from by omega) (show (f 44).toInt ≤ (f 4).toInt from by omega) (show 0 ≤ (f 48).toInt from by omega) (show (f 48).toInt ≤ (f 4).toInt from by omega) (show 1 ≤ (f 53).toInt from by omega) (show (f 53).toInt ≤ (f 4).toInt + 1 from by omega) (show 0 ≤ (f 19).toInt from by omega) (show (f 19).toInt ≤ 600 from by omega) (show 0 ≤ (f 6).toInt from by omega) (show 0 ≤ (f 8).toInt from by omega) (show 0 ≤ mg_p1 gs from by omega) (show 0 ≤ mg_p2 gs from by omega) (show 0 ≤ mg_p4 gs from by omega) (show 0 ≤ z.toInt from by omega) (show z.toInt ≤ mg_p3 gs from by omega) (show 0 ≤ mj_n (g 16) (f 15).toNatClampNeg 3 from by omega) (show 1 ≤ (f 15).toInt from by omega) (show 0 ≤ (f 20).toInt from by omega) (show 1 ≤ (f 37).toInt from by omega) (show 0 ≤ (f 32).toInt from by omega) (show (f 32).toInt ≤ (f 5).toInt from by omega) (show (f 5).toInt ≤ 48 from by omega) (show (f 37).toInt ≤ 2 * (f 5).toInt + 1 from by omega)
theorem sq_17 {sc : Nat × (Nat → Int32)} {d : Nat} {S0 S : am_S} {f : Nat → Int32} {g : Nat → Nat → Int32} {gs : List mg_E} {bc : List (List Nat)} {c : List Nat} {z on tw th : Int32} (hS : MS S0 S (upd f 10 z) g) (hB : BI f g (((17 : Int), on.toInt, tw.toInt, th.toInt, c) :: gs) bc) (hz : z.toInt = (f 10).toInt - 1) : am_E (am_PP sc) (d + 8) 180 0 [some (.ref 39), some (.int 17), some (.int on), some (.int tw), some (.int th)] [] S (am_N fun v S1 => ∃ (f' : Nat → Int32) (g' : Nat → Nat → Int32) (gs' : List mg_E) (bc' : List (List Nat)), v = none ∧ MS S0 S1 f' g' ∧ (mg_on (upd f 10 z) (100 * ((f 0).toInt - (f 4).toInt) + mg_p3 (((17 : Int), on.toInt, tw.toInt, th.toInt, c) :: gs)) f' g' gs' bc' ∨ mg_off (upd f 10 z) f' g' bc')) := by
  obtain ⟨hR, hG, hN⟩ := hB
  obtain ⟨n0, n1, n2, n3, n4, n5, n6, n7, n8, n9, n10, n11, n12, n13, n14, n15, n16, n17, n18, n19, n20, n21⟩ := hN
  obtain ⟨⟨-, a1, a2, a3, a4, a5, a6, a7, a8⟩, hr⟩ := hG
  have a1_ : (1 : Int) ≤ (f 15).toInt := a1
  have a7_ : (f 37).toInt ≤ 2 * (f 5).toInt + 1 := a7
  have q1 : mg_p1 (((17 : Int), on.toInt, tw.toInt, th.toInt, c) :: gs) = 0 + mg_p1 gs := rfl
  have q2 : mg_p2 (((17 : Int), on.toInt, tw.toInt, th.toInt, c) :: gs) = 0 + mg_p2 gs := rfl
  have q3 : mg_p3 (((17 : Int), on.toInt, tw.toInt, th.toInt, c) :: gs) = 1 + mg_p3 gs := rfl
  have q4 : mg_p4 (((17 : Int), on.toInt, tw.toInt, th.toInt, c) :: gs) = 2 + mg_p4 gs := rfl
  have r1 := mg_p1_nn _ _ _ _ _ _ hr
  have r2 := mg_p2_nn _ _ _ _ _ _ hr
  have r4 := mg_p4_nn gs
  have ht := pop_top hR hz
  have hk3 := (mj_n_le (a := g 16) (f 15).toNatClampNeg 3).1
  have hRk := pop_0 hR hz (by decide)
  exact st_17 (gs := gs) hS hRk hr (show 0 ≤ (f 4).toInt from by omega) (show (f 4).toInt ≤ (f 0).toInt from by omega) (show (f 0).toInt ≤ 512 from by omega) (show 0 ≤ (f 24).toInt from by omega) (show (f 24).toInt + (f 20).toInt + mg_p1 gs ≤ 4 * (f 4).toInt from by omega) (show (f 20).toInt ≤ (f 4).toInt from by omega) (show (f 15).toInt + 0 + mg_p2 gs ≤ (f 4).toInt from by omega) (show 1 + mg_p3 gs ≤ 20 * (f 4).toInt + 20 from by omega) (show 0 ≤ (f 68).toInt from by omega) (show (f 68).toInt + 3 * (f 20).toInt + 2 + mg_p4 gs ≤ 60 * (f 4).toInt + 60 from by omega) (show 0 ≤ (f 62).toInt from by omega) (show (f 62).toInt + 64 * mj_n (g 16) (f 15).toNatClampNeg 3 ≤ 64 * (f 4).toInt from by omega) (show 0 ≤ (f 44).toInt from by omega) (show (f 44).toInt ≤ (f 4).toInt from by omega) (show 0 ≤ (f 48).toInt from by omega) (show (f 48).toInt ≤ (f 4).toInt from by omega) (show 1 ≤ (f 53).toInt from by omega) (show (f 53).toInt ≤ (f 4).toInt + 1 from by omega) (show 0 ≤ (f 19).toInt from by omega) (show (f 19).toInt ≤ 600 from by omega) (show 0 ≤ (f 6).toInt from by omega) (show 0 ≤ (f 8).toInt from by omega) (show 0 ≤ mg_p1 gs from by omega) (show 0 ≤ mg_p2 gs from by omega) (show 0 ≤ mg_p4 gs from by omega) (show 0 ≤ z.toInt from by omega) (show z.toInt ≤ mg_p3 gs from by omega) (show 0 ≤ mj_n (g 16) (f 15).toNatClampNeg 3 from by omega) (show 1 ≤ (f 15).toInt from by omega) (show 0 ≤ (f 20).toInt from by omega) (show 1 ≤ (f 37).toInt from by omega) (show 0 ≤ (f 32).toInt from by omega) (show (f 32).toInt ≤ (f 5).toInt from by omega) (show (f 5).toInt ≤ 48 from by omega) (show (f 37).toInt ≤ 2 * (f 5).toInt + 1 from by omega)
theorem sq_18 {sc : Nat × (Nat → Int32)} {d : Nat} {S0 S : am_S} {f : Nat → Int32} {g : Nat → Nat → Int32} {gs : List mg_E} {bc : List (List Nat)} {c : List Nat} {z on tw th : Int32} (hS : MS S0 S (upd f 10 z) g) (hB : BI f g (((18 : Int), on.toInt, tw.toInt, th.toInt, c) :: gs) bc) (hz : z.toInt = (f 10).toInt - 1) : am_E (am_PP sc) (d + 8) 180 0 [some (.ref 39), some (.int 18), some (.int on), some (.int tw), some (.int th)] [] S (am_N fun v S1 => ∃ (f' : Nat → Int32) (g' : Nat → Nat → Int32) (gs' : List mg_E) (bc' : List (List Nat)), v = none ∧ MS S0 S1 f' g' ∧ (mg_on (upd f 10 z) (100 * ((f 0).toInt - (f 4).toInt) + mg_p3 (((18 : Int), on.toInt, tw.toInt, th.toInt, c) :: gs)) f' g' gs' bc' ∨ mg_off (upd f 10 z) f' g' bc')) := by
  obtain ⟨hR, hG, hN⟩ := hB
  obtain ⟨n0, n1, n2, n3, n4, n5, n6, n7, n8, n9, n10, n11, n12, n13, n14, n15, n16, n17, n18, n19, n20, n21⟩ := hN
  obtain ⟨⟨-, a1, a2, a3, a4, a5, a6, a7, a8⟩, hr⟩ := hG
  have a1_ : (1 : Int) ≤ (f 15).toInt := a1
  have a7_ : (f 37).toInt ≤ 2 * (f 5).toInt + 1 := a7
  have q1 : mg_p1 (((18 : Int), on.toInt, tw.toInt, th.toInt, c) :: gs) = 0 + mg_p1 gs := rfl
  have q2 : mg_p2 (((18 : Int), on.toInt, tw.toInt, th.toInt, c) :: gs) = 0 + mg_p2 gs := rfl
  have q3 : mg_p3 (((18 : Int), on.toInt, tw.toInt, th.toInt, c) :: gs) = 1 + mg_p3 gs := rfl
  have q4 : mg_p4 (((18 : Int), on.toInt, tw.toInt, th.toInt, c) :: gs) = 5 + mg_p4 gs := rfl
  have r1 := mg_p1_nn _ _ _ _ _ _ hr
  have r2 := mg_p2_nn _ _ _ _ _ _ hr
  have r4 := mg_p4_nn gs
  have ht := pop_top hR hz
  have hk3 := (mj_n_le (a := g 16) (f 15).toNatClampNeg 3).1
  have hRk := pop_0 hR hz (by decide)
  obtain ⟨u0, u1, u2⟩ : 0 ≤ tw.toInt ∧ tw.toInt ≤ (f 20).toInt ∧ ∀ i : Nat, tw.toInt ≤ (i : Int) → (i : Int) < (f 20).toInt → 0 ≤ (g 23 i).toInt ∧ (g 23 i).toInt < 16384 := a8
  exact st_18 (gs := gs) hS hRk hr u2 (show 0 ≤ (f 4).toInt from by omega) (show (f 4).toInt ≤ (f 0).toInt from by omega) (show (f 0).toInt ≤ 512 from by omega) (show 0 ≤ (f 24).toInt from by omega) (show (f 24).toInt + (f 20).toInt + mg_p1 gs ≤ 4 * (f 4).toInt from by omega) (show (f 20).toInt ≤ (f 4).toInt from by omega) (show (f 15).toInt + 0 + mg_p2 gs ≤ (f 4).toInt from by omega) (show 1 + mg_p3 gs ≤ 20 * (f 4).toInt + 20 from by omega) (show 0 ≤ (f 68).toInt from by omega) (show (f 68).toInt + 3 * (f 20).toInt + 5 + mg_p4 gs ≤ 60 * (f 4).toInt + 60 from by omega) (show 0 ≤ (f 62).toInt from by omega) (show (f 62).toInt + 64 * mj_n (g 16) (f 15).toNatClampNeg 3 ≤ 64 * (f 4).toInt from by omega) (show 0 ≤ (f 44).toInt from by omega) (show (f 44).toInt ≤ (f 4).toInt from by omega) (show 0 ≤ (f 48).toInt from by omega) (show (f 48).toInt ≤ (f 4).toInt from by omega) (show 1 ≤ (f 53).toInt from by omega) (show (f 53).toInt ≤ (f 4).toInt + 1 from by omega) (show 0 ≤ (f 19).toInt from by omega) (show (f 19).toInt ≤ 600 from by omega) (show 0 ≤ (f 6).toInt from by omega) (show 0 ≤ (f 8).toInt from by omega) (show 0 ≤ mg_p1 gs from by omega) (show 0 ≤ mg_p2 gs from by omega) (show 0 ≤ mg_p4 gs from by omega) (show 0 ≤ z.toInt from by omega) (show z.toInt ≤ mg_p3 gs from by omega) (show 0 ≤ mj_n (g 16) (f 15).toNatClampNeg 3 from by omega) (show 1 ≤ (f 15).toInt from by omega) (show 0 ≤ (f 20).toInt from by omega) (show 1 ≤ (f 37).toInt from by omega) (show 0 ≤ (f 32).toInt from by omega) (show (f 32).toInt ≤ (f 5).toInt from by omega) (show (f 5).toInt ≤ 48 from by omega) (show (f 37).toInt ≤ 2 * (f 5).toInt + 1 from by omega) (show 0 ≤ tw.toInt from by omega) (show tw.toInt ≤ (f 20).toInt from by omega)
theorem sq_19 {sc : Nat × (Nat → Int32)} {d : Nat} {S0 S : am_S} {f : Nat → Int32} {g : Nat → Nat → Int32} {gs : List mg_E} {bc : List (List Nat)} {c : List Nat} {z on tw th : Int32} (hS : MS S0 S (upd f 10 z) g) (hB : BI f g (((19 : Int), on.toInt, tw.toInt, th.toInt, c) :: gs) bc) (hz : z.toInt = (f 10).toInt - 1) : am_E (am_PP sc) (d + 8) 180 0 [some (.ref 39), some (.int 19), some (.int on), some (.int tw), some (.int th)] [] S (am_N fun v S1 => ∃ (f' : Nat → Int32) (g' : Nat → Nat → Int32) (gs' : List mg_E) (bc' : List (List Nat)), v = none ∧ MS S0 S1 f' g' ∧ (mg_on (upd f 10 z) (100 * ((f 0).toInt - (f 4).toInt) + mg_p3 (((19 : Int), on.toInt, tw.toInt, th.toInt, c) :: gs)) f' g' gs' bc' ∨ mg_off (upd f 10 z) f' g' bc')) := by
  obtain ⟨hR, hG, hN⟩ := hB
  obtain ⟨n0, n1, n2, n3, n4, n5, n6, n7, n8, n9, n10, n11, n12, n13, n14, n15, n16, n17, n18, n19, n20, n21⟩ := hN
  obtain ⟨⟨-, a1, a2, a3, a4, a5, a6, a7, a8⟩, hr⟩ := hG
  have a1_ : (1 : Int) ≤ (f 15).toInt := a1
  have a7_ : (f 37).toInt ≤ 2 * (f 5).toInt + 1 := a7
  have q1 : mg_p1 (((19 : Int), on.toInt, tw.toInt, th.toInt, c) :: gs) = 0 + mg_p1 gs := rfl
  have q2 : mg_p2 (((19 : Int), on.toInt, tw.toInt, th.toInt, c) :: gs) = 0 + mg_p2 gs := rfl
  have q3 : mg_p3 (((19 : Int), on.toInt, tw.toInt, th.toInt, c) :: gs) = 1 + mg_p3 gs := rfl
  have q4 : mg_p4 (((19 : Int), on.toInt, tw.toInt, th.toInt, c) :: gs) = 3 + mg_p4 gs := rfl
  have r1 := mg_p1_nn _ _ _ _ _ _ hr
  have r2 := mg_p2_nn _ _ _ _ _ _ hr
  have r4 := mg_p4_nn gs
  have ht := pop_top hR hz
  have hk3 := (mj_n_le (a := g 16) (f 15).toNatClampNeg 3).1
  have hRk := pop_0 hR hz (by decide)
  exact st_19 (gs := gs) hS hRk hr (show 0 ≤ (f 4).toInt from by omega) (show (f 4).toInt ≤ (f 0).toInt from by omega) (show (f 0).toInt ≤ 512 from by omega) (show 0 ≤ (f 24).toInt from by omega) (show (f 24).toInt + (f 20).toInt + mg_p1 gs ≤ 4 * (f 4).toInt from by omega) (show (f 20).toInt ≤ (f 4).toInt from by omega) (show (f 15).toInt + 0 + mg_p2 gs ≤ (f 4).toInt from by omega) (show 1 + mg_p3 gs ≤ 20 * (f 4).toInt + 20 from by omega) (show 0 ≤ (f 68).toInt from by omega) (show (f 68).toInt + 3 * (f 20).toInt + 3 + mg_p4 gs ≤ 60 * (f 4).toInt + 60 from by omega) (show 0 ≤ (f 62).toInt from by omega) (show (f 62).toInt + 64 * mj_n (g 16) (f 15).toNatClampNeg 3 ≤ 64 * (f 4).toInt from by omega) (show 0 ≤ (f 44).toInt from by omega) (show (f 44).toInt ≤ (f 4).toInt from by omega) (show 0 ≤ (f 48).toInt from by omega) (show (f 48).toInt ≤ (f 4).toInt from by omega) (show 1 ≤ (f 53).toInt from by omega) (show (f 53).toInt ≤ (f 4).toInt + 1 from by omega) (show 0 ≤ (f 19).toInt from by omega) (show (f 19).toInt ≤ 600 from by omega) (show 0 ≤ (f 6).toInt from by omega) (show 0 ≤ (f 8).toInt from by omega) (show 0 ≤ mg_p1 gs from by omega) (show 0 ≤ mg_p2 gs from by omega) (show 0 ≤ mg_p4 gs from by omega) (show 0 ≤ z.toInt from by omega) (show z.toInt ≤ mg_p3 gs from by omega) (show 0 ≤ mj_n (g 16) (f 15).toNatClampNeg 3 from by omega) (show 1 ≤ (f 15).toInt from by omega) (show 0 ≤ (f 20).toInt from by omega) (show 1 ≤ (f 37).toInt from by omega) (show 0 ≤ (f 32).toInt from by omega) (show (f 32).toInt ≤ (f 5).toInt from by omega) (show (f 5).toInt ≤ 48 from by omega) (show (f 37).toInt ≤ 2 * (f 5).toInt + 1 from by omega)
theorem sq_20 {sc : Nat × (Nat → Int32)} {d : Nat} {S0 S : am_S} {f : Nat → Int32} {g : Nat → Nat → Int32} {gs : List mg_E} {bc : List (List Nat)} {c : List Nat} {z on tw th : Int32} (hS : MS S0 S (upd f 10 z) g) (hB : BI f g (((20 : Int), on.toInt, tw.toInt, th.toInt, c) :: gs) bc) (hz : z.toInt = (f 10).toInt - 1) : am_E (am_PP sc) (d + 8) 180 0 [some (.ref 39), some (.int 20), some (.int on), some (.int tw), some (.int th)] [] S (am_N fun v S1 => ∃ (f' : Nat → Int32) (g' : Nat → Nat → Int32) (gs' : List mg_E) (bc' : List (List Nat)), v = none ∧ MS S0 S1 f' g' ∧ (mg_on (upd f 10 z) (100 * ((f 0).toInt - (f 4).toInt) + mg_p3 (((20 : Int), on.toInt, tw.toInt, th.toInt, c) :: gs)) f' g' gs' bc' ∨ mg_off (upd f 10 z) f' g' bc')) := by
  obtain ⟨hR, hG, hN⟩ := hB
  obtain ⟨n0, n1, n2, n3, n4, n5, n6, n7, n8, n9, n10, n11, n12, n13, n14, n15, n16, n17, n18, n19, n20, n21⟩ := hN
  obtain ⟨⟨-, a1, a2, a3, a4, a5, a6, a7, a8⟩, hr⟩ := hG
  have a1_ : (0 : Int) ≤ (f 15).toInt := a1
  have a7_ : (f 37).toInt ≤ 2 * (f 5).toInt + 1 := a7
  have q1 : mg_p1 (((20 : Int), on.toInt, tw.toInt, th.toInt, c) :: gs) = 0 + mg_p1 gs := rfl
  have q2 : mg_p2 (((20 : Int), on.toInt, tw.toInt, th.toInt, c) :: gs) = 0 + mg_p2 gs := rfl
  have q3 : mg_p3 (((20 : Int), on.toInt, tw.toInt, th.toInt, c) :: gs) = 1 + mg_p3 gs := rfl
  have q4 : mg_p4 (((20 : Int), on.toInt, tw.toInt, th.toInt, c) :: gs) = 0 + mg_p4 gs := rfl
  have r1 := mg_p1_nn _ _ _ _ _ _ hr
  have r2 := mg_p2_nn _ _ _ _ _ _ hr
  have r4 := mg_p4_nn gs
  have ht := pop_top hR hz
  have hk3 := (mj_n_le (a := g 16) (f 15).toNatClampNeg 3).1
  have hRk := pop_0 hR hz (by decide)
  exact st_20 (gs := gs) hS hRk hr (show 0 ≤ (f 4).toInt from by omega) (show (f 4).toInt ≤ (f 0).toInt from by omega) (show (f 0).toInt ≤ 512 from by omega) (show 0 ≤ (f 24).toInt from by omega) (show (f 24).toInt + (f 20).toInt + mg_p1 gs ≤ 4 * (f 4).toInt from by omega) (show (f 20).toInt ≤ (f 4).toInt from by omega) (show (f 15).toInt + 0 + mg_p2 gs ≤ (f 4).toInt from by omega) (show 1 + mg_p3 gs ≤ 20 * (f 4).toInt + 20 from by omega) (show 0 ≤ (f 68).toInt from by omega) (show (f 68).toInt + 3 * (f 20).toInt + 0 + mg_p4 gs ≤ 60 * (f 4).toInt + 60 from by omega) (show 0 ≤ (f 62).toInt from by omega) (show (f 62).toInt + 64 * mj_n (g 16) (f 15).toNatClampNeg 3 ≤ 64 * (f 4).toInt from by omega) (show 0 ≤ (f 44).toInt from by omega) (show (f 44).toInt ≤ (f 4).toInt from by omega) (show 0 ≤ (f 48).toInt from by omega) (show (f 48).toInt ≤ (f 4).toInt from by omega) (show 1 ≤ (f 53).toInt from by omega) (show (f 53).toInt ≤ (f 4).toInt + 1 from by omega) (show 0 ≤ (f 19).toInt from by omega) (show (f 19).toInt ≤ 600 from by omega) (show 0 ≤ (f 6).toInt from by omega) (show 0 ≤ (f 8).toInt from by omega) (show 0 ≤ mg_p1 gs from by omega) (show 0 ≤ mg_p2 gs from by omega) (show 0 ≤ mg_p4 gs from by omega) (show 0 ≤ z.toInt from by omega) (show z.toInt ≤ mg_p3 gs from by omega) (show 0 ≤ mj_n (g 16) (f 15).toNatClampNeg 3 from by omega) (show 0 ≤ (f 15).toInt from by omega) (show 0 ≤ (f 20).toInt from by omega) (show 1 ≤ (f 37).toInt from by omega) (show 0 ≤ (f 32).toInt from by omega) (show (f 32).toInt ≤ (f 5).toInt from by omega) (show (f 5).toInt ≤ 48 from by omega) (show (f 37).toInt ≤ 2 * (f 5).toInt + 1 from by omega)
theorem sq_21 {sc : Nat × (Nat → Int32)} {d : Nat} {S0 S : am_S} {f : Nat → Int32} {g : Nat → Nat → Int32} {gs : List mg_E} {bc : List (List Nat)} {c : List Nat} {z on tw th : Int32} (hS : MS S0 S (upd f 10 z) g) (hB : BI f g (((21 : Int), on.toInt, tw.toInt, th.toInt, c) :: gs) bc) (hz : z.toInt = (f 10).toInt - 1) : am_E (am_PP sc) (d + 8) 180 0 [some (.ref 39), some (.int 21), some (.int on), some (.int tw), some (.int th)] [] S (am_N fun v S1 => ∃ (f' : Nat → Int32) (g' : Nat → Nat → Int32) (gs' : List mg_E) (bc' : List (List Nat)), v = none ∧ MS S0 S1 f' g' ∧ (mg_on (upd f 10 z) (100 * ((f 0).toInt - (f 4).toInt) + mg_p3 (((21 : Int), on.toInt, tw.toInt, th.toInt, c) :: gs)) f' g' gs' bc' ∨ mg_off (upd f 10 z) f' g' bc')) := by
  obtain ⟨hR, hG, hN⟩ := hB
  obtain ⟨n0, n1, n2, n3, n4, n5, n6, n7, n8, n9, n10, n11, n12, n13, n14, n15, n16, n17, n18, n19, n20, n21⟩ := hN
  obtain ⟨⟨-, a1, a2, a3, a4, a5, a6, a7, a8⟩, hr⟩ := hG
  have a1_ : (1 : Int) ≤ (f 15).toInt := a1
  have a7_ : (f 37).toInt ≤ 2 * (f 5).toInt + 1 := a7
  have q1 : mg_p1 (((21 : Int), on.toInt, tw.toInt, th.toInt, c) :: gs) = 0 + mg_p1 gs := rfl
  have q2 : mg_p2 (((21 : Int), on.toInt, tw.toInt, th.toInt, c) :: gs) = 0 + mg_p2 gs := rfl
  have q3 : mg_p3 (((21 : Int), on.toInt, tw.toInt, th.toInt, c) :: gs) = 1 + mg_p3 gs := rfl
  have q4 : mg_p4 (((21 : Int), on.toInt, tw.toInt, th.toInt, c) :: gs) = 0 + mg_p4 gs := rfl
  have r1 := mg_p1_nn _ _ _ _ _ _ hr
  have r2 := mg_p2_nn _ _ _ _ _ _ hr
  have r4 := mg_p4_nn gs
  have ht := pop_top hR hz
  have hk3 := (mj_n_le (a := g 16) (f 15).toNatClampNeg 3).1
  have hRk := pop_0 hR hz (by decide)
  obtain ⟨u0, u1, u2⟩ : 0 ≤ on.toInt ∧ 0 ≤ tw.toInt ∧ (f 20).toInt = tw.toInt + on.toInt := a8
  exact st_21 (gs := gs) hS hRk hr (show 0 ≤ (f 4).toInt from by omega) (show (f 4).toInt ≤ (f 0).toInt from by omega) (show (f 0).toInt ≤ 512 from by omega) (show 0 ≤ (f 24).toInt from by omega) (show (f 24).toInt + (f 20).toInt + mg_p1 gs ≤ 4 * (f 4).toInt from by omega) (show (f 20).toInt ≤ (f 4).toInt from by omega) (show (f 15).toInt + 0 + mg_p2 gs ≤ (f 4).toInt from by omega) (show 1 + mg_p3 gs ≤ 20 * (f 4).toInt + 20 from by omega) (show 0 ≤ (f 68).toInt from by omega) (show (f 68).toInt + 3 * (f 20).toInt + 0 + mg_p4 gs ≤ 60 * (f 4).toInt + 60 from by omega) (show 0 ≤ (f 62).toInt from by omega) (show (f 62).toInt + 64 * mj_n (g 16) (f 15).toNatClampNeg 3 ≤ 64 * (f 4).toInt from by omega) (show 0 ≤ (f 44).toInt from by omega) (show (f 44).toInt ≤ (f 4).toInt from by omega) (show 0 ≤ (f 48).toInt from by omega) (show (f 48).toInt ≤ (f 4).toInt from by omega) (show 1 ≤ (f 53).toInt from by omega) (show (f 53).toInt ≤ (f 4).toInt + 1 from by omega) (show 0 ≤ (f 19).toInt from by omega) (show (f 19).toInt ≤ 600 from by omega) (show 0 ≤ (f 6).toInt from by omega) (show 0 ≤ (f 8).toInt from by omega) (show 0 ≤ mg_p1 gs from by omega) (show 0 ≤ mg_p2 gs from by omega) (show 0 ≤ mg_p4 gs from by omega) (show 0 ≤ z.toInt from by omega) (show z.toInt ≤ mg_p3 gs from by omega) (show 0 ≤ mj_n (g 16) (f 15).toNatClampNeg 3 from by omega) (show 1 ≤ (f 15).toInt from by omega) (show 0 ≤ (f 20).toInt from by omega) (show 1 ≤ (f 37).toInt from by omega) (show 0 ≤ (f 32).toInt from by omega) (show (f 32).toInt ≤ (f 5).toInt from by omega) (show (f 5).toInt ≤ 48 from by omega) (show (f 37).toInt ≤ 2 * (f 5).toInt + 1 from by omega) (show 0 ≤ on.toInt from by omega) (show 0 ≤ tw.toInt from by omega) (show (f 20).toInt = tw.toInt + on.toInt from by omega)
theorem sq_22 {sc : Nat × (Nat → Int32)} {d : Nat} {S0 S : am_S} {f : Nat → Int32} {g : Nat → Nat → Int32} {gs : List mg_E} {bc : List (List Nat)} {c : List Nat} {z on tw th : Int32} (hS : MS S0 S (upd f 10 z) g) (hB : BI f g (((22 : Int), on.toInt, tw.toInt, th.toInt, c) :: gs) bc) (hz : z.toInt = (f 10).toInt - 1) : am_E (am_PP sc) (d + 8) 180 0 [some (.ref 39), some (.int 22), some (.int on), some (.int tw), some (.int th)] [] S (am_N fun v S1 => ∃ (f' : Nat → Int32) (g' : Nat → Nat → Int32) (gs' : List mg_E) (bc' : List (List Nat)), v = none ∧ MS S0 S1 f' g' ∧ (mg_on (upd f 10 z) (100 * ((f 0).toInt - (f 4).toInt) + mg_p3 (((22 : Int), on.toInt, tw.toInt, th.toInt, c) :: gs)) f' g' gs' bc' ∨ mg_off (upd f 10 z) f' g' bc')) := by
  obtain ⟨hR, hG, hN⟩ := hB
  obtain ⟨n0, n1, n2, n3, n4, n5, n6, n7, n8, n9, n10, n11, n12, n13, n14, n15, n16, n17, n18, n19, n20, n21⟩ := hN
  obtain ⟨⟨-, a1, a2, a3, a4, a5, a6, a7, a8⟩, hr⟩ := hG
  have a1_ : (1 : Int) ≤ (f 15).toInt := a1
  have a7_ : (f 37).toInt ≤ 2 * (f 5).toInt + 1 := a7
  have q1 : mg_p1 (((22 : Int), on.toInt, tw.toInt, th.toInt, c) :: gs) = 0 + mg_p1 gs := rfl
  have q2 : mg_p2 (((22 : Int), on.toInt, tw.toInt, th.toInt, c) :: gs) = 0 + mg_p2 gs := rfl
  have q3 : mg_p3 (((22 : Int), on.toInt, tw.toInt, th.toInt, c) :: gs) = 1 + mg_p3 gs := rfl
  have q4 : mg_p4 (((22 : Int), on.toInt, tw.toInt, th.toInt, c) :: gs) = 5 + mg_p4 gs := rfl
  have r1 := mg_p1_nn _ _ _ _ _ _ hr
  have r2 := mg_p2_nn _ _ _ _ _ _ hr
  have r4 := mg_p4_nn gs
  have ht := pop_top hR hz
  have hk3 := (mj_n_le (a := g 16) (f 15).toNatClampNeg 3).1
  have hRk := pop_0 hR hz (by decide)
  obtain ⟨u0, u1, u2⟩ : 0 ≤ on.toInt ∧ 0 ≤ tw.toInt ∧ (f 20).toInt = tw.toInt + on.toInt := a8
  exact st_22 (gs := gs) hS hRk hr (show 0 ≤ (f 4).toInt from by omega) (show (f 4).toInt ≤ (f 0).toInt from by omega) (show (f 0).toInt ≤ 512 from by omega) (show 0 ≤ (f 24).toInt from by omega) (show (f 24).toInt + (f 20).toInt + mg_p1 gs ≤ 4 * (f 4).toInt from by omega) (show (f 20).toInt ≤ (f 4).toInt from by omega) (show (f 15).toInt + 0 + mg_p2 gs ≤ (f 4).toInt from by omega) (show 1 + mg_p3 gs ≤ 20 * (f 4).toInt + 20 from by omega) (show 0 ≤ (f 68).toInt from by omega) (show (f 68).toInt + 3 * (f 20).toInt + 5 + mg_p4 gs ≤ 60 * (f 4).toInt + 60 from by omega) (show 0 ≤ (f 62).toInt from by omega) (show (f 62).toInt + 64 * mj_n (g 16) (f 15).toNatClampNeg 3 ≤ 64 * (f 4).toInt from by omega) (show 0 ≤ (f 44).toInt from by omega) (show (f 44).toInt ≤ (f 4).toInt from by omega) (show 0 ≤ (f 48).toInt from by omega) (show (f 48).toInt ≤ (f 4).toInt from by omega) (show 1 ≤ (f 53).toInt from by omega) (show (f 53).toInt ≤ (f 4).toInt + 1 from by omega) (show 0 ≤ (f 19).toInt from by omega) (show (f 19).toInt ≤ 600 from by omega) (show 0 ≤ (f 6).toInt from by omega) (show 0 ≤ (f 8).toInt from by omega) (show 0 ≤ mg_p1 gs from by omega) (show 0 ≤ mg_p2 gs from by omega) (show 0 ≤ mg_p4 gs from by omega) (show 0 ≤ z.toInt from by omega) (show z.toInt ≤ mg_p3 gs from by omega) (show 0 ≤ mj_n (g 16) (f 15).toNatClampNeg 3 from by omega) (show 1 ≤ (f 15).toInt from by omega) (show 0 ≤ (f 20).toInt from by omega) (show 1 ≤ (f 37).toInt from by omega) (show 0 ≤ (f 32).toInt from by omega) (show (f 32).toInt ≤ (f 5).toInt from by omega) (show (f 5).toInt ≤ 48 from by omega) (show (f 37).toInt ≤ 2 * (f 5).toInt + 1 from by omega) (show 0 ≤ on.toInt from by omega) (show 0 ≤ tw.toInt from by omega) (show (f 20).toInt = tw.toInt + on.toInt from by omega)
theorem sq_23 {sc : Nat × (Nat → Int32)} {d : Nat} {S0 S : am_S} {f : Nat → Int32} {g : Nat → Nat → Int32} {gs : List mg_E} {bc : List (List Nat)} {c : List Nat} {z on tw th : Int32} (hS : MS S0 S (upd f 10 z) g) (hB : BI f g (((23 : Int), on.toInt, tw.toInt, th.toInt, c) :: gs) bc) (hz : z.toInt = (f 10).toInt - 1) : am_E (am_PP sc) (d + 8) 180 0 [some (.ref 39), some (.int 23), some (.int on), some (.int tw), some (.int th)] [] S (am_N fun v S1 => ∃ (f' : Nat → Int32) (g' : Nat → Nat → Int32) (gs' : List mg_E) (bc' : List (List Nat)), v = none ∧ MS S0 S1 f' g' ∧ (mg_on (upd f 10 z) (100 * ((f 0).toInt - (f 4).toInt) + mg_p3 (((23 : Int), on.toInt, tw.toInt, th.toInt, c) :: gs)) f' g' gs' bc' ∨ mg_off (upd f 10 z) f' g' bc')) := by
  obtain ⟨hR, hG, hN⟩ := hB
  obtain ⟨n0, n1, n2, n3, n4, n5, n6, n7, n8, n9, n10, n11, n12, n13, n14, n15, n16, n17, n18, n19, n20, n21⟩ := hN
  obtain ⟨⟨-, a1, a2, a3, a4, a5, a6, a7, a8⟩, hr⟩ := hG
  have a1_ : (0 : Int) ≤ (f 15).toInt := a1
  have a7_ : (f 37).toInt ≤ 2 * (f 5).toInt + 2 := a7
  have q1 : mg_p1 (((23 : Int), on.toInt, tw.toInt, th.toInt, c) :: gs) = 0 + mg_p1 gs := rfl
  have q2 : mg_p2 (((23 : Int), on.toInt, tw.toInt, th.toInt, c) :: gs) = 0 + mg_p2 gs := rfl
  have q3 : mg_p3 (((23 : Int), on.toInt, tw.toInt, th.toInt, c) :: gs) = 1 + mg_p3 gs := rfl
  have q4 : mg_p4 (((23 : Int), on.toInt, tw.toInt, th.toInt, c) :: gs) = 0 + mg_p4 gs := rfl
  have r1 := mg_p1_nn _ _ _ _ _ _ hr
  have r2 := mg_p2_nn _ _ _ _ _ _ hr
  have r4 := mg_p4_nn gs
  have ht := pop_top hR hz
  have hk3 := (mj_n_le (a := g 16) (f 15).toNatClampNeg 3).1
  have hRk := pop_0 hR hz (by decide)
  have u0 : 0 ≤ on.toInt := a8
  exact st_23 (gs := gs) hS hRk hr (show 0 ≤ (f 4).toInt from by omega) (show (f 4).toInt ≤ (f 0).toInt from by omega) (show (f 0).toInt ≤ 512 from by omega) (show 0 ≤ (f 24).toInt from by omega) (show (f 24).toInt + (f 20).toInt + mg_p1 gs ≤ 4 * (f 4).toInt from by omega) (show (f 20).toInt ≤ (f 4).toInt from by omega) (show (f 15).toInt + 0 + mg_p2 gs ≤ (f 4).toInt from by omega) (show 1 + mg_p3 gs ≤ 20 * (f 4).toInt + 20 from by omega) (show 0 ≤ (f 68).toInt from by omega) (show (f 68).toInt + 3 * (f 20).toInt + 0 + mg_p4 gs ≤ 60 * (f 4).toInt + 60 from by omega) (show 0 ≤ (f 62).toInt from by omega) (show (f 62).toInt + 64 * mj_n (g 16) (f 15).toNatClampNeg 3 ≤ 64 * (f 4).toInt from by omega) (show 0 ≤ (f 44).toInt from by omega) (show (f 44).toInt ≤ (f 4).toInt from by omega) (show 0 ≤ (f 48).toInt from by omega) (show (f 48).toInt ≤ (f 4).toInt from by omega) (show 1 ≤ (f 53).toInt from by omega) (show (f 53).toInt ≤ (f 4).toInt + 1 from by omega) (show 0 ≤ (f 19).toInt from by omega) (show (f 19).toInt ≤ 600 from by omega) (show 0 ≤ (f 6).toInt from by omega) (show 0 ≤ (f 8).toInt from by omega) (show 0 ≤ mg_p1 gs from by omega) (show 0 ≤ mg_p2 gs from by omega) (show 0 ≤ mg_p4 gs from by omega) (show 0 ≤ z.toInt from by omega) (show z.toInt ≤ mg_p3 gs from by omega) (show 0 ≤ mj_n (g 16) (f 15).toNatClampNeg 3 from by omega) (show 0 ≤ (f 15).toInt from by omega) (show 0 ≤ (f 20).toInt from by omega) (show 1 ≤ (f 37).toInt from by omega) (show 0 ≤ (f 32).toInt from by omega) (show (f 32).toInt ≤ (f 5).toInt from by omega) (show (f 5).toInt ≤ 48 from by omega) (show (f 37).toInt ≤ 2 * (f 5).toInt + 2 from by omega) (show 0 ≤ on.toInt from by omega)
theorem sq_24 {sc : Nat × (Nat → Int32)} {d : Nat} {S0 S : am_S} {f : Nat → Int32} {g : Nat → Nat → Int32} {gs : List mg_E} {bc : List (List Nat)} {c : List Nat} {z on tw th : Int32} (hS : MS S0 S (upd f 10 z) g) (hB : BI f g (((24 : Int), on.toInt, tw.toInt, th.toInt, c) :: gs) bc) (hz : z.toInt = (f 10).toInt - 1) : am_E (am_PP sc) (d + 8) 180 0 [some (.ref 39), some (.int 24), some (.int on), some (.int tw), some (.int th)] [] S (am_N fun v S1 => ∃ (f' : Nat → Int32) (g' : Nat → Nat → Int32) (gs' : List mg_E) (bc' : List (List Nat)), v = none ∧ MS S0 S1 f' g' ∧ (mg_on (upd f 10 z) (100 * ((f 0).toInt - (f 4).toInt) + mg_p3 (((24 : Int), on.toInt, tw.toInt, th.toInt, c) :: gs)) f' g' gs' bc' ∨ mg_off (upd f 10 z) f' g' bc')) := by
  obtain ⟨hR, hG, hN⟩ := hB
  obtain ⟨n0, n1, n2, n3, n4, n5, n6, n7, n8, n9, n10, n11, n12, n13, n14, n15, n16, n17, n18, n19, n20, n21⟩ := hN
  obtain ⟨⟨-, a1, a2, a3, a4, a5, a6, a7, a8⟩, hr⟩ := hG
  have a1_ : (1 : Int) ≤ (f 15).toInt := a1
  have a7_ : (f 37).toInt ≤ 2 * (f 5).toInt + 2 := a7
  have q1 : mg_p1 (((24 : Int), on.toInt, tw.toInt, th.toInt, c) :: gs) = 0 + mg_p1 gs := rfl
  have q2 : mg_p2 (((24 : Int), on.toInt, tw.toInt, th.toInt, c) :: gs) = 0 + mg_p2 gs := rfl
  have q3 : mg_p3 (((24 : Int), on.toInt, tw.toInt, th.toInt, c) :: gs) = 1 + mg_p3 gs := rfl
  have q4 : mg_p4 (((24 : Int), on.toInt, tw.toInt, th.toInt, c) :: gs) = 0 + mg_p4 gs := rfl
  have r1 := mg_p1_nn _ _ _ _ _ _ hr
  have r2 := mg_p2_nn _ _ _ _ _ _ hr
  have r4 := mg_p4_nn gs
  have ht := pop_top hR hz
  have hk3 := (mj_n_le (a := g 16) (f 15).toNatClampNeg 3).1
  have hRk := pop_0 hR hz (by decide)
  have u0 : 0 ≤ on.toInt := a8
  exact st_24 (gs := gs) hS hRk hr (show 0 ≤ (f 4).toInt from by omega) (show (f 4).toInt ≤ (f 0).toInt from by omega) (show (f 0).toInt ≤ 512 from by omega) (show 0 ≤ (f 24).toInt from by omega) (show (f 24).toInt + (f 20).toInt + mg_p1 gs ≤ 4 * (f 4).toInt from by omega) (show (f 20).toInt ≤ (f 4).toInt from by omega) (show (f 15).toInt + 0 + mg_p2 gs ≤ (f 4).toInt from by omega) (show 1 + mg_p3 gs ≤ 20 * (f 4).toInt + 20 from by omega) (show 0 ≤ (f 68).toInt from by omega) (show (f 68).toInt + 3 * (f 20).toInt + 0 + mg_p4 gs ≤ 60 * (f 4).toInt + 60 from by omega) (show 0 ≤ (f 62).toInt from by omega) (show (f 62).toInt + 64 * mj_n (g 16) (f 15).toNatClampNeg 3 ≤ 64 * (f 4).toInt from by omega) (show 0 ≤ (f 44).toInt from by omega) (show (f 44).toInt ≤ (f 4).toInt from by omega) (show 0 ≤ (f 48).toInt from by omega) (show (f 48).toInt ≤ (f 4).toInt from by omega) (show 1 ≤ (f 53).toInt from by omega) (show (f 53).toInt ≤ (f 4).toInt + 1 from by omega) (show 0 ≤ (f 19).toInt from by omega) (show (f 19).toInt ≤ 600 from by omega) (show 0 ≤ (f 6).toInt from by omega) (show 0 ≤ (f 8).toInt from by omega) (show 0 ≤ mg_p1 gs from by omega) (show 0 ≤ mg_p2 gs from by omega) (show 0 ≤ mg_p4 gs from by omega) (show 0 ≤ z.toInt from by omega) (show z.toInt ≤ mg_p3 gs from by omega) (show 0 ≤ mj_n (g 16) (f 15).toNatClampNeg 3 from by omega) (show 1 ≤ (f 15).toInt from by omega) (show 0 ≤ (f 20).toInt from by omega) (show 1 ≤ (f 37).toInt from by omega) (show 0 ≤ (f 32).toInt from by omega) (show (f 32).toInt ≤ (f 5).toInt from by omega) (show (f 5).toInt ≤ 48 from by omega) (show (f 37).toInt ≤ 2 * (f 5).toInt + 2 from by omega) (show 0 ≤ on.toInt from by omega)
theorem sq_25 {sc : Nat × (Nat → Int32)} {d : Nat} {S0 S : am_S} {f : Nat → Int32} {g : Nat → Nat → Int32} {gs : List mg_E} {bc : List (List Nat)} {c : List Nat} {z on tw th : Int32} (hS : MS S0 S (upd f 10 z) g) (hB : BI f g (((25 : Int), on.toInt, tw.toInt, th.toInt, c) :: gs) bc) (hz : z.toInt = (f 10).toInt - 1) : am_E (am_PP sc) (d + 8) 180 0 [some (.ref 39), some (.int 25), some (.int on), some (.int tw), some (.int th)] [] S (am_N fun v S1 => ∃ (f' : Nat → Int32) (g' : Nat → Nat → Int32) (gs' : List mg_E) (bc' : List (List Nat)), v = none ∧ MS S0 S1 f' g' ∧ (mg_on (upd f 10 z) (100 * ((f 0).toInt - (f 4).toInt) + mg_p3 (((25 : Int), on.toInt, tw.toInt, th.toInt, c) :: gs)) f' g' gs' bc' ∨ mg_off (upd f 10 z) f' g' bc')) := by
  obtain ⟨hR, hG, hN⟩ := hB
  obtain ⟨n0, n1, n2, n3, n4, n5, n6, n7, n8, n9, n10, n11, n12, n13, n14, n15, n16, n17, n18, n19, n20, n21⟩ := hN
  obtain ⟨⟨-, a1, a2, a3, a4, a5, a6, a7, a8⟩, hr⟩ := hG
  have a1_ : (1 : Int) ≤ (f 15).toInt := a1
  have a7_ : (f 37).toInt ≤ 2 * (f 5).toInt + 2 := a7
  have q1 : mg_p1 (((25 : Int), on.toInt, tw.toInt, th.toInt, c) :: gs) = 0 + mg_p1 gs := rfl
  have q2 : mg_p2 (((25 : Int), on.toInt, tw.toInt, th.toInt, c) :: gs) = 0 + mg_p2 gs := rfl
  have q3 : mg_p3 (((25 : Int), on.toInt, tw.toInt, th.toInt, c) :: gs) = 1 + mg_p3 gs := rfl
  have q4 : mg_p4 (((25 : Int), on.toInt, tw.toInt, th.toInt, c) :: gs) = 3 + mg_p4 gs := rfl
  have r1 := mg_p1_nn _ _ _ _ _ _ hr
  have r2 := mg_p2_nn _ _ _ _ _ _ hr
  have r4 := mg_p4_nn gs
  have ht := pop_top hR hz
  have hk3 := (mj_n_le (a := g 16) (f 15).toNatClampNeg 3).1
  have hRk := pop_0 hR hz (by decide)
  exact st_25 (gs := gs) hS hRk hr (show 0 ≤ (f 4).toInt from by omega) (show (f 4).toInt ≤ (f 0).toInt from by omega) (show (f 0).toInt ≤ 512 from by omega) (show 0 ≤ (f 24).toInt from by omega) (show (f 24).toInt + (f 20).toInt + mg_p1 gs ≤ 4 * (f 4).toInt from by omega) (show (f 20).toInt ≤ (f 4).toInt from by omega) (show (f 15).toInt + 0 + mg_p2 gs ≤ (f 4).toInt from by omega) (show 1 + mg_p3 gs ≤ 20 * (f 4).toInt + 20 from by omega) (show 0 ≤ (f 68).toInt from by omega) (show (f 68).toInt + 3 * (f 20).toInt + 3 + mg_p4 gs ≤ 60 * (f 4).toInt + 60 from by omega) (show 0 ≤ (f 62).toInt from by omega) (show (f 62).toInt + 64 * mj_n (g 16) (f 15).toNatClampNeg 3 ≤ 64 * (f 4).toInt from by omega) (show 0 ≤ (f 44).toInt from by omega) (show (f 44).toInt ≤ (f 4).toInt from by omega) (show 0 ≤ (f 48).toInt from by omega) (show (f 48).toInt ≤ (f 4).toInt from by omega) (show 1 ≤ (f 53).toInt from by omega) (show (f 53).toInt ≤ (f 4).toInt + 1 from by omega) (show 0 ≤ (f 19).toInt from by omega) (show (f 19).toInt ≤ 600 from by omega) (show 0 ≤ (f 6).toInt from by omega) (show 0 ≤ (f 8).toInt from by omega) (show 0 ≤ mg_p1 gs from by omega) (show 0 ≤ mg_p2 gs from by omega) (show 0 ≤ mg_p4 gs from by omega) (show 0 ≤ z.toInt from by omega) (show z.toInt ≤ mg_p3 gs from by omega) (show 0 ≤ mj_n (g 16) (f 15).toNatClampNeg 3 from by omega) (show 1 ≤ (f 15).toInt from by omega) (show 0 ≤ (f 20).toInt from by omega) (show 1 ≤ (f 37).toInt from by omega) (show 0 ≤ (f 32).toInt from by omega) (show (f 32).toInt ≤ (f 5).toInt from by omega) (show (f 5).toInt ≤ 48 from by omega) (show (f 37).toInt ≤ 2 * (f 5).toInt + 2 from by omega)
theorem sq_26 {sc : Nat × (Nat → Int32)} {d : Nat} {S0 S : am_S} {f : Nat → Int32} {g : Nat → Nat → Int32} {gs : List mg_E} {bc : List (List Nat)} {c : List Nat} {z on tw th : Int32} (hS : MS S0 S (upd f 10 z) g) (hB : BI f g (((26 : Int), on.toInt, tw.toInt, th.toInt, c) :: gs) bc) (hz : z.toInt = (f 10).toInt - 1) : am_E (am_PP sc) (d + 8) 180 0 [some (.ref 39), some (.int 26), some (.int on), some (.int tw), some (.int th)] [] S (am_N fun v S1 => ∃ (f' : Nat → Int32) (g' : Nat → Nat → Int32) (gs' : List mg_E) (bc' : List (List Nat)), v = none ∧ MS S0 S1 f' g' ∧ (mg_on (upd f 10 z) (100 * ((f 0).toInt - (f 4).toInt) + mg_p3 (((26 : Int), on.toInt, tw.toInt, th.toInt, c) :: gs)) f' g' gs' bc' ∨ mg_off (upd f 10 z) f' g' bc')) := by
  obtain ⟨hR, hG, hN⟩ := hB
  obtain ⟨n0, n1, n2, n3, n4, n5, n6, n7, n8, n9, n10, n11, n12, n13, n14, n15, n16, n17, n18, n19, n20, n21⟩ := hN
  obtain ⟨⟨-, a1, a2, a3, a4, a5, a6, a7, a8⟩, hr⟩ := hG
  have a1_ : (1 : Int) ≤ (f 15).toInt := a1
  have a7_ : (f 37).toInt ≤ 2 * (f 5).toInt + 2 := a7
  have q1 : mg_p1 (((26 : Int), on.toInt, tw.toInt, th.toInt, c) :: gs) = 0 + mg_p1 gs := rfl
  have q2 : mg_p2 (((26 : Int), on.toInt, tw.toInt, th.toInt, c) :: gs) = 0 + mg_p2 gs := rfl
  have q3 : mg_p3 (((26 : Int), on.toInt, tw.toInt, th.toInt, c) :: gs) = 1 + mg_p3 gs := rfl
  have q4 : mg_p4 (((26 : Int), on.toInt, tw.toInt, th.toInt, c) :: gs) = 2 + mg_p4 gs := rfl
  have r1 := mg_p1_nn _ _ _ _ _ _ hr
  have r2 := mg_p2_nn _ _ _ _ _ _ hr
  have r4 := mg_p4_nn gs
  have ht := pop_top hR hz
  have hk3 := (mj_n_le (a := g 16) (f 15).toNatClampNeg 3).1
  obtain ⟨hRk, o1, o2⟩ := pop_4 hR hz (by decide)
  exact st_26 (gs := gs) hS hRk hr (show 0 ≤ (f 4).toInt from by omega) (show (f 4).toInt ≤ (f 0).toInt from by omega) (show (f 0).toInt ≤ 512 from by omega) (show 0 ≤ (f 24).toInt from by omega) (show (f 24).toInt + (f 20).toInt + mg_p1 gs ≤ 4 * (f 4).toInt from by omega) (show (f 20).toInt ≤ (f 4).toInt from by omega) (show (f 15).toInt + 0 + mg_p2 gs ≤ (f 4).toInt from by omega) (show 1 + mg_p3 gs ≤ 20 * (f 4).toInt + 20 from by omega) (show 0 ≤ (f 68).toInt from by omega) (show (f 68).toInt + 3 * (f 20).toInt + 2 + mg_p4 gs ≤ 60 * (f 4).toInt + 60 from by omega) (show 0 ≤ (f 62).toInt from by omega) (show (f 62).toInt + 64 * mj_n (g 16) (f 15).toNatClampNeg 3 ≤ 64 * (f 4).toInt from by omega) (show 0 ≤ (f 44).toInt from by omega) (show (f 44).toInt ≤ (f 4).toInt from by omega) (show 0 ≤ (f 48).toInt from by omega) (show (f 48).toInt ≤ (f 4).toInt from by omega) (show 1 ≤ (f 53).toInt from by omega) (show (f 53).toInt ≤ (f 4).toInt + 1 from by omega) (show 0 ≤ (f 19).toInt from by omega) (show (f 19).toInt ≤ 600 from by omega) (show 0 ≤ (f 6).toInt from by omega) (show 0 ≤ (f 8).toInt from by omega) (show 0 ≤ mg_p1 gs from by omega) (show 0 ≤ mg_p2 gs from by omega) (show 0 ≤ mg_p4 gs from by omega) (show 0 ≤ z.toInt from by omega) (show z.toInt ≤ mg_p3 gs from by omega) (show 0 ≤ mj_n (g 16) (f 15).toNatClampNeg 3 from by omega) (show 1 ≤ (f 15).toInt from by omega) (show 0 ≤ (f 20).toInt from by omega) (show 1 ≤ (f 37).toInt from by omega) (show 0 ≤ (f 32).toInt from by omega) (show (f 32).toInt ≤ (f 5).toInt from by omega) (show (f 5).toInt ≤ 48 from by omega) (show (f 37).toInt ≤ 2 * (f 5).toInt + 2 from by omega) (show 0 ≤ on.toInt from by omega) (show on.toInt < (f 68).toInt from by omega)
theorem sq_27 {sc : Nat × (Nat → Int32)} {d : Nat} {S0 S : am_S} {f : Nat → Int32} {g : Nat → Nat → Int32} {gs : List mg_E} {bc : List (List Nat)} {c : List Nat} {z on tw th : Int32} (hS : MS S0 S (upd f 10 z) g) (hB : BI f g (((27 : Int), on.toInt, tw.toInt, th.toInt, c) :: gs) bc) (hz : z.toInt = (f 10).toInt - 1) : am_E (am_PP sc) (d + 8) 180 0 [some (.ref 39), some (.int 27), some (.int on), some (.int tw), some (.int th)] [] S (am_N fun v S1 => ∃ (f' : Nat → Int32) (g' : Nat → Nat → Int32) (gs' : List mg_E) (bc' : List (List Nat)), v = none ∧ MS S0 S1 f' g' ∧ (mg_on (upd f 10 z) (100 * ((f 0).toInt - (f 4).toInt) + mg_p3 (((27 : Int), on.toInt, tw.toInt, th.toInt, c) :: gs)) f' g' gs' bc' ∨ mg_off (upd f 10 z) f' g' bc')) := by
  obtain ⟨hR, hG, hN⟩ := hB
  obtain ⟨n0, n1, n2, n3, n4, n5, n6, n7, n8, n9, n10, n11, n12, n13, n14, n15, n16, n17, n18, n19, n20, n21⟩ := hN
  obtain ⟨⟨-, a1, a2, a3, a4, a5, a6, a7, a8⟩, hr⟩ := hG
  have a1_ : (1 : Int) ≤ (f 15).toInt := a1
  have a7_ : (f 37).toInt ≤ 2 * (f 5).toInt + 2 := a7
  have q1 : mg_p1 (((27 : Int), on.toInt, tw.toInt, th.toInt, c) :: gs) = 0 + mg_p1 gs := rfl
  have q2 : mg_p2 (((27 : Int), on.toInt, tw.toInt, th.toInt, c) :: gs) = 0 + mg_p2 gs := rfl
  have q3 : mg_p3 (((27 : Int), on.toInt, tw.toInt, th.toInt, c) :: gs) = 1 + mg_p3 gs := rfl
  have q4 : mg_p4 (((27 : Int), on.toInt, tw.toInt, th.toInt, c) :: gs) = 3 + mg_p4 gs := rfl
  have r1 := mg_p1_nn _ _ _ _ _ _ hr
  have r2 := mg_p2_nn _ _ _ _ _ _ hr
  have r4 := mg_p4_nn gs
  have ht := pop_top hR hz
  have hk3 := (mj_n_le (a := g 16) (f 15).toNatClampNeg 3).1
  have hRk := pop_0 hR hz (by decide)
  exact st_27 (gs := gs) hS hRk hr (show 0 ≤ (f 4).toInt from by omega) (show (f 4).toInt ≤ (f 0).toInt from by omega) (show (f 0).toInt ≤ 512 from by omega) (show 0 ≤ (f 24).toInt from by omega) (show (f 24).toInt + (f 20).toInt + mg_p1 gs ≤ 4 * (f 4).toInt from by omega) (show (f 20).toInt ≤ (f 4).toInt from by omega) (show (f 15).toInt + 0 + mg_p2 gs ≤ (f 4).toInt from by omega) (show 1 + mg_p3 gs ≤ 20 * (f 4).toInt + 20 from by omega) (show 0 ≤ (f 68).toInt from by omega) (show (f 68).toInt + 3 * (f 20).toInt + 3 + mg_p4 gs ≤ 60 * (f 4).toInt + 60 from by omega) (show 0 ≤ (f 62).toInt from by omega) (show (f 62).toInt + 64 * mj_n (g 16) (f 15).toNatClampNeg 3 ≤ 64 * (f 4).toInt from by omega) (show 0 ≤ (f 44).toInt from by omega) (show (f 44).toInt ≤ (f 4).toInt from by omega) (show 0 ≤ (f 48).toInt from by omega) (show (f 48).toInt ≤ (f 4).toInt from by omega) (show 1 ≤ (f 53).toInt from by omega) (show (f 53).toInt ≤ (f 4).toInt + 1 from by omega) (show 0 ≤ (f 19).toInt from by omega) (show (f 19).toInt ≤ 600 from by omega) (show 0 ≤ (f 6).toInt from by omega) (show 0 ≤ (f 8).toInt from by omega) (show 0 ≤ mg_p1 gs from by omega) (show 0 ≤ mg_p2 gs from by omega) (show 0 ≤ mg_p4 gs from by omega) (show 0 ≤ z.toInt from by omega) (show z.toInt ≤ mg_p3 gs from by omega) (show 0 ≤ mj_n (g 16) (f 15).toNatClampNeg 3 from by omega) (show 1 ≤ (f 15).toInt from by omega) (show 0 ≤ (f 20).toInt from by omega) (show 1 ≤ (f 37).toInt from by omega) (show 0 ≤ (f 32).toInt from by omega) (show (f 32).toInt ≤ (f 5).toInt from by omega) (show (f 5).toInt ≤ 48 from by omega) (show (f 37).toInt ≤ 2 * (f 5).toInt + 2 from by omega)
theorem sq_28 {sc : Nat × (Nat → Int32)} {d : Nat} {S0 S : am_S} {f : Nat → Int32} {g : Nat → Nat → Int32} {gs : List mg_E} {bc : List (List Nat)} {c : List Nat} {z on tw th : Int32} (hS : MS S0 S (upd f 10 z) g) (hB : BI f g (((28 : Int), on.toInt, tw.toInt, th.toInt, c) :: gs) bc) (hz : z.toInt = (f 10).toInt - 1) : am_E (am_PP sc) (d + 8) 180 0 [some (.ref 39), some (.int 28), some (.int on), some (.int tw), some (.int th)] [] S (am_N fun v S1 => ∃ (f' : Nat → Int32) (g' : Nat → Nat → Int32) (gs' : List mg_E) (bc' : List (List Nat)), v = none ∧ MS S0 S1 f' g' ∧ (mg_on (upd f 10 z) (100 * ((f 0).toInt - (f 4).toInt) + mg_p3 (((28 : Int), on.toInt, tw.toInt, th.toInt, c) :: gs)) f' g' gs' bc' ∨ mg_off (upd f 10 z) f' g' bc')) := by
  obtain ⟨hR, hG, hN⟩ := hB
  obtain ⟨n0, n1, n2, n3, n4, n5, n6, n7, n8, n9, n10, n11, n12, n13, n14, n15, n16, n17, n18, n19, n20, n21⟩ := hN
  obtain ⟨⟨-, a1, a2, a3, a4, a5, a6, a7, a8⟩, hr⟩ := hG
  have a1_ : (1 : Int) ≤ (f 15).toInt := a1
  have a7_ : (f 37).toInt ≤ 2 * (f 5).toInt + 2 := a7
  have q1 : mg_p1 (((28 : Int), on.toInt, tw.toInt, th.toInt, c) :: gs) = 0 + mg_p1 gs := rfl
  have q2 : mg_p2 (((28 : Int), on.toInt, tw.toInt, th.toInt, c) :: gs) = 0 + mg_p2 gs := rfl
  have q3 : mg_p3 (((28 : Int), on.toInt, tw.toInt, th.toInt, c) :: gs) = 1 + mg_p3 gs := rfl
  have q4 : mg_p4 (((28 : Int), on.toInt, tw.toInt, th.toInt, c) :: gs) = 0 + mg_p4 gs := rfl
  have r1 := mg_p1_nn _ _ _ _ _ _ hr
  have r2 := mg_p2_nn _ _ _ _ _ _ hr
  have r4 := mg_p4_nn gs
  have ht := pop_top hR hz
  have hk3 := (mj_n_le (a := g 16) (f 15).toNatClampNeg 3).1
  have hRk := pop_0 hR hz (by decide)
  exact st_28 (gs := gs) hS hRk hr (show 0 ≤ (f 4).toInt from by omega) (show (f 4).toInt ≤ (f 0).toInt from by omega) (show (f 0).toInt ≤ 512 from by omega) (show 0 ≤ (f 24).toInt from by omega) (show (f 24).toInt + (f 20).toInt + mg_p1 gs ≤ 4 * (f 4).toInt from by omega) (show (f 20).toInt ≤ (f 4).toInt from by omega) (show (f 15).toInt + 0 + mg_p2 gs ≤ (f 4).toInt from by omega) (show 1 + mg_p3 gs ≤ 20 * (f 4).toInt + 20 from by omega) (show 0 ≤ (f 68).toInt from by omega) (show (f 68).toInt + 3 * (f 20).toInt + 0 + mg_p4 gs ≤ 60 * (f 4).toInt + 60 from by omega) (show 0 ≤ (f 62).toInt from by omega) (show (f 62).toInt + 64 * mj_n (g 16) (f 15).toNatClampNeg 3 ≤ 64 * (f 4).toInt from by omega) (show 0 ≤ (f 44).toInt from by omega) (show (f 44).toInt ≤ (f 4).toInt from by omega) (show 0 ≤ (f 48).toInt from by omega) (show (f 48).toInt ≤ (f 4).toInt from by omega) (show 1 ≤ (f 53).toInt from by omega) (show (f 53).toInt ≤ (f 4).toInt + 1 from by omega) (show 0 ≤ (f 19).toInt from by omega) (show (f 19).toInt ≤ 600 from by omega) (show 0 ≤ (f 6).toInt from by omega) (show 0 ≤ (f 8).toInt from by omega) (show 0 ≤ mg_p1 gs from by omega) (show 0 ≤ mg_p2 gs from by omega) (show 0 ≤ mg_p4 gs from by omega) (show 0 ≤ z.toInt from by omega) (show z.toInt ≤ mg_p3 gs from by omega) (show 0 ≤ mj_n (g 16) (f 15).toNatClampNeg 3 from by omega) (show 1 ≤ (f 15).toInt from by omega) (show 0 ≤ (f 20).toInt from by omega) (show 1 ≤ (f 37).toInt from by omega) (show 0 ≤ (f 32).toInt from by omega) (show (f 32).toInt ≤ (f 5).toInt from by omega) (show (f 5).toInt ≤ 48 from by omega) (show (f 37).toInt ≤ 2 * (f 5).toInt + 2 from by omega)
theorem sq_29 {sc : Nat × (Nat → Int32)} {d : Nat} {S0 S : am_S} {f : Nat → Int32} {g : Nat → Nat → Int32} {gs : List mg_E} {bc : List (List Nat)} {c : List Nat} {z on tw th : Int32} (hS : MS S0 S (upd f 10 z) g) (hB : BI f g (((29 : Int), on.toInt, tw.toInt, th.toInt, c) :: gs) bc) (hz : z.toInt = (f 10).toInt - 1) : am_E (am_PP sc) (d + 8) 180 0 [some (.ref 39), some (.int 29), some (.int on), some (.int tw), some (.int th)] [] S (am_N fun v S1 => ∃ (f' : Nat → Int32) (g' : Nat → Nat → Int32) (gs' : List mg_E) (bc' : List (List Nat)), v = none ∧ MS S0 S1 f' g' ∧ (mg_on (upd f 10 z) (100 * ((f 0).toInt - (f 4).toInt) + mg_p3 (((29 : Int), on.toInt, tw.toInt, th.toInt, c) :: gs)) f' g' gs' bc' ∨ mg_off (upd f 10 z) f' g' bc')) := by
  obtain ⟨hR, hG, hN⟩ := hB
  obtain ⟨n0, n1, n2, n3, n4, n5, n6, n7, n8, n9, n10, n11, n12, n13, n14, n15, n16, n17, n18, n19, n20, n21⟩ := hN
  obtain ⟨⟨-, a1, a2, a3, a4, a5, a6, a7, a8⟩, hr⟩ := hG
  have a1_ : (1 : Int) ≤ (f 15).toInt := a1
  have a7_ : (f 37).toInt ≤ 2 * (f 5).toInt + 2 := a7
  have q1 : mg_p1 (((29 : Int), on.toInt, tw.toInt, th.toInt, c) :: gs) = 0 + mg_p1 gs := rfl
  have q2 : mg_p2 (((29 : Int), on.toInt, tw.toInt, th.toInt, c) :: gs) = 0 + mg_p2 gs := rfl
  have q3 : mg_p3 (((29 : Int), on.toInt, tw.toInt, th.toInt, c) :: gs) = 1 + mg_p3 gs := rfl
  have q4 : mg_p4 (((29 : Int), on.toInt, tw.toInt, th.toInt, c) :: gs) = 0 + mg_p4 gs := rfl
  have r1 := mg_p1_nn _ _ _ _ _ _ hr
  have r2 := mg_p2_nn _ _ _ _ _ _ hr
  have r4 := mg_p4_nn gs
  have ht := pop_top hR hz
  have hk3 := (mj_n_le (a := g 16) (f 15).toNatClampNeg 3).1
  have hRk := pop_0 hR hz (by decide)
  exact st_29 (gs := gs) hS hRk hr (show 0 ≤ (f 4).toInt from by omega) (show (f 4).toInt ≤ (f 0).toInt from by omega) (show (f 0).toInt ≤ 512 from by omega) (show 0 ≤ (f 24).toInt from by omega) (show (f 24).toInt + (f 20).toInt + mg_p1 gs ≤ 4 * (f 4).toInt from by omega) (show (f 20).toInt ≤ (f 4).toInt from by omega) (show (f 15).toInt + 0 + mg_p2 gs ≤ (f 4).toInt from by omega) (show 1 + mg_p3 gs ≤ 20 * (f 4).toInt + 20 from by omega) (show 0 ≤ (f 68).toInt from by omega) (show (f 68).toInt + 3 * (f 20).toInt + 0 + mg_p4 gs ≤ 60 * (f 4).toInt + 60 from by omega) (show 0 ≤ (f 62).toInt from by omega) (show (f 62).toInt + 64 * mj_n (g 16) (f 15).toNatClampNeg 3 ≤ 64 * (f 4).toInt from by omega) (show 0 ≤ (f 44).toInt from by omega) (show (f 44).toInt ≤ (f 4).toInt from by omega) (show 0 ≤ (f 48).toInt from by omega) (show (f 48).toInt ≤ (f 4).toInt from by omega) (show 1 ≤ (f 53).toInt from by omega) (show (f 53).toInt ≤ (f 4).toInt + 1 from by omega) (show 0 ≤ (f 19).toInt from by omega) (show (f 19).toInt ≤ 600 from by omega) (show 0 ≤ (f 6).toInt from by omega) (show 0 ≤ (f 8).toInt from by omega) (show 0 ≤ mg_p1 gs from by omega) (show 0 ≤ mg_p2 gs from by omega) (show 0 ≤ mg_p4 gs from by omega) (show 0 ≤ z.toInt from by omega) (show z.toInt ≤ mg_p3 gs from by omega) (show 0 ≤ mj_n (g 16) (f 15).toNatClampNeg 3 from by omega) (show 1 ≤ (f 15).toInt from by omega) (show 0 ≤ (f 20).toInt from by omega) (show 1 ≤ (f 37).toInt from by omega) (show 0 ≤ (f 32).toInt from by omega) (show (f 32).toInt ≤ (f 5).toInt from by omega) (show (f 5).toInt ≤ 48 from by omega) (show (f 37).toInt ≤ 2 * (f 5).toInt + 2 from by omega)
theorem sq_30 {sc : Nat × (Nat → Int32)} {d : Nat} {S0 S : am_S} {f : Nat → Int32} {g : Nat → Nat → Int32} {gs : List mg_E} {bc : List (List Nat)} {c : List Nat} {z on tw th : Int32} (hS : MS S0 S (upd f 10 z) g) (hB : BI f g (((30 : Int), on.toInt, tw.toInt, th.toInt, c) :: gs) bc) (hz : z.toInt = (f 10).toInt - 1) : am_E (am_PP sc) (d + 8) 180 0 [some (.ref 39), some (.int 30), some (.int on), some (.int tw), some (.int th)] [] S (am_N fun v S1 => ∃ (f' : Nat → Int32) (g' : Nat → Nat → Int32) (gs' : List mg_E) (bc' : List (List Nat)), v = none ∧ MS S0 S1 f' g' ∧ (mg_on (upd f 10 z) (100 * ((f 0).toInt - (f 4).toInt) + mg_p3 (((30 : Int), on.toInt, tw.toInt, th.toInt, c) :: gs)) f' g' gs' bc' ∨ mg_off (upd f 10 z) f' g' bc')) := by
  obtain ⟨hR, hG, hN⟩ := hB
  obtain ⟨n0, n1, n2, n3, n4, n5, n6, n7, n8, n9, n10, n11, n12, n13, n14, n15, n16, n17, n18, n19, n20, n21⟩ := hN
  obtain ⟨⟨-, a1, a2, a3, a4, a5, a6, a7, a8⟩, hr⟩ := hG
  have a1_ : (2 : Int) ≤ (f 15).toInt := a1
  have a7_ : (f 37).toInt ≤ 2 * (f 5).toInt + 2 := a7
  have q1 : mg_p1 (((30 : Int), on.toInt, tw.toInt, th.toInt, c) :: gs) = 0 + mg_p1 gs := rfl
  have q2 : mg_p2 (((30 : Int), on.toInt, tw.toInt, th.toInt, c) :: gs) = 0 + mg_p2 gs := rfl
  have q3 : mg_p3 (((30 : Int), on.toInt, tw.toInt, th.toInt, c) :: gs) = 1 + mg_p3 gs := rfl
  have q4 : mg_p4 (((30 : Int), on.toInt, tw.toInt, th.toInt, c) :: gs) = 0 + mg_p4 gs := rfl
  have r1 := mg_p1_nn _ _ _ _ _ _ hr
  have r2 := mg_p2_nn _ _ _ _ _ _ hr
  have r4 := mg_p4_nn gs
  have ht := pop_top hR hz
  have hk3 := (mj_n_le (a := g 16) (f 15).toNatClampNeg 3).1
  have hRk := pop_0 hR hz (by decide)
  exact st_30 (gs := gs) hS hRk hr (show 0 ≤ (f 4).toInt from by omega) (show (f 4).toInt ≤ (f 0).toInt from by omega) (show (f 0).toInt ≤ 512 from by omega) (show 0 ≤ (f 24).toInt from by omega) (show (f 24).toInt + (f 20).toInt + mg_p1 gs ≤ 4 * (f 4).toInt from by omega) (show (f 20).toInt ≤ (f 4).toInt from by omega) (show (f 15).toInt + 0 + mg_p2 gs ≤ (f 4).toInt from by omega) (show 1 + mg_p3 gs ≤ 20 * (f 4).toInt + 20 from by omega) (show 0 ≤ (f 68).toInt from by omega) (show (f 68).toInt + 3 * (f 20).toInt + 0 + mg_p4 gs ≤ 60 * (f 4).toInt + 60 from by omega) (show 0 ≤ (f 62).toInt from by omega) (show (f 62).toInt + 64 * mj_n (g 16) (f 15).toNatClampNeg 3 ≤ 64 * (f 4).toInt from by omega) (show 0 ≤ (f 44).toInt from by omega) (show (f 44).toInt ≤ (f 4).toInt from by omega) (show 0 ≤ (f 48).toInt from by omega) (show (f 48).toInt ≤ (f 4).toInt from by omega) (show 1 ≤ (f 53).toInt from by omega) (show (f 53).toInt ≤ (f 4).toInt + 1 from by omega) (show 0 ≤ (f 19).toInt from by omega) (show (f 19).toInt ≤ 600 from by omega) (show 0 ≤ (f 6).toInt from by omega) (show 0 ≤ (f 8).toInt from by omega) (show 0 ≤ mg_p1 gs from by omega) (show 0 ≤ mg_p2 gs from by omega) (show 0 ≤ mg_p4 gs from by omega) (show 0 ≤ z.toInt from by omega) (show z.toInt ≤ mg_p3 gs from by omega) (show 0 ≤ mj_n (g 16) (f 15).toNatClampNeg 3 from by omega) (show 2 ≤ (f 15).toInt from by omega) (show 0 ≤ (f 20).toInt from by omega) (show 1 ≤ (f 37).toInt from by omega) (show 0 ≤ (f 32).toInt from by omega) (show (f 32).toInt ≤ (f 5).toInt from by omega) (show (f 5).toInt ≤ 48 from by omega) (show (f 37).toInt ≤ 2 * (f 5).toInt + 2 from by omega)
theorem sq_32 {sc : Nat × (Nat → Int32)} {d : Nat} {S0 S : am_S} {f : Nat → Int32} {g : Nat → Nat → Int32} {gs : List mg_E} {bc : List (List Nat)} {c : List Nat} {z on tw th : Int32} (hS : MS S0 S (upd f 10 z) g) (hB : BI f g (((32 : Int), on.toInt, tw.toInt, th.toInt, c) :: gs) bc) (hz : z.toInt = (f 10).toInt - 1) : am_E (am_PP sc) (d + 8) 180 0 [some (.ref 39), some (.int 32), some (.int on), some (.int tw), some (.int th)] [] S (am_N fun v S1 => ∃ (f' : Nat → Int32) (g' : Nat → Nat → Int32) (gs' : List mg_E) (bc' : List (List Nat)), v = none ∧ MS S0 S1 f' g' ∧ (mg_on (upd f 10 z) (100 * ((f 0).toInt - (f 4).toInt) + mg_p3 (((32 : Int), on.toInt, tw.toInt, th.toInt, c) :: gs)) f' g' gs' bc' ∨ mg_off (upd f 10 z) f' g' bc')) := by
  obtain ⟨hR, hG, hN⟩ := hB
  obtain ⟨n0, n1, n2, n3, n4, n5, n6, n7, n8, n9, n10, n11, n12, n13, n14, n15, n16, n17, n18, n19, n20, n21⟩ := hN
  obtain ⟨⟨-, a1, a2, a3, a4, a5, a6, a7, a8⟩, hr⟩ := hG
  have a1_ : (2 : Int) ≤ (f 15).toInt := a1
  have a7_ : (f 37).toInt ≤ 2 * (f 5).toInt + 2 := a7
  have q1 : mg_p1 (((32 : Int), on.toInt, tw.toInt, th.toInt, c) :: gs) = 0 + mg_p1 gs := rfl
  have q2 : mg_p2 (((32 : Int), on.toInt, tw.toInt, th.toInt, c) :: gs) = 0 + mg_p2 gs := rfl
  have q3 : mg_p3 (((32 : Int), on.toInt, tw.toInt, th.toInt, c) :: gs) = 1 + mg_p3 gs := rfl
  have q4 : mg_p4 (((32 : Int), on.toInt, tw.toInt, th.toInt, c) :: gs) = 0 + mg_p4 gs := rfl
  have r1 := mg_p1_nn _ _ _ _ _ _ hr
  have r2 := mg_p2_nn _ _ _ _ _ _ hr
  have r4 := mg_p4_nn gs
  have ht := pop_top hR hz
  have hk3 := (mj_n_le (a := g 16) (f 15).toNatClampNeg 3).1
  have hRk := pop_0 hR hz (by decide)
  exact st_32 (gs := gs) hS hRk hr (show 0 ≤ (f 4).toInt from by omega) (show (f 4).toInt ≤ (f 0).toInt from by omega) (show (f 0).toInt ≤ 512 from by omega) (show 0 ≤ (f 24).toInt from by omega) (show (f 24).toInt + (f 20).toInt + mg_p1 gs ≤ 4 * (f 4).toInt from by omega) (show (f 20).toInt ≤ (f 4).toInt from by omega) (show (f 15).toInt + 0 + mg_p2 gs ≤ (f 4).toInt from by omega) (show 1 + mg_p3 gs ≤ 20 * (f 4).toInt + 20 from by omega) (show 0 ≤ (f 68).toInt from by omega) (show (f 68).toInt + 3 * (f 20).toInt + 0 + mg_p4 gs ≤ 60 * (f 4).toInt + 60 from by omega) (show 0 ≤ (f 62).toInt from by omega) (show (f 62).toInt + 64 * mj_n (g 16) (f 15).toNatClampNeg 3 ≤ 64 * (f 4).toInt from by omega) (show 0 ≤ (f 44).toInt from by omega) (show (f 44).toInt ≤ (f 4).toInt from by omega) (show 0 ≤ (f 48).toInt from by omega) (show (f 48).toInt ≤ (f 4).toInt from by omega) (show 1 ≤ (f 53).toInt from by omega) (show (f 53).toInt ≤ (f 4).toInt + 1 from by omega) (show 0 ≤ (f 19).toInt from by omega) (show (f 19).toInt ≤ 600 from by omega) (show 0 ≤ (f 6).toInt from by omega) (show 0 ≤ (f 8).toInt from by omega) (show 0 ≤ mg_p1 gs from by omega) (show 0 ≤ mg_p2 gs from by omega) (show 0 ≤ mg_p4 gs from by omega) (show 0 ≤ z.toInt from by omega) (show z.toInt ≤ mg_p3 gs from by omega) (show 0 ≤ mj_n (g 16) (f 15).toNatClampNeg 3 from by omega) (show 2 ≤ (f 15).toInt from by omega) (show 0 ≤ (f 20).toInt from by omega) (show 1 ≤ (f 37).toInt from by omega) (show 0 ≤ (f 32).toInt from by omega) (show (f 32).toInt ≤ (f 5).toInt from by omega) (show (f 5).toInt ≤ 48 from by omega) (show (f 37).toInt ≤ 2 * (f 5).toInt + 2 from by omega)
theorem sq_33 {sc : Nat × (Nat → Int32)} {d : Nat} {S0 S : am_S} {f : Nat → Int32} {g : Nat → Nat → Int32} {gs : List mg_E} {bc : List (List Nat)} {c : List Nat} {z on tw th : Int32} (hS : MS S0 S (upd f 10 z) g) (hB : BI f g (((33 : Int), on.toInt, tw.toInt, th.toInt, c) :: gs) bc) (hz : z.toInt = (f 10).toInt - 1) : am_E (am_PP sc) (d + 8) 180 0 [some (.ref 39), some (.int 33), some (.int on), some (.int tw), some (.int th)] [] S (am_N fun v S1 => ∃ (f' : Nat → Int32) (g' : Nat → Nat → Int32) (gs' : List mg_E) (bc' : List (List Nat)), v = none ∧ MS S0 S1 f' g' ∧ (mg_on (upd f 10 z) (100 * ((f 0).toInt - (f 4).toInt) + mg_p3 (((33 : Int), on.toInt, tw.toInt, th.toInt, c) :: gs)) f' g' gs' bc' ∨ mg_off (upd f 10 z) f' g' bc')) := by
  obtain ⟨hR, hG, hN⟩ := hB
  obtain ⟨n0, n1, n2, n3, n4, n5, n6, n7, n8, n9, n10, n11, n12, n13, n14, n15, n16, n17, n18, n19, n20, n21⟩ := hN
  obtain ⟨⟨-, a1, a2, a3, a4, a5, a6, a7, a8⟩, hr⟩ := hG
  have a1_ : (2 : Int) ≤ (f 15).toInt := a1
  have a7_ : (f 37).toInt ≤ 2 * (f 5).toInt + 2 := a7
  have q1 : mg_p1 (((33 : Int), on.toInt, tw.toInt, th.toInt, c) :: gs) = 0 + mg_p1 gs := rfl
  have q2 : mg_p2 (((33 : Int), on.toInt, tw.toInt, th.toInt, c) :: gs) = 0 + mg_p2 gs := rfl
  have q3 : mg_p3 (((33 : Int), on.toInt, tw.toInt, th.toInt, c) :: gs) = 1 + mg_p3 gs := rfl
  have q4 : mg_p4 (((33 : Int), on.toInt, tw.toInt, th.toInt, c) :: gs) = 3 + mg_p4 gs := rfl
  have r1 := mg_p1_nn _ _ _ _ _ _ hr
  have r2 := mg_p2_nn _ _ _ _ _ _ hr
  have r4 := mg_p4_nn gs
  have ht := pop_top hR hz
  have hk3 := (mj_n_le (a := g 16) (f 15).toNatClampNeg 3).1
  have hRk := pop_0 hR hz (by decide)
  exact st_33 (gs := gs) hS hRk hr (show 0 ≤ (f 4).toInt from by omega) (show (f 4).toInt ≤ (f 0).toInt from by omega) (show (f 0).toInt ≤ 512 from by omega) (show 0 ≤ (f 24).toInt from by omega) (show (f 24).toInt + (f 20).toInt + mg_p1 gs ≤ 4 * (f 4).toInt from by omega) (show (f 20).toInt ≤ (f 4).toInt from by omega) (show (f 15).toInt + 0 + mg_p2 gs ≤ (f 4).toInt from by omega) (show 1 + mg_p3 gs ≤ 20 * (f 4).toInt + 20 from by omega) (show 0 ≤ (f 68).toInt from by omega) (show (f 68).toInt + 3 * (f 20).toInt + 3 + mg_p4 gs ≤ 60 * (f 4).toInt + 60 from by omega) (show 0 ≤ (f 62).toInt from by omega) (show (f 62).toInt + 64 * mj_n (g 16) (f 15).toNatClampNeg 3 ≤ 64 * (f 4).toInt from by omega) (show 0 ≤ (f 44).toInt from by omega) (show (f 44).toInt ≤ (f 4).toInt from by omega) (show 0 ≤ (f 48).toInt from by omega) (show (f 48).toInt ≤ (f 4).toInt from by omega) (show 1 ≤ (f 53).toInt from by omega) (show (f 53).toInt ≤ (f 4).toInt + 1 from by omega) (show 0 ≤ (f 19).toInt from by omega) (show (f 19).toInt ≤ 600 from by omega) (show 0 ≤ (f 6).toInt from by omega) (show 0 ≤ (f 8).toInt from by omega) (show 0 ≤ mg_p1 gs from by omega) (show 0 ≤ mg_p2 gs from by omega) (show 0 ≤ mg_p4 gs from by omega) (show 0 ≤ z.toInt from by omega) (show z.toInt ≤ mg_p3 gs from by omega) (show 0 ≤ mj_n (g 16) (f 15).toNatClampNeg 3 from by omega) (show 2 ≤ (f 15).toInt from by omega) (show 0 ≤ (f 20).toInt from by omega) (show 1 ≤ (f 37).toInt from by omega) (show 0 ≤ (f 32).toInt from by omega) (show (f 32).toInt ≤ (f 5).toInt from by omega) (show (f 5).toInt ≤ 48 from by omega) (show (f 37).toInt ≤ 2 * (f 5).toInt + 2 from by omega)
theorem sq_34 {sc : Nat × (Nat → Int32)} {d : Nat} {S0 S : am_S} {f : Nat → Int32} {g : Nat → Nat → Int32} {gs : List mg_E} {bc : List (List Nat)} {c : List Nat} {z on tw th : Int32} (hS : MS S0 S (upd f 10 z) g) (hB : BI f g (((34 : Int), on.toInt, tw.toInt, th.toInt, c) :: gs) bc) (hz : z.toInt = (f 10).toInt - 1) : am_E (am_PP sc) (d + 8) 180 0 [some (.ref 39), some (.int 34), some (.int on), some (.int tw), some (.int th)] [] S (am_N fun v S1 => ∃ (f' : Nat → Int32) (g' : Nat → Nat → Int32) (gs' : List mg_E) (bc' : List (List Nat)), v = none ∧ MS S0 S1 f' g' ∧ (mg_on (upd f 10 z) (100 * ((f 0).toInt - (f 4).toInt) + mg_p3 (((34 : Int), on.toInt, tw.toInt, th.toInt, c) :: gs)) f' g' gs' bc' ∨ mg_off (upd f 10 z) f' g' bc')) := by
  obtain ⟨hR, hG, hN⟩ := hB
  obtain ⟨n0, n1, n2, n3, n4, n5, n6, n7, n8, n9, n10, n11, n12, n13, n14, n15, n16, n17, n18, n19, n20, n21⟩ := hN
  obtain ⟨⟨-, a1, a2, a3, a4, a5, a6, a7, a8⟩, hr⟩ := hG
  have a1_ : (1 : Int) ≤ (f 15).toInt := a1
  have a7_ : (f 37).toInt ≤ 2 * (f 5).toInt + 2 := a7
  have q1 : mg_p1 (((34 : Int), on.toInt, tw.toInt, th.toInt, c) :: gs) = 0 + mg_p1 gs := rfl
  have q2 : mg_p2 (((34 : Int), on.toInt, tw.toInt, th.toInt, c) :: gs) = (on.toInt - 1) + mg_p2 gs := rfl
  have q3 : mg_p3 (((34 : Int), on.toInt, tw.toInt, th.toInt, c) :: gs) = 1 + mg_p3 gs := rfl
  have q4 : mg_p4 (((34 : Int), on.toInt, tw.toInt, th.toInt, c) :: gs) = 0 + mg_p4 gs := rfl
  have r1 := mg_p1_nn _ _ _ _ _ _ hr
  have r2 := mg_p2_nn _ _ _ _ _ _ hr
  have r4 := mg_p4_nn gs
  have ht := pop_top hR hz
  have hk3 := (mj_n_le (a := g 16) (f 15).toNatClampNeg 3).1
  have hRk := pop_0 hR hz (by decide)
  have u0 : 1 ≤ on.toInt := a8
  exact st_34 (gs := gs) hS hRk hr (show 0 ≤ (f 4).toInt from by omega) (show (f 4).toInt ≤ (f 0).toInt from by omega) (show (f 0).toInt ≤ 512 from by omega) (show 0 ≤ (f 24).toInt from by omega) (show (f 24).toInt + (f 20).toInt + mg_p1 gs ≤ 4 * (f 4).toInt from by omega) (show (f 20).toInt ≤ (f 4).toInt from by omega) (show (f 15).toInt + 0 + on.toInt + mg_p2 gs ≤ (f 4).toInt + 1 from by omega) (show 1 + mg_p3 gs ≤ 20 * (f 4).toInt + 20 from by omega) (show 0 ≤ (f 68).toInt from by omega) (show (f 68).toInt + 3 * (f 20).toInt + 0 + mg_p4 gs ≤ 60 * (f 4).toInt + 60 from by omega) (show 0 ≤ (f 62).toInt from by omega) (show (f 62).toInt + 64 * mj_n (g 16) (f 15).toNatClampNeg 3 ≤ 64 * (f 4).toInt from by omega) (show 0 ≤ (f 44).toInt from by omega) (show (f 44).toInt ≤ (f 4).toInt from by omega) (show 0 ≤ (f 48).toInt from by omega) (show (f 48).toInt ≤ (f 4).toInt from by omega) (show 1 ≤ (f 53).toInt from by omega) (show (f 53).toInt ≤ (f 4).toInt + 1 from by omega) (show 0 ≤ (f 19).toInt from by omega) (show (f 19).toInt ≤ 600 from by omega) (show 0 ≤ (f 6).toInt from by omega) (show 0 ≤ (f 8).toInt from by omega) (show 0 ≤ mg_p1 gs from by omega) (show 0 ≤ mg_p2 gs from by omega) (show 0 ≤ mg_p4 gs from by omega) (show 0 ≤ z.toInt from by omega) (show z.toInt ≤ mg_p3 gs from by omega) (show 0 ≤ mj_n (g 16) (f 15).toNatClampNeg 3 from by omega) (show 1 ≤ (f 15).toInt from by omega) (show 0 ≤ (f 20).toInt from by omega) (show 1 ≤ (f 37).toInt from by omega) (show 0 ≤ (f 32).toInt from by omega) (show (f 32).toInt ≤ (f 5).toInt from by omega) (show (f 5).toInt ≤ 48 from by omega) (show (f 37).toInt ≤ 2 * (f 5).toInt + 2 from by omega) (show 1 ≤ on.toInt from by omega)
theorem sq_35 {sc : Nat × (Nat → Int32)} {d : Nat} {S0 S : am_S} {f : Nat → Int32} {g : Nat → Nat → Int32} {gs : List mg_E} {bc : List (List Nat)} {c : List Nat} {z on tw th : Int32} (hS : MS S0 S (upd f 10 z) g) (hB : BI f g (((35 : Int), on.toInt, tw.toInt, th.toInt, c) :: gs) bc) (hz : z.toInt = (f 10).toInt - 1) : am_E (am_PP sc) (d + 8) 180 0 [some (.ref 39), some (.int 35), some (.int on), some (.int tw), some (.int th)] [] S (am_N fun v S1 => ∃ (f' : Nat → Int32) (g' : Nat → Nat → Int32) (gs' : List mg_E) (bc' : List (List Nat)), v = none ∧ MS S0 S1 f' g' ∧ (mg_on (upd f 10 z) (100 * ((f 0).toInt - (f 4).toInt) + mg_p3 (((35 : Int), on.toInt, tw.toInt, th.toInt, c) :: gs)) f' g' gs' bc' ∨ mg_off (upd f 10 z) f' g' bc')) := by
  obtain ⟨hR, hG, hN⟩ := hB
  obtain ⟨n0, n1, n2, n3, n4, n5, n6, n7, n8, n9, n10, n11, n12, n13, n14, n15, n16, n17, n18, n19, n20, n21⟩ := hN
  obtain ⟨⟨-, a1, a2, a3, a4, a5, a6, a7, a8⟩, hr⟩ := hG
  have a1_ : (0 : Int) ≤ (f 15).toInt := a1
  have a7_ : (f 37).toInt ≤ 2 * (f 5).toInt + 2 := a7
  have q1 : mg_p1 (((35 : Int), on.toInt, tw.toInt, th.toInt, c) :: gs) = 0 + mg_p1 gs := rfl
  have q2 : mg_p2 (((35 : Int), on.toInt, tw.toInt, th.toInt, c) :: gs) = 0 + mg_p2 gs := rfl
  have q3 : mg_p3 (((35 : Int), on.toInt, tw.toInt, th.toInt, c) :: gs) = 3 + mg_p3 gs := rfl
  have q4 : mg_p4 (((35 : Int), on.toInt, tw.toInt, th.toInt, c) :: gs) = 0 + mg_p4 gs := rfl
  have r1 := mg_p1_nn _ _ _ _ _ _ hr
  have r2 := mg_p2_nn _ _ _ _ _ _ hr
  have r4 := mg_p4_nn gs
  have ht := pop_top hR hz
  have hk3 := (mj_n_le (a := g 16) (f 15).toNatClampNeg 3).1
  have hRk := pop_0 hR hz (by decide)
  exact st_35 (gs := gs) hS hRk hr (show 0 ≤ (f 4).toInt from by omega) (show (f 4).toInt ≤ (f 0).toInt from by omega) (show (f 0).toInt ≤ 512 from by omega) (show 0 ≤ (f 24).toInt from by omega) (show (f 24).toInt + (f 20).toInt + mg_p1 gs ≤ 4 * (f 4).toInt from by omega) (show (f 20).toInt ≤ (f 4).toInt from by omega) (show (f 15).toInt + 0 + mg_p2 gs ≤ (f 4).toInt from by omega) (show 3 + mg_p3 gs ≤ 20 * (f 4).toInt + 20 from by omega) (show 0 ≤ (f 68).toInt from by omega) (show (f 68).toInt + 3 * (f 20).toInt + 0 + mg_p4 gs ≤ 60 * (f 4).toInt + 60 from by omega) (show 0 ≤ (f 62).toInt from by omega) (show (f 62).toInt + 64 * mj_n (g 16) (f 15).toNatClampNeg 3 ≤ 64 * (f 4).toInt from by omega) (show 0 ≤ (f 44).toInt from by omega) (show (f 44).toInt ≤ (f 4).toInt from by omega) (show 0 ≤ (f 48).toInt from by omega) (show (f 48).toInt ≤ (f 4).toInt from by omega) (show 1 ≤ (f 53).toInt from by omega) (show (f 53).toInt ≤ (f 4).toInt + 1 from by omega) (show 0 ≤ (f 19).toInt from by omega) (show (f 19).toInt ≤ 600 from by omega) (show 0 ≤ (f 6).toInt from by omega) (show 0 ≤ (f 8).toInt from by omega) (show 0 ≤ mg_p1 gs from by omega) (show 0 ≤ mg_p2 gs from by omega) (show 0 ≤ mg_p4 gs from by omega) (show 0 ≤ z.toInt from by omega) (show z.toInt ≤ mg_p3 gs from by omega) (show 0 ≤ mj_n (g 16) (f 15).toNatClampNeg 3 from by omega) (show 0 ≤ (f 15).toInt from by omega) (show 0 ≤ (f 20).toInt from by omega) (show 1 ≤ (f 37).toInt from by omega) (show 0 ≤ (f 32).toInt from by omega) (show (f 32).toInt ≤ (f 5).toInt from by omega) (show (f 5).toInt ≤ 48 from by omega) (show (f 37).toInt ≤ 2 * (f 5).toInt + 2 from by omega)
theorem sq_36 {sc : Nat × (Nat → Int32)} {d : Nat} {S0 S : am_S} {f : Nat → Int32} {g : Nat → Nat → Int32} {gs : List mg_E} {bc : List (List Nat)} {c : List Nat} {z on tw th : Int32} (hS : MS S0 S (upd f 10 z) g) (hB : BI f g (((36 : Int), on.toInt, tw.toInt, th.toInt, c) :: gs) bc) (hz : z.toInt = (f 10).toInt - 1) : am_E (am_PP sc) (d + 8) 180 0 [some (.ref 39), some (.int 36), some (.int on), some (.int tw), some (.int th)] [] S (am_N fun v S1 => ∃ (f' : Nat → Int32) (g' : Nat → Nat → Int32) (gs' : List mg_E) (bc' : List (List Nat)), v = none ∧ MS S0 S1 f' g' ∧ (mg_on (upd f 10 z) (100 * ((f 0).toInt - (f 4).toInt) + mg_p3 (((36 : Int), on.toInt, tw.toInt, th.toInt, c) :: gs)) f' g' gs' bc' ∨ mg_off (upd f 10 z) f' g' bc')) := by
  obtain ⟨hR, hG, hN⟩ := hB
  obtain ⟨n0, n1, n2, n3, n4, n5, n6, n7, n8, n9, n10, n11, n12, n13, n14, n15, n16, n17, n18, n19, n20, n21⟩ := hN
  obtain ⟨⟨-, a1, a2, a3, a4, a5, a6, a7, a8⟩, hr⟩ := hG
  have a1_ : (1 : Int) ≤ (f 15).toInt := a1
  have a7_ : (f 37).toInt ≤ 2 * (f 5).toInt + 2 := a7
  have q1 : mg_p1 (((36 : Int), on.toInt, tw.toInt, th.toInt, c) :: gs) = 0 + mg_p1 gs := rfl
  have q2 : mg_p2 (((36 : Int), on.toInt, tw.toInt, th.toInt, c) :: gs) = 0 + mg_p2 gs := rfl
  have q3 : mg_p3 (((36 : Int), on.toInt, tw.toInt, th.toInt, c) :: gs) = 1 + mg_p3 gs := rfl
  have q4 : mg_p4 (((36 : Int), on.toInt, tw.toInt, th.toInt, c) :: gs) = 0 + mg_p4 gs := rfl
  have r1 := mg_p1_nn _ _ _ _ _ _ hr
  have r2 := mg_p2_nn _ _ _ _ _ _ hr
  have r4 := mg_p4_nn gs
  have ht := pop_top hR hz
  have hk3 := (mj_n_le (a := g 16) (f 15).toNatClampNeg 3).1
  have hRk := pop_0 hR hz (by decide)
  exact st_36 (gs := gs) hS hRk hr (show 0 ≤ (f 4).toInt from by omega) (show (f 4).toInt ≤ (f 0).toInt from by omega) (show (f 0).toInt ≤ 512 from by omega) (show 0 ≤ (f 24).toInt from by omega) (show (f 24).toInt + (f 20).toInt + mg_p1 gs ≤ 4 * (f 4).toInt from by omega) (show (f 20).toInt ≤ (f 4).toInt from by omega) (show (f 15).toInt + 0 + mg_p2 gs ≤ (f 4).toInt from by omega) (show 1 + mg_p3 gs ≤ 20 * (f 4).toInt + 20 from by omega) (show 0 ≤ (f 68).toInt from by omega) (show (f 68).toInt + 3 * (f 20).toInt + 0 + mg_p4 gs ≤ 60 * (f 4).toInt + 60 from by omega) (show 0 ≤ (f 62).toInt from by omega) (show (f 62).toInt + 64 * mj_n (g 16) (f 15).toNatClampNeg 3 ≤ 64 * (f 4).toInt from by omega) (show 0 ≤ (f 44).toInt from by omega) (show (f 44).toInt ≤ (f 4).toInt from by omega) (show 0 ≤ (f 48).toInt from by omega) (show (f 48).toInt ≤ (f 4).toInt from by omega) (show 1 ≤ (f 53).toInt from by omega) (show (f 53).toInt ≤ (f 4).toInt + 1 from by omega) (show 0 ≤ (f 19).toInt from by omega) (show (f 19).toInt ≤ 600 from by omega) (show 0 ≤ (f 6).toInt from by omega) (show 0 ≤ (f 8).toInt from by omega) (show 0 ≤ mg_p1 gs from by omega) (show 0 ≤ mg_p2 gs from by omega) (show 0 ≤ mg_p4 gs from by omega) (show 0 ≤ z.toInt from by omega) (show z.toInt ≤ mg_p3 gs from by omega) (show 0 ≤ mj_n (g 16) (f 15).toNatClampNeg 3 from by omega) (show 1 ≤ (f 15).toInt from by omega) (show 0 ≤ (f 20).toInt from by omega) (show 1 ≤ (f 37).toInt from by omega) (show 0 ≤ (f 32).toInt from by omega) (show (f 32).toInt ≤ (f 5).toInt from by omega) (show (f 5).toInt ≤ 48 from by omega) (show (f 37).toInt ≤ 2 * (f 5).toInt + 2 from by omega)
theorem sq_37 {sc : Nat × (Nat → Int32)} {d : Nat} {S0 S : am_S} {f : Nat → Int32} {g : Nat → Nat → Int32} {gs : List mg_E} {bc : List (List Nat)} {c : List Nat} {z on tw th : Int32} (hS : MS S0 S (upd f 10 z) g) (hB : BI f g (((37 : Int), on.toInt, tw.toInt, th.toInt, c) :: gs) bc) (hz : z.toInt = (f 10).toInt - 1) : am_E (am_PP sc) (d + 8) 180 0 [some (.ref 39), some (.int 37), some (.int on), some (.int tw), some (.int th)] [] S (am_N fun v S1 => ∃ (f' : Nat → Int32) (g' : Nat → Nat → Int32) (gs' : List mg_E) (bc' : List (List Nat)), v = none ∧ MS S0 S1 f' g' ∧ (mg_on (upd f 10 z) (100 * ((f 0).toInt - (f 4).toInt) + mg_p3 (((37 : Int), on.toInt, tw.toInt, th.toInt, c) :: gs)) f' g' gs' bc' ∨ mg_off (upd f 10 z) f' g' bc')) := by
  obtain ⟨hR, hG, hN⟩ := hB
  obtain ⟨n0, n1, n2, n3, n4, n5, n6, n7, n8, n9, n10, n11, n12, n13, n14, n15, n16, n17, n18, n19, n20, n21⟩ := hN
  obtain ⟨⟨-, a1, a2, a3, a4, a5, a6, a7, a8⟩, hr⟩ := hG
  have a1_ : (1 : Int) ≤ (f 15).toInt := a1
  have a7_ : (f 37).toInt ≤ 2 * (f 5).toInt + 2 := a7
  have q1 : mg_p1 (((37 : Int), on.toInt, tw.toInt, th.toInt, c) :: gs) = 0 + mg_p1 gs := rfl
  have q2 : mg_p2 (((37 : Int), on.toInt, tw.toInt, th.toInt, c) :: gs) = 0 + mg_p2 gs := rfl
  have q3 : mg_p3 (((37 : Int), on.toInt, tw.toInt, th.toInt, c) :: gs) = 1 + mg_p3 gs := rfl
  have q4 : mg_p4 (((37 : Int), on.toInt, tw.toInt, th.toInt, c) :: gs) = 0 + mg_p4 gs := rfl
  have r1 := mg_p1_nn _ _ _ _ _ _ hr
  have r2 := mg_p2_nn _ _ _ _ _ _ hr
  have r4 := mg_p4_nn gs
  have ht := pop_top hR hz
  have hk3 := (mj_n_le (a := g 16) (f 15).toNatClampNeg 3).1
  have hRk := pop_0 hR hz (by decide)
  exact st_37 (gs := gs) hS hRk hr (show 0 ≤ (f 4).toInt from by omega) (show (f 4).toInt ≤ (f 0).toInt from by omega) (show (f 0).toInt ≤ 512 from by omega) (show 0 ≤ (f 24).toInt from by omega) (show (f 24).toInt + (f 20).toInt + mg_p1 gs ≤ 4 * (f 4).toInt from by omega) (show (f 20).toInt ≤ (f 4).toInt from by omega) (show (f 15).toInt + 0 + mg_p2 gs ≤ (f 4).toInt from by omega) (show 1 + mg_p3 gs ≤ 20 * (f 4).toInt + 20 from by omega) (show 0 ≤ (f 68).toInt from by omega) (show (f 68).toInt + 3 * (f 20).toInt + 0 + mg_p4 gs ≤ 60 * (f 4).toInt + 60 from by omega) (show 0 ≤ (f 62).toInt from by omega) (show (f 62).toInt + 64 * mj_n (g 16) (f 15).toNatClampNeg 3 ≤ 64 * (f 4).toInt from by omega) (show 0 ≤ (f 44).toInt from by omega) (show (f 44).toInt ≤ (f 4).toInt from by omega) (show 0 ≤ (f 48).toInt from by omega) (show (f 48).toInt ≤ (f 4).toInt from by omega) (show 1 ≤ (f 53).toInt from by omega) (show (f 53).toInt ≤ (f 4).toInt + 1 from by omega) (show 0 ≤ (f 19).toInt from by omega) (show (f 19).toInt ≤ 600 from by omega) (show 0 ≤ (f 6).toInt from by omega) (show 0 ≤ (f 8).toInt from by omega) (show 0 ≤ mg_p1 gs from by omega) (show 0 ≤ mg_p2 gs from by omega) (show 0 ≤ mg_p4 gs from by omega) (show 0 ≤ z.toInt from by omega) (show z.toInt ≤ mg_p3 gs from by omega) (show 0 ≤ mj_n (g 16) (f 15).toNatClampNeg 3 from by omega) (show 1 ≤ (f 15).toInt from by omega) (show 0 ≤ (f 20).toInt from by omega) (show 1 ≤ (f 37).toInt from by omega) (show 0 ≤ (f 32).toInt from by omega) (show (f 32).toInt ≤ (f 5).toInt from by omega) (show (f 5).toInt ≤ 48 from by omega) (show (f 37).toInt ≤ 2 * (f 5).toInt + 2 from by omega)
theorem sq_38 {sc : Nat × (Nat → Int32)} {d : Nat} {S0 S : am_S} {f : Nat → Int32} {g : Nat → Nat → Int32} {gs : List mg_E} {bc : List (List Nat)} {c : List Nat} {z on tw th : Int32} (hS : MS S0 S (upd f 10 z) g) (hB : BI f g (((38 : Int), on.toInt, tw.toInt, th.toInt, c) :: gs) bc) (hz : z.toInt = (f 10).toInt - 1) : am_E (am_PP sc) (d + 8) 180 0 [some (.ref 39), some (.int 38), some (.int on), some (.int tw), some (.int th)] [] S (am_N fun v S1 => ∃ (f' : Nat → Int32) (g' : Nat → Nat → Int32) (gs' : List mg_E) (bc' : List (List Nat)), v = none ∧ MS S0 S1 f' g' ∧ (mg_on (upd f 10 z) (100 * ((f 0).toInt - (f 4).toInt) + mg_p3 (((38 : Int), on.toInt, tw.toInt, th.toInt, c) :: gs)) f' g' gs' bc' ∨ mg_off (upd f 10 z) f' g' bc')) := by
  obtain ⟨hR, hG, hN⟩ := hB
  obtain ⟨n0, n1, n2, n3, n4, n5, n6, n7, n8, n9, n10, n11, n12, n13, n14, n15, n16, n17, n18, n19, n20, n21⟩ := hN
  obtain ⟨⟨-, a1, a2, a3, a4, a5, a6, a7, a8⟩, hr⟩ := hG
  have a1_ : (1 : Int) ≤ (f 15).toInt := a1
  have a7_ : (f 37).toInt ≤ 2 * (f 5).toInt + 2 := a7
  have q1 : mg_p1 (((38 : Int), on.toInt, tw.toInt, th.toInt, c) :: gs) = 0 + mg_p1 gs := rfl
  have q2 : mg_p2 (((38 : Int), on.toInt, tw.toInt, th.toInt, c) :: gs) = 0 + mg_p2 gs := rfl
  have q3 : mg_p3 (((38 : Int), on.toInt, tw.toInt, th.toInt, c) :: gs) = 1 + mg_p3 gs := rfl
  have q4 : mg_p4 (((38 : Int), on.toInt, tw.toInt, th.toInt, c) :: gs) = 0 + mg_p4 gs := rfl
  have r1 := mg_p1_nn _ _ _ _ _ _ hr
  have r2 := mg_p2_nn _ _ _ _ _ _ hr
  have r4 := mg_p4_nn gs
  have ht := pop_top hR hz
  have hk3 := (mj_n_le (a := g 16) (f 15).toNatClampNeg 3).1
  have hRk := pop_0 hR hz (by decide)
  obtain ⟨u0, u1⟩ : 0 ≤ tw.toInt ∧ tw.toInt ≤ 16000 := a8
  exact st_38 (gs := gs) hS hRk hr (show 0 ≤ (f 4).toInt from by omega) (show (f 4).toInt ≤ (f 0).toInt from by omega) (show (f 0).toInt ≤ 512 from by omega) (show 0 ≤ (f 24).toInt from by omega) (show (f 24).toInt + (f 20).toInt + mg_p1 gs ≤ 4 * (f 4).toInt from by omega) (show (f 20).toInt ≤ (f 4).toInt from by omega) (show (f 15).toInt + 0 + mg_p2 gs ≤ (f 4).toInt from by omega) (show 1 + mg_p3 gs ≤ 20 * (f 4).toInt + 20 from by omega) (show 0 ≤ (f 68).toInt from by omega) (show (f 68).toInt + 3 * (f 20).toInt + 0 + mg_p4 gs ≤ 60 * (f 4).toInt + 60 from by omega) (show 0 ≤ (f 62).toInt from by omega) (show (f 62).toInt + 64 * mj_n (g 16) (f 15).toNatClampNeg 3 ≤ 64 * (f 4).toInt from by omega) (show 0 ≤ (f 44).toInt from by omega) (show (f 44).toInt ≤ (f 4).toInt from by omega) (show 0 ≤ (f 48).toInt from by omega) (show (f 48).toInt ≤ (f 4).toInt from by omega) (show 1 ≤ (f 53).toInt from by omega) (show (f 53).toInt ≤ (f 4).toInt + 1 from by omega) (show 0 ≤ (f 19).toInt from by omega) (show (f 19).toInt ≤ 600 from by omega) (show 0 ≤ (f 6).toInt from by omega) (show 0 ≤ (f 8).toInt from by omega) (show 0 ≤ mg_p1 gs from by omega) (show 0 ≤ mg_p2 gs from by omega) (show 0 ≤ mg_p4 gs from by omega) (show 0 ≤ z.toInt from by omega) (show z.toInt ≤ mg_p3 gs from by omega) (show 0 ≤ mj_n (g 16) (f 15).toNatClampNeg 3 from by omega) (show 1 ≤ (f 15).toInt from by omega) (show 0 ≤ (f 20).toInt from by omega) (show 1 ≤ (f 37).toInt from by omega) (show 0 ≤ (f 32).toInt from by omega) (show (f 32).toInt ≤ (f 5).toInt from by omega) (show (f 5).toInt ≤ 48 from by omega) (show (f 37).toInt ≤ 2 * (f 5).toInt + 2 from by omega) (show 0 ≤ tw.toInt from by omega) (show tw.toInt ≤ 16000 from by omega)
theorem sq_39 {sc : Nat × (Nat → Int32)} {d : Nat} {S0 S : am_S} {f : Nat → Int32} {g : Nat → Nat → Int32} {gs : List mg_E} {bc : List (List Nat)} {c : List Nat} {z on tw th : Int32} (hS : MS S0 S (upd f 10 z) g) (hB : BI f g (((39 : Int), on.toInt, tw.toInt, th.toInt, c) :: gs) bc) (hz : z.toInt = (f 10).toInt - 1) : am_E (am_PP sc) (d + 8) 180 0 [some (.ref 39), some (.int 39), some (.int on), some (.int tw), some (.int th)] [] S (am_N fun v S1 => ∃ (f' : Nat → Int32) (g' : Nat → Nat → Int32) (gs' : List mg_E) (bc' : List (List Nat)), v = none ∧ MS S0 S1 f' g' ∧ (mg_on (upd f 10 z) (100 * ((f 0).toInt - (f 4).toInt) + mg_p3 (((39 : Int), on.toInt, tw.toInt, th.toInt, c) :: gs)) f' g' gs' bc' ∨ mg_off (upd f 10 z) f' g' bc')) := by
  obtain ⟨hR, hG, hN⟩ := hB
  obtain ⟨n0, n1, n2, n3, n4, n5, n6, n7, n8, n9, n10, n11, n12, n13, n14, n15, n16, n17, n18, n19, n20, n21⟩ := hN
  obtain ⟨⟨-, a1, a2, a3, a4, a5, a6, a7, a8⟩, hr⟩ := hG
  have a1_ : (1 : Int) ≤ (f 15).toInt := a1
  have a7_ : (f 37).toInt ≤ 2 * (f 5).toInt + 2 := a7
  have q1 : mg_p1 (((39 : Int), on.toInt, tw.toInt, th.toInt, c) :: gs) = 0 + mg_p1 gs := rfl
  have q2 : mg_p2 (((39 : Int), on.toInt, tw.toInt, th.toInt, c) :: gs) = 0 + mg_p2 gs := rfl
  have q3 : mg_p3 (((39 : Int), on.toInt, tw.toInt, th.toInt, c) :: gs) = 1 + mg_p3 gs := rfl
  have q4 : mg_p4 (((39 : Int), on.toInt, tw.toInt, th.toInt, c) :: gs) = 0 + mg_p4 gs := rfl
  have r1 := mg_p1_nn _ _ _ _ _ _ hr
  have r2 := mg_p2_nn _ _ _ _ _ _ hr
  have r4 := mg_p4_nn gs
  have ht := pop_top hR hz
  have hk3 := (mj_n_le (a := g 16) (f 15).toNatClampNeg 3).1
  have hRk := pop_0 hR hz (by decide)
  exact st_39 (gs := gs) hS hRk hr (show 0 ≤ (f 4).toInt from by omega) (show (f 4).toInt ≤ (f 0).toInt from by omega) (show (f 0).toInt ≤ 512 from by omega) (show 0 ≤ (f 24).toInt from by omega) (show (f 24).toInt + (f 20).toInt + mg_p1 gs ≤ 4 * (f 4).toInt from by omega) (show (f 20).toInt ≤ (f 4).toInt from by omega) (show (f 15).toInt + 0 + mg_p2 gs ≤ (f 4).toInt from by omega) (show 1 + mg_p3 gs ≤ 20 * (f 4).toInt + 20 from by omega) (show 0 ≤ (f 68).toInt from by omega) (show (f 68).toInt + 3 * (f 20).toInt + 0 + mg_p4 gs ≤ 60 * (f 4).toInt + 60 from by omega) (show 0 ≤ (f 62).toInt from by omega) (show (f 62).toInt + 64 * mj_n (g 16) (f 15).toNatClampNeg 3 ≤ 64 * (f 4).toInt from by omega) (show 0 ≤ (f 44).toInt from by omega) (show (f 44).toInt ≤ (f 4).toInt from by omega) (show 0 ≤ (f 48).toInt from by omega) (show (f 48).toInt ≤ (f 4).toInt from by omega) (show 1 ≤ (f 53).toInt from by omega) (show (f 53).toInt ≤ (f 4).toInt + 1 from by omega) (show 0 ≤ (f 19).toInt from by omega) (show (f 19).toInt ≤ 600 from by omega) (show 0 ≤ (f 6).toInt from by omega) (show 0 ≤ (f 8).toInt from by omega) (show 0 ≤ mg_p1 gs from by omega) (show 0 ≤ mg_p2 gs from by omega) (show 0 ≤ mg_p4 gs from by omega) (show 0 ≤ z.toInt from by omega) (show z.toInt ≤ mg_p3 gs from by omega) (show 0 ≤ mj_n (g 16) (f 15).toNatClampNeg 3 from by omega) (show 1 ≤ (f 15).toInt from by omega) (show 0 ≤ (f 20).toInt from by omega) (show 1 ≤ (f 37).toInt from by omega) (show 0 ≤ (f 32).toInt from by omega) (show (f 32).toInt ≤ (f 5).toInt from by omega) (show (f 5).toInt ≤ 48 from by omega) (show (f 37).toInt ≤ 2 * (f 5).toInt + 2 from by omega)
theorem sq_40 {sc : Nat × (Nat → Int32)} {d : Nat} {S0 S : am_S} {f : Nat → Int32} {g : Nat → Nat → Int32} {gs : List mg_E} {bc : List (List Nat)} {c : List Nat} {z on tw th : Int32} (hS : MS S0 S (upd f 10 z) g) (hB : BI f g (((40 : Int), on.toInt, tw.toInt, th.toInt, c) :: gs) bc) (hz : z.toInt = (f 10).toInt - 1) : am_E (am_PP sc) (d + 8) 180 0 [some (.ref 39), some (.int 40), some (.int on), some (.int tw), some (.int th)] [] S (am_N fun v S1 => ∃ (f' : Nat → Int32) (g' : Nat → Nat → Int32) (gs' : List mg_E) (bc' : List (List Nat)), v = none ∧ MS S0 S1 f' g' ∧ (mg_on (upd f 10 z) (100 * ((f 0).toInt - (f 4).toInt) + mg_p3 (((40 : Int), on.toInt, tw.toInt, th.toInt, c) :: gs)) f' g' gs' bc' ∨ mg_off (upd f 10 z) f' g' bc')) := by
  obtain ⟨hR, hG, hN⟩ := hB
  obtain ⟨n0, n1, n2, n3, n4, n5, n6, n7, n8, n9, n10, n11, n12, n13, n14, n15, n16, n17, n18, n19, n20, n21⟩ := hN
  obtain ⟨⟨-, a1, a2, a3, a4, a5, a6, a7, a8⟩, hr⟩ := hG
  have a1_ : (0 : Int) ≤ (f 15).toInt := a1
  have a7_ : (f 37).toInt ≤ 2 * (f 5).toInt + 1 := a7
  have q1 : mg_p1 (((40 : Int), on.toInt, tw.toInt, th.toInt, c) :: gs) = 0 + mg_p1 gs := rfl
  have q2 : mg_p2 (((40 : Int), on.toInt, tw.toInt, th.toInt, c) :: gs) = 0 + mg_p2 gs := rfl
  have q3 : mg_p3 (((40 : Int), on.toInt, tw.toInt, th.toInt, c) :: gs) = 1 + mg_p3 gs := rfl
  have q4 : mg_p4 (((40 : Int), on.toInt, tw.toInt, th.toInt, c) :: gs) = 0 + mg_p4 gs := rfl
  have r1 := mg_p1_nn _ _ _ _ _ _ hr
  have r2 := mg_p2_nn _ _ _ _ _ _ hr
  have r4 := mg_p4_nn gs
  have ht := pop_top hR hz
  have hk3 := (mj_n_le (a := g 16) (f 15).toNatClampNeg 3).1
  have hRk := pop_0 hR hz (by decide)
  exact st_40 (gs := gs) hS hRk hr (show 0 ≤ (f 4).toInt from by omega) (show (f 4).toInt ≤ (f 0).toInt from by omega) (show (f 0).toInt ≤ 512 from by omega) (show 0 ≤ (f 24).toInt from by omega) (show (f 24).toInt + (f 20).toInt + mg_p1 gs ≤ 4 * (f 4).toInt from by omega) (show (f 20).toInt ≤ (f 4).toInt from by omega) (show (f 15).toInt + 0 + mg_p2 gs ≤ (f 4).toInt from by omega) (show 1 + mg_p3 gs ≤ 20 * (f 4).toInt + 20 from by omega) (show 0 ≤ (f 68).toInt from by omega) (show (f 68).toInt + 3 * (f 20).toInt + 0 + mg_p4 gs ≤ 60 * (f 4).toInt + 60 from by omega) (show 0 ≤ (f 62).toInt from by omega) (show (f 62).toInt + 64 * mj_n (g 16) (f 15).toNatClampNeg 3 ≤ 64 * (f 4).toInt from by omega) (show 0 ≤ (f 44).toInt from by omega) (show (f 44).toInt ≤ (f 4).toInt from by omega) (show 0 ≤ (f 48).toInt from by omega) (show (f 48).toInt ≤ (f 4).toInt from by omega) (show 1 ≤ (f 53).toInt from by omega) (show (f 53).toInt ≤ (f 4).toInt + 1 from by omega) (show 0 ≤ (f 19).toInt from by omega) (show (f 19).toInt ≤ 600 from by omega) (show 0 ≤ (f 6).toInt from by omega) (show 0 ≤ (f 8).toInt from by omega) (show 0 ≤ mg_p1 gs from by omega) (show 0 ≤ mg_p2 gs from by omega) (show 0 ≤ mg_p4 gs from by omega) (show 0 ≤ z.toInt from by omega) (show z.toInt ≤ mg_p3 gs from by omega) (show 0 ≤ mj_n (g 16) (f 15).toNatClampNeg 3 from by omega) (show 0 ≤ (f 15).toInt from by omega) (show 0 ≤ (f 20).toInt from by omega) (show 1 ≤ (f 37).toInt from by omega) (show 0 ≤ (f 32).toInt from by omega) (show (f 32).toInt ≤ (f 5).toInt from by omega) (show (f 5).toInt ≤ 48 from by omega) (show (f 37).toInt ≤ 2 * (f 5).toInt + 1 from by omega)
theorem sq_41 {sc : Nat × (Nat → Int32)} {d : Nat} {S0 S : am_S} {f : Nat → Int32} {g : Nat → Nat → Int32} {gs : List mg_E} {bc : List (List Nat)} {c : List Nat} {z on tw th : Int32} (hS : MS S0 S (upd f 10 z) g) (hB : BI f g (((41 : Int), on.toInt, tw.toInt, th.toInt, c) :: gs) bc) (hz : z.toInt = (f 10).toInt - 1) : am_E (am_PP sc) (d + 8) 180 0 [some (.ref 39), some (.int 41), some (.int on), some (.int tw), some (.int th)] [] S (am_N fun v S1 => ∃ (f' : Nat → Int32) (g' : Nat → Nat → Int32) (gs' : List mg_E) (bc' : List (List Nat)), v = none ∧ MS S0 S1 f' g' ∧ (mg_on (upd f 10 z) (100 * ((f 0).toInt - (f 4).toInt) + mg_p3 (((41 : Int), on.toInt, tw.toInt, th.toInt, c) :: gs)) f' g' gs' bc' ∨ mg_off (upd f 10 z) f' g' bc')) := by
  obtain ⟨hR, hG, hN⟩ := hB
  obtain ⟨n0, n1, n2, n3, n4, n5, n6, n7, n8, n9, n10, n11, n12, n13, n14, n15, n16, n17, n18, n19, n20, n21⟩ := hN
  obtain ⟨⟨-, a1, a2, a3, a4, a5, a6, a7, a8⟩, hr⟩ := hG
  have a1_ : (0 : Int) ≤ (f 15).toInt := a1
  have a7_ : (f 37).toInt ≤ 2 * (f 5).toInt + 2 := a7
  have q1 : mg_p1 (((41 : Int), on.toInt, tw.toInt, th.toInt, c) :: gs) = 0 + mg_p1 gs := rfl
  have q2 : mg_p2 (((41 : Int), on.toInt, tw.toInt, th.toInt, c) :: gs) = 1 + mg_p2 gs := rfl
  have q3 : mg_p3 (((41 : Int), on.toInt, tw.toInt, th.toInt, c) :: gs) = 1 + mg_p3 gs := rfl
  have q4 : mg_p4 (((41 : Int), on.toInt, tw.toInt, th.toInt, c) :: gs) = 2 + mg_p4 gs := rfl
  have r1 := mg_p1_nn _ _ _ _ _ _ hr
  have r2 := mg_p2_nn _ _ _ _ _ _ hr
  have r4 := mg_p4_nn gs
  have ht := pop_top hR hz
  have hk3 := (mj_n_le (a := g 16) (f 15).toNatClampNeg 3).1
  have hRk := pop_0 hR hz (by decide)
  exact st_41 (gs := gs) hS hRk hr (show 0 ≤ (f 4).toInt from by omega) (show (f 4).toInt ≤ (f 0).toInt from by omega) (show (f 0).toInt ≤ 512 from by omega) (show 0 ≤ (f 24).toInt from by omega) (show (f 24).toInt + (f 20).toInt + mg_p1 gs ≤ 4 * (f 4).toInt from by omega) (show (f 20).toInt ≤ (f 4).toInt from by omega) (show (f 15).toInt + 1 + mg_p2 gs ≤ (f 4).toInt from by omega) (show 1 + mg_p3 gs ≤ 20 * (f 4).toInt + 20 from by omega) (show 0 ≤ (f 68).toInt from by omega) (show (f 68).toInt + 3 * (f 20).toInt + 2 + mg_p4 gs ≤ 60 * (f 4).toInt + 60 from by omega) (show 0 ≤ (f 62).toInt from by omega) (show (f 62).toInt + 64 * mj_n (g 16) (f 15).toNatClampNeg 3 ≤ 64 * (f 4).toInt from by omega) (show 0 ≤ (f 44).toInt from by omega) (show (f 44).toInt ≤ (f 4).toInt from by omega) (show 0 ≤ (f 48).toInt from by omega) (show (f 48).toInt ≤ (f 4).toInt from by omega) (show 1 ≤ (f 53).toInt from by omega) (show (f 53).toInt ≤ (f 4).toInt + 1 from by omega) (show 0 ≤ (f 19).toInt from by omega) (show (f 19).toInt ≤ 600 from by omega) (show 0 ≤ (f 6).toInt from by omega) (show 0 ≤ (f 8).toInt from by omega) (show 0 ≤ mg_p1 gs from by omega) (show 0 ≤ mg_p2 gs from by omega) (show 0 ≤ mg_p4 gs from by omega) (show 0 ≤ z.toInt from by omega) (show z.toInt ≤ mg_p3 gs from by omega) (show 0 ≤ mj_n (g 16) (f 15).toNatClampNeg 3 from by omega) (show 0 ≤ (f 15).toInt from by omega) (show 0 ≤ (f 20).toInt from by omega) (show 1 ≤ (f 37).toInt from by omega) (show 0 ≤ (f 32).toInt from by omega) (show (f 32).toInt ≤ (f 5).toInt from by omega) (show (f 5).toInt ≤ 48 from by omega) (show (f 37).toInt ≤ 2 * (f 5).toInt + 2 from by omega)
theorem st_any {sc : Nat × (Nat → Int32)} {d : Nat} {S0 S : am_S} {f : Nat → Int32} {g : Nat → Nat → Int32} {gs : List mg_E} {bc : List (List Nat)} {e : mg_E} {z k on tw th : Int32} (hS : MS S0 S (upd f 10 z) g) (hB : BI f g (e :: gs) bc) (hz : z.toInt = (f 10).toInt - 1) (hk : k.toInt = e.1) (hon : on.toInt = e.2.1) (htw : tw.toInt = e.2.2.1) (hth : th.toInt = e.2.2.2.1) : am_E (am_PP sc) (d + 8) 180 0 [some (.ref 39), some (.int k), some (.int on), some (.int tw), some (.int th)] [] S (am_N fun v S1 => ∃ (f' : Nat → Int32) (g' : Nat → Nat → Int32) (gs' : List mg_E) (bc' : List (List Nat)), v = none ∧ MS S0 S1 f' g' ∧ (mg_on (upd f 10 z) (100 * ((f 0).toInt - (f 4).toInt) + mg_p3 (e :: gs)) f' g' gs' bc' ∨ mg_off (upd f 10 z) f' g' bc')) := by
  obtain ⟨k', on', tw', th', c⟩ := e
  have hk_ : k.toInt = k' := hk
  have hon_ : on.toInt = on' := hon
  have htw_ : tw.toInt = tw' := htw
  have hth_ : th.toInt = th' := hth
  subst hon_ htw_ hth_
  have hkk : k' = 1 ∨ k' = 2 ∨ k' = 3 ∨ k' = 4 ∨ k' = 5 ∨ k' = 6 ∨ k' = 7 ∨ k' = 8 ∨ k' = 9 ∨ k' = 10 ∨ k' = 11 ∨ k' = 12 ∨ k' = 13 ∨ k' = 14 ∨ k' = 15 ∨ k' = 16 ∨ k' = 17 ∨ k' = 18 ∨ k' = 19 ∨ k' = 20 ∨ k' = 21 ∨ k' = 22 ∨ k' = 23 ∨ k' = 24 ∨ k' = 25 ∨ k' = 26 ∨ k' = 27 ∨ k' = 28 ∨ k' = 29 ∨ k' = 30 ∨ k' = 32 ∨ k' = 33 ∨ k' = 34 ∨ k' = 35 ∨ k' = 36 ∨ k' = 37 ∨ k' = 38 ∨ k' = 39 ∨ k' = 40 ∨ k' = 41 := by
    have h1 := hB.2.1.1.1
    have h2 : 1 ≤ k' ∧ k' ≤ 41 ∧ ¬ k' = 31 := h1
    omega
  rcases hkk with rfl | rfl | rfl | rfl | rfl | rfl | rfl | rfl | rfl | rfl | rfl | rfl | rfl | rfl | rfl | rfl | rfl | rfl | rfl | rfl | rfl | rfl | rfl | rfl | rfl | rfl | rfl | rfl | rfl | rfl | rfl | rfl | rfl | rfl | rfl | rfl | rfl | rfl | rfl | rfl
  · obtain rfl : k = 1 := Int32.toInt_inj.mp (hk_.trans (by decide))
    exact sq_1 hS hB hz
  · obtain rfl : k = 2 := Int32.toInt_inj.mp (hk_.trans (by decide))
    exact sq_2 hS hB hz
  · obtain rfl : k = 3 := Int32.toInt_inj.mp (hk_.trans (by decide))
    exact sq_3 hS hB hz
  · obtain rfl : k = 4 := Int32.toInt_inj.mp (hk_.trans (by decide))
    exact sq_4 hS hB hz
  · obtain rfl : k = 5 := Int32.toInt_inj.mp (hk_.trans (by decide))
    exact sq_5 hS hB hz
  · obtain rfl : k = 6 := Int32.toInt_inj.mp (hk_.trans (by decide))
    exact sq_6 hS hB hz
  · obtain rfl : k = 7 := Int32.toInt_inj.mp (hk_.trans (by decide))
    exact sq_7 hS hB hz
  · obtain rfl : k = 8 := Int32.toInt_inj.mp (hk_.trans (by decide))
    exact sq_8 hS hB hz
  · obtain rfl : k = 9 := Int32.toInt_inj.mp (hk_.trans (by decide))
    exact sq_9 hS hB hz
  · obtain rfl : k = 10 := Int32.toInt_inj.mp (hk_.trans (by decide))
    exact sq_10 hS hB hz
  · obtain rfl : k = 11 := Int32.toInt_inj.mp (hk_.trans (by decide))
    exact sq_11 hS hB hz
  · obtain rfl : k = 12 := Int32.toInt_inj.mp (hk_.trans (by decide))
    exact sq_12 hS hB hz
  · obtain rfl : k = 13 := Int32.toInt_inj.mp (hk_.trans (by decide))
    exact sq_13 hS hB hz
  · obtain rfl : k = 14 := Int32.toInt_inj.mp (hk_.trans (by decide))
    exact sq_14 hS hB hz
  · obtain rfl : k = 15 := Int32.toInt_inj.mp (hk_.trans (by decide))
    exact sq_15 hS hB hz
  · obtain rfl : k = 16 := Int32.toInt_inj.mp (hk_.trans (by decide))
    exact sq_16 hS hB hz
  · obtain rfl : k = 17 := Int32.toInt_inj.mp (hk_.trans (by decide))
    exact sq_17 hS hB hz
  · obtain rfl : k = 18 := Int32.toInt_inj.mp (hk_.trans (by decide))
    exact sq_18 hS hB hz
  · obtain rfl : k = 19 := Int32.toInt_inj.mp (hk_.trans (by decide))
    exact sq_19 hS hB hz
  · obtain rfl : k = 20 := Int32.toInt_inj.mp (hk_.trans (by decide))
    exact sq_20 hS hB hz
  · obtain rfl : k = 21 := Int32.toInt_inj.mp (hk_.trans (by decide))
    exact sq_21 hS hB hz
  · obtain rfl : k = 22 := Int32.toInt_inj.mp (hk_.trans (by decide))
    exact sq_22 hS hB hz
  · obtain rfl : k = 23 := Int32.toInt_inj.mp (hk_.trans (by decide))
    exact sq_23 hS hB hz
  · obtain rfl : k = 24 := Int32.toInt_inj.mp (hk_.trans (by decide))
    exact sq_24 hS hB hz
  · obtain rfl : k = 25 := Int32.toInt_inj.mp (hk_.trans (by decide))
    exact sq_25 hS hB hz
  · obtain rfl : k = 26 := Int32.toInt_inj.mp (hk_.trans (by decide))
    exact sq_26 hS hB hz
  · obtain rfl : k = 27 := Int32.toInt_inj.mp (hk_.trans (by decide))
    exact sq_27 hS hB hz
  · obtain rfl : k = 28 := Int32.toInt_inj.mp (hk_.trans (by decide))
    exact sq_28 hS hB hz
  · obtain rfl : k = 29 := Int32.toInt_inj.mp (hk_.trans (by decide))
    exact sq_29 hS hB hz
  · obtain rfl : k = 30 := Int32.toInt_inj.mp (hk_.trans (by decide))
    exact sq_30 hS hB hz
  · obtain rfl : k = 32 := Int32.toInt_inj.mp (hk_.trans (by decide))
    exact sq_32 hS hB hz
  · obtain rfl : k = 33 := Int32.toInt_inj.mp (hk_.trans (by decide))
    exact sq_33 hS hB hz
  · obtain rfl : k = 34 := Int32.toInt_inj.mp (hk_.trans (by decide))
    exact sq_34 hS hB hz
  · obtain rfl : k = 35 := Int32.toInt_inj.mp (hk_.trans (by decide))
    exact sq_35 hS hB hz
  · obtain rfl : k = 36 := Int32.toInt_inj.mp (hk_.trans (by decide))
    exact sq_36 hS hB hz
  · obtain rfl : k = 37 := Int32.toInt_inj.mp (hk_.trans (by decide))
    exact sq_37 hS hB hz
  · obtain rfl : k = 38 := Int32.toInt_inj.mp (hk_.trans (by decide))
    exact sq_38 hS hB hz
  · obtain rfl : k = 39 := Int32.toInt_inj.mp (hk_.trans (by decide))
    exact sq_39 hS hB hz
  · obtain rfl : k = 40 := Int32.toInt_inj.mp (hk_.trans (by decide))
    exact sq_40 hS hB hz
  · obtain rfl : k = 41 := Int32.toInt_inj.mp (hk_.trans (by decide))
    exact sq_41 hS hB hz
