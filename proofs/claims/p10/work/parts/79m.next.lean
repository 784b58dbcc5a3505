/-! THE NEXT BODY -/
def c13 (s : cS) : cS × Nat := if s.f 5 1 < s.f 6 1 then (nf (c29 s ((s.f 5 1).toInt.toNat + 1) (s.f 5 1)).1 5 1 ((c29 s ((s.f 5 1).toInt.toNat + 1) (s.f 5 1)).1.f 5 1 + 1), (s.f 5 1).toInt.toNat + 1) else (nf (c29 (bnew s ((s.f 6 1).toInt.toNat + 1)) ((s.f 5 1).toInt.toNat + 1) (s.f 5 1)).1 5 1 ((c29 (bnew s ((s.f 6 1).toInt.toNat + 1)) ((s.f 5 1).toInt.toNat + 1) (s.f 5 1)).1.f 5 1 + 1), (s.f 5 1).toInt.toNat + 1)
section NEXT
variable {sc : Nat × (Nat → Int32)} {N d : Nat} {A : Nat → Nat} {K : Nat} {S : am_S} {s : cS}
theorem lc13_29 {o1 : Option Value} (hS : CM A K S s) : am_L (am_PP sc) N d 13 29 [some (.ref 5), o1] [] S (fun o S1 => (s.f 5 1).toInt.toNat + 1 ≤ K ∧ o = some (some (.ref (A ((s.f 5 1).toInt.toNat + 1)))) ∧ CM A K S1 (nf (c29 s ((s.f 5 1).toInt.toNat + 1) (s.f 5 1)).1 5 1 ((c29 s ((s.f 5 1).toInt.toNat + 1) (s.f 5 1)).1.f 5 1 + 1))) := by
  refine l2 (v := 5) hi_13_29 rfl ?_
  refine l20s (v := .ref 6) hS cs_5 hi_13_30 rfl ?_
  refine l2 (v := 5) hi_13_33 rfl ?_
  refine l20s (v := .int (s.f 5 1)) hS cs_5 hi_13_34 rfl ?_
  refine l32 (as := [.ref 6, .int (s.f 5 1)]) (la := [some (.ref 6), some (.int (s.f 5 1))]) (rest := []) hi_13_37 (am_hd0 (M := 13) (by decide) 37) rfl rfl rfl (fun N' d' _ => lc25k (N := N') (d := d') hS) ?_ (fun _ q => nomatch q.1)
  rintro v S1 ⟨ev, hx, h1⟩
  cases ev
  refine l30 hi_13_40 ?_
  refine l4 (ls' := [some (.ref 5), some (.ref (A ((s.f 5 1).toInt.toNat + 1)))]) hi_13_43 (Nat.le_of_ble_eq_true rfl) rfl ?_
  refine l2 (v := A ((s.f 5 1).toInt.toNat + 1)) hi_13_44 rfl ?_
  refine l2 (v := 5) hi_13_45 rfl ?_
  refine l20s (v := .int (s.f 5 1)) h1 cs_5 hi_13_46 rfl ?_
  refine l32 (as := [.ref (A ((s.f 5 1).toInt.toNat + 1)), .int (s.f 5 1)]) (la := [some (.ref (A ((s.f 5 1).toInt.toNat + 1))), some (.int (s.f 5 1))]) (rest := []) hi_13_49 (am_hd0 (M := 13) (by decide) 49) rfl rfl rfl (fun N' d' _ => lc29 (N := N') (d := d') h1 hx) ?_ (fun _ q => nomatch q.1)
  rintro v S2 ⟨ev, h2⟩
  cases ev
  refine l2 (v := 5) hi_13_52 rfl ?_
  refine l7 hi_13_53 ?_
  refine l20s (v := .int ((c29 s ((s.f 5 1).toInt.toNat + 1) (s.f 5 1)).1.f 5 1)) h2 cs_5 hi_13_54 rfl ?_
  refine l0 hi_13_57 ?_
  refine l10 hi_13_58 ?_
  refine l21s (v := (c29 s ((s.f 5 1).toInt.toNat + 1) (s.f 5 1)).1.f 5 1 + 1) h2 cs_5 hi_13_59 (fun _ _ => rfl) fun S3 h3 => ?_
  refine l2 (v := A ((s.f 5 1).toInt.toNat + 1)) hi_13_62 rfl ?_
  exact l34 hi_13_63 ⟨hx, rfl, h3⟩
theorem lc13 (hS : CM A K S s) : am_L (am_PP sc) N d 13 0 [some (.ref 5), none] [] S (fun o S1 => ∃ A' K', cX A K A' K' ∧ o = some (some (.ref (A' (c13 s).2))) ∧ (c13 s).2 ≤ K' ∧ CM A' K' S1 (c13 s).1) := by
  refine l2 (v := 5) hi_13_0 rfl ?_
  refine l20s (v := .int (s.f 5 1)) hS cs_5 hi_13_1 rfl ?_
  refine l2 (v := 5) hi_13_4 rfl ?_
  refine l20s (v := .ref 6) hS cs_5 hi_13_5 rfl ?_
  refine l32 (as := [.ref 6]) (la := [some (.ref 6)]) (rest := [.int (s.f 5 1)]) hi_13_8 (am_hd0 (M := 13) (by decide) 8) rfl rfl rfl (fun N' d' _ => lc14 (N := N') (d := d') hS (Or.inl rfl)) ?_ (fun _ q => nomatch q.1)
  rintro v S1 ⟨ev, h1⟩
  cases ev
  by_cases c1 : s.f 5 1 < s.f 6 1
  · refine l13t hi_13_11 (decide_eq_true c1) ?_
    refine am_L.mono (lc13_29 h1) ?_
    rintro o S2 ⟨q1, q2, q3⟩
    have e : c13 s = (nf (c29 s ((s.f 5 1).toInt.toNat + 1) (s.f 5 1)).1 5 1 ((c29 s ((s.f 5 1).toInt.toNat + 1) (s.f 5 1)).1.f 5 1 + 1), (s.f 5 1).toInt.toNat + 1) := by unfold c13; rw [if_pos c1]
    rw [e]
    exact ⟨A, K, cX.rfl, q2, q1, q3⟩
  · refine l13f hi_13_11 (decide_eq_false c1) ?_
    refine l2 (v := 5) hi_13_14 rfl ?_
    refine l20s (v := .ref 6) h1 cs_5 hi_13_15 rfl ?_
    refine l22 hi_13_18 ?_
    obtain ⟨B, h⟩ := h1
    obtain ⟨e6, m6, e13, m13, g1, g2, g3, g4, g5, g6⟩ := h.li
    have kk := h.kk
    have enb : (am_PP sc).2.1 8 = [.null, .null, .int 0, .int 0, .int 0, .int 0, .int 0, .int 0, .int 0, .int 0, .int 0, .int 0, .int 0] := rfl
    rw [enb]
    generalize hSa : ((S1.1 ++ [(.inr (.inr (8, [.null, .null, .int 0, .int 0, .int 0, .int 0, .int 0, .int 0, .int 0, .int 0, .int 0, .int 0, .int 0])) : am_C)], S1.2.1 + 1, S1.2.2 + [Value.null, .null, .int 0, .int 0, .int 0, .int 0, .int 0, .int 0, .int 0, .int 0, .int 0, .int 0, .int 0].length) : am_S) = Sa
    have a1 : Sa.1.length = S1.1.length + 1 := by rw [← hSa]; exact ap_ln
    have a2 : ∀ j, j < S1.1.length → Sa.1[j]? = S1.1[j]? := fun j hj => by rw [← hSa]; exact ap_lt hj
    have a3 : am_fs Sa S1.1.length = some (8, [.null, .null, .int 0, .int 0, .int 0, .int 0, .int 0, .int 0, .int 0, .int 0, .int 0, .int 0, .int 0]) := by rw [← hSa]; exact fs_mk ap_eq
    refine l7 hi_13_21 ?_
    refine l32 (as := [.ref S1.1.length]) (la := [some (.ref S1.1.length)]) (rest := [.ref S1.1.length, .ref 6]) hi_13_22 (am_hd0 (M := 13) (by decide) 22) rfl rfl rfl (fun N' d' _ => lc10 (N := N') (d := d') a3) ?_ (fun _ q => nomatch q.1)
    rintro v Sb ⟨ev, b1, b2, b3, b4, b5, b6, b7⟩
    cases ev
    rw [a1] at b1 b2 b3 b4 b5 b6 b7
    have six : 6 < S1.1.length := am_ltl (am_fs_ok g1)
    have bs : ∀ j, j < S1.1.length → Sb.1[j]? = S1.1[j]? := fun j hj => by rw [b2 j (by omega) (by omega), a2 j hj]
    have g1b : am_fs Sb 6 = some (5, [e6, .int (s.f 6 1), .int m6]) := by rw [fs_of (bs 6 six)]; exact g1
    have fin : ∀ (m : Nat) (g : Nat → Option Nat), (∀ i : Nat, (i : Int) < (s.f 6 1).toInt → g i = some (A (i + 1))) → c_ed Sb e6 m g → m ≤ 16777216 → (s.f 6 1).toInt ≤ m → (∀ a : Nat, e6 = .ref a → a < S1.1.length) → am_L (am_PP sc) N d 13 25 [some (.ref 5), none] [.ref S1.1.length, .ref 6] Sb (fun o S1 => ∃ A' K', cX A K A' K' ∧ o = some (some (.ref (A' (c13 s).2))) ∧ (c13 s).2 ≤ K' ∧ CM A' K' S1 (c13 s).1) := by
      intro m g hg he hm hsz hae
      refine l32 (as := [.ref 6, .ref S1.1.length]) (la := [some (.ref 6), some (.ref S1.1.length)]) (rest := []) hi_13_25 (am_hd0 (M := 13) (by decide) 25) rfl rfl rfl (fun N' d' _ => lc15 (N := N') (d := d') g1b he hm (by omega) hsz) ?_ (fun _ q => nomatch q.1)
      rintro v Sc ⟨ev, a', m', g', mc', q1, q2, q3, q4, q5, q6, q7, q8, q9, q10⟩
      cases ev
      refine l6i hi_13_28 ?_
      have nw : CM (fun x => if x = K + 1 then S1.1.length else A x) (K + 1) Sc (bnew s (K + 1)) := by
        have ne6 : ∀ j, S1.1.length ≤ j → e6 ≠ .ref j := fun j hj e => by have := hae j e; omega
        have cc : ∀ j, S1.1.length ≤ j → j < Sb.1.length → Sc.1[j]? = Sb.1[j]? := fun j h1 h2 => q10 j h2 (by omega) (ne6 j h1)
        refine h.newb rfl g1 (by omega) (fun j r1 r2 r3 => by rw [q10 j (by omega) r2 r3, bs j r1]) ?_ ?_ ?_ ?_ ?_ q1 q2 q3 q4 q5 q6 (fun i hi => (q7 i hi).trans (hg i hi)) ?_
        · rw [fs_of (cc _ (by omega) (by omega)), b3]; rfl
        · rw [fs_of (cc _ (by omega) (by omega))]; exact b4
        · rw [cc _ (by omega) (by omega)]; exact b5
        · rw [fs_of (cc _ (by omega) (by omega))]; exact b6
        · rw [cc _ (by omega) (by omega)]; exact b7
        · rcases q8 with q8 | q8
          · exact Or.inl q8
          · exact Or.inr (by rw [q8]; omega)
      have eK : (s.f 6 1).toInt.toNat + 1 = K + 1 := by omega
      have ef : (bnew s (K + 1)).f 5 1 = s.f 5 1 := by
        show (nf s 6 1 (s.f 6 1 + 1)).f 5 1 = s.f 5 1
        rw [nf_ne (by decide)]
      refine am_L.mono (lc13_29 nw) ?_
      rintro o S2 ⟨r1, r2, r3⟩
      rw [ef] at r1 r2 r3
      have e : c13 s = (nf (c29 (bnew s (K + 1)) ((s.f 5 1).toInt.toNat + 1) (s.f 5 1)).1 5 1 ((c29 (bnew s (K + 1)) ((s.f 5 1).toInt.toNat + 1) (s.f 5 1)).1.f 5 1 + 1), (s.f 5 1).toInt.toNat + 1) := by unfold c13; rw [if_neg c1, eK]
      rw [e]
      exact ⟨fun x => if x = K + 1 then S1.1.length else A x, K + 1, ⟨Nat.le_succ _, fun x hx => if_neg (by omega)⟩, r2, r1, r3⟩
    rcases g3 with ⟨e, q⟩ | ⟨a, m, g, e, p1, p2, p3, p4, p5⟩
    · exact fin 0 (fun _ => none) (fun i hi => by omega) (Or.inl ⟨e, rfl⟩) (by decide) (by omega) (fun a e2 => by rw [e] at e2; cases e2)
    · exact fin m g (fun i hi => p5 i (by omega)) (Or.inr ⟨a, e, by rw [bs a (am_ltl p1)]; exact p1⟩) p3 (by omega) (fun a' e2 => by rw [e] at e2; cases e2; exact am_ltl p1)
end NEXT
