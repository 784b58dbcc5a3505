/-! STILL MORE ROWS OF IT: outer locals, blocks closed, goals popped, breaks, gotos, bodies -/
section RJN
variable {f : Nat → Int32} {g : Nat → Nat → Int32} {gs : List mg_E} {bc : List (List Nat)} {fl : List Nat} {fk : Int} {pj : List Nat}
/-- it speaks of these arrays alone -/
theorem RJ.ext (h : RJ f g gs bc fl fk pj) {g' : Nat → Nat → Int32} (he : ∀ j ∈ [11, 12, 13, 14, 16, 17, 18, 26, 33, 34, 35, 36, 38, 39, 40, 43, 51, 60, 63, 67, 69, 71], g' j = g j) : RJ f g' gs bc fl fk pj := by
  unfold RJ mj_S at h ⊢
  rw [he 11 (by decide), he 12 (by decide), he 13 (by decide), he 14 (by decide), he 16 (by decide), he 17 (by decide), he 18 (by decide), he 26 (by decide), he 33 (by decide), he 34 (by decide), he 35 (by decide), he 36 (by decide), he 38 (by decide), he 39 (by decide), he 40 (by decide), he 43 (by decide), he 51 (by decide), he 60 (by decide), he 63 (by decide), he 67 (by decide), he 69 (by decide), he 71 (by decide)]
  exact h
theorem mj_O_add {m many z fn z2 : Int32} {ow ct : Nat → Int32} (h : mj_O m many ow ct) (h0 : 0 ≤ m.toInt) (hz : z.toInt = m.toInt + 1) (hfn : 0 ≤ fn.toInt ∧ fn.toInt < many.toInt) (hz2 : z2.toInt = (ct fn.toNatClampNeg).toInt + 1) : mj_O z many (upd ow m.toNatClampNeg fn) (upd ct fn.toNatClampNeg z2) := by
  have e1 : z.toNatClampNeg = m.toNatClampNeg + 1 := by rw [cl_toNat, cl_toNat, hz]; omega
  have e2 : ∀ x : Nat, mj_n (upd ow m.toNatClampNeg fn) z.toNatClampNeg x = mj_n ow m.toNatClampNeg x + if fn.toInt = (x : Int) then 1 else 0 := by
    intro x
    rw [e1]
    simp only [mj_n]
    rw [mj_n_ext (a := ow) _ _ (fun i hi => upd_ne (Nat.ne_of_lt hi)), upd_eq]
  refine ⟨fun k hk => ?_, fun x hx2 => ?_⟩
  · by_cases e : k = m.toNatClampNeg
    · rw [e, upd_eq]; exact hfn
    · rw [upd_ne e]
      refine h.1 k ?_
      rw [cl_toNat] at e
      omega
  · rw [e2 x]
    have h6 := h.2 x hx2
    by_cases e : x = fn.toNatClampNeg
    · rw [if_pos (by rw [e, cl_toNat]; omega), ← h6, e, upd_eq, hz2]
    · rw [if_neg (fun q => e (by rw [cl_toNat]; omega)), upd_ne e, h6]
      omega
/-- one more outer local -/
theorem rj_outer {z z2 ff id kd nb : Int32} (h : RJ f g gs bc fl fk pj) (h0 : 0 ≤ (f 62).toInt) (hz : z.toInt = (f 62).toInt + 1) (hff : 0 ≤ ff.toInt ∧ ff.toInt < (f 53).toInt) (hz2 : z2.toInt = (g 67 ff.toNatClampNeg).toInt + 1) :
    RJ (upd f 62 z) (upg (upg (upg (upg (upg g 63 (f 62).toNatClampNeg ff) 64 (f 62).toNatClampNeg id) 65 (f 62).toNatClampNeg kd) 66 (f 62).toNatClampNeg nb) 67 ff.toNatClampNeg z2) gs bc fl fk pj := by
  obtain ⟨j1, j2, j3, j4, j5, j6, j7, j8, j9, j10, j11⟩ := h
  exact ⟨j1, j2, j3, j4, j5, j6, j7, j8, j9, mj_O_add j10 h0 hz hff hz2, j11⟩
theorem RJ.oc (h : RJ f g gs bc fl fk pj) (hs : 0 ≤ (f 62).toInt) {i : Int32} (h0 : 0 ≤ i.toInt) (h1 : i.toInt < (f 53).toInt) : 0 ≤ (g 67 i.toNatClampNeg).toInt ∧ (g 67 i.toNatClampNeg).toInt ≤ (f 62).toInt := by
  obtain ⟨-, -, -, -, -, -, -, -, -, j10, -⟩ := h
  have h2 := j10.2 i.toNatClampNeg (by rw [cl_toNat]; omega)
  have h3 := mj_n_le (a := g 63) (f 62).toNatClampNeg (i.toNatClampNeg : Int)
  rw [h2]
  refine ⟨h3.1, ?_⟩
  have h4 : (((f 62).toNatClampNeg : Nat) : Int) = (f 62).toInt := by rw [cl_toNat]; omega
  omega
theorem RJ.ld (h : RJ f g gs bc fl fk pj) (k : Nat) : 0 ≤ (g 26 k).toInt ∧ (g 26 k).toInt < 64 := (h.2.2.1 k).1
/-- the innermost block is closed: its breaks are let go, or come into the hand -/
theorem rj_drop {z l b : Int32} {c : List Nat} {g' : Nat → Nat → Int32} (h : RJ f g gs (c :: bc) fl fk pj) (hz : z.toInt = (f 37).toInt - 1) (h0 : 0 ≤ z.toInt) (hl : l = g 38 z.toNatClampNeg) (hg : ∀ j, j ∉ [52] → g' j = g j) :
    RJ (upd (upd (upd f 24 l) 37 z) 44 b) g' gs bc fl fk pj ∧ (fl = [] → RJ (upd (upd (upd f 24 l) 37 z) 44 b) g' gs bc c (g' 43 z.toNatClampNeg).toInt pj) := by
  have hx : ∀ j ∈ [11, 12, 13, 14, 16, 17, 18, 26, 33, 34, 35, 36, 38, 39, 40, 43, 51, 60, 63, 67, 69, 71], g' j = g j := fun j hj => hg j (by
    simp only [List.mem_cons, List.not_mem_nil, or_false] at hj ⊢
    omega)
  rw [hg 43 (by decide)]
  obtain ⟨j1, j2, j3, j4, j5, ⟨gm, a1, a2, a3, a4, a5⟩, j7, j8, j9, j10, j11, j12, j13⟩ := h
  have hZ : ((z.toNatClampNeg : Nat) : Int) = z.toInt := by rw [cl_toNat]; omega
  have hlen : (f 37).toInt = (bc.length : Int) + 1 := by have := j5.1; rw [List.length_cons] at this; omega
  have hB : mj_B z l (g 38) bc := by
    refine ⟨by omega, fun b' hb' => ?_⟩
    have q := j5.2 b' (by omega)
    refine ⟨?_, fun b'' h5 h6 => q.2 b'' h5 (by omega)⟩
    rw [hl]
    exact q.2 z.toNatClampNeg (by omega) (by omega)
  have hK : mj_K (g 43) (g 71) bc := fun i c' hc' => j8 i c' (by
    rw [List.reverse_cons]
    rw [List.getElem?_append_left (by
      have := (List.getElem?_eq_some_iff.mp hc').1
      exact this)]
    exact hc')
  have hsub : ∀ fl', fl' = fl ∨ (fl = [] ∧ fl' = c) → (∀ k, k ∈ mj_all gs bc fl' → k ∈ mj_all gs (c :: bc) fl) ∧ (mj_all gs bc fl').Nodup := by
    intro fl' hfl
    rcases hfl with rfl | ⟨rfl, rfl⟩
    · have hsl : (mj_all gs bc fl').Sublist (mj_all gs (c :: bc) fl') := by
        unfold mj_all
        rw [List.flatten_cons]
        exact (List.Sublist.refl _).append ((List.Sublist.refl _).append (List.sublist_append_right _ _))
      exact ⟨fun k hk => hsl.subset hk, j9.1.sublist hsl⟩
    · have hp : (mj_all gs (fl' :: bc) []).Perm (mj_all gs bc fl') := by
        unfold mj_all
        rw [List.flatten_cons, List.nil_append, ← List.append_assoc, ← List.append_assoc]
        exact List.Perm.append_right _ List.perm_append_comm
      exact ⟨fun k hk => hp.mem_iff.mpr hk, hp.nodup_iff.mp j9.1⟩
  have key : ∀ fl' fk', (fl' = fl ∨ (fl = [] ∧ fl' = c)) → mj_c (g 71) fl' fk' → RJ (upd (upd (upd f 24 l) 37 z) 44 b) g gs bc fl' fk' pj := by
    intro fl' fk' hfl hck
    obtain ⟨hs, hn⟩ := hsub fl' hfl
    exact ⟨j1, j2, j3, j4, hB, ⟨gm, a1, a2, a3, fun b' hb' => a4 b' (by have : (b' : Int) < z.toInt := hb'; omega), fun k hk => ⟨(a5 k hk).1, fun m => (a5 k hk).2.1 (hs _ m), fun m => (a5 k hk).2.2 (hs _ m)⟩⟩,
      fun e he => ⟨(j7 e he).1, fun q => ⟨((j7 e he).2.1 q).1, ((j7 e he).2.1 q).2.1, fun m => ((j7 e he).2.1 q).2.2 (hs _ m)⟩, (j7 e he).2.2⟩, hK, ⟨hn, fun k hk => j9.2 k (hs k hk)⟩, j10, j11, hck, fun j hj => ⟨(j13 j hj).1, fun m => (j13 j hj).2 (hs _ m)⟩⟩
  refine ⟨(key fl fk (Or.inl rfl) j12).ext hx, fun hfl => (key c _ (Or.inr ⟨hfl, rfl⟩) (j8 z.toNatClampNeg c ?_)).ext hx⟩
  rw [List.reverse_cons, List.getElem?_append_right (by rw [List.length_reverse]; omega), List.length_reverse, show z.toNatClampNeg - bc.length = 0 by omega]
  rfl
/-- what a goal brings into the hand when it is popped -/
def mg_h (e : mg_E) : Int := if e.1 = 7 ∨ e.1 = 9 then e.2.1 else if e.1 = 8 then e.2.2.1 else 0
def mg_p (e : mg_E) : List Nat := if e.1 = 4 ∨ e.1 = 8 ∨ e.1 = 26 then [e.2.1.toNat] else []
theorem rj_pop {z : Int32} {e : mg_E} (h : RJ f g (e :: gs) bc [] fk pj) (hz : z.toInt = (f 10).toInt - 1) : RJ (upd f 10 z) g gs bc e.2.2.2.2 (mg_h e) (mg_p e ++ pj) ∧ mj_e (f 68) (g 71) (mj_all gs bc e.2.2.2.2) e := by
  obtain ⟨j1, j2, j3, j4, j5, ⟨gm, a1, a2, a3, a4, a5⟩, j7, j8, j9, j10, j11, j12, j13⟩ := h
  have hal : mj_all (e :: gs) bc [] = mj_all gs bc e.2.2.2.2 := by
    unfold mj_all
    rw [List.flatMap_cons, List.nil_append, List.append_assoc]
  rw [hal] at a5 j7 j9 j13
  have he := j7 e List.mem_cons_self
  refine ⟨⟨⟨?_, fun i e' hi => ?_⟩, j2, j3, j4, j5, ⟨gm, a1, a2, a3, a4, a5⟩, fun e' he' => j7 e' (List.mem_cons_of_mem _ he'), j8, j9, j10, j11, ?_, fun j hj => ?_⟩, he⟩
  · show z.toInt = _
    rw [hz, j1.1, List.length_cons]
    omega
  · refine j1.2 i e' ?_
    rw [List.reverse_cons, List.getElem?_append_left (List.getElem?_eq_some_iff.mp hi).1]
    exact hi
  · unfold mg_h
    have h1 := he.1
    split
    · rename_i q
      rw [if_pos q] at h1
      exact h1
    · rename_i q
      rw [if_neg q] at h1
      split
      · rename_i q2
        rw [if_pos q2] at h1
        exact h1
      · rename_i q2
        rw [if_neg q2] at h1
        rw [h1]
        rfl
  · rcases List.mem_append.mp hj with hj | hj
    · unfold mg_p at hj
      split at hj
      · rename_i q
        have h2 := he.2.1 q
        rw [List.mem_singleton.mp hj]
        exact ⟨by have : ((e.2.1.toNat : Nat) : Int) = e.2.1 := by omega
                  show _ < (f 68).toInt
                  omega, h2.2.2⟩
      · cases hj
    · exact j13 j hj
theorem rj_top {e : mg_E} (h : RJ f g (e :: gs) bc fl fk pj) {z : Int32} (hz : z.toInt = (f 10).toInt - 1) : (g 11 z.toNatClampNeg).toInt = e.1 ∧ (g 12 z.toNatClampNeg).toInt = e.2.1 ∧ (g 13 z.toNatClampNeg).toInt = e.2.2.1 ∧ (g 14 z.toNatClampNeg).toInt = e.2.2.2.1 := by
  have h1 := h.1
  refine h1.2 z.toNatClampNeg e ?_
  have h2 := h1.1
  rw [List.length_cons] at h2
  rw [List.reverse_cons, List.getElem?_append_right (by rw [List.length_reverse, cl_toNat]; omega), List.length_reverse, show z.toNatClampNeg - gs.length = 0 by rw [cl_toNat]; omega]
  rfl
theorem fl_set {r b : Nat} {c : List Nat} : ∀ (L : List (List Nat)) (b : Nat), L[b]? = some c → (L.set b (r :: c)).flatten.Perm (r :: L.flatten) := by
  intro L
  induction L with
  | nil => intro b h; simp at h
  | cons x L ih =>
    intro b h
    cases b with
    | zero => simp at h; subst h; exact List.Perm.refl _
    | succ b =>
      rw [List.set_cons_succ, List.flatten_cons, List.flatten_cons]
      exact ((ih b (by simpa using h)).append_left x).trans List.perm_middle
theorem fl_rev : ∀ L : List (List Nat), L.reverse.flatten.Perm L.flatten := by
  intro L
  exact (List.reverse_perm L).flatten
/-- a break's jump is the newest of its loop -/
theorem rj_putb {z fn z2 op a b w v : Int32} {k : Nat} {c : List Nat} (h : RJ f g gs bc fl fk pj) (hk : bc.reverse[k]? = some c) (ha : a.toInt = (g 43 k).toInt) (h0 : 0 ≤ (f 68).toInt) (hz : z.toInt = (f 68).toInt + 1) (hv : v.toInt = (f 68).toInt + 1) (hfn : 0 ≤ fn.toInt ∧ fn.toInt < (f 53).toInt) (hz2 : z2.toInt = (g 60 fn.toNatClampNeg).toInt + 1) {G : Nat → Nat → Int32}
    (hG : (upg (upg (upg (upg (upg (upg g 69 (f 68).toNatClampNeg fn) 70 (f 68).toNatClampNeg op) 71 (f 68).toNatClampNeg a) 72 (f 68).toNatClampNeg b) 73 (f 68).toNatClampNeg w) 60 fn.toNatClampNeg z2) = G) :
    RJ (upd f 68 z) (upg G 43 k v) gs (bc.reverse.set k ((f 68).toNatClampNeg :: c)).reverse fl fk pj := by
  have h1 := rj_put (op := op) (a := a) (b := b) (w := w) h h0 hz hfn hz2
  have e43 : G 43 = g 43 := by rw [← hG]; rfl
  have e51 : G 51 = g 51 := by rw [← hG]; rfl
  have e71 : G 71 = upd (g 71) (f 68).toNatClampNeg a := by rw [← hG]; rfl
  have e36 : G 36 = g 36 := by rw [← hG]; rfl
  have e40 : G 40 = g 40 := by rw [← hG]; rfl
  have e39 : G 39 = g 39 := by rw [← hG]; rfl
  rw [hG] at h1
  clear hG
  obtain ⟨-, -, -, -, -, ⟨gm0, b1, b2, b3, b4, b5⟩, i7, i8, -, -, -, -, i13⟩ := h
  obtain ⟨j1, j2, j3, j4, j5, -, j7, j8, j9, j10, j11, j12, j13⟩ := h1
  have hr0 := j13 _ List.mem_cons_self
  have hsz : (((f 68).toNatClampNeg : Nat) : Int) = (f 68).toInt := by rw [cl_toNat]; omega
  generalize hr : (f 68).toNatClampNeg = r at *
  have hp : (mj_all gs (bc.reverse.set k (r :: c)).reverse fl).Perm (r :: mj_all gs bc fl) := by
    have q1 := (fl_rev (bc.reverse.set k (r :: c))).trans ((fl_set (r := r) (b := k) _ k hk).trans ((fl_rev bc).cons _))
    unfold mj_all
    exact ((q1.append_left _).append_left _).trans (((List.perm_middle).append_left _).trans List.perm_middle)
  have hc : ∀ j : Nat, j ∉ mj_all gs bc fl → j ≠ r → j ∉ mj_all gs (bc.reverse.set k (r :: c)).reverse fl := fun j h1 h2 h3 => by
    rcases List.mem_cons.mp (hp.mem_iff.mp h3) with q | q
    · exact h2 q
    · exact h1 q
  have hlen : ((bc.reverse.set k (r :: c)).reverse).length = bc.length := by simp
  have hK : mj_K (upd (G 43) k v) (G 71) (bc.reverse.set k (r :: c)).reverse := by
    intro i c' hc'
    rw [List.reverse_reverse] at hc'
    by_cases e : k = i
    · subst e
      rw [List.getElem?_set_self (by have := (List.getElem?_eq_some_iff.mp hk).1; exact this)] at hc'
      cases hc'
      rw [upd_eq]
      refine ⟨by rw [hv, hsz], ?_⟩
      have h9 := j8 k c hk
      rw [e43] at h9
      rw [e71, upd_eq, ha, ← e71]
      exact h9
    · rw [List.getElem?_set_ne e] at hc'
      rw [upd_ne (fun q => e q.symm)]
      exact j8 i c' hc'
  have hG2 : mj_G ((upd f 68 z) 4) ((upd f 68 z) 48) ((upd f 68 z) 68) ((upd f 68 z) 32) ((upd f 68 z) 37) (G 36) (G 40) (G 39) (G 51) (mj_all gs (bc.reverse.set k (r :: c)).reverse fl) := by
    rw [e36, e40, e39]
    refine ⟨gm0, b1, b2, b3, b4, fun i hi => ?_⟩
    · have q := b5 i hi
      have q3 : 0 ≤ (G 51 i).toInt := (j3 i).2.2.2.2.2.2.2.1
      rw [e51] at q3 ⊢
      exact ⟨by show (g 51 i).toInt + 1 < z.toInt; omega, hc (g 51 i).toInt.toNat q.2.1 (by omega), hc ((g 51 i).toInt.toNat + 1) q.2.2 (by omega)⟩
  refine ⟨j1, j2, j3, j4, ⟨by rw [hlen]; exact j5.1, j5.2⟩, hG2, fun e he => ?_, hK, ⟨hp.nodup_iff.mpr (List.nodup_cons.mpr ⟨hr0.2, j9.1⟩), fun i hi => ?_⟩, j10, j11, j12, fun j hj => ?_⟩
  · obtain ⟨k1, k2, k3⟩ := j7 e he
    exact ⟨k1, fun q => ⟨(k2 q).1, (k2 q).2.1, hc _ (k2 q).2.2 (by have := (i7 e he).2.1 q; omega)⟩, k3⟩
  · rcases List.mem_cons.mp (hp.mem_iff.mp hi) with rfl | q
    · exact hr0.1
    · exact j9.2 i q
  · have q := j13 j (List.mem_cons_of_mem _ hj)
    exact ⟨q.1, hc _ q.2 (by have := (i13 j hj).1; omega)⟩
/-- one more goto waits -/
theorem rj_goto {z lv x1 x2 x3 : Int32} (h : RJ f g gs bc fl fk pj) (h0 : 0 ≤ (f 48).toInt) (hz : z.toInt = (f 48).toInt + 1) (ha : z.toInt ≤ (f 4).toInt) (hl : 0 ≤ lv.toInt ∧ lv.toInt < 65535) (h1 : lv.toInt.toNat ∈ pj) (h2 : lv.toInt.toNat + 1 ∈ pj) :
    RJ (upd f 48 z) (upg (upg (upg (upg g 49 (f 48).toNatClampNeg x1) 50 (f 48).toNatClampNeg x2) 51 (f 48).toNatClampNeg lv) 52 (f 48).toNatClampNeg x3) gs bc fl fk pj := by
  obtain ⟨j1, j2, j3, j4, j5, ⟨gm, a1, a2, a3, a4, a5⟩, j7, j8, j9, j10, j11, j12, j13⟩ := h
  have hG : (((f 48).toNatClampNeg : Nat) : Int) = (f 48).toInt := by rw [cl_toNat]; omega
  refine ⟨j1, j2, fun k => ?_, j4, j5, ⟨max gm z.toInt, Int.le_max_right _ _, Int.max_le.mpr ⟨a2, ha⟩, fun k hk => Int.le_trans (a3 k hk) (Int.le_max_left _ _), fun b hb => ⟨Int.le_trans (a4 b hb).1 (Int.le_max_left _ _), (a4 b hb).2⟩, fun i hi => ?_⟩, j7, j8, j9, j10, j11, j12, j13⟩
  · have q := j3 k
    refine ⟨q.1, q.2.1, q.2.2.1, q.2.2.2.1, q.2.2.2.2.1, q.2.2.2.2.2.1, q.2.2.2.2.2.2.1, ?_⟩
    show 0 ≤ (upd (g 51) (f 48).toNatClampNeg lv k).toInt ∧ (upd (g 51) (f 48).toNatClampNeg lv k).toInt < 65535
    unfold upd; split
    · exact hl
    · exact q.2.2.2.2.2.2.2
  · show (upd (g 51) (f 48).toNatClampNeg lv i).toInt + 1 < (f 68).toInt ∧ (upd (g 51) (f 48).toNatClampNeg lv i).toInt.toNat ∉ mj_all gs bc fl ∧ (upd (g 51) (f 48).toNatClampNeg lv i).toInt.toNat + 1 ∉ mj_all gs bc fl
    by_cases e : i = (f 48).toNatClampNeg
    · rw [e, upd_eq]
      have q2 := j13 _ h2
      exact ⟨by omega, (j13 _ h1).2, q2.2⟩
    · rw [upd_ne e]
      refine a5 i ?_
      rcases Int.le_total gm z.toInt with q | q
      · rw [Int.max_eq_right q] at hi; omega
      · rw [Int.max_eq_left q] at hi; exact hi
end RJN
