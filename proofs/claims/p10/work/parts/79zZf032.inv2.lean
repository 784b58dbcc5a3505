/-! MORE ROWS OF IT: chains, blocks, goals popped, faults, locals, functions -/
section RJM
variable {f : Nat → Int32} {g : Nat → Nat → Int32} {gs : List mg_E} {bc : List (List Nat)} {fl : List Nat} {fk : Int} {pj : List Nat}
theorem RJ.at (h : RJ f g gs bc fl fk pj) {z : Int32} (hz : (f 4).toInt ≤ z.toInt) : RJ (upd f 4 z) g gs bc fl fk pj := by
  obtain ⟨j1, j2, j3, j4, j5, ⟨gm, a1, a2, a3, a4, a5⟩, j7⟩ := h
  exact ⟨j1, j2, j3, j4, j5, ⟨gm, a1, Int.le_trans a2 hz, a3, fun b hb => ⟨(a4 b hb).1, Int.le_trans (a4 b hb).2 hz⟩, a5⟩, j7⟩
theorem RJ.vw (h : RJ f g gs bc fl fk pj) (v : Nat) : (g 16 v).toInt = 3 → 0 ≤ (g 18 v).toInt ∧ (g 18 v).toInt < 16384 := (h.2.1 v).1
theorem RJ.vc (h : RJ f g gs bc fl fk pj) (v : Nat) : (g 16 v).toInt = 1 ∨ (g 16 v).toInt = 2 → 0 ≤ (g 17 v).toInt ∧ (g 17 v).toInt < 65536 := (h.2.1 v).2
/-- an instruction that goes on with the chain in hand is its newest jump -/
theorem rj_putc {z fn z2 op a b w : Int32} (h : RJ f g gs bc fl fk pj) (h0 : 0 ≤ (f 68).toInt) (ha : a.toInt = fk) (hz : z.toInt = (f 68).toInt + 1) (hfn : 0 ≤ fn.toInt ∧ fn.toInt < (f 53).toInt) (hz2 : z2.toInt = (g 60 fn.toNatClampNeg).toInt + 1) :
    RJ (upd f 68 z) (upg (upg (upg (upg (upg (upg g 69 (f 68).toNatClampNeg fn) 70 (f 68).toNatClampNeg op) 71 (f 68).toNatClampNeg a) 72 (f 68).toNatClampNeg b) 73 (f 68).toNatClampNeg w) 60 fn.toNatClampNeg z2) gs bc ((f 68).toNatClampNeg :: fl) ((f 68).toInt + 1) pj := by
  have h1 := rj_put (op := op) (a := a) (b := b) (w := w) h h0 hz hfn hz2
  obtain ⟨-, -, -, -, -, ⟨gm0, b1, b2, b3, b4, b5⟩, i7, -, -, -, -, -, i13⟩ := h
  have h3 := (mj_all gs bc fl)
  obtain ⟨j1, j2, j3, j4, j5, -, j7, j8, j9, j10, j11, j12, j13⟩ := h1
  have hr0 := j13 _ List.mem_cons_self
  have hsz : (((f 68).toNatClampNeg : Nat) : Int) = (f 68).toInt := by rw [cl_toNat]; omega
  have hc : ∀ j : Nat, j ∉ mj_all gs bc fl → j ≠ (f 68).toNatClampNeg → j ∉ mj_all gs bc ((f 68).toNatClampNeg :: fl) := fun j h1 h2 h3 => by
    rcases List.mem_cons.mp (show j ∈ (f 68).toNatClampNeg :: mj_all gs bc fl from h3) with q | q
    · exact h2 q
    · exact h1 q
  refine ⟨j1, j2, j3, j4, j5, ⟨gm0, b1, b2, b3, b4, fun i hi => ?_⟩, fun e he => ?_, j8, ⟨List.nodup_cons.mpr ⟨hr0.2, j9.1⟩, fun i hi => ?_⟩, j10, j11, ⟨by rw [hsz], ?_⟩, fun j hj => ?_⟩
  · have q := b5 i hi
    have q3 : 0 ≤ (g 51 i).toInt := (j3 i).2.2.2.2.2.2.2.1
    exact ⟨by show (g 51 i).toInt + 1 < z.toInt; omega, hc (g 51 i).toInt.toNat q.2.1 (by omega), hc ((g 51 i).toInt.toNat + 1) q.2.2 (by omega)⟩
  · obtain ⟨k1, k2, k3⟩ := j7 e he
    exact ⟨k1, fun q => ⟨(k2 q).1, (k2 q).2.1, hc _ (k2 q).2.2 (by have := (i7 e he).2.1 q; omega)⟩, k3⟩
  · rcases List.mem_cons.mp (show i ∈ (f 68).toNatClampNeg :: mj_all gs bc fl from hi) with rfl | q
    · exact hr0.1
    · exact j9.2 i q
  · show mj_c (upd (g 71) (f 68).toNatClampNeg a) fl (upd (g 71) (f 68).toNatClampNeg a (f 68).toNatClampNeg).toInt
    rw [upd_eq, ha]
    exact j12
  · have q := j13 j (List.mem_cons_of_mem _ hj)
    exact ⟨q.1, hc _ q.2 (by have := (i13 j hj).1; omega)⟩
/-- the chain's newest jump is led to its end -/
theorem rj_mend {i : Nat} {r : List Nat} {v : Int32} (h : RJ f g gs bc (i :: r) fk pj) : RJ f (upg g 71 i v) gs bc r (g 71 i).toInt pj := by
  obtain ⟨j1, j2, j3, j4, j5, ⟨gm, a1, a2, a3, a4, a5⟩, j7, j8, j9, j10, j11, j12, j13⟩ := h
  have hnd := List.nodup_cons.mp (show (i :: mj_all gs bc r).Nodup from j9.1)
  have hs : ∀ k, k ∈ mj_all gs bc r → k ∈ mj_all gs bc (i :: r) := fun k hk => List.mem_cons_of_mem i hk
  have hx : ∀ k, k ∈ mj_all gs bc r → upd (g 71) i v k = g 71 k := fun k hk => upd_ne (fun e => hnd.1 (e ▸ hk))
  exact ⟨j1, j2, j3, j4, j5, ⟨gm, a1, a2, a3, a4, fun k hk => ⟨(a5 k hk).1, fun m => (a5 k hk).2.1 (hs _ m), fun m => (a5 k hk).2.2 (hs _ m)⟩⟩,
    fun e he => mj_e_ext (Int.le_refl _) (fun k hk => hx k (mj_mg he hk)) ⟨(j7 e he).1, fun q => ⟨((j7 e he).2.1 q).1, ((j7 e he).2.1 q).2.1, fun m => ((j7 e he).2.1 q).2.2 (hs _ m)⟩, (j7 e he).2.2⟩,
    fun k c hc => mj_c_ext _ _ (fun k hk => hx k (mj_mb (List.mem_reverse.mp (List.mem_of_getElem? hc)) hk)) (j8 k c hc), ⟨hnd.2, fun k hk => j9.2 k (hs k hk)⟩, j10, j11, mj_c_ext _ _ (fun k hk => hx k (mj_mf hk)) j12.2, fun j hj => ⟨(j13 j hj).1, fun m => (j13 j hj).2 (hs _ m)⟩⟩
theorem RJ.head (h : RJ f g gs bc fl fk pj) : (fl = [] ∧ fk = 0) ∨ ∃ i r, fl = i :: r ∧ fk = (i : Int) + 1 ∧ (i : Int) < (f 68).toInt := by
  obtain ⟨-, -, -, -, -, -, -, -, j9, -, -, j12, -⟩ := h
  cases fl with
  | nil => exact Or.inl ⟨rfl, j12⟩
  | cons i r => exact Or.inr ⟨i, r, rfl, j12.1, j9.2 i (mj_mf List.mem_cons_self)⟩
/-- all goals and what is in hand are let go -/
theorem rj_clear (h : RJ f g gs bc fl fk pj) : RJ (upd f 10 0) g [] bc [] 0 pj := by
  obtain ⟨j1, j2, j3, j4, j5, ⟨gm, a1, a2, a3, a4, a5⟩, j7, j8, j9, j10, j11, j12, j13⟩ := h
  have hs : ∀ k, k ∈ mj_all [] bc [] → k ∈ mj_all gs bc fl := fun k hk => List.mem_append_right _ (List.mem_append_right _ hk)
  have hsl : (mj_all [] bc []).Sublist (mj_all gs bc fl) := (List.sublist_append_right _ _).trans (List.sublist_append_right _ _)
  exact ⟨⟨rfl, fun i e hi => by simp at hi⟩, j2, j3, j4, j5, ⟨gm, a1, a2, a3, a4, fun k hk => ⟨(a5 k hk).1, fun m => (a5 k hk).2.1 (hs _ m), fun m => (a5 k hk).2.2 (hs _ m)⟩⟩, fun e he => (nomatch he), j8, ⟨j9.1.sublist hsl, fun k hk => j9.2 k (hs k hk)⟩, j10, j11, rfl, fun j hj => ⟨(j13 j hj).1, fun m => (j13 j hj).2 (hs _ m)⟩⟩
/-- a block is opened -/
theorem rj_begin {z lo : Int32} (h : RJ f g gs bc fl fk pj) (h0 : 0 ≤ (f 37).toInt) (hz : z.toInt = (f 37).toInt + 1) (h1 : 0 ≤ (f 24).toInt) (h2 : 0 ≤ (f 44).toInt ∧ (f 44).toInt ≤ (f 4).toInt) (h3 : 0 ≤ (f 48).toInt) :
    RJ (upd f 37 z) (upg (upg (upg (upg (upg (upg g 38 (f 37).toNatClampNeg (f 24)) 39 (f 37).toNatClampNeg (f 44)) 40 (f 37).toNatClampNeg (f 48)) 41 (f 37).toNatClampNeg (f 32)) 42 (f 37).toNatClampNeg lo) 43 (f 37).toNatClampNeg 0) gs ([] :: bc) fl fk pj := by
  obtain ⟨j1, j2, j3, j4, j5, ⟨gm, a1, a2, a3, a4, a5⟩, j7, j8, j9, j10, j11, j12, j13⟩ := h
  have hB : (((f 37).toNatClampNeg : Nat) : Int) = (f 37).toInt := by rw [cl_toNat]; omega
  have hlen : (f 37).toNatClampNeg = bc.length := by have := j5.1; omega
  refine ⟨j1, j2, fun k => ?_, j4, ⟨?_, fun b hb => ?_⟩, ⟨gm, a1, a2, a3, fun b hb => ?_, a5⟩, j7, fun i c hc => ?_, j9, j10, j11, j12, j13⟩
  · have q := j3 k
    refine ⟨q.1, q.2.1, q.2.2.1, q.2.2.2.1, ?_, ?_, ?_, q.2.2.2.2.2.2.2⟩
    · show 0 ≤ (upd (g 38) (f 37).toNatClampNeg (f 24) k).toInt
      unfold upd; split
      · exact h1
      · exact q.2.2.2.2.1
    · show 0 ≤ (upd (g 39) (f 37).toNatClampNeg (f 44) k).toInt
      unfold upd; split
      · exact h2.1
      · exact q.2.2.2.2.2.1
    · show 0 ≤ (upd (g 40) (f 37).toNatClampNeg (f 48) k).toInt
      unfold upd; split
      · exact h3
      · exact q.2.2.2.2.2.2.1
  · show z.toInt = _
    rw [hz, j5.1, List.length_cons]
    omega
  · have hb' : (b : Int) < z.toInt := hb
    show (upd (g 38) (f 37).toNatClampNeg (f 24) b).toInt ≤ (f 24).toInt ∧ ∀ b' : Nat, b ≤ b' → (b' : Int) < z.toInt → (upd (g 38) (f 37).toNatClampNeg (f 24) b).toInt ≤ (upd (g 38) (f 37).toNatClampNeg (f 24) b').toInt
    by_cases e : b = (f 37).toNatClampNeg
    · rw [e, upd_eq]
      refine ⟨Int.le_refl _, fun b' h5 h6 => ?_⟩
      rw [show b' = (f 37).toNatClampNeg by omega, upd_eq]
      exact Int.le_refl _
    · rw [upd_ne e]
      have q := j5.2 b (by omega)
      refine ⟨q.1, fun b' h5 h6 => ?_⟩
      by_cases e' : b' = (f 37).toNatClampNeg
      · rw [e', upd_eq]; exact q.1
      · rw [upd_ne e']; exact q.2 b' h5 (by omega)
  · have hb' : (b : Int) < z.toInt := hb
    show (upd (g 40) (f 37).toNatClampNeg (f 48) b).toInt ≤ gm ∧ (upd (g 39) (f 37).toNatClampNeg (f 44) b).toInt ≤ (f 4).toInt
    by_cases e : b = (f 37).toNatClampNeg
    · rw [e, upd_eq, upd_eq]; exact ⟨a1, h2.2⟩
    · rw [upd_ne e, upd_ne e]; exact a4 b (by omega)
  · show mj_c (g 71) c (upd (g 43) (f 37).toNatClampNeg 0 i).toInt
    rw [List.reverse_cons] at hc
    rcases Nat.lt_trichotomy i bc.length with q | q | q
    · rw [List.getElem?_append_left (by rw [List.length_reverse]; exact q)] at hc
      rw [upd_ne (by omega)]
      exact j8 i c hc
    · rw [List.getElem?_append_right (by rw [List.length_reverse]; omega), List.length_reverse, q, Nat.sub_self] at hc
      simp at hc
      subst hc
      rw [hlen, q, upd_eq]
      rfl
    · rw [List.getElem?_eq_none (by simp; omega)] at hc
      cases hc
/-- one more local -/
theorem rj_declare {z z2 tx co cl mo dd ii : Int32} {l m : Nat} (h : RJ f g gs bc fl fk pj) (hd : 0 ≤ dd.toInt ∧ dd.toInt < 64) (hz : (f 24).toInt ≤ z.toInt) :
    RJ (upd (upd f 24 z) 31 z2) (upg (upg (upg (upg (upg (upg (upg g 25 l tx) 28 l 0) 26 l dd) 27 l ii) 29 l co) 30 l cl) 58 m mo) gs bc fl fk pj := by
  obtain ⟨j1, j2, j3, j4, j5, j6, j7⟩ := h
  refine ⟨j1, j2, fun k => ?_, j4, ⟨j5.1, fun b hb => ⟨Int.le_trans (j5.2 b hb).1 hz, (j5.2 b hb).2⟩⟩, j6, j7⟩
  refine ⟨?_, (j3 k).2⟩
  show 0 ≤ (upd (g 26) l dd k).toInt ∧ (upd (g 26) l dd k).toInt < 64
  unfold upd; split
  · exact hd
  · exact (j3 k).1
theorem rj_load {v : Nat} (h : RJ f g gs bc fl fk pj) : RJ f (upg g 16 v 0) gs bc fl fk pj := by
  obtain ⟨j1, j2, j3⟩ := h
  refine ⟨j1, fun u => ?_, j3⟩
  show ((upd (g 16) v 0 u).toInt = 3 → _) ∧ ((upd (g 16) v 0 u).toInt = 1 ∨ (upd (g 16) v 0 u).toInt = 2 → _)
  by_cases e : u = v
  · subst e
    rw [upd_eq]
    exact ⟨fun q => absurd q (by decide), fun q => absurd q (by decide)⟩
  · rw [upd_ne e]; exact j2 u
end RJM
