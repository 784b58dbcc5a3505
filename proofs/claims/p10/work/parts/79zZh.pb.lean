/-! EXPRESSIONS IN THE REFERENCE: a value is due; unary and binary operators -/
theorem rank_iff {s : cS} {k : kS} {K : Int32} : (c106 s K = 0 ∧ k203 k K = 0) ∨ (c106 s K ≠ 0 ∧ 0 < k203 k K) := by
  by_cases h0 : K = 10
  · subst h0; exact Or.inr ⟨by unfold c106; decide, by unfold k203; decide⟩
  by_cases h1 : K = 25
  · subst h1; exact Or.inr ⟨by unfold c106; decide, by unfold k203; decide⟩
  by_cases h2 : K = 40
  · subst h2; exact Or.inr ⟨by unfold c106; decide, by unfold k203; decide⟩
  by_cases h3 : K = 41
  · subst h3; exact Or.inr ⟨by unfold c106; decide, by unfold k203; decide⟩
  by_cases h4 : K = 42
  · subst h4; exact Or.inr ⟨by unfold c106; decide, by unfold k203; decide⟩
  by_cases h5 : K = 43
  · subst h5; exact Or.inr ⟨by unfold c106; decide, by unfold k203; decide⟩
  by_cases h6 : K = 44
  · subst h6; exact Or.inr ⟨by unfold c106; decide, by unfold k203; decide⟩
  by_cases h7 : K = 45
  · subst h7; exact Or.inr ⟨by unfold c106; decide, by unfold k203; decide⟩
  by_cases h8 : K = 47
  · subst h8; exact Or.inr ⟨by unfold c106; decide, by unfold k203; decide⟩
  by_cases h9 : K = 48
  · subst h9; exact Or.inr ⟨by unfold c106; decide, by unfold k203; decide⟩
  by_cases h10 : K = 49
  · subst h10; exact Or.inr ⟨by unfold c106; decide, by unfold k203; decide⟩
  by_cases h11 : K = 50
  · subst h11; exact Or.inr ⟨by unfold c106; decide, by unfold k203; decide⟩
  by_cases h12 : K = 51
  · subst h12; exact Or.inr ⟨by unfold c106; decide, by unfold k203; decide⟩
  by_cases h13 : K = 52
  · subst h13; exact Or.inr ⟨by unfold c106; decide, by unfold k203; decide⟩
  by_cases h14 : K = 53
  · subst h14; exact Or.inr ⟨by unfold c106; decide, by unfold k203; decide⟩
  by_cases h15 : K = 54
  · subst h15; exact Or.inr ⟨by unfold c106; decide, by unfold k203; decide⟩
  by_cases h16 : K = 55
  · subst h16; exact Or.inr ⟨by unfold c106; decide, by unfold k203; decide⟩
  by_cases h17 : K = 56
  · subst h17; exact Or.inr ⟨by unfold c106; decide, by unfold k203; decide⟩
  by_cases h18 : K = 57
  · subst h18; exact Or.inr ⟨by unfold c106; decide, by unfold k203; decide⟩
  by_cases h19 : K = 58
  · subst h19; exact Or.inr ⟨by unfold c106; decide, by unfold k203; decide⟩
  by_cases h20 : K = 71
  · subst h20; exact Or.inr ⟨by unfold c106; decide, by unfold k203; decide⟩
  left
  constructor
  · unfold c106
    rw [if_neg h0, if_neg h1, if_neg h2, if_neg h3, if_neg h4, if_neg h5, if_neg h6, if_neg h7, if_neg h8, if_neg h9, if_neg h10, if_neg h11, if_neg h12, if_neg h13, if_neg h14, if_neg h15, if_neg h16, if_neg h17, if_neg h18, if_neg h19, if_neg h20]
  · unfold k203
    rw [if_neg h0, if_neg h1, if_neg h2, if_neg h3, if_neg h4, if_neg h5, if_neg h6, if_neg h7, if_neg h8, if_neg h9, if_neg h10, if_neg h11, if_neg h12, if_neg h13, if_neg h14, if_neg h15, if_neg h16, if_neg h17, if_neg h18, if_neg h19, if_neg h20]
section PBS
variable {k k' : kS} {t v w : Nat} {G : List gQ}
theorem k208_0 {s : kS} {K : Int32} : 0 ≤ k208 s K := by
  unfold k208
  split
  · split
    · rcases rank_iff (s := (default : cS)) (k := s) (K := K) with z | z
      · rw [z.2]; decide
      · exact Int32.le_of_lt z.2
    · decide
  · decide
def lmt : List gQ → Int32
  | [] => 0
  | q :: _ => q.1
/-- all but the goal on top -/
def EB (t : Nat) : List gQ → kS → Prop
  | [], _ => True
  | q :: G, k => 0 ≤ q.1 ∧ (k.2 11 (t + 2 * G.length + 1) = q.2.1 ∧ k.2 12 (t + 2 * G.length + 1) = q.2.2.1 ∧ k.2 13 (t + 2 * G.length + 1) = q.2.2.2) ∧ (q.2.1 = 25 ∨ q.2.1 = 26 ∨ q.2.1 = 27) ∧ EA t G k
theorem EA_iff : EA t G k ↔ EB t G k ∧ k.2 11 (t + 2 * G.length) = 24 ∧ k.2 12 (t + 2 * G.length) = lmt G := by
  cases G with
  | nil => exact ⟨fun h => ⟨trivial, h.1, h.2⟩, fun h => ⟨h.2.1, h.2.2⟩⟩
  | cons q G =>
    have e : t + 2 * (q :: G).length = t + 2 * G.length + 2 := by
      show t + 2 * (G.length + 1) = _
      omega
    rw [e]
    exact ⟨fun ⟨h1, h2, h3, h4, h5, h6⟩ => ⟨⟨h3, h4, h5, h6⟩, h1, h2⟩, fun ⟨⟨h3, h4, h5, h6⟩, h1, h2⟩ => ⟨h1, h2, h3, h4, h5, h6⟩⟩
theorem EA.kb : ∀ {G : List gQ}, EA t G k → KB (t + 2 * G.length + 1) v w k k' → EA t G k' := by
  intro G
  induction G with
  | nil => intro h hb; exact ⟨(hb.1 11 t (by decide) (Nat.lt_succ_self _)).trans h.1, (hb.1 12 t (by decide) (Nat.lt_succ_self _)).trans h.2⟩
  | cons q G ih =>
    rintro ⟨h1, h2, h3, h4, h5, h6⟩ hb
    have hL : (q :: G).length = G.length + 1 := rfl
    exact ⟨(hb.1 11 _ (by decide) (by omega)).trans h1, (hb.1 12 _ (by decide) (by omega)).trans h2, h3, ⟨(hb.1 11 _ (by decide) (by omega)).trans h4.1, (hb.1 12 _ (by decide) (by omega)).trans h4.2.1, (hb.1 13 _ (by decide) (by omega)).trans h4.2.2⟩, h5, ih h6 (hb.mono (by omega) (Nat.le_refl _) (Nat.le_refl _))⟩
theorem EB.kb (h : EB t G k) (hb : KB (t + 2 * G.length) v w k k') : EB t G k' := by
  cases G with
  | nil => trivial
  | cons q G =>
    have hL : (q :: G).length = G.length + 1 := rfl
    obtain ⟨h1, h2, h3, h4⟩ := h
    exact ⟨h1, ⟨(hb.1 11 _ (by decide) (by omega)).trans h2.1, (hb.1 12 _ (by decide) (by omega)).trans h2.2.1, (hb.1 13 _ (by decide) (by omega)).trans h2.2.2⟩, h3, h4.kb (hb.mono (by omega) (Nat.le_refl _) (Nat.le_refl _))⟩
/-- a value is due -/
def PB (t v : Nat) (G : List gQ) (k : kS) : Prop := EB t G k ∧ k.2 11 (t + 2 * G.length) = 23 ∧ k.2 12 (t + 2 * G.length) = lmt G ∧ k.1 10 = xn (t + 2 * G.length + 1) ∧ k.1 15 = xn (v + n25 G) ∧ NV v G k
theorem k180_23 {s : kS} {x y z : Int32} : (k180 s 23 x y z).1 = (k182_14 (k179 s 24 x 0 0).1 (k183 s)).1 := by
  unfold k180 k181
  rw [if_neg (by decide), if_pos rfl]
  rfl
/-- its bound is laid down first -/
theorem pb_24 (h : PB t v G k) (ht : t + 2 * G.length + 2 ≤ 1000000) : ∃ k1, kst k = (k182_14 k1 (k183 k)).1 ∧ EA t G k1 ∧ k1.1 10 = xn (t + 2 * G.length + 1) ∧ (∀ w, KB (t + 2 * G.length) v w k k1) ∧ kFr 1024 30720 k k1 := by
  obtain ⟨h1, h2, h3, h4, h5, -⟩ := h
  obtain ⟨k0, hk0⟩ : ∃ k0, k0 = kf k 10 (xn (t + 2 * G.length)) := ⟨_, rfl⟩
  have b0 : ∀ w, KB (t + 2 * G.length) v w k k0 := fun w => by rw [hk0]; exact KB.refl
  have e0 : k0.1 10 = xn (t + 2 * G.length) := by rw [hk0]; rfl
  obtain ⟨g1, g2⟩ := GT.psh (t := t + 2 * G.length) (v := v) (w := 0) (g := 24) (a := lmt G) (b := 0) (c := 0) e0 (by omega)
  refine ⟨(k179 k0 24 (lmt G) 0 0).1, ?_, ?_, g1.1, fun w => (b0 w).trans (GT.psh (t := t + 2 * G.length) (v := v) (w := w) (g := 24) (a := lmt G) (b := 0) (c := 0) e0 (by omega)).2, ?_⟩
  · rw [kst_pop (t := t + 2 * G.length) ⟨h4, h2, h3, rfl, rfl⟩ (by omega), k180_23, hk0]
    rfl
  · exact EA_iff.mpr ⟨(h1.kb (b0 0)).kb g2, g1.2.1, g1.2.2.1⟩
  · rw [hk0]
    exact kFr.sf (kFr.sa (kFr.sa (kFr.sa (kFr.sa (kFr.sf kFr.refl rfl) rfl) rfl) rfl) rfl) rfl
/-- a unary operator: another value is due -/
theorem pb_un (h : PB t v G k) (ht : t + 2 * G.length + 6 ≤ 1000000) (hu : k185 k (k183 k) ≠ 0) : PB t v ((12, 27, k183 k, k.1 4) :: G) (kst k) ∧ (kst k).1 4 = k.1 4 + 1 ∧ (∀ w, KB t v w k (kst k)) ∧ kFr 1040 30720 k (kst k) := by
  obtain ⟨k1, e1, a1, a2, a3, a4⟩ := pb_24 h (by omega)
  have hL : (((12, 27, k183 k, k.1 4) : gQ) :: G).length = G.length + 1 := rfl
  have h15 : k1.1 15 = xn (v + n25 G) := (a4.1 15 rfl).trans h.2.2.2.2.1
  have h4 : k1.1 4 = k.1 4 := a4.1 4 rfl
  obtain ⟨k2, hk2⟩ : ∃ k2, k2 = (k179 k1 27 (k183 k) (k1.1 4) 0).1 := ⟨_, rfl⟩
  have p2 := fun w => GT.psh (t := t + 2 * G.length + 1) (v := v) (w := w) (g := 27) (a := k183 k) (b := k1.1 4) (c := 0) a2 (by omega)
  rw [← hk2] at p2
  obtain ⟨k3, hk3⟩ : ∃ k3, k3 = kf k2 4 (k2.1 4 + 1) := ⟨_, rfl⟩
  have b3 : ∀ T w, KB T v w k2 k3 := fun T w => by rw [hk3]; exact KB.refl
  have e10 : k3.1 10 = xn (t + 2 * G.length + 1 + 1) := by rw [hk3]; exact (p2 0).1.1
  have p4 := fun w => GT.psh (t := t + 2 * G.length + 1 + 1) (v := v) (w := w) (g := 23) (a := 12) (b := 0) (c := 0) e10 (by omega)
  have e5 : kst k = (k179 k3 23 12 0 0).1 := by
    rw [e1]
    unfold k182_14
    rw [if_neg (show ¬ k185 k1 (k183 k) = 0 from hu), hk3, hk2]
    rfl
  rw [e5]
  have f2 : kFr 1040 30720 k1 k2 := by rw [hk2]; exact kFr.sf (kFr.sa (kFr.sa (kFr.sa (kFr.sa kFr.refl rfl) rfl) rfl) rfl) rfl
  have f3 : kFr 1040 30720 k2 k3 := by rw [hk3]; exact kFr.sf kFr.refl rfl
  have f4 : kFr 1040 30720 k3 (k179 k3 23 12 0 0).1 := kFr.sf (kFr.sa (kFr.sa (kFr.sa (kFr.sa kFr.refl rfl) rfl) rfl) rfl) rfl
  have ea : EA t G (k179 k3 23 12 0 0).1 := (a1.kb ((p2 0).2.trans (b3 _ 0))).kb ((p4 0).2.mono (by omega) (Nat.le_refl _) (Nat.le_refl _))
  refine ⟨⟨⟨by show (0 : Int32) ≤ 12; decide, ?_, Or.inr (Or.inr rfl), ea⟩, ?_, ?_, ?_, ?_, ?_⟩, ?_, fun w => ?_, ?_⟩
  · exact ⟨((p4 0).2.1 11 _ (by decide) (by omega)).trans (((b3 (t + 2 * G.length + 2) 0).1 11 _ (by decide) (by omega)).trans (p2 0).1.2.1), ((p4 0).2.1 12 _ (by decide) (by omega)).trans (((b3 (t + 2 * G.length + 2) 0).1 12 _ (by decide) (by omega)).trans (p2 0).1.2.2.1), ((p4 0).2.1 13 _ (by decide) (by omega)).trans (((b3 (t + 2 * G.length + 2) 0).1 13 _ (by decide) (by omega)).trans ((p2 0).1.2.2.2.1.trans h4))⟩
  · rw [hL, show t + 2 * (G.length + 1) = t + 2 * G.length + 1 + 1 by omega]
    exact (p4 0).1.2.1
  · rw [hL, show t + 2 * (G.length + 1) = t + 2 * G.length + 1 + 1 by omega]
    exact (p4 0).1.2.2.1
  · rw [hL, show t + 2 * (G.length + 1) + 1 = t + 2 * G.length + 1 + 1 + 1 by omega]
    exact (p4 0).1.1
  · rw [f4.1 15 rfl, f3.1 15 rfl, f2.1 15 rfl, h15]
    rfl
  · have e16 : (k179 k3 23 12 0 0).1.2 16 = k.2 16 := (f4.2 16 rfl).trans ((f3.2 16 rfl).trans ((f2.2 16 rfl).trans (a4.2 16 rfl)))
    exact NV.same (G := G) h.2.2.2.2.2 e16
  · show k3.1 4 = _
    rw [hk3]
    show k2.1 4 + 1 = _
    rw [show k2.1 4 = k1.1 4 by rw [hk2]; rfl, h4]
  · exact ((a3 w).mono (by omega) (Nat.le_refl _) (Nat.le_refl _)).trans (((p2 w).2.mono (by omega) (Nat.le_refl _) (Nat.le_refl _)).trans ((b3 t w).trans ((p4 w).2.mono (by omega) (Nat.le_refl _) (Nat.le_refl _))))
  · exact (a4.mono rfl rfl).trans (f2.trans (f3.trans f4))
end PBS
