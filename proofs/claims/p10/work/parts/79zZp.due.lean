/-! THE WALK OVER BOTH: a certain word is due -/
section RWT
variable {p : PM} {d : Dw} {L : List xR} {a : Nat} {s s' : cS} {k k' : kS} {X : List xF}
theorem RWp.adv {s1 : cS} {k1 : kS} (h : RWp p d L a s k X) (hw : WR L (a + 1) s1 k1) (hc : cFr 51539607552 0 0 0 s s1) (hk : kFr 48 0 k k1) : RWp p d L (a + 1) s1 k1 X := by
  have f3 : k3 k k1 := ⟨hk.2 16 (Nat.zero_testBit _), hk.2 17 (Nat.zero_testBit _), hk.2 18 (Nat.zero_testBit _)⟩
  refine ⟨hw, h.2.1.frm hc hk rfl rfl rfl rfl rfl rfl rfl rfl rfl rfl rfl, by have := h.2.2.1; omega, ?_, ⟨h.2.2.2.2.1.1, h.2.2.2.2.1.2.1.fr hc hk rfl rfl (fun z => by rw [← hk.1 8 rfl]; exact z) (hk.1 53 rfl), h.2.2.2.2.1.2.2.1.fr hk rfl (fun z => by rw [← hk.1 8 rfl]; exact z), h.2.2.2.2.1.2.2.2.fr hc (Nat.zero_testBit _)⟩, (h.2.2.2.2.2.1.fr (hc.ou rfl) hk rfl rfl rfl (Or.inr f3)).up (Nat.le_succ _), h.2.2.2.2.2.2.1, h.2.2.2.2.2.2.2.imp (fun R w => ⟨(w.1.fr hk rfl rfl rfl (Or.inr f3)).up (Nat.le_succ _), w.2.fr hc hk rfl rfl rfl rfl (fun z => by rw [← hk.1 8 rfl]; exact z)⟩)⟩
  rw [hk.1 53 rfl]
  have := h.2.2.2.1
  omega
theorem kd_of {q : xR} (h : WR L a s k) (hq : L[a]? = some q) : c53 s = q.1 ∧ k183 k = q.1 := by
  rcases h.kd with ⟨q', q1, q2, q3, -⟩ | ⟨q1, -⟩
  · rw [hq] at q1
    cases q1
    exact ⟨q2, q3⟩
  · exact absurd (List.getElem?_eq_some_iff.mp hq).1 (by omega)
/-- the word that is due is there, or both refuse -/
theorem tk_kd {K : Int32} (h : WR L a s k) (h0 : K ≠ 0) (h1 : K ≠ -1) : (∃ q, L[a]? = some q ∧ q.1 = K ∧ c53 s = K ∧ k183 k = K ∧ c64 s K = c55 s) ∨ (c53 s ≠ K ∧ k183 k ≠ K ∧ (c64 s K).2 = none) := by
  by_cases c : c53 s = K
  · left
    rcases h.kd with ⟨q, q1, q2, q3, -⟩ | ⟨-, q2, -⟩
    · exact ⟨q, q1, q2.symm.trans c, c, q3.trans (q2.symm.trans c), c64_yes c⟩
    · exact absurd (c.symm.trans q2) h0
  · right
    exact ⟨c, fun z => c ((h.is h0 h1).mpr z), c64_no c⟩
/-- a plain word is due -/
theorem tk_pl {K : Int32} (h : RWp p d L a s k X) (h0 : K ≠ 0) (h1 : K ≠ -1) (p1 : ∀ s : cS, c56 s K = 0) (p2 : ∀ s : cS, c57 s K = 0) : (∃ q s1, L[a]? = some q ∧ q.1 = K ∧ c64 s K = (s1, some q.2.1) ∧ k200 k K = (kf k 4 (k.1 4 + 1), 1) ∧ RWp p d L (a + 1) s1 (kf k 4 (k.1 4 + 1)) X ∧ cFr 51539607552 0 0 0 s s1) ∨ ((c64 s K).2 = none ∧ (k200 k K).2 = 0 ∧ (k200 k K).1.1 6 ≠ 0) := by
  rcases tk_kd h.1 h0 h1 with ⟨q, q1, q2, q3, q4, q5⟩ | ⟨q1, q2, q3⟩
  · left
    obtain ⟨w1, w2⟩ := h.1.pl q1 (by rw [q2]; exact p1 s) (by rw [q2]; exact p2 s)
    have hc : cFr 51539607552 0 0 0 s (nf s 2 2 (xn (a + 1))) := cFr.refl.sf rfl
    refine ⟨q, nf s 2 2 (xn (a + 1)), q1, q2, by rw [q5, w1], ?_, h.adv w2 hc (kFr.sf kFr.refl rfl), hc⟩
    unfold k200
    rw [if_pos q4]
  · right
    refine ⟨q3, ?_⟩
    unfold k200
    rw [if_neg q2]
    exact ⟨(k194_f (by decide)).2.2, (k194_f (by decide)).1⟩
/-- a word that begins a level is due -/
theorem tk_en {K : Int32} (h : RWp p d L a s k X) (h0 : K ≠ 0) (h1 : K ≠ -1) (p1 : ∀ s : cS, c56 s K = 0) (p2 : ∀ s : cS, c57 s K ≠ 0) : (∃ q s1 k1, L[a]? = some q ∧ q.1 = K ∧ c64 s K = (s1, some q.2.1) ∧ k193 k K = (k1, 1) ∧ RWp p d L (a + 1) s1 k1 X ∧ cFr 51539607552 0 0 0 s s1 ∧ kFr 48 0 k k1 ∧ k1.1 4 = k.1 4 + 1) ∨ ((c64 s K).2 = none ∧ (k193 k K).2 = 0 ∧ (k193 k K).1.1 6 ≠ 0) := by
  rcases tk_kd h.1 h0 h1 with ⟨q, q1, q2, q3, q4, q5⟩ | ⟨q1, q2, q3⟩
  · obtain ⟨w1, w2⟩ := h.1.en q1 (by rw [q2]; exact p1 s) (by rw [q2]; exact p2 s)
    by_cases c : k.1 5 = 48
    · right
      refine ⟨by rw [q5]; exact w2 c, ?_⟩
      unfold k193
      rw [if_pos q4, if_neg (fun z => z c)]
      exact ⟨(k194_f (by decide)).2.2, (k194_f (by decide)).1⟩
    · left
      obtain ⟨u1, u2⟩ := w1 c
      have hc : cFr 51539607552 0 0 0 s (nf (nf s 2 3 (s.f 2 3 + 1)) 2 2 (xn (a + 1))) := (cFr.refl.sf rfl).sf rfl
      have hk : kFr 48 0 k (kf (kf k 5 (k.1 5 + 1)) 4 (k.1 4 + 1)) := kFr.sf (kFr.sf kFr.refl rfl) rfl
      refine ⟨q, _, _, q1, q2, by rw [q5, u1], ?_, h.adv u2 hc hk, hc, hk, rfl⟩
      unfold k193
      rw [if_pos q4, if_pos c]
  · right
    refine ⟨q3, ?_⟩
    unfold k193
    rw [if_neg q2]
    exact ⟨(k194_f (by decide)).2.2, (k194_f (by decide)).1⟩
/-- a word that ends a level is due -/
theorem tk_le {K : Int32} (h : RWp p d L a s k X) (h0 : K ≠ 0) (h1 : K ≠ -1) (p1 : ∀ s : cS, c56 s K ≠ 0) (p2 : ∀ s : cS, c57 s K = 0) : (∃ q s1 k1, L[a]? = some q ∧ q.1 = K ∧ c64 s K = (s1, some q.2.1) ∧ k199 k K = (k1, 1) ∧ RWp p d L (a + 1) s1 k1 X ∧ cFr 51539607552 0 0 0 s s1 ∧ kFr 48 0 k k1 ∧ k1.1 4 = k.1 4 + 1) ∨ ((c64 s K).2 = none ∧ (k199 k K).2 = 0 ∧ (k199 k K).1.1 6 ≠ 0) := by
  rcases tk_kd h.1 h0 h1 with ⟨q, q1, q2, q3, q4, q5⟩ | ⟨q1, q2, q3⟩
  · left
    obtain ⟨u1, u2⟩ := h.1.le q1 (by rw [q2]; exact p1 s) (by rw [q2]; exact p2 s)
    have hc : cFr 51539607552 0 0 0 s (nf (nf s 2 3 (s.f 2 3 - 1)) 2 2 (xn (a + 1))) := (cFr.refl.sf rfl).sf rfl
    have hk : kFr 48 0 k (kf (kf k 4 (k.1 4 + 1)) 5 (k.1 5 - 1)) := kFr.sf (kFr.sf kFr.refl rfl) rfl
    refine ⟨q, _, _, q1, q2, by rw [q5, u1], ?_, h.adv u2 hc hk, hc, hk, rfl⟩
    unfold k199 k200
    rw [if_pos q4]
    rfl
  · right
    refine ⟨q3, ?_⟩
    unfold k199 k200
    rw [if_neg q2]
    unfold k199_5
    rw [if_neg (fun z => z (k194_f (by decide)).2.2)]
    exact ⟨rfl, (k194_f (by decide)).1⟩
end RWT
