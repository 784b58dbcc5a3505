/-! THE WALK OVER BOTH: the head of a prefix -/
section RWH
variable {L : List xR} {a : Nat} {s s' : cS} {k k' : kS} {X : List xF} {t v w : Nat} {rc : cRC}
theorem hd_all {P : PT} (h : RW P.2.2 L a s k X) (hT : CP P a s) (h10 : k.1 10 = xn t) (h15 : k.1 15 = xn v) (h20 : k.1 20 = xn w ∧ w ≤ a) (hr : RM L (a + 1) (t + 1) v []) (h70 : R70 rc L X (t + 1) v w) : PC P L (a + 1) (k201 k).1 X t v w (c61 rc s) := by
  unfold c61
  by_cases c : c53 s = 1
  · rw [if_neg (fun z => z c)]
    obtain ⟨s2, e1, ⟨e2, eR⟩, e3, e4, e5, e6, e7⟩ := hd_name h c h15 (by have := hr.2; omega)
    rw [e1, rbd_th (w := 1) rfl]
    intro s' o hs
    cases hs
    refine ⟨fun x z => ?_, fun z => nomatch z⟩
    cases z
    exact ⟨0, a + 1, Nat.le_refl _, ⟨e2, hT.1.ts eR⟩, e4.trans h10, e3, rfl, KB.refl, e7⟩
  · rw [if_pos c]
    exact hd_brk h hT c h10 h15 h20 hr h70
end RWH
