/-! what each statement does first -/
section STS
variable {s : kS}
theorem k228_k11 : (k228 s 11).1 = (k233 (kf s 4 ((s.1 4) + 1)) (s.1 4)).1 := by
  unfold k228
  rw [if_pos rfl]
theorem k228_k12 : (k228 s 12).1 = (k228_207 ((k193 s 12).1) ((k193 s 12).2)).1 := by
  unfold k228
  rw [if_neg (by decide), if_pos rfl]
theorem k228_k17 : (k228 s 17).1 = (k235 (kf s 4 ((s.1 4) + 1)) (s.1 4)).1 := by
  unfold k228
  rw [if_neg (by decide), if_neg (by decide), if_pos rfl]
theorem k228_k18 : (k228 s 18).1 = (k228_368 ((k193 s 18).1) (s.1 4) ((k193 s 18).2)).1 := by
  unfold k228
  rw [if_neg (by decide), if_neg (by decide), if_neg (by decide), if_pos rfl]
theorem k228_k19 : (k228 s 19).1 = (k228_187 ((k200 (kf s 4 ((s.1 4) + 1)) 1).1) (s.1 4) ((k200 (kf s 4 ((s.1 4) + 1)) 1).2)).1 := by
  unfold k228
  rw [if_neg (by decide), if_neg (by decide), if_neg (by decide), if_neg (by decide), if_pos rfl]
theorem k228_k20 : (k228 s 20).1 = (k228_336 ((k179 (kf s 4 ((s.1 4) + 1)) 7 0 0 0).1)).1 := by
  unfold k228
  rw [if_neg (by decide), if_neg (by decide), if_neg (by decide), if_neg (by decide), if_neg (by decide), if_pos rfl]
theorem k228_k22 : (k228 s 22).1 = (k238 (kf s 4 ((s.1 4) + 1)) (s.1 4)).1 := by
  unfold k228
  rw [if_neg (by decide), if_neg (by decide), if_neg (by decide), if_neg (by decide), if_neg (by decide), if_neg (by decide), if_pos rfl]
theorem k228_k26 : (k228 s 26).1 = (k228_278 ((k193 s 26).1) (s.1 4) ((k193 s 26).2)).1 := by
  unfold k228
  rw [if_neg (by decide), if_neg (by decide), if_neg (by decide), if_neg (by decide), if_neg (by decide), if_neg (by decide), if_neg (by decide), if_pos rfl]
theorem k228_k31 : (k228 s 31).1 = (k228_254 ((k179 (kf s 4 ((s.1 4) + 1)) 3 (k210 (kf s 4 ((s.1 4) + 1))) 0 0).1) (s.1 4)).1 := by
  unfold k228
  rw [if_neg (by decide), if_neg (by decide), if_neg (by decide), if_neg (by decide), if_neg (by decide), if_neg (by decide), if_neg (by decide), if_neg (by decide), if_pos rfl]
theorem k228_k66 : (k228 s 66).1 = (k228_132 ((k200 (kf s 4 ((s.1 4) + 1)) 1).1) (s.1 4) ((k200 (kf s 4 ((s.1 4) + 1)) 1).2)).1 := by
  unfold k228
  rw [if_neg (by decide), if_neg (by decide), if_neg (by decide), if_neg (by decide), if_neg (by decide), if_neg (by decide), if_neg (by decide), if_neg (by decide), if_neg (by decide), if_pos rfl]
theorem k228_k67 : (k228 s 67).1 = kf s 4 ((s.1 4) + 1) := by
  unfold k228
  rw [if_neg (by decide), if_neg (by decide), if_neg (by decide), if_neg (by decide), if_neg (by decide), if_neg (by decide), if_neg (by decide), if_neg (by decide), if_neg (by decide), if_neg (by decide), if_pos rfl]
theorem k228_kx {K : Int32} (h : ∀ J : Int32, (J = 11 ∨ J = 12 ∨ J = 17 ∨ J = 18 ∨ J = 19 ∨ J = 20 ∨ J = 22 ∨ J = 26 ∨ J = 31 ∨ J = 66 ∨ J = 67) → K ≠ J) : (k228 s K).1 = (k201 ((k179 ((k179 s 21 0 (s.1 20) 0).1) 28 0 0 0).1)).1 := by
  unfold k228 k228_409
  rw [if_neg (h 11 (by decide)), if_neg (h 12 (by decide)), if_neg (h 17 (by decide)), if_neg (h 18 (by decide)), if_neg (h 19 (by decide)), if_neg (h 20 (by decide)), if_neg (h 22 (by decide)), if_neg (h 26 (by decide)), if_neg (h 31 (by decide)), if_neg (h 66 (by decide)), if_neg (h 67 (by decide))]
end STS
