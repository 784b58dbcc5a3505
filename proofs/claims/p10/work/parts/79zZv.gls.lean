/-! what each goal does -/
section GLS
variable {s : kS} {x y z : Int32}
theorem k180_g1 : (k180 s 1 x y z).1 = (k225 s).1 := by
  unfold k180
  rw [if_pos (by decide), if_pos rfl]
theorem k180_g2 : (k180 s 2 x y z).1 = (k180_123 ((k242 s).1)).1 := by
  unfold k180
  rw [if_pos (by decide), if_neg (by decide), if_pos rfl]
theorem k180_g3 : (k180 s 3 x y z).1 = (k244 s x).1 := by
  unfold k180
  rw [if_pos (by decide), if_neg (by decide), if_neg (by decide), if_pos rfl]
theorem k180_g4 : (k180 s 4 x y z).1 = (k245 s x y).1 := by
  unfold k180
  rw [if_pos (by decide), if_neg (by decide), if_neg (by decide), if_neg (by decide), if_pos rfl]
theorem k180_g5 : (k180 s 5 x y z).1 = (k180_156 ((k199 s 30).1) x ((k199 s 30).2)).1 := by
  unfold k180
  rw [if_pos (by decide), if_neg (by decide), if_neg (by decide), if_neg (by decide), if_neg (by decide), if_pos rfl]
theorem k180_g6 : (k180 s 6 x y z).1 = (k247 s x).1 := by
  unfold k180
  rw [if_pos (by decide), if_neg (by decide), if_neg (by decide), if_neg (by decide), if_neg (by decide), if_neg (by decide), if_pos rfl]
theorem k180_g7 : (k180 s 7 x y z).1 = (k248 s x).1 := by
  unfold k180
  rw [if_pos (by decide), if_neg (by decide), if_neg (by decide), if_neg (by decide), if_neg (by decide), if_neg (by decide), if_neg (by decide), if_pos rfl]
theorem k180_g8 : (k180 s 8 x y z).1 = (k249 s x y).1 := by
  unfold k180
  rw [if_pos (by decide), if_neg (by decide), if_neg (by decide), if_neg (by decide), if_neg (by decide), if_neg (by decide), if_neg (by decide), if_neg (by decide), if_pos rfl]
theorem k180_g9 : (k180 s 9 x y z).1 = (k180_208 ((k242 s).1) x).1 := by
  unfold k180
  rw [if_pos (by decide), if_neg (by decide), if_neg (by decide), if_neg (by decide), if_neg (by decide), if_neg (by decide), if_neg (by decide), if_neg (by decide), if_neg (by decide), if_pos rfl]
theorem k180_g10 : (k180 s 10 x y z).1 = (k251 s x).1 := by
  unfold k180
  rw [if_pos (by decide), if_neg (by decide), if_neg (by decide), if_neg (by decide), if_neg (by decide), if_neg (by decide), if_neg (by decide), if_neg (by decide), if_neg (by decide), if_neg (by decide), if_pos rfl]
theorem k180_g11 : (k180 s 11 x y z).1 = (k252 s x).1 := by
  unfold k180
  rw [if_pos (by decide), if_neg (by decide), if_neg (by decide), if_neg (by decide), if_neg (by decide), if_neg (by decide), if_neg (by decide), if_neg (by decide), if_neg (by decide), if_neg (by decide), if_neg (by decide), if_pos rfl]
theorem k180_g12 : (k180 s 12 x y z).1 = (k180_243 ((k209 s).1) x).1 := by
  unfold k180
  rw [if_pos (by decide), if_neg (by decide), if_neg (by decide), if_neg (by decide), if_neg (by decide), if_neg (by decide), if_neg (by decide), if_neg (by decide), if_neg (by decide), if_neg (by decide), if_neg (by decide), if_neg (by decide), if_pos rfl]
theorem k180_g13 : (k180 s 13 x y z).1 = (k255 s x y z).1 := by
  unfold k180
  rw [if_pos (by decide), if_neg (by decide), if_neg (by decide), if_neg (by decide), if_neg (by decide), if_neg (by decide), if_neg (by decide), if_neg (by decide), if_neg (by decide), if_neg (by decide), if_neg (by decide), if_neg (by decide), if_neg (by decide), if_pos rfl]
theorem k180_g14 : (k180 s 14 x y z).1 = (k257 s x y z).1 := by
  unfold k180
  rw [if_pos (by decide), if_neg (by decide), if_neg (by decide), if_neg (by decide), if_neg (by decide), if_neg (by decide), if_neg (by decide), if_neg (by decide), if_neg (by decide), if_neg (by decide), if_neg (by decide), if_neg (by decide), if_neg (by decide), if_neg (by decide), if_pos rfl]
theorem k180_g15 : (k180 s 15 x y z).1 = (k259 s x y z).1 := by
  unfold k180
  rw [if_pos (by decide), if_neg (by decide), if_neg (by decide), if_neg (by decide), if_neg (by decide), if_neg (by decide), if_neg (by decide), if_neg (by decide), if_neg (by decide), if_neg (by decide), if_neg (by decide), if_neg (by decide), if_neg (by decide), if_neg (by decide), if_neg (by decide), if_pos rfl]
theorem k180_g16 : (k180 s 16 x y z).1 = (k260 s x y z).1 := by
  unfold k180
  rw [if_pos (by decide), if_neg (by decide), if_neg (by decide), if_neg (by decide), if_neg (by decide), if_neg (by decide), if_neg (by decide), if_neg (by decide), if_neg (by decide), if_neg (by decide), if_neg (by decide), if_neg (by decide), if_neg (by decide), if_neg (by decide), if_neg (by decide), if_neg (by decide), if_pos rfl]
theorem k180_g17 : (k180 s 17 x y z).1 = (k189 (kf s 15 ((s.1 15) - 1)) 29 x 0 y).1 := by
  unfold k180
  rw [if_pos (by decide), if_neg (by decide), if_neg (by decide), if_neg (by decide), if_neg (by decide), if_neg (by decide), if_neg (by decide), if_neg (by decide), if_neg (by decide), if_neg (by decide), if_neg (by decide), if_neg (by decide), if_neg (by decide), if_neg (by decide), if_neg (by decide), if_neg (by decide), if_neg (by decide), if_pos rfl]
theorem k180_g18 : (k180 s 18 x y z).1 = (k180_332 ((k258 s ((s.1 20) - y) (s.1 19)).1) x y).1 := by
  unfold k180
  rw [if_pos (by decide), if_neg (by decide), if_neg (by decide), if_neg (by decide), if_neg (by decide), if_neg (by decide), if_neg (by decide), if_neg (by decide), if_neg (by decide), if_neg (by decide), if_neg (by decide), if_neg (by decide), if_neg (by decide), if_neg (by decide), if_neg (by decide), if_neg (by decide), if_neg (by decide), if_neg (by decide), if_pos rfl]
theorem k180_g19 : (k180 s 19 x y z).1 = (k261 s x).1 := by
  unfold k180
  rw [if_pos (by decide), if_neg (by decide), if_neg (by decide), if_neg (by decide), if_neg (by decide), if_neg (by decide), if_neg (by decide), if_neg (by decide), if_neg (by decide), if_neg (by decide), if_neg (by decide), if_neg (by decide), if_neg (by decide), if_neg (by decide), if_neg (by decide), if_neg (by decide), if_neg (by decide), if_neg (by decide), if_neg (by decide), if_pos rfl]
theorem k180_g20 : (k180 s 20 x y z).1 = (k263 s).1 := by
  unfold k180
  rw [if_pos (by decide), if_neg (by decide), if_neg (by decide), if_neg (by decide), if_neg (by decide), if_neg (by decide), if_neg (by decide), if_neg (by decide), if_neg (by decide), if_neg (by decide), if_neg (by decide), if_neg (by decide), if_neg (by decide), if_neg (by decide), if_neg (by decide), if_neg (by decide), if_neg (by decide), if_neg (by decide), if_neg (by decide), if_neg (by decide), if_pos rfl]
theorem k180_g21 : (k180 s 21 x y z).1 = (k264 s x y).1 := by
  unfold k180
  rw [if_pos (by decide), if_neg (by decide), if_neg (by decide), if_neg (by decide), if_neg (by decide), if_neg (by decide), if_neg (by decide), if_neg (by decide), if_neg (by decide), if_neg (by decide), if_neg (by decide), if_neg (by decide), if_neg (by decide), if_neg (by decide), if_neg (by decide), if_neg (by decide), if_neg (by decide), if_neg (by decide), if_neg (by decide), if_neg (by decide), if_neg (by decide), if_pos rfl]
theorem k180_g22 : (k180 s 22 x y z).1 = (k265 s x y).1 := by
  unfold k180
  rw [if_pos (by decide), if_neg (by decide), if_neg (by decide), if_neg (by decide), if_neg (by decide), if_neg (by decide), if_neg (by decide), if_neg (by decide), if_neg (by decide), if_neg (by decide), if_neg (by decide), if_neg (by decide), if_neg (by decide), if_neg (by decide), if_neg (by decide), if_neg (by decide), if_neg (by decide), if_neg (by decide), if_neg (by decide), if_neg (by decide), if_neg (by decide), if_neg (by decide)]
theorem k180_g28 : (k180 s 28 x y z).1 = (k211 s).1 := by
  unfold k180 k181
  rw [if_neg (by decide), if_neg (by decide), if_neg (by decide), if_neg (by decide), if_neg (by decide), if_neg (by decide), if_pos rfl]
theorem k180_g30 : (k180 s 30 x y z).1 = (k181_201 ((k209 s).1) x).1 := by
  unfold k180 k181
  rw [if_neg (by decide), if_neg (by decide), if_neg (by decide), if_neg (by decide), if_neg (by decide), if_neg (by decide), if_neg (by decide), if_neg (by decide), if_pos rfl]
theorem k180_g32 : (k180 s 32 x y z).1 = (k215 s x y).1 := by
  unfold k180 k181
  rw [if_neg (by decide), if_neg (by decide), if_neg (by decide), if_neg (by decide), if_neg (by decide), if_neg (by decide), if_neg (by decide), if_neg (by decide), if_neg (by decide), if_pos rfl]
theorem k180_g33 : (k180 s 33 x y z).1 = (k181_241 ((k209 s).1) x y).1 := by
  unfold k180 k181
  rw [if_neg (by decide), if_neg (by decide), if_neg (by decide), if_neg (by decide), if_neg (by decide), if_neg (by decide), if_neg (by decide), if_neg (by decide), if_neg (by decide), if_neg (by decide), if_pos rfl]
theorem k180_g34 : (k180 s 34 x y z).1 = (k218 s x).1 := by
  unfold k180 k181
  rw [if_neg (by decide), if_neg (by decide), if_neg (by decide), if_neg (by decide), if_neg (by decide), if_neg (by decide), if_neg (by decide), if_neg (by decide), if_neg (by decide), if_neg (by decide), if_neg (by decide), if_pos rfl]
theorem k180_g35 : (k180 s 35 x y z).1 = (k219 s x).1 := by
  unfold k180 k181
  rw [if_neg (by decide), if_neg (by decide), if_neg (by decide), if_neg (by decide), if_neg (by decide), if_neg (by decide), if_neg (by decide), if_neg (by decide), if_neg (by decide), if_neg (by decide), if_neg (by decide), if_neg (by decide), if_pos rfl]
theorem k180_g36 : (k180 s 36 x y z).1 = (k181_273 ((k209 s).1) x y).1 := by
  unfold k180 k181
  rw [if_neg (by decide), if_neg (by decide), if_neg (by decide), if_neg (by decide), if_neg (by decide), if_neg (by decide), if_neg (by decide), if_neg (by decide), if_neg (by decide), if_neg (by decide), if_neg (by decide), if_neg (by decide), if_neg (by decide), if_pos rfl]
theorem k180_g37 : (k180 s 37 x y z).1 = (k181_315 ((k209 s).1) x y).1 := by
  unfold k180 k181
  rw [if_neg (by decide), if_neg (by decide), if_neg (by decide), if_neg (by decide), if_neg (by decide), if_neg (by decide), if_neg (by decide), if_neg (by decide), if_neg (by decide), if_neg (by decide), if_neg (by decide), if_neg (by decide), if_neg (by decide), if_neg (by decide), if_pos rfl]
theorem k180_g38 : (k180 s 38 x y z).1 = (k181_337 ((k209 s).1) x y).1 := by
  unfold k180 k181
  rw [if_neg (by decide), if_neg (by decide), if_neg (by decide), if_neg (by decide), if_neg (by decide), if_neg (by decide), if_neg (by decide), if_neg (by decide), if_neg (by decide), if_neg (by decide), if_neg (by decide), if_neg (by decide), if_neg (by decide), if_neg (by decide), if_neg (by decide), if_pos rfl]
theorem k180_g39 : (k180 s 39 x y z).1 = (k221 s x y).1 := by
  unfold k180 k181
  rw [if_neg (by decide), if_neg (by decide), if_neg (by decide), if_neg (by decide), if_neg (by decide), if_neg (by decide), if_neg (by decide), if_neg (by decide), if_neg (by decide), if_neg (by decide), if_neg (by decide), if_neg (by decide), if_neg (by decide), if_neg (by decide), if_neg (by decide), if_neg (by decide), if_pos rfl]
theorem k180_g40 : (k180 s 40 x y z).1 = (k222 s x).1 := by
  unfold k180 k181
  rw [if_neg (by decide), if_neg (by decide), if_neg (by decide), if_neg (by decide), if_neg (by decide), if_neg (by decide), if_neg (by decide), if_neg (by decide), if_neg (by decide), if_neg (by decide), if_neg (by decide), if_neg (by decide), if_neg (by decide), if_neg (by decide), if_neg (by decide), if_neg (by decide), if_neg (by decide), if_pos rfl]
theorem k180_g41 : (k180 s 41 x y z).1 = (k181_389 ((k189 s 7 (s.1 76) 0 x).1) ((k189 s 7 (s.1 76) 0 x).2)).1 := by
  unfold k180 k181
  rw [if_neg (by decide), if_neg (by decide), if_neg (by decide), if_neg (by decide), if_neg (by decide), if_neg (by decide), if_neg (by decide), if_neg (by decide), if_neg (by decide), if_neg (by decide), if_neg (by decide), if_neg (by decide), if_neg (by decide), if_neg (by decide), if_neg (by decide), if_neg (by decide), if_neg (by decide), if_neg (by decide)]
end GLS
