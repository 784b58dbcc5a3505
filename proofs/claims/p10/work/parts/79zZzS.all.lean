/-! THE WALK OVER BOTH: all together -/
def AL1 (rc : cRC) (L : List xR) : Prop := (∀ X t v w, X ≠ [] → R70a rc L X t v w) ∧ R70b rc ∧ (∀ X t v, R71 rc L X t v) ∧ E70 rc L ∧ E61 rc L ∧ E60L rc L ∧ E60 rc L
def AL2 (rc : cRC) (L : List xR) : Prop := E91 rc L ∧ E91L rc L ∧ E91z rc ∧ E92 rc L ∧ E111 rc L ∧ E111n rc ∧ E112 rc L ∧ E112z rc ∧ F112 rc L
def AL3 (rc : cRC) (L : List xR) : Prop := E77 rc L ∧ E73 rc L ∧ E52 rc L ∧ E52L rc L ∧ E52n rc ∧ E52d rc L ∧ E128 rc L
def AL4 (rc : cRC) (L : List xR) : Prop := E130 rc L ∧ E133 rc L ∧ E134 rc L ∧ E134L rc L ∧ E134n rc ∧ E135 rc L
def AL5 (rc : cRC) (L : List xR) : Prop := E138 rc L ∧ E139 rc L ∧ E142 rc L ∧ E144 rc L ∧ E144L rc L
def AL6 (rc : cRC) (L : List xR) : Prop := E145 rc L ∧ E145L rc L ∧ E146 rc L ∧ E147 rc L ∧ E147L rc L ∧ E147E rc L
def AL7 (rc : cRC) (L : List xR) : Prop := E150 rc L ∧ E59 rc L ∧ E59L rc L
def ALL (rc : cRC) (L : List xR) : Prop := AL1 rc L ∧ AL2 rc L ∧ AL3 rc L ∧ AL4 rc L ∧ AL5 rc L ∧ AL6 rc L ∧ AL7 rc L
section ALS
variable {L : List xR}
theorem all_0 : ALL (cfix 0) L := by
  refine ⟨⟨?_, ?_, ?_, ?_, ?_, ?_, ?_⟩, ⟨?_, ?_, ?_, ?_, ?_, ?_, ?_, ?_, ?_⟩, ⟨?_, ?_, ?_, ?_, ?_, ?_, ?_⟩, ⟨?_, ?_, ?_, ?_, ?_, ?_⟩, ⟨?_, ?_, ?_, ?_, ?_⟩, ⟨?_, ?_, ?_, ?_, ?_, ?_⟩, ⟨?_, ?_, ?_⟩⟩
  · intro X t v w _ a s k G P Q y1 y2 y4 _ _ _ _ _ _ _ _ s' o e; cases e
  · intro s y1 y2 y4 s' o e; cases e
  · intro X t v a s k G P Q s' o e; cases e
  · intro X t v w _ a s k P _ _ _ _ _ s' o e; cases e
  · intro P a s k X t v w _ _ _ s' o e; cases e
  · intro P; intros; exact QC.non
  · intro P; intros; exact QC.non
  · intro P; intros; exact QC.non
  · intro P; intros; exact QC.non
  · intro s y1 y3 s' o e; cases e
  · intro P; intros; exact QC.non
  · intro P; intros; exact QC.non
  · intro s y s' o _ _ _ e; cases e
  · intro P; intros; exact QC.non
  · intro s y1 y3 s' o e; cases e
  · intro P; intros; exact QC.non
  · exact e77 0
  · intro P; intros; exact QC.non
  · intro P; intros; exact QC.non
  · intro P; intros; exact QC.non
  · intro s y s' o _ e; cases e
  · intro P; intros; exact QC.non
  · intro P; intros; exact QC.non
  · intro P; intros; exact QC.non
  · intro P; intros; exact QC.non
  · intro P; intros; exact QC.non
  · intro P; intros; exact QC.non
  · intro s y1 y2 y3 s' o _ e; cases e
  · intro P; intros; exact QC.non
  · intro P; intros; exact QC.non
  · intro P; intros; exact QC.non
  · intro P; intros; exact QC.non
  · intro P; intros; exact QC.non
  · intro P; intros; exact QC.non
  · intro P; intros; exact QC.non
  · intro P; intros; exact QC.non
  · intro P; intros; exact QC.non
  · intro P; intros; exact QC.non
  · intro P; intros; exact QC.non
  · intro P; intros; exact QC.non
  · intro P; intros; exact QC.non
  · intro P; intros; exact QC.non
  · intro P; intros; exact QC.non
theorem all_s {m : Nat} (h : ALL (cfix m) L) : ALL (cfix (m + 1)) L := by
  obtain ⟨⟨p70a, p70b, p71, h70, h61, h60L, h60⟩, ⟨h91, h91L, h91z, h92, h111, h111n, h112, h112z, hl⟩, ⟨h77, h73, h52, h52L, h52n, h52d, h128⟩, ⟨h130, h133, h134, h134L, h134n, h135⟩, ⟨h138, h139, h142, h144, h144L⟩, ⟨h145, h145L, h146, h147, h147L, h147E⟩, ⟨h150, h59, h59L⟩⟩ := h
  have ex : ∀ X t v w, X ≠ [] → R70a (cfix (m + 1)) L X t v w ∧ ∀ a s k P, RW P.2.2 L a s k X → PB t v [] k → CP P a s → RM L a t v [] → (k.1 20 = xn w ∧ w ≤ a) → EC P L (a + 1) k X t v w (cfix (m + 1) 70 s 0 0 0 0 0 0 0) := fun X t v w hX => by
    cases X with
    | nil => exact absurd rfl hX
    | cons f r => exact ex_fix (p70a _ t v w hX) p70b (p71 _ t v) (r60_of h60 hX) (r91_of h91 hX) (r73_of h73 hX)
  refine ⟨⟨?_, ?_, ?_, ?_, ?_, ?_, ?_⟩, ⟨?_, ?_, ?_, ?_, ?_, ?_, ?_, ?_, ?_⟩, ⟨?_, ?_, ?_, ?_, ?_, ?_, ?_⟩, ⟨?_, ?_, ?_, ?_, ?_, ?_⟩, ⟨?_, ?_, ?_, ?_, ?_⟩, ⟨?_, ?_, ?_, ?_, ?_, ?_⟩, ⟨?_, ?_, ?_⟩⟩
  · intro X t v w hX; exact (ex X t v w hX).1
  · exact r70b_fix m
  · intro X t v; exact r71_fix m
  · intro X t v w hX; exact (ex X t v w hX).2
  · intro P a s k X t v w q1 q2 q3
    rw [cf61]
    exact hd_all q1.1 q1.2.2.2.2 q1.2.1.1 q1.2.1.2.1 ⟨q1.2.1.2.2, q1.2.2.2.1⟩ q3.rm (h70 X (t + 1) v w q2)
  · intro P a s k X t v w y1 y2 q1 q2 q3 q4 q5 q6 q7
    rw [cf60007]
    exact pre_rnd h60L h70 h111 h111n q1 q2 q3 q4 q5 q6 q7
  · intro P a s k X t v w q1 q2 q3
    rw [cf60]
    exact pre_all h61 (fun a s k X t v w y1 z1 z2 z3 z4 z5 => pre_rnd h60L h70 h111 h111n z1 z2 z3 z4 z5 (by decide) (Int.natCast_nonneg _)) q1 q2 q3
  · intro P a s k X t v w q1 q2 q3 q4
    rw [cf91]
    exact tb_all (fun a s k X t v w z1 z2 z3 z4 z5 => tb_rnd h91L h91z h92 z1 z2 z3 z4 z5 (by decide) (Int.natCast_nonneg _)) q1 q2 q4
  · intro P a s k X t v w i y3 q1 q2 q3 q4 q5 q6 q7
    rw [cf91032]
    exact tb_rnd h91L h91z h92 q1 q2 q3 q4 q5 q6 q7
  · intro s y1 y3 s' o e
    rw [cf91032] at e
    unfold c91_32 c91_90 at e
    rw [if_pos rfl] at e
    exact e
  · intro P a s k X t v w i q1 q2 q3 q4
    rw [cf92]
    exact tb_fld h70 q1 q2 q3 q4
  · intro P a s k X t v w x q1 q2 q3
    rw [cf111]
    exact ag_rnd h91 hl q1 q2 q3
  · intro s y s' o z1 z2 z3 e
    rw [cf111] at e
    exact ag_no z1 z2 z3 e
  · intro P k0 T V W a s k X t v w c y1 y3 q1 q2 q3 q4 q5 q6 q7 q8 q9 q10
    rw [cf112006]
    exact ls_rnd h70 h112 h112z q1 q2 q3 q4 q5 q6 q7 q8 q9 q10
  · intro s y1 y3 s' o e
    rw [cf112006] at e
    unfold c112_6 at e
    rw [if_pos rfl] at e
    cases e
    exact ⟨rfl, rfl⟩
  · intro P k0 T V W a s k X t v w q1 q2 q3 q4 q5 q6
    rw [cf112]
    exact ls_rnd (c := 1) h70 h112 h112z q1 q2 q3 q4 q5 q6 rfl rfl (by decide) (Int.natCast_nonneg _)
  · exact e77 (m + 1)
  · intro P a s k X t v w x1 x2 y1 y2 q1 q2 q3 q4 q5
    rw [cf73]
    exact fn_all h77 h52 q1 q2 q3 q4 q5
  · intro P a s k X t v w q1 q2 q3 q4
    rw [cf52]
    exact bk_rnd h52L h52n h52d h59 h128 h130 h133 h134 h138 h144 h145 h146 h147 h150 q1 q2 q3 q4 (by decide) (Int.natCast_nonneg _)
  · intro P a s k X t v w y q1 q2 q3 q4 q5 q6
    rw [cf52002]
    exact bk_rnd h52L h52n h52d h59 h128 h130 h133 h134 h138 h144 h145 h146 h147 h150 q1 q2 q3 q4 q5 q6
  · intro s y s' o z e
    rw [cf52002] at e
    exact bk_no z e
  · intro n a s k t y q1 q2 q3 q4 q5 q6
    rw [cf52002]
    exact bd_rnd h52d q1 q2 q3 q4 q5 q6
  · intro P e e' kd a s k X t v w g p q c q1 q2 q3 q4 q5
    rw [cf128]
    exact ib_all h52 q1 q2 q3 q4 q5
  · intro P a s k X t v w q1 q2 q3 q4
    rw [cf130]
    exact st_whl h70 h128 q1 q2 q3 q4
  · intro P a s k X t v w q1 q2 q3 q4
    rw [cf133]
    exact st_rep h70 h52 q1 q2 q3 q4
  · intro P a s k X t v w q1 q2 q3 q4
    rw [cf134]
    exact st_if h134L h134n h128 h135 q1 q2 q3 q4
  · intro P C a0 k0 f0 r0 a s k X t v w j p y1 y2 y3 q1 q2 q3 q4 q5 q6 q7 q8
    obtain ⟨z1, z2, z3, rfl, rfl⟩ := q2
    rw [cf134013]
    exact if_rnd h134L h134n h128 h135 q1 z1 z2 z3 q3 q4 q5 q6 q7 q8
  · intro s y1 y2 y3 s' o z e
    rw [cf134013] at e
    exact if_no z e
  · intro P k0 T V W a s s1 x k X t v w p q1 q2 q3 q4 q5 q6 q7
    rw [cf135]
    exact if_cnd h70 q1 q2 q3 q4 q5 q6 q7
  · intro P a s k X t v w q1 q2 q3 q4 q5
    rw [cf138]
    exact st_fon h139 h142 q1 q2 q3 q4 q5
  · intro P k0 T V W a s k X t v w p q1 q2 q3 q4 q5 q6
    rw [cf139]
    exact fo_val h70 q1 q2 q3 q4 q5 q6
  · intro P i0 n a s k f r t v w g p q c q1 q2 q3 q4 q5 q6 q7
    rw [cf142]
    exact fo_blk h52 q1 q2 q3 q4 q5 q6 q7
  · intro P a s k X t v w q1 q2 q3 q4 q5
    rw [cf144]
    exact st_fol h144L hl h142 q1 q2 q3 q4 q5
  · intro P a0 n k0 a s k f r t v w y4 R q1 q2 q3 q4 q5 q6 q7 q8 q9 q10
    rw [cf144038]
    exact fl_rnd h144L hl h142 q1 q2 q3 q4 q5 q6 q7 q8 q9 q10
  · intro P a s k X t v w q1 q2 q3 q4
    rw [cf145]
    exact st_fns h145L h73 q1 q2 q3 q4
  · intro P a0 k0 a s k X t v w y1 y3 pw sg R q1 q2 q3 q4 q5 q6 q7 q8 q9 q10 q11
    rw [cf145023]
    exact fs_rnd h145L h73 q1 (fun _ => q2) (fun _ => by rw [wrow_2]; rfl) q3 q4 (Or.inr rfl) q5 q6 q7 q8 q9 q10 q11 (Or.inr (Or.inr rfl))
  · intro P a s k X t v w q1 q2 q3 q4 q5
    rw [cf146]
    exact st_lfn h73 q1 q2 q3 q4 q5
  · intro P a s k X t v w q1 q2 q3 q4 q5
    rw [cf147]
    exact st_loc h147L h147E q1 q2 q3 q4 q5
  · intro P a0 k0 a s s1 x k f r p t v w pw y1 y3 y4 y6 cl R q1 q2 q3 q4 q5 q6 q7 q8 q9 q10 q11 q12
    rw [cf147027]
    exact ln_rnd h147L h147E q1 q2 q3 q4 q5 q6 q7 q8 q9 q10 q11 q12
  · intro P a0 k0 a s k f r p t v w pw y1 y3 y4 y6 q1 q2 q3 q4 q5 q6
    rw [cf147027]
    unfold c147_27
    rw [if_pos rfl]
    exact ln_end hl q1 q2 q3 q4 q5 q6
  · intro P a s k X t v w q1 q2 q3 q4
    rw [cf150]
    exact st_ret hl q1 q2 q3 q4
  · intro P a s k X t v w q1 q2 q3
    rw [cf59]
    exact st_asg h59L hl h60 q1 q2 q3
  · intro P1 P2 Q P3 a0 n k0 a s k Kg X t v w y2 y3 q1 q2 q3 q4 q5 q6 q7 q8 q9 q10 q11
    rw [cf59032]
    exact as_rnd h59L hl h60 q1 q2 q3 q4 q5 q6 q7 q8 q9 q10 q11
theorem all_m : ∀ m : Nat, ALL (cfix m) L := by
  intro m
  induction m with
  | zero => exact all_0
  | succ m ih => exact all_s ih
end ALS
