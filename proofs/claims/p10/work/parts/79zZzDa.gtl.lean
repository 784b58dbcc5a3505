/-! JUMPS THAT WAIT: gotos and labels on both sides -/
section GFB
variable {k k' : kS} {x u : Nat}
theorem GL.fb {ls : List xR} : ∀ {qs : List xR} {u : Nat} {Hd : List hE}, (∀ i, u ≤ i → i < u + (qs.filter (fun g => !(seen ls g.1))).length → k'.2 51 i = k.2 51 i) → GL k x ls u qs Hd → GL k' x ls u qs Hd := by
  intro qs
  induction qs with
  | nil => intro u Hd _ h; exact h
  | cons q qs ih =>
    rintro u Hd he ⟨g, v1, v2, Hr, h1, h0, h2⟩
    refine ⟨g, v1, v2, Hr, h1, h0, ?_⟩
    rcases h2 with ⟨h2, h3, h4⟩ | ⟨h2, h3, h4, h5⟩
    · rw [List.filter_cons_of_neg (by rw [h2]; exact Bool.false_ne_true)] at he
      exact Or.inl ⟨h2, h3, ih he h4⟩
    · rw [List.filter_cons_of_pos (by rw [h2]; rfl), List.length_cons] at he
      exact Or.inr ⟨h2, by rw [he u (Nat.le_refl _) (by omega)]; exact h3, h4, ih (fun i h1 h2 => he i (by omega) (by omega)) h5⟩
theorem GB.fb : ∀ {bs : List jB} {Hd : List hE}, (∀ i, i < u + (jUm bs).length → k'.2 51 i = k.2 51 i) → GB k x u bs Hd → GB k' x u bs Hd := by
  intro bs
  induction bs with
  | nil => intro Hd _ h; exact h
  | cons b r ih =>
    rintro Hd he ⟨Hr, Hb, h1, h2, h3⟩
    have el : (jUm (b :: r)).length = (jUm r).length + (b.2.1.filter (fun g => !(seen (jLab (b :: r)) g.1))).length := by
      show (jUm r ++ _).length = _
      rw [List.length_append]
    exact ⟨Hr, Hb, h1, ih (fun i hi => he i (by omega)) h2, h3.fb (fun i _ hi => he i (by omega))⟩
theorem GX.fb : ∀ {J : List jF} {Hd : List hE}, (∀ i, i < (jfUm J).length → k'.2 51 i = k.2 51 i) → GX k J Hd → GX k' J Hd := by
  intro J
  induction J with
  | nil => intro Hd _ h; exact h
  | cons f r ih =>
    rintro Hd he ⟨Hr, Hf, h1, h2, h3⟩
    have el : (jfUm (f :: r)).length = (jfUm r).length + (jUm f.2).length := by
      show (jfUm r ++ _).length = _
      rw [List.length_append]
    exact ⟨Hr, Hf, h1, ih (fun i hi => he i (by omega)) h2, h3.fb (fun i hi => he i (by omega))⟩
theorem GL.one {ls : List xR} {q : xR} {g : Nat} {v1 v2 : Int32} (h0 : q.2.2.1.toInt = lvg q ∧ lvg q ≤ 1048576) (h : (seen ls q.1 = true ∧ ∃ l ∈ ls, l.1 = q.1 ∧ v1 = l.2.2.1 ∧ v2 = l.2.1) ∨ (seen ls q.1 = false ∧ k.2 51 u = xn g ∧ g ≤ 65536)) : GL k x ls u [q] [(x, lvg q, 1, g, 0, v1), (x, lvg q + 1, 1, g + 1, 0, v2)] := by
  refine ⟨g, v1, v2, [], rfl, h0, ?_⟩
  rcases h with ⟨h1, h2⟩ | ⟨h1, h2, h3⟩
  · exact Or.inl ⟨h1, h2, rfl⟩
  · exact Or.inr ⟨h1, h2, h3, rfl⟩
theorem pm2 {A B C : List hE} {a b : hE} : (A ++ (B ++ (a :: b :: C))).Perm (a :: b :: (A ++ (B ++ C))) := by
  rw [← List.append_assoc, ← List.append_assoc]
  exact List.perm_middle.trans (List.Perm.cons _ List.perm_middle)
end GFB
section LAB
variable {D : Df} {H0 H1 : List hE} {s : cS} {x u n : Nat} {y z v1 v2 i4 : Int32} {ls : List xR}
theorem fil_one {p : xR → Bool} {A : List xR} {q : xR} : ((A ++ [q]).filter p).length = (A.filter p).length + (if p q = true then 1 else 0) := by
  rw [List.filter_append, List.length_append]
  by_cases c : p q = true
  · rw [if_pos c, List.filter_cons_of_pos c]
    rfl
  · rw [if_neg c, List.filter_cons_of_neg c]
    rfl
theorem k197_fr {k k' : kS} {F A : Nat} (f : kFr F A k k') (hF : F &&& 4311744512 = 0) (hA : A &&& 17179869184 = 0) : k197 k' = k197 k := by
  unfold k197 kr
  rw [f.1 24 (tb0 hF (by decide)), f.1 32 (tb0 hF (by decide)), f.2 34 (tb0 hA (by decide))]
theorem k210_fr {k k' : kS} {F A : Nat} (f : kFr F A k k') (hF : F &&& 4294967296 = 0) (hA : A &&& 1152921513196781568 = 0) : k210 k' = k210 k := by
  unfold k210 kr
  rw [f.1 32 (tb0 hF (by decide)), f.2 33 (tb0 hA (by decide)), f.2 60 (tb0 hA (by decide))]
/-- four columns are moved -/
theorem ka4_51 {k : kS} {i : Nat} {a b c d : Int32} (hi : i ≤ 1000000) : kFr 0 8444249301319680 k (ka (ka (ka (ka k 49 (xn i) a) 50 (xn i) b) 51 (xn i) c) 52 (xn i) d) ∧ (∀ t, (ka (ka (ka (ka k 49 (xn i) a) 50 (xn i) b) 51 (xn i) c) 52 (xn i) d).2 49 t = if t = i then a else k.2 49 t) ∧ ∀ t, (ka (ka (ka (ka k 49 (xn i) a) 50 (xn i) b) 51 (xn i) c) 52 (xn i) d).2 51 t = if t = i then c else k.2 51 t := by
  have ni : (xn i).toNatClampNeg = i := xn_nat (by omega)
  refine ⟨kFr.sa (kFr.sa (kFr.sa (kFr.sa kFr.refl rfl) rfl) rfl) rfl, fun t => ?_, fun t => ?_⟩
  · show upd (k.2 49) (xn i).toNatClampNeg a t = _
    rw [ni]
    rfl
  · show upd (k.2 51) (xn i).toNatClampNeg c t = _
    rw [ni]
    rfl
theorem RWS.k71 {D : Df} {H : List hE} {s : cS} {k : kS} {x i g : Nat} {y vc vk v : Int32} (h : RWS D ((x, i, 1, g, vc, vk) :: H) s k) (hg : y.toNatClampNeg = g) (h53 : (k.1 53).toInt ≤ 1000000) : RWS D ((x, i, 1, g, vc, v) :: H) s (ka k 71 y v) := by
  subst hg
  exact RWS.kset h h53 rfl rfl rfl rfl rfl kR_71.1 kR_71.2
/-- the reference leads a goto: its two rows -/
theorem RWS.two {D : Df} {H : List hE} {s : cS} {k : kS} {x i g : Nat} {w1 w2 v1 v2 c1 c2 : Int32} (h : RWS D ((x, i, 1, g, c1, w1) :: (x, i + 1, 1, g + 1, c2, w2) :: H) s k) (hg : g ≤ 65536) (h53 : (k.1 53).toInt ≤ 1000000) : RWS D ((x, i, 1, g, c1, v1) :: (x, i + 1, 1, g + 1, c2, v2) :: H) s (ka (ka k 71 (xn g) v1) 71 (xn g + 1) v2) := by
  have ng : (xn g).toNatClampNeg = g := xn_nat (by omega)
  have ng1 : (xn g + 1).toNatClampNeg = g + 1 := by
    rw [xn_succ (by omega)]
    exact xn_nat (by omega)
  have p2 := h.k71 (v := v1) ng h53
  have e53 : ((ka k 71 (xn g) v1).1 53).toInt ≤ 1000000 := h53
  generalize ka k 71 (xn g) v1 = k1 at p2 e53
  generalize xn g + 1 = y1 at ng1
  exact ((p2.perm (List.Perm.swap _ _ _)).k71 (v := v2) ng1 e53).perm (List.Perm.swap _ _ _)
theorem RWS.frk {D : Df} {H : List hE} {s : cS} {k k' : kS} {F A : Nat} (h : RWS D H s k) (f : kFr F A k k') (hF : F &&& 295156912378607566848 = 0) (hA : A &&& 18300323042624482050048 = 0) (e8 : k'.1 8 = 0 → k.1 8 = 0) : RWS D H s k' := h.same (fun _ => rfl) (fun _ => rfl) rfl e8 (f.1 53 (tb0 hF (by decide))) (f.1 68 (tb0 hF (by decide))) (f.2 60 (tb0 hA (by decide))) (fun j h1 h2 => by
  have : j = 69 ∨ j = 70 ∨ j = 71 ∨ j = 72 ∨ j = 73 := by omega
  rcases this with e | e | e | e | e <;> (subst e; exact f.2 _ (tb0 hA (by decide))))
/-- the reference leads the gotos of a block to a label -/
theorem lab_led (hn : n ≤ 1000000) (hy : seen ls y = false) : ∀ (B A : List xR) (k : kS) (i j : Nat), k.1 48 = xn n → j + (B.filter (fun g => !(seen ls g.1))).length = n → (∀ d q, (B.filter (fun g => !(seen ls g.1)))[d]? = some q → k.2 49 (j + d) = q.1) → i = u + (A.filter (fun g => !(seen (ls ++ [(y, v2, v1, i4)]) g.1))).length → i ≤ j → k197 k = v1 → k210 k = v2 → (k.1 53).toInt ≤ 1000000 → (k.1 8 = 0 → ∃ HA HB, GL k x (ls ++ [(y, v2, v1, i4)]) u A HA ∧ GL k x ls j B HB ∧ RWS D (H0 ++ (HA ++ (HB ++ H1))) s k) → ∃ m k' j', kwh (k229b58 y z) m (k, xn i, xn j) = (1, (k', j')) ∧ (k'.1 8 = 0 → ∃ HB, GL k' x (ls ++ [(y, v2, v1, i4)]) u (A ++ B) HB ∧ RWS D (H0 ++ (HB ++ H1)) s k') ∧ ∀ i', i' < u → k'.2 51 i' = k.2 51 i' := by
  intro B
  induction B with
  | nil =>
    intro A k i j h48 hj h49 hi hij e197 e210 h53 hR
    have hj : j + 0 = n := hj
    have e : k229b58 y z (k, xn i, xn j) = (1, (k, xn i, xn j)) := by
      unfold k229b58
      rw [if_pos (by show k.1 48 ≤ xn j; rw [h48, ← hj]; exact Int32.le_refl _)]
    refine ⟨1, k, (xn i, xn j), by rw [kwh_out (by rw [e]; exact Nat.succ_ne_zero _), e], fun z8 => ?_, fun _ _ => rfl⟩
    obtain ⟨HA, HB, q1, q2, q3⟩ := hR z8
    have q2 : HB = [] := q2
    subst q2
    rw [List.append_nil]
    exact ⟨HA, q1, q3⟩
  | cons q B ih =>
    intro A k i j h48 hj h49 hi hij e197 e210 h53 hR
    have es : seen (ls ++ [(y, v2, v1, i4)]) q.1 = (seen ls q.1 || decide (y = q.1)) := by
      rw [seen_app]
      show (_ || (decide (y = q.1) || false)) = _
      rw [Bool.or_false]
    have eA : A ++ q :: B = (A ++ [q]) ++ B := by rw [List.append_assoc]; rfl
    rw [eA]
    by_cases c1 : seen ls q.1 = true
    · rw [List.filter_cons_of_neg (by rw [c1]; exact Bool.false_ne_true)] at hj h49
      have es1 : seen (ls ++ [(y, v2, v1, i4)]) q.1 = true := by rw [es, c1, Bool.true_or]
      refine ih (A ++ [q]) k i j h48 hj h49 (by rw [fil_one, if_neg (by rw [es1]; exact Bool.false_ne_true)]; exact hi) hij e197 e210 h53 (fun z8 => ?_)
      obtain ⟨HA, HB, q1, ⟨g, w1, w2, Hr, t1, t0, t2⟩, q3⟩ := hR z8
      rcases t2 with ⟨-, ⟨l, l1, l2⟩, t4⟩ | ⟨t2, -⟩
      · refine ⟨HA ++ [(x, lvg q, 1, g, 0, w1), (x, lvg q + 1, 1, g + 1, 0, w2)], Hr, q1.app (GL.one t0 (Or.inl ⟨es1, l, List.mem_append_left _ l1, l2⟩)), t4, ?_⟩
        rw [t1] at q3
        rw [List.append_assoc HA]
        exact q3
      · rw [c1] at t2
        cases t2
    · have c1' : seen ls q.1 = false := by rw [Bool.not_eq_true] at c1; exact c1
      rw [List.filter_cons_of_pos (by rw [c1']; rfl)] at hj h49
      rw [List.length_cons] at hj
      have r49 : kr k 49 (xn j) = q.1 := by
        show k.2 49 (xn j).toNatClampNeg = _
        rw [xn_nat (by omega)]
        exact h49 0 q rfl
      have hc : ¬ k.1 48 ≤ xn j := by rw [h48, i_le, xn_i (by omega), xn_i (by omega)]; omega
      have r51 : kr k 51 (xn j) = k.2 51 j := by
        show k.2 51 (xn j).toNatClampNeg = _
        rw [xn_nat (by omega)]
      by_cases c2 : q.1 ≠ y
      · have es1 : seen (ls ++ [(y, v2, v1, i4)]) q.1 = false := by rw [es, c1', decide_eq_false (fun z => c2 z.symm)]; rfl
        have e : k229b58 y z (k, xn i, xn j) = (0, (ka (ka (ka (ka k 49 (xn i) (kr k 49 (xn j))) 50 (xn i) (kr k 50 (xn j))) 51 (xn i) (kr k 51 (xn j))) 52 (xn i) (kr k 52 (xn j)), xn (i + 1), xn (j + 1))) := by
          unfold k229b58
          dsimp only
          rw [if_neg hc, if_pos (by rw [r49]; exact c2), xn_succ (by omega), xn_succ (by omega)]
        obtain ⟨k1, hk1⟩ : ∃ k1, k1 = ka (ka (ka (ka k 49 (xn i) (kr k 49 (xn j))) 50 (xn i) (kr k 50 (xn j))) 51 (xn i) (kr k 51 (xn j))) 52 (xn i) (kr k 52 (xn j)) := ⟨_, rfl⟩
        rw [← hk1] at e
        obtain ⟨hfr, f49, f51⟩ := ka4_51 (k := k) (a := kr k 49 (xn j)) (b := kr k 50 (xn j)) (c := kr k 51 (xn j)) (d := kr k 52 (xn j)) (show i ≤ 1000000 by omega)
        rw [← hk1] at hfr f49 f51
        obtain ⟨m, k', j', r1, r2, r3⟩ := ih (A ++ [q]) k1 (i + 1) (j + 1) ((hfr.1 48 rfl).trans h48) (by omega) (fun d p hd => by
          rw [f49, if_neg (by omega), show j + 1 + d = j + (d + 1) by omega]
          exact h49 (d + 1) p hd) (by rw [fil_one, if_pos (by rw [es1]; rfl)]; omega) (by omega) (by rw [k197_fr hfr rfl rfl]; exact e197) (by rw [k210_fr hfr rfl rfl]; exact e210) (by rw [hfr.1 53 rfl]; exact h53) (fun z8 => by
          obtain ⟨HA, HB, q1, ⟨g, w1, w2, Hr, t1, t0, t2⟩, q3⟩ := hR ((hfr.1 8 rfl).symm.trans z8)
          rcases t2 with ⟨t2, -⟩ | ⟨-, t3, t4, t5⟩
          · exact absurd t2 c1
          · refine ⟨HA ++ [(x, lvg q, 1, g, 0, w1), (x, lvg q + 1, 1, g + 1, 0, w2)], Hr, (q1.fb (fun t _ h2 => by rw [f51, if_neg (by omega)])).app (GL.one t0 (Or.inr ⟨es1, ?_, t4⟩)), t5.fb (fun t h1 _ => by rw [f51, if_neg (by omega)]), ?_⟩
            · rw [f51, if_pos hi.symm, r51]
              exact t3
            · rw [t1] at q3
              rw [List.append_assoc HA]
              exact q3.frk hfr rfl rfl (fun z => (hfr.1 8 rfl).symm.trans z))
        exact ⟨m + 1, k', j', by rw [kwh_go (by rw [e]), e]; exact r1, r2, fun i' hi' => by rw [r3 i' hi', f51, if_neg (by omega)]⟩
      · have c2' : q.1 = y := Classical.byContradiction c2
        have es1 : seen (ls ++ [(y, v2, v1, i4)]) q.1 = true := by rw [es, decide_eq_true c2'.symm, Bool.or_true]
        have key : ∀ kk : kS, kFr 768 0 k kk → (kk.1 8 = 0 → kk = k) → k229b58 y z (k, xn i, xn j) = (0, (ka (ka kk 71 (kr kk 51 (xn j)) (k197 kk)) 71 ((kr kk 51 (xn j)) + 1) (k210 (ka kk 71 (kr kk 51 (xn j)) (k197 kk))), xn i, xn j + 1)) → ∃ m k' j', kwh (k229b58 y z) m (k, xn i, xn j) = (1, (k', j')) ∧ (k'.1 8 = 0 → ∃ HB, GL k' x (ls ++ [(y, v2, v1, i4)]) u (A ++ [q] ++ B) HB ∧ RWS D (H0 ++ (HB ++ H1)) s k') ∧ ∀ i', i' < u → k'.2 51 i' = k.2 51 i' := by
          intro kk fk hkk e
          have a197 : k197 kk = v1 := by
            rw [k197_fr fk rfl rfl]
            exact e197
          have a210 : ∀ kz : kS, kFr 0 2361183241434822606848 kk kz → k210 kz = v2 := fun kz fz => by
            rw [k210_fr fz rfl rfl, k210_fr fk rfl rfl]
            exact e210
          rw [a210 _ (kFr.sa kFr.refl rfl), a197, xn_succ (by omega)] at e
          obtain ⟨k1, hk1⟩ : ∃ k1, k1 = ka (ka kk 71 (kr kk 51 (xn j)) v1) 71 (kr kk 51 (xn j) + 1) v2 := ⟨_, rfl⟩
          rw [← hk1] at e
          have f1 : kFr 0 2361183241434822606848 kk k1 := by
            rw [hk1]
            exact kFr.sa (kFr.sa kFr.refl rfl) rfl
          have e51 : k1.2 51 = k.2 51 := (f1.2 51 rfl).trans (fk.2 51 rfl)
          obtain ⟨m, k', j', r1, r2, r3⟩ := ih (A ++ [q]) k1 i (j + 1) (((f1.1 48 rfl).trans (fk.1 48 rfl)).trans h48) (by omega) (fun d p hd => by
            rw [f1.2 49 rfl, fk.2 49 rfl, show j + 1 + d = j + (d + 1) by omega]
            exact h49 (d + 1) p hd) (by rw [fil_one, if_neg (by rw [es1]; exact Bool.false_ne_true)]; exact hi) (by omega) (by
            rw [k197_fr f1 rfl rfl]
            exact a197) (a210 k1 f1) (by rw [f1.1 53 rfl, fk.1 53 rfl]; exact h53) (fun z8 => by
            have ek := hkk ((f1.1 8 rfl).symm.trans z8)
            subst ek
            obtain ⟨HA, HB, q1, ⟨g, w1, w2, Hr, t1, t0, t2⟩, q3⟩ := hR ((f1.1 8 rfl).symm.trans z8)
            rcases t2 with ⟨t2, -⟩ | ⟨-, t3, t4, t5⟩
            · exact absurd t2 c1
            · refine ⟨HA ++ [(x, lvg q, 1, g, 0, v1), (x, lvg q + 1, 1, g + 1, 0, v2)], Hr, (q1.fr e51).app (GL.one t0 (Or.inl ⟨es1, (y, v2, v1, i4), List.mem_append_right _ (List.mem_singleton.mpr rfl), c2'.symm, rfl, rfl⟩)), t5.fr e51, ?_⟩
              rw [t1] at q3
              rw [hk1, r51, t3, List.append_assoc HA]
              exact ((q3.perm pm2).two t4 h53).perm pm2.symm)
          exact ⟨m + 1, k', j', by rw [kwh_go (by rw [e]), e]; exact r1, r2, fun i' hi' => by rw [r3 i' hi', e51]⟩
        by_cases c3 : z ≤ kr k 52 (xn j)
        · refine key k kFr.refl (fun _ => rfl) ?_
          unfold k229b58
          dsimp only
          rw [if_neg hc, if_neg (by rw [r49]; exact c2), if_pos c3]
        · refine key (k191 k 14 (kr k 50 (xn j))).1 (fr_k191 _ _ _) (fun z8 => absurd z8 (k191_f (by decide))) ?_
          unfold k229b58
          dsimp only
          rw [if_neg hc, if_neg (by rw [r49]; exact c2), if_neg c3]
end LAB
