/-! THE WALK OVER BOTH: statements of a few words -/
section ST1
variable {L : List xR} {P : PT} {k0 k k' : kS} {T V W a t v w : Nat} {s s' : cS} {X X' : List xF} {y1 y2 : Int32} {rc : cRC} {Q : cS → kS → Int32 → Prop} {fc : cS → Option (cS × Option Int32)}
/-- behind a statement -/
def SP (L : List xR) (P : PT) (k : kS) (t v w a : Nat) (X : List xF) : cS → kS → Int32 → Prop := fun s' k' _ => ∃ a' X', a < a' ∧ SG L P k t v w a' s' k' X' t v w ∧ XQ X X'
theorem st_semi (h : SG L P k t v w a s k X t v w) (hB : XB X) (c : c53 s = 67) (hf : ∀ s1 k1 a1 X1, a < a1 → SG L P k t v w a1 s1 k1 X1 t v w → XQ X X1 → QC Q k1 (fc s1)) : QC Q (k228 k 67).1 (rbd (some (c55 s)) (fun _ _ => fc (c55 s).1)) := by
  rw [k228_k67]
  obtain ⟨q, s1, q1, q2, q3, q4, q5⟩ := h.skp c pl67
  rw [q3, rbd_th (w := q.2.1) rfl]
  exact hf s1 _ (a + 1) X (by omega) q4 (XQ.refl hB)
theorem c123_15_2 {y z : Int32} : (c123_15 s y z).2 = some 0 := by
  unfold c123_15
  split
  · split
    · rfl
    · rfl
  · rfl
theorem st_brk (h : SG L P k t v w a s k X t v w) (hB : XB X) (c : c53 s = 11) (hf : ∀ s1 k1 a1 X1, a < a1 → SG L P k t v w a1 s1 k1 X1 t v w → XQ X X1 → QC Q k1 (fc s1)) : QC Q (k228 k 11).1 (rbd (some (c123 s)) (fun _ _ => fc (c123 s).1)) := by
  rw [k228_k11]
  obtain ⟨q, s1, q1, q2, q3, q4, q5⟩ := h.skp c pl11
  have e : c123 s = c123_15 s1 (c63 s) q.2.1 := by
    unfold c123
    rw [cbd_some (w := q.2.1) (by rw [q3]), q3]
  rw [e, rbd_th (w := 0) c123_15_2]
  refine hf _ _ (a + 1) X (by omega) ?_ (XQ.refl hB)
  obtain ⟨f, r, b, bs, rfl, b1, -⟩ := hB
  exact q4.nam (fr_c123_15 _ _ _) (fr_k233 _ _) (RN.brk q4.1.2.1 q4.SZ) q4.sz (q4.ou (fr_c123_15 _ _ _) (fr_k233 _ _)) ⟨q4.ne, q4.nc.brk q4.1.2.1 q4.SZ b1 q4.lv q4.1.k53, q4.fb.fr (fr_c123_15 _ _ _) (fr_k233 _ _) rfl rfl (st_k233 _ _) ((fr_k233 _ _).1 53 rfl), q4.cc.fr (fr_k233 _ _) rfl (st_k233 _ _), q4.lv.fr (fr_c123_15 _ _ _) rfl⟩
theorem OU.blk {b : Nat} {f f' : xF} {r : List xF} {B : List xB} {D : Int32} (h : OU b s k (f :: r)) (e : f' = (f.1, f.2.1, f.2.2.1, B, D)) : OU b s k (f' :: r) := by
  rw [e]
  exact h.cut rfl (Nat.le_refl _) (Nat.le_refl _)
theorem XQ.go {f : xF} {r : List xF} {b : xB} {bs : List xB} {q : xR} (hp : f.2.2.1 = []) (hb : f.2.2.2.1 = b :: bs) : XQ (f :: r) (xgo f q :: r) := by
  have ex : xgo f q = (f.1, f.2.1, f.2.2.1, (b.1, b.2.1, b.2.2.1 ++ [q], b.2.2.2) :: bs, f.2.2.2.2) := by unfold xgo; rw [hb]
  rw [ex]
  exact ⟨f, _, r, [], b, _, bs, rfl, rfl, ⟨hp, hp, rfl⟩, (List.append_nil _).symm, ⟨hb, rfl, rfl, rfl⟩, rfl⟩
theorem XQ.la {f : xF} {r : List xF} {b : xB} {bs : List xB} {q : xR} (hp : f.2.2.1 = []) (hb : f.2.2.2.1 = b :: bs) : XQ (f :: r) (xla f q :: r) := by
  have ex : xla f q = (f.1, f.2.1, f.2.2.1, (b.1, b.2.1 ++ [q], b.2.2.1, b.2.2.2) :: bs, f.2.2.2.2) := by unfold xla; rw [hb]
  rw [ex]
  exact ⟨f, _, r, [], b, _, bs, rfl, rfl, ⟨hp, hp, rfl⟩, (List.append_nil _).symm, ⟨hb, rfl, rfl, rfl⟩, rfl⟩
/-- the text of the word that was read last -/
theorem WR.txa {q : xR} (h : WR L (a + 1) s k) (hq : L[a]? = some q) : kr k 2 (xn a) = q.2.1 := by
  have hl := lt_of hq
  have := h.1.2.1
  rcases h.kat (i := a) (by omega) with ⟨p, p1, p2, p3, p4, p5, -⟩ | ⟨p1, -⟩
  · rw [hq] at p1
    cases p1
    exact p5
  · exact absurd hl (by omega)
/-- the row of a label -/
theorem lab_row {q : xR} {f : xF} {r : List xF} {b : xB} {bs : List xB} {z0 : Int32} (h : RN s k (f :: r)) (hz : SZ (f :: r)) (hb : f.2.2.2.1 = b :: bs) (hp : f.2.2.1 = []) (hn : XC 0 (c119_34 s y1 y2 z0).1 (xla f q :: r)) : ∃ i4, q = (y2, c98 s, xn f.2.1.length, i4) := by
  have zz := hz.l
  have key : ∀ s1 : cS, cFr 196608 0 0 0 s s1 → XC 0 (c119_69 s1 y2).1 (xla f q :: r) → ∃ i4, q = (y2, c98 s, xn f.2.1.length, i4) := fun s1 hf hx => by
    have e75 : c75 s1 = xn f.2.1.length := by
      have := (h.1.fr hf rfl rfl rfl rfl).cnt hz
      rw [hp, List.append_nil] at this
      exact this
    have e98 : c98 s1 = c98 s := by
      unfold c98
      rw [hf.2.2.2.1 (Nat.zero_testBit _), hf.2.2.2.2.2.2.1 (Nat.zero_testBit _)]
    obtain ⟨i4, e⟩ : ∃ i4, (c119_69 s1 y2).1 = (tad s1 (.s 24) y2 (c98 s) (xn f.2.1.length) i4).1 := by
      unfold c119_69 c122
      rw [e75, e98]
      split
      · exact ⟨0, rfl⟩
      · exact ⟨1, rfl⟩
    rw [e] at hx
    have h1 : TR s1 (.s 24) (fLab (f :: r)) := (h.1.fr hf rfl rfl rfl rfl).la
    have h2 := (h1.add (a := y2) (b := c98 s) (c := xn f.2.1.length) (d := i4) (by omega)).1
    have h3 : TR (tad s1 (.s 24) y2 (c98 s) (xn f.2.1.length) i4).1 (.s 24) (fLab (xla f q :: r)) := hx.la
    have eL : fLab (xla f q :: r) = fLab (f :: r) ++ [q] := by
      have ex : xla f q = (f.1, f.2.1, f.2.2.1, (b.1, b.2.1 ++ [q], b.2.2.1, b.2.2.2) :: bs, f.2.2.2.2) := by unfold xla; rw [hb]
      rw [ex]
      show fLab r ++ (bLab bs ++ (b.2.1 ++ [_])) = (fLab r ++ bLab f.2.2.2.1) ++ [_]
      rw [hb]
      show _ = (fLab r ++ (bLab bs ++ b.2.1)) ++ [_]
      simp only [List.append_assoc]
    rw [eL] at h3
    have g2 := h2.2 (fLab (f :: r)).length _ (by rw [List.getElem?_append_right (Nat.le_refl _), Nat.sub_self]; rfl)
    have g3 := h3.2 (fLab (f :: r)).length _ (by rw [List.getElem?_append_right (Nat.le_refl _), Nat.sub_self]; rfl)
    refine ⟨i4, ?_⟩
    obtain ⟨q1, q2, q3, q4⟩ := q
    have a1 : q1 = y2 := g3.1.symm.trans g2.1
    have a2 : q2 = c98 s := g3.2.1.symm.trans g2.2.1
    have a3 : q3 = xn f.2.1.length := g3.2.2.1.symm.trans g2.2.2.1
    have a4 : q4 = i4 := g3.2.2.2.symm.trans g2.2.2.2
    rw [a1, a2, a3, a4]
  unfold c119_34 at hn
  split at hn
  · exact key s cFr.refl hn
  · exact key _ (fr_c76 s 13 y1) hn
theorem st_go (h : SG L P k t v w a s k X t v w) (hB : XB X) (c : c53 s = 19) (hf : ∀ s1 k1 a1 X1, a < a1 → SG L P k t v w a1 s1 k1 X1 t v w → XQ X X1 → QC Q k1 (fc s1)) : QC Q (k228 k 19).1 (rbd (some (c126 s)) (fun _ _ => fc (c126 s).1)) := by
  have hle := h.le
  rw [k228_k19]
  obtain ⟨e4, e63⟩ := h.at4
  obtain ⟨q, s1, q1, q2, q3, q4, q5⟩ := h.skp c pl19
  have hlt := lt_of q1
  generalize kf k 4 (k.1 4 + 1) = k1 at q4
  rcases q4.tkp pl1 with ⟨p, s2, p1, p2, p3, p4, p5, p6⟩ | ⟨p1, p2, p3⟩
  · have e : c126 s = ((c127 (c78 (c78 (c78 s2 34 0 0 (c63 s)).1 33 0 0 0).1 36 0 0 0).1 p.2.1 (c63 s) (c78 (c78 s2 34 0 0 (c63 s)).1 33 0 0 0).2 (c75 (c78 (c78 (c78 s2 34 0 0 (c63 s)).1 33 0 0 0).1 36 0 0 0).1)).1, some 0) := by
      unfold c126
      rw [cbd_some (w := q.2.1) (by rw [q3]), q3]
      show c126_15 s1 (c63 s) _ = _
      unfold c126_15
      rw [cbd_some (w := p.2.1) (by rw [p3]), p3]
      rfl
    rw [e, rbd_th (w := 0) rfl, p4]
    show QC Q (k228_187 (kf k1 4 (k1.1 4 + 1)) (k.1 4) 1).1 _
    have et := p5.1.1.txa p1
    generalize kf k1 4 (k1.1 4 + 1) = k2 at p5 et
    unfold k228_187
    rw [if_neg (by decide)]
    have en : k.1 4 + 1 = xn (a + 1) := by rw [e4, xn_succ (by omega)]
    rw [en, e63, e4, ← et]
    obtain ⟨f, r, b, bs, rfl, b1, b2, b3⟩ := hB
    have h3 := ((p5.cle (x := 34) (y := 0) (z := 0) (u := xn a)).cle (x := 33) (y := 0) (z := 0) (u := 0)).cle (x := 36) (y := 0) (z := 0) (u := 0)
    have nr : ∀ i1 i2 i3 i4 : Int32, _ := fun i1 i2 i3 i4 => NR.gto (w := xn a) (nm := xn (a + 1)) (l4 := xn f.2.1.length) (i1 := i1) (i2 := i2) (i3 := i3) (i4 := i4) p5.nc p5.1.2.1 p5.SZ b2 (own_5 p5.1.2.1 rfl p5.1.k53) p5.1.k53
    generalize (c78 (c78 s2 34 0 0 (xn a)).1 33 0 0 0).2 = lv at nr ⊢
    generalize (c78 (c78 (c78 s2 34 0 0 (xn a)).1 33 0 0 0).1 36 0 0 0).1 = s3 at h3 nr ⊢
    have n := RN.gto (w := xn a) (nm := xn (a + 1)) (lv := lv) h3.1.2.1 h3.SZ b2 b1
    have ex : ∀ q : xR, xgo f q = (f.1, f.2.1, f.2.2.1, (b.1, b.2.1, b.2.2.1 ++ [q], b.2.2.2) :: bs, f.2.2.2.2) := fun q => by unfold xgo; rw [b2]
    have nf : ∀ (i1 i2 i3 i4 : Int32), NF ([], []) P.2.2 (c127 s3 i1 i2 i3 i4).1 (k234 k2 (xn a) (xn (a + 1))).1 (xgo f (kr k2 2 (xn (a + 1)), xn a, lv, xn f.2.1.length) :: r) := fun i1 i2 i3 i4 => by
      have fc := fr_c127 s3 i1 i2 i3 i4
      have fk := fr_k234 k2 (xn a) (xn (a + 1))
      exact ⟨(fun z => nomatch z), nr i1 i2 i3 i4, (h3.fb.fr fc fk rfl rfl (kSt.of fk rfl) (fk.1 53 rfl)).eq (by rw [ex]; rfl), h3.cc.sub (fun _ _ z => by rw [ex] at z; exact z) (kSt.of fk rfl) (fk.2 30 rfl), h3.lv.same (by rw [ex]; show (fLv r ++ (bLv bs ++ (if b.2.2.2 = 1 then [b.1] else []))) ++ [] = (fLv r ++ bLv f.2.2.2.1) ++ []; rw [b2]; rfl) (fc.2.1 28 rfl).1 (fc.2.1 28 rfl).2⟩
    exact hf _ _ (a + 1 + 1) _ (by omega) (h3.nam (fr_c127 _ _ _ _ _) (fr_k234 _ _ _) n (by rw [sz_xgo b2]; have := h.sz; omega) ((h3.ou (fr_c127 _ _ _ _ _) (fr_k234 _ _ _)).blk (by unfold xgo; rw [b2])) (nf _ _ _ _)) (XQ.go b1 b2)
  · have e : (c126 s).2 = none := by
      unfold c126
      rw [cbd_some (w := q.2.1) (by rw [q3]), q3]
      show (c126_15 s1 (c63 s) _).2 = _
      unfold c126_15
      rw [cbd_none p1]
      exact p1
    rw [rbd_thn e]
    refine QC.thn ?_
    unfold k228_187
    rw [if_pos p2]
    exact p3
theorem c119_34_2 {y1 y2 z0 : Int32} : (c119_34 s y1 y2 z0).2 = some 0 := by
  unfold c119_34
  split
  · rfl
  · rfl
theorem st_lab (h : SG L P k t v w a s k X t v w) (hB : XB X) (c : c53 s = 66) (hf : ∀ s1 k1 a1 X1, a < a1 → SG L P k t v w a1 s1 k1 X1 t v w → XQ X X1 → QC Q k1 (fc s1)) (hd : ∀ s1 k1 a1, a < a1 → WR L a1 s1 k1 → KP t v w k1 → KB t v w k k1 → dm L (L.length - a1 + 1) a1 → QC Q k1 (fc s1)) : QC Q (k228 k 66).1 (rbd (some (c119 s)) (fun _ _ => fc (c119 s).1)) := by
  have hle := h.le
  rw [k228_k66]
  obtain ⟨e4, e63⟩ := h.at4
  obtain ⟨q, s1, q1, q2, q3, q4, q5⟩ := h.skp c pl66
  have hlt := lt_of q1
  generalize kf k 4 (k.1 4 + 1) = k1 at q4
  have e0 : c119 s = c119_7 s1 q.2.1 := by
    unfold c119
    rw [cbd_some (w := q.2.1) (by rw [q3]), q3]
  rw [e0]
  unfold c119_7
  rcases q4.tkp pl1 with ⟨p, s2, p1, p2, p3, p4, p5, p6⟩ | ⟨p1, p2, p3⟩
  · rw [cbd_some (w := p.2.1) (by rw [p3]), p3, p4]
    show QC Q (k228_132 (kf k1 4 (k1.1 4 + 1)) (k.1 4) 1).1 (rbd (some (c119_24 s2 (c63 s1) p.2.1)) (fun _ _ => fc (c119_24 s2 (c63 s1) p.2.1).1))
    have et := p5.1.1.txa p1
    generalize kf k1 4 (k1.1 4 + 1) = k2 at p5 et
    unfold k228_132 c119_24
    rw [if_neg (by decide)]
    rcases p5.tkp pl66 with ⟨o, s3, o1, o2, o3, o4, o5, o6⟩ | ⟨o1, o2, o3⟩
    · rw [cbd_some (w := o.2.1) (by rw [o3]), o3, o4]
      show QC Q (k228_141 (kf k2 4 (k2.1 4 + 1)) (k.1 4) 1).1 (rbd (some (c119_34 s3 (c63 s1) p.2.1 o.2.1)) (fun _ _ => fc (c119_34 s3 (c63 s1) p.2.1 o.2.1).1))
      rw [rbd_th (w := 0) c119_34_2]
      have et2 : kr (kf k2 4 (k2.1 4 + 1)) 2 (xn (a + 1)) = p.2.1 := et
      generalize kf k2 4 (k2.1 4 + 1) = k3 at o5 et2
      unfold k228_141
      rw [if_neg (by decide)]
      have en : k.1 4 + 1 = xn (a + 1) := by rw [e4, xn_succ (by omega)]
      rw [en]
      by_cases hdm : dm L (L.length - (a + 1 + 1 + 1) + 1) (a + 1 + 1 + 1)
      · have fk := fr_k229 k3 (xn (a + 1))
        refine hd _ _ (a + 1 + 1 + 1) (by omega) (o5.1.1.fr (fr_c119_34 s3 (c63 s1) p.2.1 o.2.1) fk rfl rfl rfl rfl rfl) ⟨(fk.1 10 rfl).trans o5.2.1.1, (fk.1 15 rfl).trans o5.2.1.2.1, (fk.1 20 rfl).trans o5.2.1.2.2⟩ (o5.2.2.1.trans (KB.fr fk rfl)) hdm
      · have hae : ∀ s' : cS, cFr 196608 0 0 0 s3 s' → c120 s' = k231 k3 := fun s' hs => by
          rcases at_end (o5.1.1.fr hs (kFr.refl (F := 0) (A := 0)) rfl rfl rfl rfl rfl) with z | z
          · exact absurd z hdm
          · exact z.1
        have hke : ∀ k' : kS, kFr 768 0 k3 k' → k231 k' = k231 k3 := fun k' hk' => by
          rcases at_end (o5.1.1.fr (cFr.refl (F := 0) (T := 0) (B := 0) (G := 0)) hk' rfl rfl rfl rfl rfl) with z | z
          · exact absurd z hdm
          · exact z.1.symm.trans (hae s3 cFr.refl)
        have h01 : k231 k3 = 0 ∨ k231 k3 = 1 := by
          rcases at_end o5.1.1 with z | z
          · exact absurd z hdm
          · rw [← z.1]
            exact z.2
        obtain ⟨f, r, b, bs, rfl, b1, b2, b3⟩ := hB
        obtain ⟨qq, -, n⟩ := RN.lab (y1 := c63 s1) (y2 := p.2.1) (z0 := o.2.1) (w := xn (a + 1)) o5.1.2.1 o5.SZ b2 b1 b3 et2 hae hke h01
        have ex : ∀ q : xR, xla f q = (f.1, f.2.1, f.2.2.1, (b.1, b.2.1 ++ [q], b.2.2.1, b.2.2.2) :: bs, f.2.2.2.2) := fun q => by unfold xla; rw [b2]
        obtain ⟨i4, rfl⟩ := lab_row o5.1.2.1 o5.SZ b2 b1 n.1
        have fc := fr_c119_34 s3 (c63 s1) p.2.1 o.2.1
        have fk := fr_k229 k3 (xn (a + 1))
        have st := st_k229 k3 (xn (a + 1))
        have nr := NR.lab (y1 := c63 s1) (z0 := o.2.1) (i4 := i4) o5.nc o5.1.2.1 o5.SZ b2 b3 et2 (own_5 o5.1.2.1 rfl o5.1.k53) o5.1.k53
        exact hf _ _ (a + 1 + 1 + 1) _ (by omega) (o5.nam (fr_c119_34 _ _ _ _) (fr_k229 _ _) n (by rw [sz_xla b2]; have := h.sz; omega) ((o5.ou (fr_c119_34 _ _ _ _) (fr_k229 _ _)).blk (by unfold xla; rw [b2])) ⟨(fun z => nomatch z), nr, (o5.fb.fr fc fk rfl rfl st (fk.1 53 rfl)).eq (by rw [ex]; rfl), o5.cc.sub (fun _ _ z => by rw [ex] at z; exact z) st (fk.2 30 rfl), o5.lv.same (by rw [ex]; show (fLv r ++ (bLv bs ++ (if b.2.2.2 = 1 then [b.1] else []))) ++ [] = (fLv r ++ bLv f.2.2.2.1) ++ []; rw [b2]; rfl) (fc.2.1 28 rfl).1 (fc.2.1 28 rfl).2⟩) (XQ.la b1 b2)
    · rw [cbd_none o1, rbd_thn o1]
      refine QC.thn ?_
      show (k228_141 (k200 k2 66).1 (k.1 4) (k200 k2 66).2).1.1 6 ≠ 0
      unfold k228_141
      rw [if_pos o2]
      exact o3
  · rw [cbd_none p1, rbd_thn p1]
    refine QC.thn ?_
    show (k228_132 (k200 k1 1).1 (k.1 4) (k200 k1 1).2).1.1 6 ≠ 0
    unfold k228_132
    rw [if_pos p2]
    exact p3
end ST1
