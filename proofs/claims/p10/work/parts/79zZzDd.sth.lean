/-! THE WALK OVER BOTH: jumps that wait in the statements around -/
/-- an entry that never is: only where the conditions of rows have failed before -/
def noe : hE := (0, 0, 7, 0, 0, 0)
/-- two numbers that are the same while rows are alike -/
def gho (a b : Int32) : List hE := if a = b then [] else [noe]
section GHO
variable {q : Nat} {D : Df} {H Hd : List hE} {s : cS} {k : kS} {X : List xF} {a b : Int32}
theorem RWS.nvr (h : RWS D (noe :: H) s k) (z : k.1 8 = 0) (h6 : (k.1 68).toInt < 65536) (hf : FL s k) : False := by
  obtain ⟨n, n1, n2, n3⟩ := h.2 z
  have n4 : n < 65536 := by rw [n1, xn_i (by omega)] at h6; omega
  have hG := n3 n4 hf
  have b := hG.1.1 _ List.mem_cons_self
  obtain ⟨-, U, V, -, -, -, u4, -⟩ := hG.2 0 b
  rcases (u4.2 _ List.mem_cons_self rfl).1 with e | e
  · exact absurd (show (7 : Nat) = 1 from e) (by decide)
  · exact absurd (show (7 : Nat) = 2 from e) (by decide)
theorem gho_t (e : a = b) : gho a b = [] := if_pos e
theorem gho_f (e : ¬ a = b) : gho a b = [noe] := if_neg e
theorem RWS.gh (h : RWS D ((gho a b ++ H) ++ Hd) s k) (z : k.1 8 = 0) (h6 : (k.1 68).toInt < 65536) (hf : FL s k) : a = b := by
  by_cases c : a = b
  · exact c
  · rw [gho_f c] at h
    exact (RWS.nvr h z h6 hf).elim
/-- two numbers that are the same now -/
theorem NR.mkg (h : NR q D H s k X) (e : k.1 8 = 0 → (k.1 68).toInt < 65536 → FL s k → (∀ Hd, RWS D (H ++ Hd) s k → a = b)) : NR q D (gho a b ++ H) s k X := by
  by_cases c : a = b
  · rw [gho_t c]
    exact h
  · refine ⟨h.1, fun z => ⟨(h.2 z).1, fun h6 hf => ?_⟩⟩
    obtain ⟨p, Hd, -, -, h3⟩ := (h.2 z).2 h6 hf
    exact absurd (e z h6 hf Hd h3) c
/-- as they are the same, so are the rows -/
theorem NR.ghd {D' : Df} (h : NR q D (gho a b ++ H) s k X) (e : a = b → D = D') : NR q D' (gho a b ++ H) s k X := ⟨h.1, fun z => ⟨(h.2 z).1, fun h6 hf => by
  obtain ⟨p, Hd, h1, h2, h3⟩ := (h.2 z).2 h6 hf
  exact ⟨p, Hd, h1, h2, e (h3.gh z h6 hf) ▸ h3⟩⟩⟩
theorem NR.ghx (h : NR q D (gho a b ++ H) s k X) : NR q D H s k X := ⟨h.1, fun z => ⟨(h.2 z).1, fun h6 hf => by
  obtain ⟨p, Hd, h1, h2, h3⟩ := (h.2 z).2 h6 hf
  refine ⟨p, Hd, h1, h2, ?_⟩
  rw [gho_t (h3.gh z h6 hf)] at h3
  exact h3⟩⟩
theorem NR.pmH {H' : List hE} (h : NR q D H s k X) (p : H.Perm H') : NR q D H' s k X := h.imp (fun _ z => z.perm (p.append_right _))
end GHO
section STH
variable {δ δ' : Df} {e : Nat} {L : List xR} {P : PT} {H H' : List hE} {k0 k k' : kS} {T V W a t v w : Nat} {s s' : cS} {X : List xF} {f : xF} {r : List xF} {x y z u iv vc vk : Int32} {i j g x0 : Nat}
theorem SEp.of (h : SGp none δ L P k0 T V W a s k X t v w) : SEp δ 0 L P k0 T V W a s k X t v w := ⟨⟨h.1.1, h.1.2.1, h.1.2.2.1, h.1.2.2.2.1, h.1.2.2.2.2.1.1, h.1.2.2.2.2.2.1, h.ne, h.nc, h.fb, h.cc, h.lv⟩, h.2⟩
theorem SEp.to (h : SEp δ 0 L P k0 T V W a s k X t v w) : SGp none δ L P k0 T V W a s k X t v w := ⟨⟨h.1.1, h.1.2.1, h.1.2.2.1, h.1.2.2.2.1, ⟨h.1.2.2.2.2.1, h.1.2.2.2.2.2.2.2.2.1, h.1.2.2.2.2.2.2.2.2.2.1, h.1.2.2.2.2.2.2.2.2.2.2⟩, h.1.2.2.2.2.2.1, h.1.2.2.2.2.2.2.1, ⟨[], rfl, h.1.2.2.2.2.2.2.2.1⟩⟩, h.2⟩
/-- rows and what waits change, no names, no piles -/
theorem SEp.go {F T' B G F' A' : Nat} (h : SEp δ e L P k0 T V W a s k X t v w) (hc : cFr F T' B G s s') (hk : kFr F' A' k k') (hN : NR e δ P.2.2 s k X → NR e δ' H' s' k' X) (c1 : F &&& 822752278660603021077484591278675410950110812984694428651290624 = 0 := by rfl) (c2 : T' &&& 352404744 = 0 := by rfl) (c3 : B &&& 8188 = 0 := by rfl) (c4 : G &&& 11 = 0 := by rfl) (k1 : F' &&& 4620992428744148337 = 0 := by rfl) (k2 : A' &&& 287065817272136726534 = 0 := by rfl) : SEp δ' e L (P.1, P.2.1, H') k0 T V W a s' k' X t v w := by
  have hn : NE δ' e H' s' k' X := ⟨h.ne.1, hN h.ne.2.1, (h.ne.2.2.1.fr hc hk (sub0 c3 rfl) (sub0 k2 rfl) (kSt.of hk (tb0 k1 (by decide))) (hk.1 53 (tb0 k1 (by decide)))), h.ne.2.2.2.1.sub (fun _ _ q => q) (kSt.of hk (tb0 k1 (by decide))) (hk.2 30 (tb0 k2 (by decide))), h.ne.2.2.2.2.same rfl (hc.2.1 28 (tb0 c2 (by decide))).1 (hc.2.1 28 (tb0 c2 (by decide))).2⟩
  refine ⟨⟨h.1.1.fr hc hk (tb0 c2 (by decide)) (tb0 c1 (by decide)) (tb0 c1 (by decide)) (sub0 k1 rfl) (sub0 k2 rfl), h.rn hc hk (sub0 c1 rfl) (sub0 c2 rfl) (sub0 c3 rfl) (sub0 c4 rfl) (sub0 k1 rfl) (sub0 k2 rfl), h.sz, ?_, h.1.2.2.2.2.1, h.ou hc hk (tb0 c4 (by decide)) (sub0 k1 rfl) (sub0 k2 rfl), hn⟩, ⟨(hk.1 10 (tb0 k1 (by decide))).trans h.2.1.1, (hk.1 15 (tb0 k1 (by decide))).trans h.2.1.2.1, (hk.1 20 (tb0 k1 (by decide))).trans h.2.1.2.2⟩, h.2.2.1.trans (KB.fr hk (sub0 k2 rfl)), h.2.2.2.1, h.2.2.2.2.ts (TS.of hc (sub0 c2 rfl)) (Nat.le_refl _)⟩
  rw [hk.1 53 (tb0 k1 (by decide))]
  exact h.1.2.2.2.1
/-- only what is said of rows -/
theorem SEp.st (h : SEp δ e L P k0 T V W a s k X t v w) (hN : NR e δ P.2.2 s k X → NR e δ' H' s k X) : SEp δ' e L (P.1, P.2.1, H') k0 T V W a s k X t v w := h.go (cFr.refl (F := 0) (T := 0) (B := 0) (G := 0)) (kFr.refl (F := 0) (A := 0)) hN
theorem SGp.st (h : SGp none δ L P k0 T V W a s k X t v w) (hN : NR 0 δ P.2.2 s k X → NR 0 δ' H' s k X) : SGp none δ' L (P.1, P.2.1, H') k0 T V W a s k X t v w := ((SEp.of h).st hN).to
theorem k210_60 (h : RE e s k (f :: r)) (hz : SZ (f :: r)) : k210 k = k.2 60 (f.1 - 1) := by
  obtain ⟨o1, o2, o3, o4⟩ := own_e h hz
  unfold k210
  rw [o1]
  show k.2 60 (xn (f.1 - 1)).toNatClampNeg = _
  rw [xn_nat (by omega)]
/-- as many rows on both sides: kept while rows are alike -/
theorem SEp.top (h : SE e L P k0 T V W a s k X t v w) : SE e L (P.1, P.2.1, gho (c98 s) (k210 k) ++ P.2.2) k0 T V W a s k X t v w := by
  obtain ⟨f, r, rfl⟩ : ∃ f r, X = f :: r := by
    cases X with
    | nil => exact absurd rfl h.ne.1
    | cons f r => exact ⟨f, r, rfl⟩
  obtain ⟨o1, o2, o3, o4⟩ := own_e h.1.2.1 h.SZ
  refine h.st (fun n => n.mkg (fun z h6 hf Hd hR => ?_))
  rw [k210_60 h.1.2.1 h.SZ]
  have := hR.cnt z h6 hf (own_e5 h.1.2.1 h.k53)
  rw [← this]
  unfold c98
  rw [o2, show f.1 - 1 + 1 = f.1 by omega]
theorem SGp.ttp (h : SG L P k0 T V W a s k X t v w) : SG L (P.1, P.2.1, gho (c98 s) (k210 k) ++ P.2.2) k0 T V W a s k X t v w := SE.to (SEp.top (SE.of h))
/-- both write a jump that waits -/
theorem SEp.hol {r0 r0' : xR} (h : SEp ([r0], [r0']) e L P k0 T V W a s k (f :: r) t v w) (hc : (s.r (.i f.1)).toInt = i + 1 ∨ 1048576 ≤ (s.r (.i f.1)).toInt) (hk : JG g (f.1 - 1) k) (hj : j = 1 ∨ j = 2) (ho : r0.1 = r0'.1) (hw : r0.2.2.2 = r0'.2.2.2) (ha : j ≠ 1 → r0.2.1 = r0'.2.1) (hb : j ≠ 2 → r0.2.2.1 = r0'.2.2.1) (hjm : jmp r0.1) (hwr : wfo r0.1 = true ∨ (j = 2 ∧ wfa r0) := by exact Or.inl rfl) : SE e L (P.1, P.2.1, (f.1 - 1, i, j, g, xg r0 j, xg r0' j) :: P.2.2) k0 T V W a s k (f :: r) t v w := by
  obtain ⟨o1, o2, o3, o4⟩ := own_e h.1.2.1 h.SZ
  have e1 : f.1 - 1 + 1 = f.1 := by omega
  exact h.st (fun n => n.hol (by omega) (by rw [e1]; exact hc) hk hj ho hw ha hb hjm (own_e5 h.1.2.1 h.k53) hwr)
theorem SEp.jmp {x1 y1 z1 u1 y2 z2 : Int32} (h : SE e L P k0 T V W a s k (f :: r) t v w) (hj : (j = 1 ∧ z1 = z2) ∨ (j = 2 ∧ y1 = y2)) (hjm : jmp x1) (hwr : wfo x1 = true ∨ (j = 2 ∧ wfa (x1, y1, z1, u1)) := by exact Or.inl rfl) : SE e L (P.1, P.2.1, (f.1 - 1, (c78 s x1 y1 z1 u1).2.toNatClampNeg, j, (k189 k x1 y2 z2 u1).2.toNatClampNeg, (if j = 1 then y1 else z1), (if j = 1 then y2 else z2)) :: P.2.2) k0 T V W a (c78 s x1 y1 z1 u1).1 (k189 k x1 y2 z2 u1).1 (f :: r) t v w ∧ 0 ≤ (c78 s x1 y1 z1 u1).2.toInt := by
  obtain ⟨o1, o2, o3, o4⟩ := own_e h.1.2.1 h.SZ
  have ej : (c78 s x1 y1 z1 u1).2 = s.r (.i f.1) := by rw [← o2]; exact tad_2
  have hci := c78_i (b1 := x1) (b2 := y1) (b3 := z1) (b4 := u1) h.ne.2.1.1 o2
  have hjg := k189_g (b1 := x1) (b2 := y2) (b3 := z2) (b4 := u1) h.ne.2.1 o1
  have h1 := (h.cle (x := x1) (y := y1) (z := z1) (u := u1)).put (x := x1) (y := y2) (z := z2) (u := u1)
  rw [ej]
  refine ⟨?_, h.ne.2.1.1 f.1⟩
  rcases hj with ⟨e1, e2⟩ | ⟨e1, e2⟩
  · subst e1 e2
    exact h1.hol hci hjg (Or.inl rfl) rfl rfl (fun q => absurd rfl q) (fun _ => rfl) hjm hwr
  · subst e1 e2
    exact h1.hol hci hjg (Or.inr rfl) rfl rfl (fun _ => rfl) (fun q => absurd rfl q) hjm hwr
/-- the reference leads it -/
theorem SEp.ks1 (h : SEp δ e L (P.1, P.2.1, (x0, i, 1, y.toNatClampNeg, vc, vk) :: H) k0 T V W a s k X t v w) : SEp δ e L (P.1, P.2.1, (x0, i, 1, y.toNatClampNeg, vc, z) :: H) k0 T V W a s (ka k 71 y z) X t v w := SEp.go (P := (P.1, P.2.1, (x0, i, 1, y.toNatClampNeg, vc, vk) :: H)) (H' := (x0, i, 1, y.toNatClampNeg, vc, z) :: H) h (cFr.refl (F := 0) (T := 0) (B := 0) (G := 0)) (show kFr 0 2361183241434822606848 k (ka k 71 y z) from kFr.sa kFr.refl rfl) (fun n => NR.ks1 n h.k53)
theorem SEp.ks2 (h : SEp δ e L (P.1, P.2.1, (x0, i, 2, y.toNatClampNeg, vc, vk) :: H) k0 T V W a s k X t v w) : SEp δ e L (P.1, P.2.1, (x0, i, 2, y.toNatClampNeg, vc, z) :: H) k0 T V W a s (ka k 72 y z) X t v w := SEp.go (P := (P.1, P.2.1, (x0, i, 2, y.toNatClampNeg, vc, vk) :: H)) (H' := (x0, i, 2, y.toNatClampNeg, vc, z) :: H) h (cFr.refl (F := 0) (T := 0) (B := 0) (G := 0)) (show kFr 0 4722366482869645213696 k (ka k 72 y z) from kFr.sa kFr.refl rfl) (fun n => NR.ks2 n h.k53)
/-- the class leads it to the same place -/
theorem SEp.cld (h : SE e L (P.1, P.2.1, (f.1 - 1, i, j, g, vc, k210 k) :: H) k0 T V W a s k (f :: r) t v w) (hi : iv.toInt = i) (hj : j = 1 ∨ j = 2) : SE e L (P.1, P.2.1, H) k0 T V W a (c109 s s.now iv (xn j)).1 k (f :: r) t v w := by
  obtain ⟨o1, o2, o3, o4⟩ := own_e h.1.2.1 h.SZ
  have e1 : s.now = f.1 - 1 + 1 := by omega
  refine SEp.go (P := (P.1, P.2.1, (f.1 - 1, i, j, g, vc, k210 k) :: H)) (H' := H) h (fr_c109 s s.now iv (xn j)) (kFr.refl (F := 0) (A := 0)) (fun n => ?_)
  show NR e ([], []) H (ts s (.i s.now) iv (xn j) (s.r (.i s.now))) k (f :: r)
  rw [e1]
  exact NR.cld n hi (fun _ => own_e5 h.1.2.1 h.k53) (fun _ => k210_60 h.1.2.1 h.SZ)
theorem SEp.ghd {a1 b1 : Int32} (h : SEp δ e L (P.1, P.2.1, gho a1 b1 ++ H) k0 T V W a s k X t v w) (ed : a1 = b1 → δ = δ') : SEp δ' e L (P.1, P.2.1, gho a1 b1 ++ H) k0 T V W a s k X t v w := SEp.st (P := (P.1, P.2.1, gho a1 b1 ++ H)) (H' := gho a1 b1 ++ H) h (fun n => n.ghd ed)
theorem SEp.ghx {a1 b1 : Int32} (h : SEp δ e L (P.1, P.2.1, gho a1 b1 ++ H) k0 T V W a s k X t v w) : SEp δ e L (P.1, P.2.1, H) k0 T V W a s k X t v w := SEp.st (P := (P.1, P.2.1, gho a1 b1 ++ H)) (H' := H) h (fun n => n.ghx)
theorem SEp.pmH (h : SEp δ e L (P.1, P.2.1, H) k0 T V W a s k X t v w) (p : H.Perm H') : SEp δ e L (P.1, P.2.1, H') k0 T V W a s k X t v w := SEp.st (P := (P.1, P.2.1, H)) (H' := H') h (fun n => n.pmH p)
end STH
/-- two numbers that are not the same: rows are alike no more -/
theorem NR.nvh {q : Nat} {D D' : Df} {H H' : List hE} {s : cS} {k : kS} {X : List xF} {a b : Int32} (c : ¬ a = b) (h : NR q D (gho a b ++ H) s k X) : NR q D' H' s k X := ⟨h.1, fun z => ⟨(h.2 z).1, fun h6 hf => by
  obtain ⟨p, Hd, h1, h2, h3⟩ := (h.2 z).2 h6 hf
  exact absurd (h3.gh z h6 hf) c⟩⟩
/-- both write, a number in it is the same while rows are alike -/
theorem SEp.pcg {e : Nat} {L : List xR} {P : PT} {H1 H2 : List hE} {k0 k : kS} {T V W a t v w : Nat} {s : cS} {X : List xF} {x y z u x' y' z' u' a1 b1 : Int32} (h : SE e L (P.1, P.2.1, H1 ++ (gho a1 b1 ++ H2)) k0 T V W a s k X t v w) (ee : a1 = b1 → (x, y, z, u) = (x', y', z', u')) (hwm : wfa (x, y, z, u) := by exact wfa_o rfl) : SE e L (P.1, P.2.1, H1 ++ (gho a1 b1 ++ H2)) k0 T V W a (c78 s x y z u).1 (k189 k x' y' z' u').1 X t v w := by
  by_cases c : a1 = b1
  · exact SEp.pc h (ee c) hwm
  · have h1 := ((h.put (x := x') (y := y') (z := z') (u := u')).cle (x := x) (y := y) (z := z) (u := u))
    refine SEp.st (P := (P.1, P.2.1, H1 ++ (gho a1 b1 ++ H2))) h1 (fun n => NR.nvh c (n.pmH (?_ : (H1 ++ (gho a1 b1 ++ H2)).Perm (gho a1 b1 ++ (H1 ++ H2)))))
    rw [← List.append_assoc, ← List.append_assoc]
    exact List.perm_append_comm.append_right _
