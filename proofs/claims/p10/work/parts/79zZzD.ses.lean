/-! THE WALK OVER BOTH: blocks in blocks -/
/-- as SG, with e loops that have no block yet -/
def pnd : Nat → List xF → List Nat
  | 0, _ => []
  | _ + 1, [] => [0]
  | _ + 1, f :: _ => [f.2.1.length]
/-- how many loops have no block: yet (1), any more (2) -/
def er (m : Nat) : Nat := if m = 0 then 0 else 1
def NE (δ : Df) (e : Nat) (H : List hE) (s : cS) (k : kS) (X : List xF) : Prop := X ≠ [] ∧ NR e δ H s k X ∧ FB s k (sh X) ∧ CL k X ∧ LVv (pnd (er e) X) s X
def SEp (δ : Df) (e : Nat) (L : List xR) (P : PT) (k0 : kS) (T V W a : Nat) (s : cS) (k : kS) (X : List xF) (t v w : Nat) : Prop := (WR L a s k ∧ RE (er e) s k X ∧ szX X ≤ 8 * a + 8 ∧ (k.1 53).toInt ≤ a + 1 ∧ L.length ≤ 600 ∧ OU (bd a) s k X ∧ NE δ e P.2.2 s k X) ∧ KP t v w k ∧ KB T V W k0 k ∧ w ≤ a ∧ CP P a s
abbrev SE (e : Nat) (L : List xR) (P : PT) (k0 : kS) (T V W a : Nat) (s : cS) (k : kS) (X : List xF) (t v w : Nat) : Prop := SEp ([], []) e L P k0 T V W a s k X t v w
/-- how many locals there were before a block -/
theorem bef_k {k : kS} {f : xF} {r : List xF} {b : xB} {bs : List xB} (h : XK k (f :: r)) (hz : SZ (f :: r)) (hb : f.2.2.2.1 = b :: bs) (hn : b.1 ≤ f.2.1.length) (hk : b.2.2.2 ≠ 2) : k232 k = xn b.1 := by
  have zz := hz.k
  have zL : (kL (f :: r)).length = (kL r).length + f.2.1.length := by
    show (kL r ++ f.2.1).length = _
    rw [List.length_append]
  have eB : fkBl (f :: r) = (fkBl r ++ kBl (kL r).length (fLab r).length (fUm r).length r.length bs) ++ [(xn ((kL r).length + b.1), xn ((fLab r).length + (bLab bs).length), xn ((fUm r).length + (bUm bs).length), xn r.length, if b.2.2.2 = 1 then 1 else 0)] := by
    show fkBl r ++ kBl (kL r).length (fLab r).length (fUm r).length r.length f.2.2.2.1 = _
    rw [hb, show kBl (kL r).length (fLab r).length (fUm r).length r.length (b :: bs) = kBl (kL r).length (fLab r).length (fUm r).length r.length bs ++ [(xn ((kL r).length + b.1), xn ((fLab r).length + (bLab bs).length), xn ((fUm r).length + (bUm bs).length), xn r.length, if b.2.2.2 = 1 then 1 else 0)] from if_neg hk]
    exact (List.append_assoc _ _ _).symm
  generalize hB0 : fkBl r ++ kBl (kL r).length (fLab r).length (fUm r).length r.length bs = B0 at eB
  have zB : (fkBl (f :: r)).length = B0.length + 1 := by rw [eB, List.length_append]; rfl
  have eix : k.1 37 - 1 = xn B0.length := by
    rw [h.2.1.1, zB]
    have := xn_sub (n := 1) (m := B0.length) (by omega)
    rw [Nat.add_comm 1] at this
    exact this
  have hrow : (fkBl (f :: r))[B0.length]? = some (xn ((kL r).length + b.1), xn ((fLab r).length + (bLab bs).length), xn ((fUm r).length + (bUm bs).length), xn r.length, if b.2.2.2 = 1 then 1 else 0) := by
    rw [eB, List.getElem?_append_right (Nat.le_refl _), Nat.sub_self]
    rfl
  have e38 : kr k 38 (k.1 37 - 1) = xn ((kL r).length + b.1) := by
    rw [eix]
    show k.2 38 (xn B0.length).toNatClampNeg = _
    rw [xn_nat (by omega)]
    exact (h.2.1.2 _ _ hrow).1
  have e34 : kr k 34 (k.1 32) = xn (kL r).length := by
    rw [h.a32 hz]
    show k.2 34 (xn r.length).toNatClampNeg = _
    rw [xn_nat (by have : (f :: r).length = r.length + 1 := rfl; omega)]
    exact h.2.2.2.2.2.2.1
  unfold k232
  rw [e38, e34]
  exact xn_sub (by omega)
section SES
variable {δ δ' : Df} {e e' : Nat} {L : List xR} {P : PT} {k0 k k' : kS} {T V W a t v w t' : Nat} {s s' : cS} {X X' : List xF} {f : xF} {r : List xF} {b b2 : xB} {bs : List xB} {g p q c x y z u kd : Int32} {rc : cRC}
theorem SE.of (h : SG L P k0 T V W a s k X t v w) : SE 0 L P k0 T V W a s k X t v w := ⟨⟨h.1.1, h.1.2.1, h.1.2.2.1, h.1.2.2.2.1, h.1.2.2.2.2.1.1, h.1.2.2.2.2.2.1, h.ne, h.nc, h.fb, h.cc, h.lv⟩, h.2⟩
theorem SE.to (h : SE 0 L P k0 T V W a s k X t v w) : SG L P k0 T V W a s k X t v w := ⟨⟨h.1.1, h.1.2.1, h.1.2.2.1, h.1.2.2.2.1, ⟨h.1.2.2.2.2.1, h.1.2.2.2.2.2.2.2.2.1, h.1.2.2.2.2.2.2.2.2.2.1, h.1.2.2.2.2.2.2.2.2.2.2⟩, h.1.2.2.2.2.2.1, h.1.2.2.2.2.2.2.1, ⟨[], rfl, h.1.2.2.2.2.2.2.2.1⟩⟩, h.2⟩
theorem SEp.ne (h : SEp δ e L P k0 T V W a s k X t v w) : NE δ e P.2.2 s k X := h.1.2.2.2.2.2.2
theorem SEp.le (h : SEp δ e L P k0 T V W a s k X t v w) : a ≤ L.length ∧ L.length ≤ 16384 := ⟨h.1.1.2.2.1.2.2, h.1.1.1.2.1⟩
theorem SEp.sz (h : SEp δ e L P k0 T V W a s k X t v w) : szX X ≤ 8 * a + 8 := h.1.2.2.1
theorem SEp.SZ (h : SEp δ e L P k0 T V W a s k X t v w) : SZ X := SZ_of (by have := h.sz; have := h.le; omega)
theorem SEp.nam {F T' B G F' A' : Nat} (h : SEp δ e L P k0 T V W a s k X t v w) (hc : cFr F T' B G s s') (hk : kFr F' A' k k') (hn : RE (er e') s' k' X') (hz : szX X' ≤ 8 * a + 8) (ho : OU (bd a) s' k' X') (hf : NE δ' e' P.2.2 s' k' X') (c1 : F &&& 51539607552 = 0 := by rfl) (c2 : T' &&& 1288 = 0 := by rfl) (k1 : F' &&& 9007199255823473 = 0 := by rfl) (k2 : A' &&& 15169542 = 0 := by rfl) : SEp δ' e' L P k0 T V W a s' k' X' t v w := by
  refine ⟨⟨h.1.1.fr hc hk (tb0 c2 (by decide)) (tb0 c1 (by decide)) (tb0 c1 (by decide)) (sub0 k1 rfl) (sub0 k2 rfl), hn, hz, ?_, h.1.2.2.2.2.1, ho, hf⟩, ⟨(hk.1 10 (tb0 k1 (by decide))).trans h.2.1.1, (hk.1 15 (tb0 k1 (by decide))).trans h.2.1.2.1, (hk.1 20 (tb0 k1 (by decide))).trans h.2.1.2.2⟩, h.2.2.1.trans (KB.fr hk (sub0 k2 rfl)), h.2.2.2.1, h.2.2.2.2.ts (TS.of hc (sub0 c2 rfl)) (Nat.le_refl _)⟩
  rw [hk.1 53 (tb0 k1 (by decide))]
  exact h.1.2.2.2.1
theorem SEp.nfx {F T' B G F' A' : Nat} (h : SEp δ e L P k0 T V W a s k X t v w) (hc : cFr F T' B G s s') (hk : kFr F' A' k k') (e8 : kSt k k') (es : sh X = sh X') (hs : ∀ (i : Nat) (q : xR), (kL X')[i]? = some q → (kL X)[i]? = some q) (hv : fLv X' ++ pnd (er e') X' = fLv X ++ pnd (er e) X) (hN : NR e' δ' P.2.2 s' k' X') (c3 : B &&& 508 = 0 := by rfl) (k1 : F' &&& 9007199254740992 = 0 := by rfl) (k2 : A' &&& 2287828611777953792 = 0 := by rfl) (c2 : T'.testBit 28 = false := by rfl) : NE δ' e' P.2.2 s' k' X' :=
  ⟨sh_ne es h.ne.1, hN, (h.ne.2.2.1.fr hc hk c3 (sub0 k2 rfl) e8 (hk.1 53 (tb0 k1 (by decide)))).eq es, h.ne.2.2.2.1.sub hs e8 (hk.2 30 (tb0 k2 (by decide))), h.ne.2.2.2.2.same hv (hc.2.1 28 c2).1 (hc.2.1 28 c2).2⟩
/-- nothing that is counted changes -/
theorem SEp.nff {F T' B G F' A' : Nat} (h : SEp δ e L P k0 T V W a s k X t v w) (hc : cFr F T' B G s s') (hk : kFr F' A' k k') (e8 : kSt k k') (c4 : G &&& 21 = 0 := by rfl) (c3 : B &&& 508 = 0 := by rfl) (k1 : F' &&& 295156912516046520320 = 0 := by rfl) (k2 : A' &&& 18301460280696304041984 = 0 := by rfl) (c2 : T' &&& 1342177280 = 0 := by rfl) : NE δ e P.2.2 s' k' X :=
  h.nfx hc hk e8 rfl (fun _ _ q => q) rfl (h.ne.2.1.fr hc hk c2 c4 (sub0 k1 rfl) (sub0 k2 rfl) e8) c3 (sub0 k1 rfl) (sub0 k2 rfl) (tb0 c2 (by decide))
theorem SEp.ou {F T' B G F' A' : Nat} (h : SEp δ e L P k0 T V W a s k X t v w) (hc : cFr F T' B G s s') (hk : kFr F' A' k k') (g8 : G.testBit 3 = false := by rfl) (hF : F' &&& 4620693219829612544 = 0 := by rfl) (hA : A' &&& 285924533142699376640 = 0 := by rfl) : OU (bd a) s' k' X := OU.fr h.1.2.2.2.2.2.1 (hc.ou g8) hk hF hA
theorem SEp.bl (h : SEp δ e L P k0 T V W a s k X t v w) : bd a ≤ 800000 ∧ bd (a + 1) = bd a + (4 * a + 18) := ⟨bd_le (Nat.le_trans h.le.1 h.1.2.2.2.2.1), bd_s⟩
theorem SEp.rn {F T' B G F' A' : Nat} (h : SEp δ e L P k0 T V W a s k X t v w) (hc : cFr F T' B G s s') (hk : kFr F' A' k k') (c1 : F &&& 822752278660603021077484591278675410950110812984694377111683072 = 0 := by rfl) (c2 : T' &&& 352403456 = 0 := by rfl) (c3 : B &&& 7712 = 0 := by rfl) (c4 : G &&& 3 = 0 := by rfl) (k1 : F' &&& 9306408168194304 = 0 := by rfl) (k2 : A' &&& 78434616289001472 = 0 := by rfl) : RE (er e) s' k' X := h.1.2.1.frm hc hk (tb0 c1 (by decide)) (tb0 c1 (by decide)) (tb0 c1 (by decide)) (tb0 c1 (by decide)) c2 c3 c4 (sub0 k1 rfl) k2 (tb0 k1 (by decide)) (tb0 k1 (by decide))
theorem SEp.cl {F T' B G : Nat} (h : SEp δ e L P k0 T V W a s k X t v w) (hc : cFr F T' B G s s') (c1 : F &&& 822752278660603021077484591278675410950110812984694428651290624 = 0 := by rfl) (c2 : T' &&& 1426146568 = 0 := by rfl) (c3 : B &&& 8188 = 0 := by rfl) (c4 : G &&& 31 = 0 := by rfl) : SEp δ e L P k0 T V W a s' k X t v w :=
  h.nam hc (kFr.refl (F := 0) (A := 0)) (h.rn hc (kFr.refl (F := 0) (A := 0)) (sub0 c1 rfl) (sub0 c2 rfl) (sub0 c3 rfl) (sub0 c4 rfl) rfl rfl) h.sz (h.ou hc (kFr.refl (F := 0) (A := 0)) (tb0 c4 (by decide)) rfl rfl) (h.nff hc (kFr.refl (F := 0) (A := 0)) kSt.refl (sub0 c4 rfl) (sub0 c3 rfl) rfl rfl (sub0 c2 rfl)) (sub0 c1 rfl) (sub0 c2 rfl) rfl rfl
theorem SEp.kq {F' A' : Nat} (h : SEp δ e L P k0 T V W a s k X t v w) (hk : kFr F' A' k k') (k1 : F' &&& 299768897608096974193 = 0 := by rfl) (k2 : A' &&& 18587391190861269661702 = 0 := by rfl) : SEp δ e L P k0 T V W a s k' X t v w :=
  h.nam (cFr.refl (F := 0) (T := 0) (B := 0) (G := 0)) hk (h.rn (cFr.refl (F := 0) (T := 0) (B := 0) (G := 0)) hk rfl rfl rfl rfl (sub0 k1 rfl) (sub0 k2 rfl)) h.sz (h.ou (cFr.refl (F := 0) (T := 0) (B := 0) (G := 0)) hk rfl (sub0 k1 rfl) (sub0 k2 rfl)) (h.nff (cFr.refl (F := 0) (T := 0) (B := 0) (G := 0)) hk (kSt.of hk (tb0 k1 (by decide))) rfl rfl (sub0 k1 rfl) (sub0 k2 rfl) rfl) rfl rfl (sub0 k1 rfl) (sub0 k2 rfl)
theorem SEp.adv {k1 : kS} {s1 : cS} (h : SEp δ e L P k0 T V W a s k X t v w) (hw : WR L (a + 1) s1 k1) (hc : cFr 51539607552 0 0 0 s s1) (f : kFr 48 0 k k1) : SEp δ e L P k0 T V W (a + 1) s1 k1 X t v w := ⟨⟨hw, h.rn hc f, by have := h.sz; omega, by rw [f.1 53 rfl]; have := h.1.2.2.2.1; omega, h.1.2.2.2.2.1, (h.ou hc f).mono (bd_mono (Nat.le_succ _)), h.nff hc f (kSt.of f rfl)⟩, ⟨(f.1 10 rfl).trans h.2.1.1, (f.1 15 rfl).trans h.2.1.2.1, (f.1 20 rfl).trans h.2.1.2.2⟩, h.2.2.1.trans (KB.fr f rfl), by have := h.2.2.2.1; omega, h.2.2.2.2.ts (TS.of hc rfl) (Nat.le_succ _)⟩
theorem own_e (h : RE e s k (f :: r)) (hz : SZ (f :: r)) : kr k 33 (k.1 32) = xn (f.1 - 1) ∧ s.now = f.1 ∧ 1 ≤ f.1 ∧ f.1 ≤ 1000000 := by
  obtain ⟨n, n1, n2, n3⟩ := h.2.2.2.2.2.1
  have e := XKF.at h.2.1.2.2.2.2.2 (fun g hg => ⟨(n3 g hg).1, by have := (n3 g hg).2; omega⟩) [] f r rfl
  have e32 : k.1 32 = xn r.length := h.2.1.a32 hz
  have hl : (f :: r).length = r.length + 1 := rfl
  have zg : (f :: r).length ≤ 1000000 := by unfold SZ at hz; omega
  refine ⟨?_, h.1.2.2.2.2.2.2.2 f r rfl, (n3 f List.mem_cons_self).1, by have := (n3 f List.mem_cons_self).2; omega⟩
  rw [e32]
  show k.2 33 (xn r.length).toNatClampNeg = _
  rw [xn_nat (by omega)]
  exact e
theorem own_e5 (h : RE e s k (f :: r)) (h53 : (k.1 53).toInt ≤ 1000000) : ((f.1 - 1 : Nat) : Int) < (k.1 53).toInt := by
  obtain ⟨n, n1, n2, n3⟩ := h.2.2.2.2.2.1
  have := n3 f List.mem_cons_self
  rw [n1] at h53 ⊢
  rw [xn_i (by omega)]
  omega
theorem SEp.k53 (h : SEp δ e L P k0 T V W a s k X t v w) : (k.1 53).toInt ≤ 1000000 := by
  have := h.1.2.2.2.1
  have := h.le
  omega
/-- a row with a slot -/
theorem wfa_b {op a b w : Int32} (h1 : 1 ≤ op) (h2 : op ≠ 13) (ha : a.toInt ≤ 2000000) (hb : (op = 27 ∨ op = 43) → 0 ≤ b.toInt ∧ b.toInt ≤ 2000000) : wfa (op, a, b, w) := ⟨⟨h1, fun z => absurd z h2⟩, fun _ => ha, hb⟩
theorem SEp.de0 (h : SEp δ e L P k0 T V W a s k X t v w) (ed : δ.1 = δ.2) (hwm : wfl δ.1 := by first | exact wfl_0 | exact wfl_1 rfl | exact wfl_2 rfl rfl | exact wfl_3 rfl rfl rfl) : SE e L P k0 T V W a s k X t v w := ⟨⟨h.1.1, h.1.2.1, h.1.2.2.1, h.1.2.2.2.1, h.1.2.2.2.2.1, h.1.2.2.2.2.2.1, h.ne.1, h.ne.2.1.de0 ed hwm, h.ne.2.2⟩, h.2⟩
theorem SEp.w63 (h : SEp δ e L P k0 T V W a s k X t v w) : c63 s = k.1 4 := h.1.1.w63
/-- the class writes -/
theorem SEp.cle (h : SEp δ e L P k0 T V W a s k X t v w) : SEp (δ.1 ++ [(x, y, z, u)], δ.2) e L P k0 T V W a (c78 s x y z u).1 k X t v w := by
  have hc := fr_c78 s x y z u
  exact h.nam hc (kFr.refl (F := 0) (A := 0)) (h.rn hc (kFr.refl (F := 0) (A := 0))) h.sz (h.ou hc (kFr.refl (F := 0) (A := 0))) ⟨h.ne.1, h.ne.2.1.cle, h.ne.2.2.1.fr hc (kFr.refl (F := 0) (A := 0)) rfl rfl id rfl, h.ne.2.2.2.1, h.ne.2.2.2.2.fr hc (Nat.zero_testBit _)⟩
/-- the reference writes -/
theorem SEp.put (h : SEp δ e L P k0 T V W a s k X t v w) : SEp (δ.1, δ.2 ++ [(x, y, z, u)]) e L P k0 T V W a s (k189 k x y z u).1 X t v w := by
  have hk := fr_k189 k x y z u
  have e8 : (k189 k x y z u).1.1 8 = 0 → k.1 8 = 0 := fun q => by rw [← hk.1 8 rfl]; exact q
  obtain ⟨f, r, rfl⟩ : ∃ f r, X = f :: r := by
    cases X with
    | nil => exact absurd rfl h.ne.1
    | cons f r => exact ⟨f, r, rfl⟩
  obtain ⟨o1, o2, o3, o4⟩ := own_e h.1.2.1 h.SZ
  exact h.nam (cFr.refl (F := 0) (T := 0) (B := 0) (G := 0)) hk (h.rn (cFr.refl (F := 0) (T := 0) (B := 0) (G := 0)) hk) h.sz (h.ou (cFr.refl (F := 0) (T := 0) (B := 0) (G := 0)) hk) ⟨h.ne.1, h.ne.2.1.putn (x0 := f.1 - 1) o1 (by omega) (own_e5 h.1.2.1 h.k53) h.k53, h.ne.2.2.1.fr (cFr.refl (F := 0) (T := 0) (B := 0) (G := 0)) hk rfl rfl e8 (hk.1 53 rfl), h.ne.2.2.2.1.fr hk rfl e8, h.ne.2.2.2.2⟩
theorem SEp.pc {x' y' z' u' : Int32} (h : SE e L P k0 T V W a s k X t v w) (ee : (x, y, z, u) = (x', y', z', u')) (hwm : wfa (x, y, z, u) := by exact wfa_o rfl) : SE e L P k0 T V W a (c78 s x y z u).1 (k189 k x' y' z' u').1 X t v w := ((h.put).cle).de0 (by rw [ee]) (wfl_c hwm wfl_0)
theorem SEp.tkl {K : Int32} (h : SEp δ e L P k0 T V W a s k X t v w) (hp : LEV K) : (∃ q s1 k1, L[a]? = some q ∧ q.1 = K ∧ c64 s K = (s1, some q.2.1) ∧ k199 k K = (k1, 1) ∧ SEp δ e L P k0 T V W (a + 1) s1 k1 X t v w ∧ cFr 51539607552 0 0 0 s s1 ∧ kFr 48 0 k k1) ∨ ((c64 s K).2 = none ∧ (k199 k K).2 = 0 ∧ (k199 k K).1.1 6 ≠ 0) := by
  rcases tk_kd h.1.1 hp.1 hp.2.1 with ⟨q, q1, q2, q3, q4, q5⟩ | ⟨q1, q2, q3⟩
  · left
    obtain ⟨u1, u2⟩ := h.1.1.le q1 (by rw [q2]; exact hp.2.2.1 s) (by rw [q2]; exact hp.2.2.2 s)
    have hc : cFr 51539607552 0 0 0 s (nf (nf s 2 3 (s.f 2 3 - 1)) 2 2 (xn (a + 1))) := (cFr.refl.sf rfl).sf rfl
    have hk : kFr 48 0 k (kf (kf k 4 (k.1 4 + 1)) 5 (k.1 5 - 1)) := kFr.sf (kFr.sf kFr.refl rfl) rfl
    refine ⟨q, _, _, q1, q2, by rw [q5, u1], ?_, h.adv u2 hc hk, hc, hk⟩
    unfold k199 k200
    rw [if_pos q4]
    rfl
  · right
    refine ⟨q3, ?_⟩
    unfold k199 k200
    rw [if_neg q2]
    unfold k199_5
    rw [if_neg (fun z => z (k194_f (by decide)).2.2)]
    exact ⟨rfl, (k194_f (by decide)).1⟩
theorem SEp.reb (h : SEp δ e L P k0 T V W a s k X t v w) {a' e1 : Nat} {X' : List xF} {T' V' W' v' w' : Nat} (h' : SEp δ' e1 L P k T' V' W' a' s' k' X' t' v' w') (h1 : T ≤ T') (h2 : V ≤ V') (h3 : W ≤ W') : SEp δ' e1 L P k0 T V W a' s' k' X' t' v' w' := ⟨h'.1, h'.2.1, h.2.2.1.trans (h'.2.2.1.mono h1 h2 h3), h'.2.2.2⟩
theorem SEp.own {t1 v1 w1 : Nat} (h : SEp δ e L P k0 T V W a s k X t v w) : SEp δ e L P k t1 v1 w1 a s k X t v w := ⟨h.1, h.2.1, KB.refl, h.2.2.2⟩
/-- an expression, a block above a goal that is there -/
theorem ex_go (h70 : E70 rc L) (h1 : SG L P k0 T V W a s k X (t + 1) v w) (g1 : GT t g p q c k) (hX : X ≠ []) (hT : T ≤ t) (hV : V ≤ v) (hW : W ≤ w) (hr : RO L a (t + 2) v) : QC (fun s' k' _ => ∃ a', a < a' ∧ SGp (some (v, true)) ([], []) L P k0 T V W a' s' k' X (t + 1) (v + 1) w ∧ LR s' k' v ∧ GT t g p q c k') (k186 k 0).1 (rc 70 s 0 0 0 0 0 0 0) := by
  show QC _ (k179 k 23 0 0 0).1 _
  obtain ⟨h2, g2⟩ := h1.psh (g := 23) (p := 0) (q := 0) (c := 0) (by omega) (by have := hr.1; omega)
  have b2 : KB (t + 1) v w k (k179 k 23 0 0 0).1 := (GT.psh (t := t + 1) (g := 23) (a := 0) (b := 0) (c := 0) h1.2.1.1 (by have := hr.1; omega)).2
  generalize (k179 k 23 0 0 0).1 = k2 at h2 g2 b2
  have ec := h70 X (t + 1) v w hX a s k2 P h2.1 ⟨trivial, g2.2.1, g2.2.2.1, h2.2.1.1, h2.2.1.2.1, NV0⟩ h2.2.2.2.2 ⟨by have := hr.1; show t + 1 + 2 * 0 + _ + 8 ≤ _; omega, by have := hr.2; show v + 0 + _ + 8 ≤ _; omega⟩ ⟨h2.2.1.2.2, h2.2.2.2.1⟩
  intro s' o e
  obtain ⟨e1, e2⟩ := ec s' o e
  refine ⟨fun x z => ?_, e2⟩
  obtain ⟨j, a', r1, ⟨r2, rT, rL⟩, r3, r4, r5, r6⟩ := e1 (by rw [z]; exact fun q => nomatch q)
  exact ⟨j, a', r1, ⟨r2, ⟨r3, r4, r5.trans h2.2.1.2.2⟩, h2.2.2.1.trans (r6.mono (by omega) hV hW), by have := h2.2.2.2.1; omega, rT, by have := h2.2.2.2.2.2.1; omega, by have := h2.2.2.2.2.2.2; omega⟩, rL, g1.bck (b2.trans r6) r3⟩
theorem bk_go (h52 : E52 rc L) (h1 : SG L P k0 T V W a s k X (t + 1) v w) (g1 : GT t g p q c k) (hB : XB X) (hT : T ≤ t) (hV : V ≤ v) (hW : W ≤ w) (hr : RO L a (t + 5) (v + 4)) : QC (fun s' k' _ => (∃ a' X', a ≤ a' ∧ SG L P k0 T V W a' s' k' X' (t + 1) v w ∧ XQ X X' ∧ GT t g p q c k') ∨ (k'.1 6 ≠ 0 ∧ ¬ FOL (c53 s'))) (k178 k).1 (rc 52 s 0 0 0 0 0 0 0) := by
  show QC _ (k179 k 1 0 0 0).1 _
  obtain ⟨h2, g2⟩ := h1.psh (g := 1) (p := 0) (q := 0) (c := 0) (by omega) (by have := hr.1; omega)
  have b2 : KB (t + 1) v w k (k179 k 1 0 0 0).1 := (GT.psh (t := t + 1) (g := 1) (a := 0) (b := 0) (c := 0) h1.2.1.1 (by have := hr.1; omega)).2
  generalize (k179 k 1 0 0 0).1 = k2 at h2 g2 b2
  refine (h52 a s k2 X (t + 1) v w h2.own hB g2 ⟨by have := hr.1; omega, by have := hr.2; omega⟩).mono ?_
  rintro s3 k3 x3 (⟨a3, X3, u1, u2, u3⟩ | u)
  · exact Or.inl ⟨a3, X3, u1, h2.reb u2 (by omega) hV hW, u3, g1.bck (b2.trans u2.2.2.1) u2.2.1.1⟩
  · exact Or.inr u
theorem GT.put (h : GT t g p q c k) : GT t g p q c (k189 k x y z u).1 := h.bck (v := 0) (w := 0) (KB.fr (fr_k189 k x y z u) rfl) (((fr_k189 k x y z u).1 10 rfl).trans h.1)
/-- a block begins -/
theorem SEp.bgn (h : SE e L P k0 T V W a s k (f :: r) t v w) (hp : f.2.2.1 = []) (hk : (e = 0 ∧ kd = 0) ∨ (e = 1 ∧ kd = 1)) (hz : szX (f :: r) ≤ 8 * a) : SG L P k0 T V W a (c51 s).1 (k177 k kd).1 (xo f e :: r) t v w := by
  have hs : szX (xo f e :: r) ≤ 8 * a + 8 := by
    rw [sz_xo]
    split <;> omega
  have zk := h.SZ.k
  have e37 : k.1 37 = xn (jfK (jx (f :: r))) := by rw [← jfK_len]; exact h.1.2.1.2.1.2.1.1
  have en : (k.1 37).toNatClampNeg = jfK (jx (f :: r)) := by rw [e37]; exact xn_nat (by rw [← jfK_len]; omega)
  have f43 : ∀ (d : Int32) (i : Nat), i < jfK (jx (f :: r)) → (k177 k d).1.2 43 i = k.2 43 i := fun d i hi => by
    show upd (k.2 43) (k.1 37).toNatClampNeg 0 i = _
    rw [en]
    exact if_neg (by omega)
  have n43 : ∀ d : Int32, (k177 k d).1.2 43 (jfK (jx (f :: r))) = 0 := fun d => by
    show upd (k.2 43) (k.1 37).toNatClampNeg 0 _ = _
    rw [en]
    exact if_pos rfl
  rcases hk with ⟨rfl, rfl⟩ | ⟨rfl, rfl⟩
  · exact SE.to (SEp.nam h (fr_c51 s) (fr_k177 k 0) (RN.opn h.1.2.1 h.SZ hp) hs ((h.ou (fr_c51 s) (fr_k177 k 0)).cut rfl (Nat.le_refl _) (Nat.le_refl _)) (h.nfx (fr_c51 s) (fr_k177 k 0) (kSt.of (fr_k177 k 0) rfl) rfl (fun _ _ q => q) (by
      show (fLv r ++ (bLv f.2.2.2.1 ++ (if (0 : Nat) = 1 then [(f.2.1 ++ f.2.2.1).length] else []))) ++ [] = (fLv r ++ bLv f.2.2.2.1) ++ []
      rw [if_neg (by decide), List.append_nil, List.append_nil, List.append_nil]) (h.ne.2.1.opb (kd := 0) rfl rfl (by decide) (fr_c51 s) (fr_k177 k 0) (f43 0) (kSt.of (fr_k177 k 0) rfl))))
  · exact SE.to (SEp.nam h (fr_c51 s) (fr_k177 k 1) (RE.opl (e := 0) h.1.2.1 h.SZ hp) hs ((h.ou (fr_c51 s) (fr_k177 k 1)).cut rfl (Nat.le_refl _) (Nat.le_refl _)) (h.nfx (fr_c51 s) (fr_k177 k 1) (kSt.of (fr_k177 k 1) rfl) rfl (fun _ _ q => q) (by
      show (fLv r ++ (bLv f.2.2.2.1 ++ (if (1 : Nat) = 1 then [(f.2.1 ++ f.2.2.1).length] else []))) ++ [] = (fLv r ++ bLv f.2.2.2.1) ++ [f.2.1.length]
      rw [if_pos rfl, List.append_nil, hp, List.append_nil, List.append_assoc]) (h.ne.2.1.opl rfl rfl (fr_c51 s) (fr_k177 k 1) (f43 1) (n43 1) (kSt.of (fr_k177 k 1) rfl))))
theorem xc_e (hb : f.2.2.2.1 = b :: b2 :: bs) : xc f = (f.1, f.2.1.take b.1, [], (b2.1, b2.2.1, b2.2.2.1 ++ xcb b, b2.2.2.2) :: bs, f.2.2.2.2) := by unfold xc; rw [hb]
theorem xc_1 (hb : f.2.2.2.1 = b :: b2 :: bs) : (xc f).1 = f.1 := by rw [xc_e hb]
theorem xc_2 (hb : f.2.2.2.1 = b :: b2 :: bs) : (xc f).2.1.length ≤ f.2.1.length := by rw [xc_e hb]; show (f.2.1.take b.1).length ≤ _; rw [List.length_take]; exact Nat.min_le_right _ _
theorem xc_3 (hb : f.2.2.2.1 = b :: b2 :: bs) : (xc f).2.2.1.length ≤ f.2.2.1.length := by rw [xc_e hb]; exact Nat.zero_le _
theorem sz_kb {X : List xF} {a : Nat} (hs : szX X ≤ 8 * a + 8) (ha : a ≤ 16384) : (fkBl X).length ≤ 1000000 := by
  have q : SZ X := SZ_of (by omega)
  have := q.k
  omega
/-- a block ends -/
theorem SGp.cls (h : SG L P k0 T V W a s k (f :: r) t v w) (hb : f.2.2.2.1 = b :: b2 :: bs) (hp : f.2.2.1 = []) (hk : b.2.2.2 = e) (he : (e = 0 ∧ e' = 0) ∨ (e = 1 ∧ e' = 2)) : SE e' L P k0 T V W a (c81 s).1 (k224 k).1 (xc f :: r) t v w := by
  have hs : szX (xc f :: r) ≤ 8 * a + 8 := by
    have := sz_xc (r := r) hb
    have := h.sz
    omega
  have hn : b.1 ≤ f.2.1.length := by
    have z := h.1.2.1.2.2.1.1
    rw [hb] at z
    exact z.1
  have tp : ∀ (i : Nat) (q : xR), (kL (xc f :: r))[i]? = some q → (kL (f :: r))[i]? = some q := fun i q hq => by
    have e1 : kL (xc f :: r) = (kL (f :: r)).take ((kL r).length + b.1) := by
      rw [show kL (xc f :: r) = kL r ++ (xc f).2.1 from rfl, xc_e hb, show kL (f :: r) = kL r ++ f.2.1 from rfl, List.take_append, List.take_of_length_le (l := kL r) (by omega), Nat.add_sub_cancel_left]
    rw [e1] at hq
    rw [List.getElem?_take] at hq
    split at hq
    · exact hq
    · cases hq
  have se : sh (f :: r) = sh (xc f :: r) := sh_eq (xc_1 hb) (by rw [xc_e hb]) hp
  have ev : fLv (xc f :: r) ++ pnd (er e') (xc f :: r) = fLv (f :: r) ++ pnd (er 0) (f :: r) := by
    have e1 : (xc f).2.1.length = b.1 := by
      rw [xc_e hb]
      show (f.2.1.take b.1).length = _
      rw [List.length_take]
      omega
    have e2 : bLv (xc f).2.2.2.1 = bLv (b2 :: bs) := by rw [xc_e hb]; rfl
    have e3 : bLv f.2.2.2.1 = bLv (b2 :: bs) ++ (if b.2.2.2 = 1 then [b.1] else []) := by rw [hb]; rfl
    show (fLv r ++ bLv (xc f).2.2.2.1) ++ pnd (er e') (xc f :: r) = (fLv r ++ bLv f.2.2.2.1) ++ []
    rw [e2, e3, hk]
    rcases he with ⟨rfl, rfl⟩ | ⟨rfl, rfl⟩
    · rw [if_neg (by decide), List.append_nil, List.append_nil]
      exact List.append_nil _
    · rw [if_pos rfl, List.append_nil, List.append_assoc]
      show _ ++ (_ ++ [(xc f).2.1.length]) = _
      rw [e1]
  have oc : OU (bd a) (c81 s).1 (k224 k).1 (xc f :: r) := (h.ou (fr_c81 s) (fr_k224 k)).cut (xc_1 hb) (xc_2 hb) (xc_3 hb)
  obtain ⟨o1, o2, o3, o4⟩ := own_k h.1.2.1 h.SZ
  rcases he with ⟨rfl, rfl⟩ | ⟨rfl, rfl⟩
  · have hN : NR 0 ([], []) P.2.2 (c81 s).1 (k224 k).1 (xc f :: r) := h.nc.clb h.1.2.1.1 h.SZ hb hp hn o3 (fr_k224 k) ((fr_k224 k).2 43 rfl) (kSt.of (fr_k224 k) rfl) (Or.inl ⟨by rw [hk]; decide, rfl, rfl⟩)
    exact SEp.nam (SE.of h) (fr_c81 s) (fr_k224 k) (RE.of (RN.cls h.1.2.1 h.SZ hb hp hk)) hs oc ((SE.of h).nfx (fr_c81 s) (fr_k224 k) (kSt.of (fr_k224 k) rfl) se tp ev hN)
  · have re := RE.cll (e := 0) (RE.of h.1.2.1) h.SZ hb hp hk
    have ej : jfK (jx (xc f :: r)) = jfK (jx r) + jK (jb (b2 :: bs)) := by
      rw [jx_c hb]
      rfl
    have e37 : (k224 k).1.1 37 = xn (jfK (jx r) + jK (jb (b2 :: bs))) := by
      rw [← ej, ← jfK_len]
      exact re.2.1.2.1.1
    have zz : jfK (jx r) + jK (jb (b2 :: bs)) ≤ 1000000 := by
      rw [← ej, ← jfK_len]
      exact sz_kb hs (Nat.le_trans h.le.1 h.le.2)
    have hN : NR 2 ([], []) P.2.2 (c81 s).1 (k224 k).1 (xc f :: r) := h.nc.clb h.1.2.1.1 h.SZ hb hp hn o3 (fr_k224 k) ((fr_k224 k).2 43 rfl) (kSt.of (fr_k224 k) rfl) (Or.inr ⟨hk, rfl, rfl, e37, zz⟩)
    exact SEp.nam (SE.of h) (fr_c81 s) (fr_k224 k) re hs oc ((SE.of h).nfx (fr_c81 s) (fr_k224 k) (kSt.of (fr_k224 k) rfl) se tp ev hN)
theorem XQ.cls {f' : xF} {l : List xR} {d' : xB} {n : Nat} (hp : f.2.2.1 = []) (hb : f.2.2.2.1 = b2 :: bs) (e1 : f'.1 = f.1) (e2 : f'.2.1 = f.2.1 ++ l) (e3 : f'.2.2.2.1 = d' :: b2 :: bs) (e4 : d'.1 = f.2.1.length) (e5 : f'.2.2.2.2 = f.2.2.2.2) : XQ (f :: r) (xc f' :: r) := by
  have ex : xc f' = (f'.1, f'.2.1.take d'.1, [], (b2.1, b2.2.1, b2.2.2.1 ++ xcb d', b2.2.2.2) :: bs, f'.2.2.2.2) := by unfold xc; rw [e3]
  rw [ex]
  refine ⟨f, _, r, [], b2, _, bs, rfl, rfl, ⟨hp, rfl, e1⟩, ?_, ⟨hb, rfl, rfl, rfl⟩, e5⟩
  show f'.2.1.take d'.1 = _
  rw [e2, e4, List.take_left, List.append_nil]
/-- a block in a block: the reference is about to end it -/
def E128 (rc : cRC) (L : List xR) : Prop := ∀ {P : PT} (e e' : Nat) (kd : Int32) (a : Nat) (s : cS) (k : kS) (X : List xF) (t v w : Nat) (g p q c : Int32), SE e L P k t v w a s k X t v w → XB X → (e = 0 ∧ kd = 0 ∧ e' = 0) ∨ (e = 1 ∧ kd = 1 ∧ e' = 2) → szX X ≤ 8 * a → RO L a (t + 5) (v + 4) → QC (fun s' k' _ => (∃ a' X', a ≤ a' ∧ SE e' L P k t v w a' s' (k242 (kf k' 10 (xn t))).1 X' t v w ∧ XQ X X' ∧ GT t g p q c k') ∨ (k'.1 6 ≠ 0 ∧ ¬ FOL (c53 s'))) (k178 (k179 (k177 k kd).1 g p q c).1).1 (rc 128 s 0 0 0 0 0 0 0)
theorem ib_all (h52 : E52 rc L) (h : SE e L P k t v w a s k X t v w) (hB : XB X) (hk : (e = 0 ∧ kd = 0 ∧ e' = 0) ∨ (e = 1 ∧ kd = 1 ∧ e' = 2)) (hz : szX X ≤ 8 * a) (hr : RO L a (t + 5) (v + 4)) : QC (fun s' k' _ => (∃ a' X', a ≤ a' ∧ SE e' L P k t v w a' s' (k242 (kf k' 10 (xn t))).1 X' t v w ∧ XQ X X' ∧ GT t g p q c k') ∨ (k'.1 6 ≠ 0 ∧ ¬ FOL (c53 s'))) (k178 (k179 (k177 k kd).1 g p q c).1).1 (c128 rc s) := by
  obtain ⟨f, r, b, bs, rfl, e2, e3, e4⟩ := hB
  have he : (e = 0 ∧ e' = 0) ∨ (e = 1 ∧ e' = 2) := hk.imp (fun z => ⟨z.1, z.2.2⟩) (fun z => ⟨z.1, z.2.2⟩)
  have h1 := h.bgn e2 (hk.imp (fun z => ⟨z.1, z.2.1⟩) (fun z => ⟨z.1, z.2.1⟩)) hz
  have hB1 : XB (xo f e :: r) := ⟨xo f e, r, _, f.2.2.2.1, rfl, e2, rfl, by show e ≠ 2; omega⟩
  unfold c128 c128_7
  refine (bl_call h52 h1 hB1 (Nat.le_refl _) (Nat.le_refl _) (Nat.le_refl _) hr).bnd ?_
  rintro s6 k6 x6 (⟨a6, X6, v1, v2, v3, v4⟩ | ⟨v1, v2⟩)
  · have h7 := v2.top (t' := t)
    generalize hk7 : kf k6 10 (xn t) = k7 at h7
    obtain ⟨g0, g', r', l, d, d', ds, w1, w2, ⟨w3, w4, w5⟩, w6, ⟨w7, w8, w9, w10⟩, w11⟩ := v3
    cases w1
    cases w7
    rw [w2] at h7
    rw [e3] at w8
    have hd : d'.1 = f.2.1.length := by
      rw [w9]
      show (f.2.1 ++ f.2.2.1).length = _
      rw [e2, List.append_nil]
    have xq : XQ (f :: r) (xc g' :: r) := XQ.cls (n := 0) e2 e3 w5 w6 w8 hd w11
    have cl : ∀ (s2 : cS) (k2 : kS), SG L P k t v w a6 s2 k2 (g' :: r) t v w → SE e' L P k t v w a6 (c81 s2).1 (k224 k2).1 (xc g' :: r) t v w := fun s2 k2 q => q.cls w8 w4 w10 he
    have hh := has_b h7.1.2.1 h7.SZ w8 w4 (by rw [w10]; show e ≠ 2; omega)
    have fin : ∀ s2 : cS, SE e' L P k t v w a6 (c81 s2).1 (k242 k7).1 (xc g' :: r) t v w → QC (fun s' k' _ => (∃ a' X', a ≤ a' ∧ SE e' L P k t v w a' s' (k242 (kf k' 10 (xn t))).1 X' t v w ∧ XQ (f :: r) X' ∧ GT t g p q c k') ∨ (k'.1 6 ≠ 0 ∧ ¬ FOL (c53 s'))) k6 (some ((c81 s2).1, some 0)) := fun s2 q => QC.ret (Or.inl ⟨a6, _, v1, by rw [hk7]; exact q, xq, v4⟩)
    show QC _ _ (c128_11 rc s6)
    unfold c128_11
    by_cases c1 : c129 s6 = 0
    · rw [if_pos c1]
      refine fin s6 ?_
      unfold k242
      rw [if_pos (hh.mp c1)]
      exact cl s6 k7 h7
    · rw [if_neg c1]
      refine fin _ ?_
      unfold k242
      rw [if_neg (fun z => c1 (hh.mpr z))]
      have hbn : d'.1 ≤ g'.2.1.length := by
        have z := h7.1.2.1.2.2.1.1
        rw [w8] at z
        exact z.1
      exact cl _ _ (h7.pc (by rw [bef_c h7.1.2.1.1 h7.SZ w8 hbn, bef_k h7.1.2.1.2.1 h7.SZ w8 hbn (by rw [w10]; show e ≠ 2; omega)]))
  · show QC _ _ (c128_11 rc s6)
    unfold c128_11
    by_cases c1 : c129 s6 = 0
    · rw [if_pos c1]
      exact QC.ret (Or.inr ⟨v1, by rw [c53_fr (fr_c81 s6)]; exact v2⟩)
    · rw [if_neg c1]
      unfold c128_36
      exact QC.ret (Or.inr ⟨v1, by rw [c53_fr (fr_c81 _), c53_fr (fr_c78 s6 33 (c82 s6) 0 0)]; exact v2⟩)
end SES
