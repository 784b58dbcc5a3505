/-! THE CLASS: one field is written -/
theorem SHf.set {F : c_F} {A : c_A} {R : c_R} {G : c_G} {aw k c b t : Nat} {fs : List Value} {v : Value} (h : SHf F A R G aw) (hk : F k = some (c, fs)) (hc : c ≠ 3 ∧ c ≠ 4 ∧ c ≠ 5 ∧ c ≠ 11) (ht : (c_ty c)[b]? = some t) (hv : c_v F A R t v) : SHf (c_set F k (c, fs.set b v)) A R G aw := by
  obtain ⟨h3, h4, h5, h11⟩ := hc
  have hcl := fun j => c_set_cl (fs' := fs.set b v) hk j
  have hne : ∀ j c' q, F j = some (c', q) → c' ≠ c → c_set F k (c, fs.set b v) j = F j := fun j c' q hj he => c_set_ne (fun e => he (by subst e; rw [hk] at hj; cases hj; rfl))
  have hback : ∀ j c' q, c_set F k (c, fs.set b v) j = some (c', q) → c' ≠ c → F j = some (c', q) := fun j c' q hj he => by
    by_cases e : j = k
    · subst e; rw [c_set_eq] at hj; cases hj; exact absurd rfl he
    · rw [c_set_ne e] at hj; exact hj
  have hm : ∀ j c', cl F j = some c' → cl (c_set F k (c, fs.set b v)) j = some c' := fun j c' q => by rw [hcl]; exact q
  refine ⟨fun j c' q hj => ?_, fun p hp => by rw [hcl]; exact h.s p hp, fun j a r hj => ?_, ?_, ?_, ?_, fun a q1 q2 q3 q4 e => ?_, fun a i x e => by rw [hcl]; exact h.rg a i x e, fun j c' q hj => ?_, h.rr, ?_⟩
  · by_cases e : j = k
    · subst e
      rw [c_set_eq] at hj
      cases hj
      rcases h.t _ _ _ hk with e | ⟨e1, e2⟩
      · exact absurd e h11
      · exact Or.inr ⟨e1, c_f_mono hm (fun _ _ z => z) (fun _ _ z => z) (c_f_set e2 ht hv)⟩
    · rw [c_set_ne e] at hj
      rcases h.t _ _ _ hj with e | ⟨e1, e2⟩
      · exact Or.inl e
      · exact Or.inr ⟨e1, c_f_mono hm (fun _ _ z => z) (fun _ _ z => z) e2⟩
  · exact h.tb j a r (hback _ _ _ hj (fun e => h3 e.symm))
  · obtain ⟨r, hr⟩ := h.aw
    exact ⟨r, by rw [hne _ _ _ hr (fun e => h3 e.symm)]; exact hr⟩
  · obtain ⟨ed, sz, mc, h1, h2⟩ := h.l6
    exact ⟨ed, sz, mc, by rw [hne _ _ _ h1 (fun e => h5 e.symm)]; exact h1, h2⟩
  · obtain ⟨ed, sz, mc, h1, h2⟩ := h.l13
    exact ⟨ed, sz, mc, by rw [hne _ _ _ h1 (fun e => h5 e.symm)]; exact h1, h2⟩
  · have e1 := hback _ _ _ e (fun z => h5 z.symm)
    intro e2
    exact h.ld a q1 q2 q3 q4 e1 (hback _ _ _ e2 (fun z => h5 z.symm))
  · by_cases e : j = k
    · subst e
      rw [c_set_eq] at hj
      cases hj
      exact h.rf _ _ _ hk
    · rw [c_set_ne e] at hj
      exact h.rf _ _ _ hj
  · obtain ⟨k1, c1, m1, s1, q1, h1, h2, h3'⟩ := h.ct
    exact ⟨k1, c1, m1, s1, q1, by rw [hne _ _ _ h1 (fun e => h4 e.symm)]; exact h1, by rw [hne _ _ _ h2 (fun e => h5 e.symm)]; exact h2, h3'⟩
theorem c_phi_set {F : c_F} {A : c_A} {k c : Nat} {fs fs' : List Value} (hk : F k = some (c, fs)) (hc : c ≠ 3) (j : Nat) : c_phi (c_set F k (c, fs')) A j = c_phi F A j := by
  by_cases e : j = k
  · subst e
    unfold c_phi
    rw [c_set_eq, hk]
    split
    · rename_i h; cases h; exact absurd rfl hc
    · split
      · rename_i h; cases h; exact absurd rfl hc
      · rfl
  · unfold c_phi
    rw [c_set_ne e]
theorem iv_set {S : am_S} {k c b : Nat} {fs : List Value} {v : Value} (hk : am_fs S k = some (c, fs)) {j i : Nat} (h : j ≠ k ∨ i ≠ b) : iv (am_so S k (c, fs.set b v)) j i = iv S j i := by
  unfold iv
  rw [so_fs hk]
  by_cases e : j = k
  · subst e
    have hi : i ≠ b := h.resolve_left (fun q => q rfl)
    rw [c_set_eq, hk]
    show (match (fs.set b v)[i]? with | some (.int x) => x.toInt | _ => 0) = _
    rw [List.getElem?_set_ne (fun q => hi q.symm)]
    rfl
  · rw [c_set_ne e]
theorem iv_set_eq {S : am_S} {k c b : Nat} {fs : List Value} {x : Int32} (hk : am_fs S k = some (c, fs)) (hb : b < fs.length) : iv (am_so S k (c, fs.set b (.int x))) k b = x.toInt := by
  unfold iv
  rw [so_fs hk, c_set_eq]
  show (match (fs.set b (.int x))[b]? with | some (.int x) => x.toInt | _ => 0) = _
  rw [List.getElem?_set_self hb]
/-- nothing that counts is changed -/
def Sm (aw : Nat) (S S' : am_S) : Prop := SH aw S' ∧ Ex S S' ∧ (nx S' = nx S ∧ lv S' = lv S ∧ wr S' = wr S ∧ kA aw S' = kA aw S) ∧ (os S' = os S ∧ nw S' = nw S ∧ fl S' = fl S) ∧ (∀ t, cl (am_fs S) t = some 3 → iv S' t 1 = iv S t 1) ∧ EN S' ≤ EN S
/-- words and levels stay, the heap may cost c more -/
def Qu (aw : Nat) (c : Int) (S S' : am_S) : Prop := SH aw S' ∧ Ex S S' ∧ (nx S' = nx S ∧ lv S' = lv S ∧ wr S' = wr S ∧ kA aw S' = kA aw S) ∧ (os S' = os S ∧ nw S' = nw S ∧ fl S' = fl S) ∧ EN S' ≤ EN S + c
theorem Sm.qu {aw : Nat} {S S' : am_S} (h : Sm aw S S') : Qu aw 0 S S' := ⟨h.1, h.2.1, h.2.2.1, h.2.2.2.1, by have := h.2.2.2.2.2; omega⟩
theorem Sm.refl {aw : Nat} {S : am_S} (h : SH aw S) : Sm aw S S := ⟨h, Ex.refl S, ⟨rfl, rfl, rfl, rfl⟩, ⟨rfl, rfl, rfl⟩, fun _ _ => rfl, Int.le_refl _⟩
theorem SH.len {aw k c : Nat} {S : am_S} {fs : List Value} (h : SH aw S) (hk : am_fs S k = some (c, fs)) (hc : c ≠ 11) : fs.length = (c_ty c).length := by
  rcases h.1.t _ _ _ hk with e | ⟨-, e⟩
  · exact absurd e hc
  · exact c_f_len e
theorem SH.setv {aw k c b t : Nat} {S : am_S} {fs : List Value} {v : Value} (h : SH aw S) (hk : am_fs S k = some (c, fs)) (hc : c ≠ 3 ∧ c ≠ 4 ∧ c ≠ 5 ∧ c ≠ 11) (ht : (c_ty c)[b]? = some t) (hv : c_v (am_fs S) (am_arq S) (am_rar S) t v) : SH aw (am_so S k (c, fs.set b v)) ∧ Ex S (am_so S k (c, fs.set b v)) ∧ EN (am_so S k (c, fs.set b v)) = EN S := by
  refine ⟨⟨?_, by rw [so_len]; exact h.2⟩, so_ex hk hc.2.2.2 (fun j c' fs' hj => h.1.rf j c' fs' hj), ?_⟩
  · rw [so_fs hk, so_arq hk, so_rar hk, so_rrf hk]
    exact h.1.set hk hc ht hv
  · have n3 : ∀ j, cl (am_fs S) j = some 3 → j ≠ k := fun j h4 e => by
      subst e
      rw [cl_mk hk] at h4
      exact hc.1 (Option.some.inj h4)
    unfold EN
    rw [iv_set hk (Or.inl (n3 8 (h.1.s (8, 3) (by decide)))), iv_set hk (Or.inl (n3 10 (h.1.s (10, 3) (by decide))))]
    rw [so_fs hk, so_arq hk, so_len]
    show 128 * (S.2.1 : Int) + S.2.2 + _ + _ + _ = _
    rw [c_sum_ext _ (fun j _ => c_phi_set hk hc.1 j)]
theorem SH.nwc {aw : Nat} {S : am_S} (h : SH aw S) : cl (am_fs S) (nw S) = some 8 := by
  obtain ⟨fs', hf⟩ := cl_of (h.1.s (12, 7) (by decide))
  rcases h.1.t _ _ _ hf with e | ⟨-, e⟩
  · cases e
  · obtain ⟨w, w1, ⟨q, w2, w3⟩⟩ := c_f_get (j := 6) (t := 18) e rfl
    subst w2
    unfold nw
    have hf' : am_fs S 12 = some (7, fs') := hf
    rw [hf']
    show cl (am_fs S) (match fs'[6]? with | some (Value.ref b) => b | _ => 0) = some 8
    rw [w1]
    exact w3
theorem nw_set {S : am_S} {k c b : Nat} {fs : List Value} {v : Value} (hk : am_fs S k = some (c, fs)) (h : k ≠ 12 ∨ b ≠ 6) : nw (am_so S k (c, fs.set b v)) = nw S := by
  unfold nw
  rw [so_fs hk]
  by_cases e : 12 = k
  · subst e
    have hi : b ≠ 6 := h.resolve_left (fun q => q rfl)
    rw [c_set_eq, hk]
    show (match (fs.set b v)[6]? with | some (Value.ref b) => b | _ => 0) = _
    rw [List.getElem?_set_ne hi]
    rfl
  · rw [c_set_ne e]
theorem SH.setq {aw k c b t : Nat} {S : am_S} {fs : List Value} {v : Value} (h : SH aw S) (hk : am_fs S k = some (c, fs)) (hc : c ≠ 2 ∧ c ≠ 3 ∧ c ≠ 4 ∧ c ≠ 5 ∧ c ≠ 11) (hb : (c = 7 ∧ b = 6) = False ∧ (c = 8 ∧ b = 9) = False) (ht : (c_ty c)[b]? = some t) (hv : c_v (am_fs S) (am_arq S) (am_rar S) t v) : Sm aw S (am_so S k (c, fs.set b v)) := by
  obtain ⟨h1, h2, h3⟩ := h.setv hk hc.2 ht hv
  have nk : ∀ j c', cl (am_fs S) j = some c' → c' ≠ c → j ≠ k := fun j c' h4 h5 e => by
    subst e
    rw [cl_mk hk] at h4
    exact h5 (Option.some.inj h4).symm
  have n2 : (2 : Nat) ≠ k := nk 2 2 (h.1.s (2, 2) (by decide)) (fun e => hc.1 e.symm)
  have n3 : ∀ j, cl (am_fs S) j = some 3 → j ≠ k := fun j h4 => nk j 3 h4 (fun e => hc.2.1 e.symm)
  have n13 : (13 : Nat) ≠ k := nk 13 5 (h.1.s (13, 5) (by decide)) (fun e => hc.2.2.2.1 e.symm)
  have e3 := n3 3 (h.1.s (3, 3) (by decide))
  have k1 : nx (am_so S k (c, fs.set b v)) = nx S := iv_set hk (Or.inl n2)
  have k3 : wr (am_so S k (c, fs.set b v)) = wr S := iv_set hk (Or.inl e3)
  have k5 : nw (am_so S k (c, fs.set b v)) = nw S := nw_set hk (by
    by_cases e : k = 12
    · right
      intro e6
      have h4 := h.1.s (12, 7) (by decide)
      subst e
      rw [cl_mk hk] at h4
      have h5 := hb.1
      have h6 : c = 7 := Option.some.inj h4
      exact h5 ▸ (show c = 7 ∧ b = 6 from ⟨h6, e6⟩)
    · exact Or.inl e)
  have hnw : cl (am_fs S) (nw S) = some 8 := h.nwc
  refine ⟨h1, h2, ⟨k1, iv_set hk (Or.inl n2), k3, ?_⟩, ⟨so_os hk (nk 5 4 (h.1.s (5, 4) (by decide)) (fun e => hc.2.2.1 e.symm)) (nk 6 5 (h.1.s (6, 5) (by decide)) (fun e => hc.2.2.2.1 e.symm)) n13, k5, ?_⟩, fun t ht => iv_set hk (Or.inl (n3 t ht)), Int.le_of_eq h3⟩
  · funext i
    unfold kA
    rw [k3, so_arf hk]
  · unfold fl
    rw [k5]
    refine iv_set hk ?_
    by_cases e : nw S = k
    · right
      intro e9
      rw [e, cl_mk hk] at hnw
      have h5 := hb.2
      exact h5 ▸ (show c = 8 ∧ b = 9 from ⟨Option.some.inj hnw, e9.symm⟩)
    · exact Or.inl e
/-! RULES -/
section CM
variable {P : am_P} {d M pc : Nat} {ls : am_V} {st : List Value} {S : am_S} {Q : Option (Option Value) → am_S → Prop} {a b c nx' aw k : Nat} {x : Int32} {tab : List (Int32 × Nat)}
theorem SH.fld {t : Nat} (h : SH aw S) (hk : cl (am_fs S) k = some a) (ha : a ≠ 11) (ht : (c_ty a)[b]? = some t) : ∃ fs v, am_fs S k = some (a, fs) ∧ fs[b]? = some v ∧ c_v (am_fs S) (am_arq S) (am_rar S) t v := by
  obtain ⟨fs, hf⟩ := cl_of hk
  rcases h.1.t _ _ _ hf with e | ⟨-, e⟩
  · exact absurd e ha
  · obtain ⟨v, h1, h2⟩ := c_f_get e ht
    exact ⟨fs, v, hf, h1, h2⟩
/-- a number is read -/
theorem cm_20i (h : SH aw S) (hi : P.1 M pc = some (20, a, b, c, x, nx', tab)) (hk : cl (am_fs S) k = some a) (ha : a ≠ 11) (ht : (c_ty a)[b]? = some 0) (K : ∀ v : Int32, v.toInt = iv S k b → am_E P d M nx' ls (.int v :: st) S Q) : am_E P d M pc ls (.ref k :: st) S Q := by
  obtain ⟨fs, v, h1, h2, ⟨w, rfl⟩⟩ := h.fld hk ha ht
  refine am_e20 hi h1 h2 (K w ?_)
  unfold iv
  rw [h1]
  show _ = (match fs[b]? with | some (.int x) => x.toInt | _ => 0)
  rw [h2]
/-- a small number is read -/
theorem cm_20s (h : SH aw S) (hi : P.1 M pc = some (20, a, b, c, x, nx', tab)) (hk : cl (am_fs S) k = some a) (ha : a ≠ 11) (ht : (c_ty a)[b]? = some 4) (K : ∀ v : Int32, v.toInt = iv S k b → 0 ≤ v.toInt → v.toInt ≤ 2097154 → am_E P d M nx' ls (.int v :: st) S Q) : am_E P d M pc ls (.ref k :: st) S Q := by
  obtain ⟨fs, v, h1, h2, ⟨w, rfl, h3, h4⟩⟩ := h.fld hk ha ht
  refine am_e20 hi h1 h2 (K w ?_ h3 h4)
  unfold iv
  rw [h1]
  show _ = (match fs[b]? with | some (.int x) => x.toInt | _ => 0)
  rw [h2]
/-- a truth is read -/
theorem cm_20z (h : SH aw S) (hi : P.1 M pc = some (20, a, b, c, x, nx', tab)) (hk : cl (am_fs S) k = some a) (ha : a ≠ 11) (ht : (c_ty a)[b]? = some 1) (K : ∀ v : Int32, v = 0 ∨ v = 1 → am_E P d M nx' ls (.int v :: st) S Q) : am_E P d M pc ls (.ref k :: st) S Q := by
  obtain ⟨fs, v, h1, h2, h3⟩ := h.fld hk ha ht
  have h4 : v = .int 0 ∨ v = .int 1 := h3
  rcases h4 with rfl | rfl
  · exact am_e20 hi h1 h2 (K 0 (Or.inl rfl))
  · exact am_e20 hi h1 h2 (K 1 (Or.inr rfl))
/-- an object that is there once is read -/
theorem cm_20f {r : Nat} (h : SH aw S) (hi : P.1 M pc = some (20, a, b, c, x, nx', tab)) (hk : cl (am_fs S) k = some a) (ha : a ≠ 11) (ht : (c_ty a)[b]? = some (r + 100)) (K : am_E P d M nx' ls (.ref r :: st) S Q) : am_E P d M pc ls (.ref k :: st) S Q := by
  obtain ⟨fs, v, h1, h2, h3⟩ := h.fld hk ha ht
  have h4 : v = .ref (r + 100 - 100) := by
    unfold c_v at h3
    split at h3 <;> first | omega | (rename_i e _; omega) | (rename_i e; omega) | exact h3
  rw [Nat.add_sub_cancel] at h4
  subst h4
  exact am_e20 hi h1 h2 K
/-- a body is read -/
theorem cm_20b (h : SH aw S) (hi : P.1 M pc = some (20, a, b, c, x, nx', tab)) (hk : cl (am_fs S) k = some a) (ha : a ≠ 11) (ht : (c_ty a)[b]? = some 18) (K : ∀ r, cl (am_fs S) r = some 8 → am_E P d M nx' ls (.ref r :: st) S Q) : am_E P d M pc ls (.ref k :: st) S Q := by
  obtain ⟨fs, v, h1, h2, ⟨r, rfl, h3⟩⟩ := h.fld hk ha ht
  exact am_e20 hi h1 h2 (K r h3)
/-- a body's table is read -/
theorem cm_20t (h : SH aw S) (hi : P.1 M pc = some (20, a, b, c, x, nx', tab)) (hk : cl (am_fs S) k = some a) (ha : a ≠ 11) (ht : (c_ty a)[b]? = some 13) (K : ∀ r, cl (am_fs S) r = some 3 → c_bt r → am_E P d M nx' ls (.ref r :: st) S Q) : am_E P d M pc ls (.ref k :: st) S Q := by
  obtain ⟨fs, v, h1, h2, ⟨r, rfl, h3, h4⟩⟩ := h.fld hk ha ht
  exact am_e20 hi h1 h2 (K r h3 h4)
/-- a field of no account is written -/
theorem cm_21 {t : Nat} {v : Value} (h : SH aw S) (hi : P.1 M pc = some (21, a, b, c, x, nx', tab)) (hk : cl (am_fs S) k = some a) (ha : a ≠ 2 ∧ a ≠ 3 ∧ a ≠ 4 ∧ a ≠ 5 ∧ a ≠ 11) (hb : (a = 7 ∧ b = 6) = False ∧ (a = 8 ∧ b = 9) = False) (ht : (c_ty a)[b]? = some t) (hv : c_v (am_fs S) (am_arq S) (am_rar S) t v) (hf : am_fit (c % 4) v = true) (K : ∀ S', Sm aw S S' → am_E P d M nx' ls st S' Q) : am_E P d M pc ls (v :: .ref k :: st) S Q := by
  obtain ⟨fs, hfs⟩ := cl_of hk
  have hl := h.len hfs ha.2.2.2.2
  exact am_e21 hi hfs (by rw [hl]; exact (List.getElem?_eq_some_iff.mp ht).1) hf rfl (K _ (h.setq hfs ha hb ht hv))
end CM
