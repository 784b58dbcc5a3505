/-! SMALL INSTRUCTIONS OVER CELLS -/
theorem am_fitv {k : Nat} {desc : String} {v : Value} {ty : FieldType} (hk : am_okT k desc) (hf : am_fit k v = true) (em : Int64 → Nat) (ad : Nat → Nat) (hd : parseFieldDescriptor desc = some ty) : narrow ty (am_v em ad v) = am_v em ad v ∧ fits ty (am_v em ad v) = true := by
  match k, hk with
  | 0, hk =>
    simp only [am_okT] at hk
    cases hk.symm.trans hd
    cases v <;> simp [am_fit] at hf
    exact ⟨rfl, rfl⟩
  | 1, hk =>
    simp only [am_okT] at hk
    rcases hk with ⟨n, hk⟩ | ⟨n, hk⟩
    · cases hk.symm.trans hd
      cases v <;> simp [am_fit] at hf <;> exact ⟨rfl, rfl⟩
    · cases hk.symm.trans hd
      cases v <;> simp [am_fit] at hf <;> exact ⟨rfl, rfl⟩
  | 2, hk =>
    simp only [am_okT] at hk
    cases hk.symm.trans hd
    cases v <;> simp [am_fit] at hf
    rcases hf with rfl | rfl
    · show narrow .boolean (.int 0) = .int 0 ∧ fits .boolean (.int 0) = true
      exact ⟨by decide, by decide⟩
    · show narrow .boolean (.int 1) = .int 1 ∧ fits .boolean (.int 1) = true
      exact ⟨by decide, by decide⟩
  | n + 3, hk => exact hk.elim
theorem am_tyA {tys : List (ClassId × FieldType)} {cA : ClassId} {b : Bool} {q : Nat × (Nat → Int32)} (h : am_ty tys cA (.inl (b, q))) : ∃ t0 : Nat, tys[t0]? = some (cA, if b then .boolean else .int) := by
  cases b <;> exact h
/-- the constant cells outside the list: 0 the empty array of ArrayList, 1 the Class object of Object[] -/
def am_ZE (em : Int64 → Nat) (sc : Nat × (Nat → Int32)) (Zs : (Nat → Prop) → State → Heap → Prop) : Prop := ∀ (A : Nat → Prop) (s : State), Zs A s s.heap → va_Z am_AL am_EE am_ED (.ref (em 0)) A s s.heap ∧ va_T (.object "java/lang/Object") (em 0) 0 (fun _ => .null) A s s.heap ∧ va_Mi am_ED (em 1) s ∧ va_X (em 2) sc.1 sc.2 s s.heap ∧ ¬ A (em 2)
theorem am_va_rf {em : Int64 → Nat} {ad : Nat → Nat} (g : Option Nat) : am_v em ad (va_rf g) = va_rf (g.map ad) := by cases g <;> rfl
theorem am_catl {em : Int64 → Nat} {ad : Nat → Nat} {n : Nat} : ∀ q : List Value, (∀ w ∈ q, am_okv n w) → ((q.map (am_v em ad)).map fun v => v.category).sum = q.length := by
  intro q
  induction q with
  | nil => intro _; rfl
  | cons w q ih => intro hq; simp only [List.map_cons, List.sum_cons, List.length_cons]; rw [ih fun u hu => hq u (List.mem_cons_of_mem _ hu), am_cat (em := em) ad (hq w List.mem_cons_self)]; omega
section AM4
variable {em : Int64 → Nat} {P : am_P} {Y : am_Y} {D : va_G} {cl : List vw_C} {Ts : List Jvm.Cond} {Zs : (Nat → Prop) → State → Heap → Prop}
variable {p : Program} {l : Launch} {e : Env} {R : Room} {s : State} {m : MethodId} {args : Array Value} {below : List Frame} {meth : Method} {c : Code} {H : Heap} {locs : List Loc} {cells slots : Nat} {Q : State → Prop}
variable {A : Nat → Prop} {ad : Nat → Nat} {ca : Nat → ClassId} {tys : List (ClassId × FieldType)} {lsA : Array Slot} {ls ls' : am_V} {st st' : List Value} {S S1 : am_S} {c0 z0 mc ms M d pc pc' nx a b k n0 : Nat} {x : Int32} {tab : List (Int32 × Nat)}
set_option maxHeartbeats 1000000 in
theorem am_s20 (act : am_Act P Y Ts p R s m args meth c M d mc ms) (hk : am_okI P Y cl Ts M pc 20 a b k x nx tab) (hd : am_do P.2.1 P.2.2.2.2 20 a b k x nx tab d ls st S = some (pc', ls', st', S1)) (h : am_St em D cl Zs A s H locs cells slots ad ca tys lsA (P.2.2.1 M) ls st S c0 z0) (hC : am_okC P.2.1 cl Ts) (hA : ∀ q, s.heap.size ≤ q → A q) (hup : S1.2.1 ≤ c0 + mc ∧ S1.2.2 ≤ z0 + ms) (hE : am_ZE em P.2.2.2.2 Zs)
    (kk : am_K p l e R s m args below meth c Q em D cl Zs A (P.2.2.1 M) c0 z0 ad S.1.length pc' ls' st' S1) : W p l e R s m args below meth c H locs cells slots Q (F0 m pc lsA (st.map (am_v em ad))) := by
  obtain ⟨hx, hb, hml, hown, hts, hr, hlk, hnm, hRf, hRc, hRs, hRl, hexc, hhn⟩ := id act
  obtain ⟨hRl0, hS, hZ, hlo, hol, hos, hc, hz⟩ := id h
  obtain ⟨hP, hD, hK, hT, hW⟩ := id hRl0
  simp only [am_do] at hd
  simp only [am_okI] at hk
  obtain ⟨idx, hdg, rfl, C, T, N, ref, hcl, hbN, hfl, hsame⟩ := hk
  split at hd
  · rename_i k0 r
    split at hd
    · rename_i ci fs hcell
      split at hd
      · rename_i hci
        subst hci
        split at hd
        · rename_i v hv
          cases hd
          refine va_get (D := D) (ci := ci) (C := C) (T := T) (N := N) hx hb hts (hC ci C T N hcl).1 hown hK hP k0 (am_w_get hcell) hcl b hbN (hts _ hfl) (fun q hq => ?_) (v := am_v em ad v) (by rw [List.getElem?_map, hv]; rfl) hdg ?_
          · rcases hsame with rfl | hsame
            · exact hq
            · exact u_same (hts _ hsame) q hq
          · have hok : am_okv S.1.length v := hW k0 _ hcell v (List.mem_of_getElem? hv)
            exact kk _ _ _ _ _ _ _ _ (fun _ _ => rfl) ⟨hRl0, hS, hZ, hlo, hol, am_oc hok fun w hw => hos w (List.mem_cons_of_mem _ hw), hc, hz⟩
        · cases hd
      · cases hd
    · cases hd
  · cases hd
set_option maxHeartbeats 1000000 in
theorem am_s21 (act : am_Act P Y Ts p R s m args meth c M d mc ms) (hk : am_okI P Y cl Ts M pc 21 a b k x nx tab) (hd : am_do P.2.1 P.2.2.2.2 21 a b k x nx tab d ls st S = some (pc', ls', st', S1)) (h : am_St em D cl Zs A s H locs cells slots ad ca tys lsA (P.2.2.1 M) ls st S c0 z0) (hC : am_okC P.2.1 cl Ts) (hA : ∀ q, s.heap.size ≤ q → A q) (hup : S1.2.1 ≤ c0 + mc ∧ S1.2.2 ≤ z0 + ms) (hE : am_ZE em P.2.2.2.2 Zs)
    (kk : am_K p l e R s m args below meth c Q em D cl Zs A (P.2.2.1 M) c0 z0 ad S.1.length pc' ls' st' S1) : W p l e R s m args below meth c H locs cells slots Q (F0 m pc lsA (st.map (am_v em ad))) := by
  obtain ⟨hx, hb, hml, hown, hts, hr, hlk, hnm, hRf, hRc, hRs, hRl, hexc, hhn⟩ := id act
  obtain ⟨hRl0, hS, hZ, hlo, hol, hos, hc, hz⟩ := id h
  obtain ⟨hP, hD, hK, hT, hW⟩ := id hRl0
  simp only [am_do] at hd
  simp only [am_okI] at hk
  obtain ⟨idx, hdg, rfl, ⟨C, T, N, ref, hcl, hbN, hfl, hsame⟩, hkind⟩ := hk
  obtain ⟨hkT, hfin⟩ := hkind C T N hcl
  split at hd
  · rename_i v k0 r
    split at hd
    · rename_i ci fs hcell
      split at hd
      · rename_i hcond
        obtain ⟨rfl, hbl, hfit⟩ := hcond
        cases hd
        obtain ⟨hin, hnb, hdis, hnb0, ty, hty, hdef⟩ := hC ci C T N hcl
        obtain ⟨hn, hf⟩ := am_fitv hkT hfit em ad (hty b hbN)
        have hokv : am_okv S.1.length v := hos v List.mem_cons_self
        have hwset : (am_w em ad ca S.1).set k0 (ad k0, .inr (ci, (fs.map (am_v em ad)).set b (am_v em ad v))) = am_w em ad ca (S.1.set k0 (.inr (.inr (ci, fs.set b v)))) := by
          rw [← am_w_set]
          simp only [am_ce, List.map_set]
        have hnew : ∀ (H1 : Heap) (locs1 : List Loc), va_P D cl ((am_w em ad ca S.1).set k0 (ad k0, .inr (ci, (fs.map (am_v em ad)).set b (am_v em ad v)))) H1 → va_D A ((am_w em ad ca S.1).set k0 (ad k0, .inr (ci, (fs.map (am_v em ad)).set b (am_v em ad v)))) → va_S A s.heap H1 locs1 →
            W p l e R s m args below meth c H1 locs1 cells slots Q (F0 m (pc + 3) lsA (st'.map (am_v em ad))) := by
          intro H1 locs1 hP1 hD1 hS1
          rw [hwset] at hP1 hD1
          refine kk _ _ _ _ _ ca tys _ (fun _ _ => rfl) ⟨⟨hP1, hD1, hK, fun j q hj => ?_, fun j q hj => ?_⟩, hS1, hZ, hlo, by rw [List.length_set]; exact hol, by rw [List.length_set]; exact fun w hw => hos w (List.mem_cons_of_mem _ (List.mem_cons_of_mem _ hw)), hc, hz⟩
          · rw [List.getElem?_set] at hj
            split at hj
            · split at hj
              · cases hj; trivial
              · cases hj
            · exact hT j q hj
          · rw [List.length_set]
            rw [List.getElem?_set] at hj
            split at hj
            · split at hj
              · cases hj
                intro w hw
                rcases List.mem_or_eq_of_mem_set hw with hw | rfl
                · exact hW k0 _ hcell w hw
                · exact hokv
              · cases hj
            · exact hW j q hj
        have hsm : ∀ q, s.fieldFound? (T b).1 (T b).2.1 (T b).2.2.1 = some q → s.fieldFound? ref (T b).2.1 (T b).2.2.1 = some q := fun q hq => by
          rcases hsame with rfl | hsame
          · exact hq
          · exact u_same (hts _ hsame) q hq
        rcases hfin with hfin | ⟨hfin, hini, hdecl⟩
        · exact va_put (D := D) (ci := ci) (v := am_v em ad v) (ty := ty b) (C := C) (T := T) (N := N) hx hb hts hin ty hty hdis hown hK hP hD hS k0 (am_w_get hcell) hcl b hbN (hts _ hfl) hsm hfin (hty b hbN) hn hf (by rw [List.length_map]; exact hbl) hdg hnew
        · exact va_putF (D := D) (ci := ci) (v := am_v em ad v) (ty := ty b) (C := C) (T := T) (N := N) hx hb hts hin ty hty hdis hown hK hP hD hS k0 (am_w_get hcell) hcl b hbN (hts _ hfl) hsm hfin (by rw [hnm]; exact hini) hdecl (hty b hbN) hn hf (by rw [List.length_map]; exact hbl) hdg hnew
      · cases hd
    · cases hd
  · cases hd
set_option maxHeartbeats 1000000 in
theorem am_s22 (act : am_Act P Y Ts p R s m args meth c M d mc ms) (hk : am_okI P Y cl Ts M pc 22 a b k x nx tab) (hd : am_do P.2.1 P.2.2.2.2 22 a b k x nx tab d ls st S = some (pc', ls', st', S1)) (h : am_St em D cl Zs A s H locs cells slots ad ca tys lsA (P.2.2.1 M) ls st S c0 z0) (hC : am_okC P.2.1 cl Ts) (hA : ∀ q, s.heap.size ≤ q → A q) (hup : S1.2.1 ≤ c0 + mc ∧ S1.2.2 ≤ z0 + ms) (hE : am_ZE em P.2.2.2.2 Zs)
    (kk : am_K p l e R s m args below meth c Q em D cl Zs A (P.2.2.1 M) c0 z0 ad S.1.length pc' ls' st' S1) : W p l e R s m args below meth c H locs cells slots Q (F0 m pc lsA (st.map (am_v em ad))) := by
  obtain ⟨hx, hb, hml, hown, hts, hr, hlk, hnm, hRf, hRc, hRs, hRl, hexc, hhn⟩ := id act
  obtain ⟨hRl0, hS, hZ, hlo, hol, hos, hc, hz⟩ := id h
  obtain ⟨hP, hD, hK, hT, hW⟩ := id hRl0
  simp only [am_do] at hd
  simp only [am_okI] at hk
  obtain ⟨idx, C, T, N, hdg, rfl, hcl, h1, h2, h3⟩ := hk
  cases hd
  obtain ⟨hin, hnb, hdis, hnb0, ty, hty, hdef⟩ := hC a C T N hcl
  have hmap : ∀ ad' : Nat → Nat, (P.2.1 a).map (am_v em ad') = P.2.1 a := fun ad' => by
    conv => rhs; rw [← List.map_id (P.2.1 a)]
    exact List.map_congr_left fun v hv => by rcases hnb0 v hv with rfl | rfl <;> rfl
  have hR1 : cells + 1 ≤ R.cells := by rw [hRc]; have := hup.1; simp only at this; omega
  have hR2 : slots + N ≤ R.slots := by rw [hRs]; have := hup.2; simp only [hnb] at this; omega
  refine va_new (ci := a) (fs := P.2.1 a) (C := C) (T := T) (N := N) hx hb hts hin ty hty hown (hts _ h1) (hts _ h2) (hts _ h3) hK hP hD hS hA hcl hdef hR1 hR2 hdg (fun q H1 hP1 hD1 hS1 => ?_)
  rw [am_w_app (cA := 0) (c := .inr (.inr (a, P.2.1 a))) hW (by simp only [am_ce]; rw [hmap])] at hP1 hD1
  have hag : ∀ j, j < S.1.length → va_up ad S.1.length q j = ad j := fun j hj => if_neg (Nat.ne_of_lt hj)
  have e1 : st.map (am_v em ad) = st.map (am_v em (va_up ad S.1.length q)) := (am_st_eq hag hos).symm
  have e2 : va_up ad S.1.length q S.1.length = q := if_pos rfl
  rw [e1]
  have key := kk H1 locs (cells + 1) (slots + N) (va_up ad S.1.length q) (va_up ca S.1.length 0) tys lsA hag ⟨⟨hP1, hD1, hK, fun j w hj => ?_, fun j w hj => ?_⟩, hS1, hZ, hlo.agree hol hag, fun i v hv => (hol i v hv).mono (by simp), am_oc (by simp [am_okv]) (fun w hw => (hos w hw).mono (by simp)), by simp only; omega, by simp only [hnb]; omega⟩
  · rw [show (Value.ref S.1.length :: st).map (am_v em (va_up ad S.1.length q)) = .ref q :: st.map (am_v em (va_up ad S.1.length q)) by simp only [List.map_cons, am_v, e2]] at key
    exact key
  · rcases Nat.lt_or_ge j S.1.length with hj2 | hj2
    · rw [List.getElem?_append_left hj2] at hj
      rw [show va_up ca S.1.length 0 j = ca j from if_neg (Nat.ne_of_lt hj2)]
      exact hT j w hj
    · rw [List.getElem?_append_right hj2] at hj
      cases hq : j - S.1.length with
      | zero => rw [hq] at hj; cases hj; trivial
      | succ n => rw [hq] at hj; simp at hj
  · rcases Nat.lt_or_ge j S.1.length with hj2 | hj2
    · rw [List.getElem?_append_left hj2] at hj
      exact (hW j w hj).mono (by simp)
    · rw [List.getElem?_append_right hj2] at hj
      cases hq : j - S.1.length with
      | zero =>
        rw [hq] at hj; cases hj
        intro v hv
        rcases hnb0 v hv with rfl | rfl <;> trivial
      | succ n => rw [hq] at hj; simp at hj
set_option maxHeartbeats 1000000 in
theorem am_s23 (act : am_Act P Y Ts p R s m args meth c M d mc ms) (hk : am_okI P Y cl Ts M pc 23 a b k x nx tab) (hd : am_do P.2.1 P.2.2.2.2 23 a b k x nx tab d ls st S = some (pc', ls', st', S1)) (h : am_St em D cl Zs A s H locs cells slots ad ca tys lsA (P.2.2.1 M) ls st S c0 z0) (hC : am_okC P.2.1 cl Ts) (hA : ∀ q, s.heap.size ≤ q → A q) (hup : S1.2.1 ≤ c0 + mc ∧ S1.2.2 ≤ z0 + ms) (hE : am_ZE em P.2.2.2.2 Zs)
    (kk : am_K p l e R s m args below meth c Q em D cl Zs A (P.2.2.1 M) c0 z0 ad S.1.length pc' ls' st' S1) : W p l e R s m args below meth c H locs cells slots Q (F0 m pc lsA (st.map (am_v em ad))) := by
  obtain ⟨hx, hb, hml, hown, hts, hr, hlk, hnm, hRf, hRc, hRs, hRl, hexc, hhn⟩ := id act
  obtain ⟨hRl0, hS, hZ, hlo, hol, hos, hc, hz⟩ := id h
  obtain ⟨hP, hD, hK, hT, hW⟩ := id hRl0
  simp only [am_do] at hd
  simp only [am_okI] at hk
  obtain ⟨rfl, hk⟩ := hk
  split at hd
  · rename_i v r
    split at hd
    · rename_i hv
      cases hd
      have hR1 : cells + 1 ≤ R.cells := by rw [hRc]; have := hup.1; simp only at this; omega
      have hR2 : slots + v.toNatClampNeg ≤ R.slots := by rw [hRs]; have := hup.2; simp only at this; omega
      have hosr : ∀ w ∈ r, am_okv S.1.length w := fun w hw => hos w (List.mem_cons_of_mem _ hw)
      have fin : ∀ (ty : FieldType), am_ty [(0, ty)] 0 (.inl (decide (a = 1), v.toNatClampNeg, fun _ => 0)) → ∀ (q : Nat) (cA : ClassId) (H1 : Heap), va_K D cl (tys ++ [(cA, ty)]) s → va_P D cl (am_w em ad ca S.1 ++ [(q, .inl (cA, v.toNatClampNeg, .inl (fun _ => 0)))]) H1 → va_D A (am_w em ad ca S.1 ++ [(q, .inl (cA, v.toNatClampNeg, .inl (fun _ => 0)))]) → va_S A s.heap H1 locs →
          W p l e R s m args below meth c H1 locs (cells + 1) (slots + v.toNatClampNeg) Q (F0 m (pc + 2) lsA (.ref q :: r.map (am_v em ad))) := by
        intro ty hty q cA H1 hK1 hP1 hD1 hS1
        rw [am_w_app (cA := cA) (c := .inl (decide (a = 1), v.toNatClampNeg, fun _ => 0)) (E := .inl (cA, v.toNatClampNeg, .inl (fun _ => 0))) hW rfl] at hP1 hD1
        have hag : ∀ j, j < S.1.length → va_up ad S.1.length q j = ad j := fun j hj => if_neg (Nat.ne_of_lt hj)
        have e1 : r.map (am_v em ad) = r.map (am_v em (va_up ad S.1.length q)) := (am_st_eq hag hosr).symm
        have e2 : va_up ad S.1.length q S.1.length = q := if_pos rfl
        rw [e1]
        have key := kk H1 locs (cells + 1) (slots + v.toNatClampNeg) (va_up ad S.1.length q) (va_up ca S.1.length cA) (tys ++ [(cA, ty)]) lsA hag ⟨⟨hP1, hD1, hK1, fun j w hj => ?_, fun j w hj => ?_⟩, hS1, hZ, hlo.agree hol hag, fun i v hv => (hol i v hv).mono (by simp), am_oc (by simp [am_okv]) (fun w hw => (hosr w hw).mono (by simp)), by simp only; omega, by simp only; omega⟩
        · rw [show (Value.ref S.1.length :: r).map (am_v em (va_up ad S.1.length q)) = .ref q :: r.map (am_v em (va_up ad S.1.length q)) by simp only [List.map_cons, am_v, e2]] at key
          exact key
        · rcases Nat.lt_or_ge j S.1.length with hj2 | hj2
          · rw [List.getElem?_append_left hj2] at hj
            rw [show va_up ca S.1.length cA j = ca j from if_neg (Nat.ne_of_lt hj2)]
            exact (hT j w hj).more
          · rw [List.getElem?_append_right hj2] at hj
            cases hq : j - S.1.length with
            | zero =>
              have hj3 : j = S.1.length := by omega
              rw [hq] at hj; cases hj
              subst hj3
              rw [show va_up ca S.1.length cA S.1.length = cA from if_pos rfl]
              have hlast : (tys ++ [(cA, ty)])[tys.length]? = some (cA, ty) := by simp
              have h0 : ∀ (t0 : Nat) (ty0 : FieldType), ([(0, ty)] : List (ClassId × FieldType))[t0]? = some (0, ty0) → ty0 = ty := fun t0 ty0 q => by
                cases t0 with
                | zero => simp at q; exact q.symm
                | succ n => simp at q
              cases hbb : decide (a = 1) with
              | false => rw [hbb] at hty; obtain ⟨t0, h1⟩ := hty; exact ⟨tys.length, by rw [h0 _ _ h1]; exact hlast⟩
              | true => rw [hbb] at hty; obtain ⟨t0, h1⟩ := hty; exact ⟨tys.length, by rw [h0 _ _ h1]; exact hlast⟩
            | succ n => rw [hq] at hj; simp at hj
        · rcases Nat.lt_or_ge j S.1.length with hj2 | hj2
          · rw [List.getElem?_append_left hj2] at hj
            exact (hW j w hj).mono (by simp)
          · rw [List.getElem?_append_right hj2] at hj
            cases hq : j - S.1.length with
            | zero => rw [hq] at hj; cases hj; trivial
            | succ n => rw [hq] at hj; simp at hj
      rcases hk with ⟨rfl, hdg, harr⟩ | ⟨rfl, hdg, harr⟩
      · exact va_newa (atype := .int) (ty := .int) (a0 := (v.toNatClampNeg, .inl (fun _ => 0))) hx hb (hts _ harr) rfl hK hP hD hS hA (fun _ => rfl) hv.1 rfl (by show v.toNatClampNeg * 4 ≤ 536870912; have := hv.2; omega) hR1 hR2 hdg (fin .int ⟨0, rfl⟩)
      · exact va_newa (atype := .boolean) (ty := .boolean) (a0 := (v.toNatClampNeg, .inl (fun _ => 0))) hx hb (hts _ harr) rfl hK hP hD hS hA (fun _ => rfl) hv.1 rfl (by show v.toNatClampNeg * 1 ≤ 536870912; have := hv.2; omega) hR1 hR2 hdg (fin .boolean ⟨0, rfl⟩)
    · cases hd
  · cases hd
set_option maxHeartbeats 1000000 in
theorem am_s24 (act : am_Act P Y Ts p R s m args meth c M d mc ms) (hk : am_okI P Y cl Ts M pc 24 a b k x nx tab) (hd : am_do P.2.1 P.2.2.2.2 24 a b k x nx tab d ls st S = some (pc', ls', st', S1)) (h : am_St em D cl Zs A s H locs cells slots ad ca tys lsA (P.2.2.1 M) ls st S c0 z0) (hC : am_okC P.2.1 cl Ts) (hA : ∀ q, s.heap.size ≤ q → A q) (hup : S1.2.1 ≤ c0 + mc ∧ S1.2.2 ≤ z0 + ms) (hE : am_ZE em P.2.2.2.2 Zs)
    (kk : am_K p l e R s m args below meth c Q em D cl Zs A (P.2.2.1 M) c0 z0 ad S.1.length pc' ls' st' S1) : W p l e R s m args below meth c H locs cells slots Q (F0 m pc lsA (st.map (am_v em ad))) := by
  obtain ⟨hx, hb, hml, hown, hts, hr, hlk, hnm, hRf, hRc, hRs, hRl, hexc, hhn⟩ := id act
  obtain ⟨hRl0, hS, hZ, hlo, hol, hos, hc, hz⟩ := id h
  obtain ⟨hP, hD, hK, hT, hW⟩ := id hRl0
  simp only [am_do] at hd
  simp only [am_okI] at hk
  obtain ⟨hdg, rfl⟩ := hk
  split at hd
  · rename_i k0 r
    split at hd
    · rename_i bb n f hcell
      cases hd
      obtain ⟨t0, ht0⟩ := am_tyA (hT k0 _ hcell)
      exact va_alen hx hb hK hP k0 t0 (am_w_get hcell) ht0 rfl hdg (kk _ _ _ _ _ _ _ _ (fun _ _ => rfl) ⟨hRl0, hS, hZ, hlo, hol, am_oc trivial fun w hw => hos w (List.mem_cons_of_mem _ hw), hc, hz⟩)
    · rename_i n f hcell
      cases hd
      obtain ⟨t0, ht0⟩ := hT k0 _ hcell
      exact va_alen hx hb hK hP k0 t0 (am_w_get hcell) ht0 rfl hdg (kk _ _ _ _ _ _ _ _ (fun _ _ => rfl) ⟨hRl0, hS, hZ, hlo, hol, am_oc trivial fun w hw => hos w (List.mem_cons_of_mem _ hw), hc, hz⟩)
    · cases hd
  · rename_i z r
    split at hd
    · rename_i hz0
      subst hz0
      cases hd
      exact va_tlen hx hb (hE A s hZ).2.1 hS rfl hdg (kk _ _ _ _ _ _ _ _ (fun _ _ => rfl) ⟨hRl0, hS, hZ, hlo, hol, am_oc trivial fun w hw => hos w (List.mem_cons_of_mem _ hw), hc, hz⟩)
    · split at hd
      · rename_i hz2
        obtain ⟨hz2, -⟩ := hz2
        subst hz2
        cases hd
        obtain ⟨-, -, -, hX, hbA⟩ := hE A s hZ
        obtain ⟨scr, hscr, -⟩ := id hX
        exact va_slen hx hb hX (Array.getElem?_eq_some_iff.mp hscr).1 hbA hS hdg (kk _ _ _ _ _ _ _ _ (fun _ _ => rfl) ⟨hRl0, hS, hZ, hlo, hol, am_oc trivial fun w hw => hos w (List.mem_cons_of_mem _ hw), hc, hz⟩)
      · cases hd
  · cases hd
set_option maxHeartbeats 1000000 in
theorem am_s25 (act : am_Act P Y Ts p R s m args meth c M d mc ms) (hk : am_okI P Y cl Ts M pc 25 a b k x nx tab) (hd : am_do P.2.1 P.2.2.2.2 25 a b k x nx tab d ls st S = some (pc', ls', st', S1)) (h : am_St em D cl Zs A s H locs cells slots ad ca tys lsA (P.2.2.1 M) ls st S c0 z0) (hC : am_okC P.2.1 cl Ts) (hA : ∀ q, s.heap.size ≤ q → A q) (hup : S1.2.1 ≤ c0 + mc ∧ S1.2.2 ≤ z0 + ms) (hE : am_ZE em P.2.2.2.2 Zs)
    (kk : am_K p l e R s m args below meth c Q em D cl Zs A (P.2.2.1 M) c0 z0 ad S.1.length pc' ls' st' S1) : W p l e R s m args below meth c H locs cells slots Q (F0 m pc lsA (st.map (am_v em ad))) := by
  obtain ⟨hx, hb, hml, hown, hts, hr, hlk, hnm, hRf, hRc, hRs, hRl, hexc, hhn⟩ := id act
  obtain ⟨hRl0, hS, hZ, hlo, hol, hos, hc, hz⟩ := id h
  obtain ⟨hP, hD, hK, hT, hW⟩ := id hRl0
  simp only [am_do] at hd
  simp only [am_okI] at hk
  obtain ⟨rfl, hk⟩ := hk
  split at hd
  · rename_i i k0 r
    split at hd
    · rename_i bb n f hcell
      split at hd
      · rename_i hin
        cases hd
        obtain ⟨hbb, hi0, hin⟩ := hin
        have hi : vp_in i n := fun q => q.elim hi0 (fun q => by omega)
        obtain ⟨t0, ht0⟩ := am_tyA (hT k0 _ hcell)
        have kk1 := kk _ _ _ _ _ _ _ _ (fun _ _ => rfl) ⟨hRl0, hS, hZ, hlo, hol, am_oc (v := .int (f i.toNatClampNeg)) trivial fun w hw => hos w (List.mem_cons_of_mem _ (List.mem_cons_of_mem _ hw)), hc, hz⟩
        rcases hk with ⟨rfl, hdg⟩ | ⟨rfl, hdg⟩
        · rw [← hbb] at ht0
          exact va_iald hx hb hK hP k0 t0 (am_w_get hcell) ht0 hi hdg kk1
        · rw [← hbb] at ht0
          exact va_zald hx hb hK hP k0 t0 (am_w_get hcell) ht0 hi hdg kk1
      · cases hd
    · cases hd
  · rename_i i z r
    split at hd
    · rename_i hin
      obtain ⟨rfl, rfl, hi0, hin, -⟩ := hin
      cases hd
      have hi : vp_in i P.2.2.2.2.1 := fun q => q.elim hi0 (fun q => by omega)
      obtain ⟨-, -, -, hX, hbA⟩ := hE A s hZ
      obtain ⟨scr, hscr, -⟩ := id hX
      rcases hk with ⟨-, hdg⟩ | ⟨h01, hdg⟩
      · exact va_sld hx hb hX (Array.getElem?_eq_some_iff.mp hscr).1 hbA hS hi hdg (kk _ _ _ _ _ _ _ _ (fun _ _ => rfl) ⟨hRl0, hS, hZ, hlo, hol, am_oc trivial fun w hw => hos w (List.mem_cons_of_mem _ (List.mem_cons_of_mem _ hw)), hc, hz⟩)
      · cases h01
    · cases hd
  · cases hd
set_option maxHeartbeats 1000000 in
theorem am_s26 (act : am_Act P Y Ts p R s m args meth c M d mc ms) (hk : am_okI P Y cl Ts M pc 26 a b k x nx tab) (hd : am_do P.2.1 P.2.2.2.2 26 a b k x nx tab d ls st S = some (pc', ls', st', S1)) (h : am_St em D cl Zs A s H locs cells slots ad ca tys lsA (P.2.2.1 M) ls st S c0 z0) (hC : am_okC P.2.1 cl Ts) (hA : ∀ q, s.heap.size ≤ q → A q) (hup : S1.2.1 ≤ c0 + mc ∧ S1.2.2 ≤ z0 + ms) (hE : am_ZE em P.2.2.2.2 Zs)
    (kk : am_K p l e R s m args below meth c Q em D cl Zs A (P.2.2.1 M) c0 z0 ad S.1.length pc' ls' st' S1) : W p l e R s m args below meth c H locs cells slots Q (F0 m pc lsA (st.map (am_v em ad))) := by
  obtain ⟨hx, hb, hml, hown, hts, hr, hlk, hnm, hRf, hRc, hRs, hRl, hexc, hhn⟩ := id act
  obtain ⟨hRl0, hS, hZ, hlo, hol, hos, hc, hz⟩ := id h
  obtain ⟨hP, hD, hK, hT, hW⟩ := id hRl0
  simp only [am_do] at hd
  simp only [am_okI] at hk
  obtain ⟨rfl, hk⟩ := hk
  split at hd
  · rename_i v i k0 r
    split at hd
    · rename_i bb n f hcell
      split at hd
      · rename_i hin
        cases hd
        obtain ⟨hbb, hi0, hin, hbit⟩ := hin
        have hi : vp_in i n := fun q => q.elim hi0 (fun q => by omega)
        obtain ⟨t0, ht0⟩ := am_tyA (hT k0 _ hcell)
        have hwset : (am_w em ad ca S.1).set k0 (ad k0, .inl (ca k0, n, .inl (upd f i.toNatClampNeg v))) = am_w em ad ca (S.1.set k0 (.inl (bb, n, upd f i.toNatClampNeg v))) := by
          rw [← am_w_set]
          simp only [am_ce]
        have hnew : ∀ (H1 : Heap) (locs1 : List Loc), va_P D cl ((am_w em ad ca S.1).set k0 (ad k0, .inl (ca k0, n, .inl (upd f i.toNatClampNeg v)))) H1 → va_D A ((am_w em ad ca S.1).set k0 (ad k0, .inl (ca k0, n, .inl (upd f i.toNatClampNeg v)))) → va_S A s.heap H1 locs1 →
            W p l e R s m args below meth c H1 locs1 cells slots Q (F0 m (pc + 1) lsA (st'.map (am_v em ad))) := by
          intro H1 locs1 hP1 hD1 hS1
          rw [hwset] at hP1 hD1
          refine kk _ _ _ _ _ ca tys _ (fun _ _ => rfl) ⟨⟨hP1, hD1, hK, fun j q hj => ?_, fun j q hj => ?_⟩, hS1, hZ, hlo, by rw [List.length_set]; exact hol, by rw [List.length_set]; exact fun w hw => hos w (List.mem_cons_of_mem _ (List.mem_cons_of_mem _ (List.mem_cons_of_mem _ hw))), hc, hz⟩
          · rw [List.getElem?_set] at hj
            split at hj
            · split at hj
              · rename_i hjj _
                cases hj
                subst hjj
                have h9 := hT k0 _ hcell
                cases bb <;> exact h9
              · cases hj
            · exact hT j q hj
          · rw [List.length_set]
            rw [List.getElem?_set] at hj
            split at hj
            · split at hj
              · cases hj; trivial
              · cases hj
            · exact hW j q hj
        rcases hk with ⟨rfl, hdg⟩ | ⟨rfl, hdg⟩
        · rw [← hbb] at ht0
          exact va_iast hx hb hK hP hD hS k0 t0 (am_w_get hcell) ht0 hi hdg hnew
        · rw [← hbb] at ht0
          have hv : vp_nar .boolean v = v := by rcases hbit hbb.symm with rfl | rfl <;> decide
          refine va_zast hx hb hK hP hD hS k0 t0 (am_w_get hcell) ht0 hi hdg ?_
          rw [hv]
          exact hnew
      · cases hd
    · cases hd
  · cases hd
set_option maxHeartbeats 1000000 in
theorem am_s30 (act : am_Act P Y Ts p R s m args meth c M d mc ms) (hk : am_okI P Y cl Ts M pc 30 a b k x nx tab) (hd : am_do P.2.1 P.2.2.2.2 30 a b k x nx tab d ls st S = some (pc', ls', st', S1)) (h : am_St em D cl Zs A s H locs cells slots ad ca tys lsA (P.2.2.1 M) ls st S c0 z0) (hC : am_okC P.2.1 cl Ts) (hA : ∀ q, s.heap.size ≤ q → A q) (hup : S1.2.1 ≤ c0 + mc ∧ S1.2.2 ≤ z0 + ms) (hE : am_ZE em P.2.2.2.2 Zs)
    (kk : am_K p l e R s m args below meth c Q em D cl Zs A (P.2.2.1 M) c0 z0 ad S.1.length pc' ls' st' S1) : W p l e R s m args below meth c H locs cells slots Q (F0 m pc lsA (st.map (am_v em ad))) := by
  obtain ⟨hx, hb, hml, hown, hts, hr, hlk, hnm, hRf, hRc, hRs, hRl, hexc, hhn⟩ := id act
  obtain ⟨hRl0, hS, hZ, hlo, hol, hos, hc, hz⟩ := id h
  obtain ⟨hP, hD, hK, hT, hW⟩ := id hRl0
  simp only [am_do] at hd
  simp only [am_okI] at hk
  obtain ⟨idx, C, T, N, hdg, rfl, hcl, h1⟩ := hk
  split at hd
  · rename_i k0 r
    split at hd
    · rename_i ci fs hcell
      split at hd
      · rename_i hci
        subst hci
        cases hd
        exact va_castS hx hb hown (hts _ h1) (hK.1 ci _ hcl).2 (va_recv hK hP hcl (am_w_get hcell)) hdg (kk _ _ _ _ _ _ _ _ (fun _ _ => rfl) h)
      · cases hd
    · cases hd
  · cases hd
set_option maxHeartbeats 1000000 in
theorem am_s16 (act : am_Act P Y Ts p R s m args meth c M d mc ms) (hk : am_okI P Y cl Ts M pc 16 a b k x nx tab) (hd : am_do P.2.1 P.2.2.2.2 16 a b k x nx tab d ls st S = some (pc', ls', st', S1)) (h : am_St em D cl Zs A s H locs cells slots ad ca tys lsA (P.2.2.1 M) ls st S c0 z0) (hC : am_okC P.2.1 cl Ts) (hA : ∀ q, s.heap.size ≤ q → A q) (hup : S1.2.1 ≤ c0 + mc ∧ S1.2.2 ≤ z0 + ms) (hE : am_ZE em P.2.2.2.2 Zs)
    (kk : am_K p l e R s m args below meth c Q em D cl Zs A (P.2.2.1 M) c0 z0 ad S.1.length pc' ls' st' S1) : W p l e R s m args below meth c H locs cells slots Q (F0 m pc lsA (st.map (am_v em ad))) := by
  obtain ⟨hx, hb, hml, hown, hts, hr, hlk, hnm, hRf, hRc, hRs, hRl, hexc, hhn⟩ := id act
  obtain ⟨hRl0, hS, hZ, hlo, hol, hos, hc, hz⟩ := id h
  obtain ⟨hP, hD, hK, hT, hW⟩ := id hRl0
  simp only [am_do] at hd
  simp only [am_okI] at hk
  obtain ⟨off, hdg, ht, rfl⟩ := hk
  split at hd
  · rename_i z y r
    split at hd
    · rename_i hzy
      subst hzy
      cases hd
      exact lv_acmp_eq (rx := some (em z)) (ry := some (em z)) hx hb hdg ht (fun _ => kk _ _ _ _ _ _ _ _ (fun _ _ => rfl) ⟨hRl0, hS, hZ, hlo, hol, fun w hw => hos w (List.mem_cons_of_mem _ (List.mem_cons_of_mem _ hw)), hc, hz⟩) (fun q => absurd rfl q)
    · cases hd
  · rename_i z k0 r
    split at hd
    · rename_i hz0
      subst hz0
      cases hd
      have hk0 : k0 < S.1.length := hos (.ref k0) (List.mem_cons_of_mem _ List.mem_cons_self)
      obtain ⟨c9, hc9⟩ : ∃ c9, S.1[k0]? = some c9 := ⟨_, List.getElem?_eq_getElem hk0⟩
      exact lv_acmp_eq (rx := some (ad k0)) (ry := some (em 0)) hx hb hdg ht (fun q => absurd (show A (ad k0) from hD.2 k0 _ (am_w_get hc9)) (by rw [Option.some.inj q]; exact (hE A s hZ).2.1.out)) (fun _ => kk _ _ _ _ _ _ _ _ (fun _ _ => rfl) ⟨hRl0, hS, hZ, hlo, hol, fun w hw => hos w (List.mem_cons_of_mem _ (List.mem_cons_of_mem _ hw)), hc, hz⟩)
    · cases hd
  · cases hd
set_option maxHeartbeats 1000000 in
theorem am_s17 (act : am_Act P Y Ts p R s m args meth c M d mc ms) (hk : am_okI P Y cl Ts M pc 17 a b k x nx tab) (hd : am_do P.2.1 P.2.2.2.2 17 a b k x nx tab d ls st S = some (pc', ls', st', S1)) (h : am_St em D cl Zs A s H locs cells slots ad ca tys lsA (P.2.2.1 M) ls st S c0 z0) (hC : am_okC P.2.1 cl Ts) (hA : ∀ q, s.heap.size ≤ q → A q) (hup : S1.2.1 ≤ c0 + mc ∧ S1.2.2 ≤ z0 + ms) (hE : am_ZE em P.2.2.2.2 Zs)
    (kk : am_K p l e R s m args below meth c Q em D cl Zs A (P.2.2.1 M) c0 z0 ad S.1.length pc' ls' st' S1) : W p l e R s m args below meth c H locs cells slots Q (F0 m pc lsA (st.map (am_v em ad))) := by
  obtain ⟨hx, hb, hml, hown, hts, hr, hlk, hnm, hRf, hRc, hRs, hRl, hexc, hhn⟩ := id act
  obtain ⟨hRl0, hS, hZ, hlo, hol, hos, hc, hz⟩ := id h
  obtain ⟨hP, hD, hK, hT, hW⟩ := id hRl0
  simp only [am_do] at hd
  simp only [am_okI] at hk
  obtain ⟨off, hdg, ht, rfl⟩ := hk
  split at hd
  · rename_i z y r
    split at hd
    · rename_i hzy
      subst hzy
      cases hd
      exact lv_acmp_ne (rx := some (em z)) (ry := some (em z)) hx hb hdg ht (fun q => absurd rfl q) (fun _ => kk _ _ _ _ _ _ _ _ (fun _ _ => rfl) ⟨hRl0, hS, hZ, hlo, hol, fun w hw => hos w (List.mem_cons_of_mem _ (List.mem_cons_of_mem _ hw)), hc, hz⟩)
    · cases hd
  · cases hd
set_option maxHeartbeats 1000000 in
theorem am_s38 (act : am_Act P Y Ts p R s m args meth c M d mc ms) (hk : am_okI P Y cl Ts M pc 38 a b k x nx tab) (hd : am_do P.2.1 P.2.2.2.2 38 a b k x nx tab d ls st S = some (pc', ls', st', S1)) (h : am_St em D cl Zs A s H locs cells slots ad ca tys lsA (P.2.2.1 M) ls st S c0 z0) (hC : am_okC P.2.1 cl Ts) (hA : ∀ q, s.heap.size ≤ q → A q) (hup : S1.2.1 ≤ c0 + mc ∧ S1.2.2 ≤ z0 + ms) (hE : am_ZE em P.2.2.2.2 Zs)
    (kk : am_K p l e R s m args below meth c Q em D cl Zs A (P.2.2.1 M) c0 z0 ad S.1.length pc' ls' st' S1) : W p l e R s m args below meth c H locs cells slots Q (F0 m pc lsA (st.map (am_v em ad))) := by
  obtain ⟨hx, hb, hml, hown, hts, hr, hlk, hnm, hRf, hRc, hRs, hRl, hexc, hhn⟩ := id act
  obtain ⟨hRl0, hS, hZ, hlo, hol, hos, hc, hz⟩ := id h
  obtain ⟨hP, hD, hK, hT, hW⟩ := id hRl0
  simp only [am_do] at hd
  simp only [am_okI] at hk
  obtain ⟨idx, hdg, rfl, h1, h2⟩ := hk
  split at hd
  · rename_i v r
    split at hd
    · rename_i hv
      cases hd
      have hR1 : cells + 1 ≤ R.cells := by rw [hRc]; have := hup.1; simp only at this; omega
      have hR2 : slots + v.toNatClampNeg ≤ R.slots := by rw [hRs]; have := hup.2; simp only at this; omega
      have hosr : ∀ w ∈ r, am_okv S.1.length w := fun w hw => hos w (List.mem_cons_of_mem _ hw)
      have hAO : va_AO "java/lang/Object" s := by
        have := hts _ h2
        unfold va_AO
        exact this
      refine va_newq hx hb hown (hts _ h1) hAO hK hP hD hS hA hv.1 rfl (by have := hv.2; omega) hR1 hR2 hdg (fun q cA H1 hK1 hP1 hD1 hS1 => ?_)
      rw [am_w_app (em := em) (cA := cA) (c := .inr (.inl (v.toNatClampNeg, fun _ => none))) (E := .inl (cA, v.toNatClampNeg, .inr (.inr (.inr (.inr (fun _ => none)))))) hW rfl] at hP1 hD1
      have hag : ∀ j, j < S.1.length → va_up ad S.1.length q j = ad j := fun j hj => if_neg (Nat.ne_of_lt hj)
      have e1 : r.map (am_v em ad) = r.map (am_v em (va_up ad S.1.length q)) := (am_st_eq hag hosr).symm
      have e2 : va_up ad S.1.length q S.1.length = q := if_pos rfl
      rw [e1]
      have key := kk H1 locs (cells + 1) (slots + v.toNatClampNeg) (va_up ad S.1.length q) (va_up ca S.1.length cA) (tys ++ [(cA, .object "java/lang/Object")]) lsA hag ⟨⟨hP1, hD1, hK1, fun j w hj => ?_, fun j w hj => ?_⟩, hS1, hZ, hlo.agree hol hag, fun i v hv => (hol i v hv).mono (by simp), am_oc (by simp [am_okv]) (fun w hw => (hosr w hw).mono (by simp)), by simp only; omega, by simp only; omega⟩
      · rw [show (Value.ref S.1.length :: r).map (am_v em (va_up ad S.1.length q)) = .ref q :: r.map (am_v em (va_up ad S.1.length q)) by simp only [List.map_cons, am_v, e2]] at key
        exact key
      · rcases Nat.lt_or_ge j S.1.length with hj2 | hj2
        · rw [List.getElem?_append_left hj2] at hj
          rw [show va_up ca S.1.length cA j = ca j from if_neg (Nat.ne_of_lt hj2)]
          exact (hT j w hj).more
        · rw [List.getElem?_append_right hj2] at hj
          cases hq : j - S.1.length with
          | zero =>
            have hj3 : j = S.1.length := by omega
            rw [hq] at hj; cases hj
            subst hj3
            rw [show va_up ca S.1.length cA S.1.length = cA from if_pos rfl]
            exact ⟨tys.length, by simp⟩
          | succ n => rw [hq] at hj; simp at hj
      · rcases Nat.lt_or_ge j S.1.length with hj2 | hj2
        · rw [List.getElem?_append_left hj2] at hj
          exact (hW j w hj).mono (by simp)
        · rw [List.getElem?_append_right hj2] at hj
          cases hq : j - S.1.length with
          | zero => rw [hq] at hj; cases hj; intro i j2 hj2; cases hj2
          | succ n => rw [hq] at hj; simp at hj
    · cases hd
  · cases hd
set_option maxHeartbeats 1000000 in
theorem am_s39 (act : am_Act P Y Ts p R s m args meth c M d mc ms) (hk : am_okI P Y cl Ts M pc 39 a b k x nx tab) (hd : am_do P.2.1 P.2.2.2.2 39 a b k x nx tab d ls st S = some (pc', ls', st', S1)) (h : am_St em D cl Zs A s H locs cells slots ad ca tys lsA (P.2.2.1 M) ls st S c0 z0) (hC : am_okC P.2.1 cl Ts) (hA : ∀ q, s.heap.size ≤ q → A q) (hup : S1.2.1 ≤ c0 + mc ∧ S1.2.2 ≤ z0 + ms) (hE : am_ZE em P.2.2.2.2 Zs)
    (kk : am_K p l e R s m args below meth c Q em D cl Zs A (P.2.2.1 M) c0 z0 ad S.1.length pc' ls' st' S1) : W p l e R s m args below meth c H locs cells slots Q (F0 m pc lsA (st.map (am_v em ad))) := by
  obtain ⟨hx, hb, hml, hown, hts, hr, hlk, hnm, hRf, hRc, hRs, hRl, hexc, hhn⟩ := id act
  obtain ⟨hRl0, hS, hZ, hlo, hol, hos, hc, hz⟩ := id h
  obtain ⟨hP, hD, hK, hT, hW⟩ := id hRl0
  simp only [am_do] at hd
  simp only [am_okI] at hk
  obtain ⟨hdg, rfl⟩ := hk
  split at hd
  · rename_i i k0 r
    split at hd
    · rename_i n g hcell
      split at hd
      · rename_i hin
        cases hd
        obtain ⟨hi0, hin⟩ := hin
        have hi : vp_in i n := fun q => q.elim hi0 (fun q => by omega)
        obtain ⟨t0, ht0⟩ := hT k0 _ hcell
        have hok : am_okv S.1.length (va_rf (g i.toNatClampNeg)) := by
          cases hg : g i.toNatClampNeg with
          | none => trivial
          | some j => exact hW k0 _ hcell _ j hg
        have kk1 := kk _ _ _ _ _ _ _ _ (fun _ _ => rfl) ⟨hRl0, hS, hZ, hlo, hol, am_oc hok fun w hw => hos w (List.mem_cons_of_mem _ (List.mem_cons_of_mem _ hw)), hc, hz⟩
        simp only [List.map_cons, am_va_rf] at kk1
        exact va_aldq hx hb hK hP k0 t0 (am_w_get hcell) ht0 hi hdg kk1
      · cases hd
    · cases hd
  · cases hd
set_option maxHeartbeats 1000000 in
theorem am_s40 (act : am_Act P Y Ts p R s m args meth c M d mc ms) (hk : am_okI P Y cl Ts M pc 40 a b k x nx tab) (hd : am_do P.2.1 P.2.2.2.2 40 a b k x nx tab d ls st S = some (pc', ls', st', S1)) (h : am_St em D cl Zs A s H locs cells slots ad ca tys lsA (P.2.2.1 M) ls st S c0 z0) (hC : am_okC P.2.1 cl Ts) (hA : ∀ q, s.heap.size ≤ q → A q) (hup : S1.2.1 ≤ c0 + mc ∧ S1.2.2 ≤ z0 + ms) (hE : am_ZE em P.2.2.2.2 Zs)
    (kk : am_K p l e R s m args below meth c Q em D cl Zs A (P.2.2.1 M) c0 z0 ad S.1.length pc' ls' st' S1) : W p l e R s m args below meth c H locs cells slots Q (F0 m pc lsA (st.map (am_v em ad))) := by
  obtain ⟨hx, hb, hml, hown, hts, hr, hlk, hnm, hRf, hRc, hRs, hRl, hexc, hhn⟩ := id act
  obtain ⟨hRl0, hS, hZ, hlo, hol, hos, hc, hz⟩ := id h
  obtain ⟨hP, hD, hK, hT, hW⟩ := id hRl0
  simp only [am_do] at hd
  simp only [am_okI] at hk
  obtain ⟨hdg, rfl, C, T, N, hcl, hca⟩ := hk
  have hset : ∀ (k0 n : Nat) (g : Nat → Option Nat) (i : Int32) (v : Option Nat) (st9 : List Value), S.1[k0]? = some (.inr (.inl (n, g))) → (∀ w ∈ st9, am_okv S.1.length w) → (∀ j, v = some j → j < S.1.length) → am_K p l e R s m args below meth c Q em D cl Zs A (P.2.2.1 M) c0 z0 ad S.1.length (pc + 1) ls st9 (S.1.set k0 (.inr (.inl (n, va_up g i.toNatClampNeg v))), S.2.1, S.2.2) →
      ∀ (H1 : Heap) (locs1 : List Loc), va_P D cl ((am_w em ad ca S.1).set k0 (ad k0, .inl (ca k0, n, .inr (.inr (.inr (.inr (va_up (fun i => (g i).map ad) i.toNatClampNeg (v.map ad)))))))) H1 → va_D A ((am_w em ad ca S.1).set k0 (ad k0, .inl (ca k0, n, .inr (.inr (.inr (.inr (va_up (fun i => (g i).map ad) i.toNatClampNeg (v.map ad)))))))) → va_S A s.heap H1 locs1 →
        W p l e R s m args below meth c H1 locs1 cells slots Q (F0 m (pc + 1) lsA (st9.map (am_v em ad))) := by
    intro k0 n g i v st9 hcell hst9 hv kk H1 locs1 hP1 hD1 hS1
    have hwset : (am_w em ad ca S.1).set k0 (ad k0, .inl (ca k0, n, .inr (.inr (.inr (.inr (va_up (fun i => (g i).map ad) i.toNatClampNeg (v.map ad))))))) = am_w em ad ca (S.1.set k0 (.inr (.inl (n, va_up g i.toNatClampNeg v)))) := by
      rw [← am_w_set]
      have : (fun i_1 => (va_up g i.toNatClampNeg v i_1).map ad) = va_up (fun i => (g i).map ad) i.toNatClampNeg (v.map ad) := by
        funext j; unfold va_up; split <;> rfl
      simp only [am_ce, this]
    rw [hwset] at hP1 hD1
    refine kk _ _ _ _ _ ca tys _ (fun _ _ => rfl) ⟨⟨hP1, hD1, hK, fun j q hj => ?_, fun j q hj => ?_⟩, hS1, hZ, hlo, by rw [List.length_set]; exact hol, by rw [List.length_set]; exact hst9, hc, hz⟩
    · rw [List.getElem?_set] at hj
      split at hj
      · split at hj
        · rename_i hjj _
          cases hj
          subst hjj
          have h9 : am_ty tys (ca k0) (.inr (.inl (n, g))) := hT k0 _ hcell
          exact h9
        · cases hj
      · exact hT j q hj
    · rw [List.length_set]
      rw [List.getElem?_set] at hj
      split at hj
      · split at hj
        · cases hj
          intro i2 j2 hj2
          unfold va_up at hj2
          split at hj2
          · exact hv j2 hj2
          · exact hW k0 _ hcell i2 j2 hj2
        · cases hj
      · exact hW j q hj
  split at hd
  · rename_i v i k0 r
    split at hd
    · rename_i ci fs n g hcv hcell
      split at hd
      · rename_i hin
        obtain ⟨rfl, hi0, hin⟩ := hin
        cases hd
        have hi : vp_in i n := fun q => q.elim hi0 (fun q => by omega)
        obtain ⟨t0, ht0⟩ := hT k0 _ hcell
        have hvl : v < S.1.length := (List.getElem?_eq_some_iff.mp hcv).1
        exact va_astqO (E := "java/lang/Object") (r := (C, T, N)) hx hb hK hP hD hS k0 t0 v ci (am_w_get hcell) ht0 (by have h9 := hts _ hca; unfold va_Nw; exact h9) (am_w_get hcv) hcl hi hdg (hset k0 n g i (some v) _ hcell (fun w hw => hos w (List.mem_cons_of_mem _ (List.mem_cons_of_mem _ (List.mem_cons_of_mem _ hw)))) (fun j hj => by cases hj; exact hvl) kk)
      · cases hd
    · cases hd
  · rename_i i k0 r
    split at hd
    · rename_i n g hcell
      split at hd
      · rename_i hin
        obtain ⟨hi0, hin⟩ := hin
        cases hd
        have hi : vp_in i n := fun q => q.elim hi0 (fun q => by omega)
        obtain ⟨t0, ht0⟩ := hT k0 _ hcell
        exact va_astqN hx hb hK hP hD hS k0 t0 (am_w_get hcell) ht0 hi hdg (hset k0 n g i none _ hcell (fun w hw => hos w (List.mem_cons_of_mem _ (List.mem_cons_of_mem _ (List.mem_cons_of_mem _ hw)))) (fun j hj => by cases hj) kk)
      · cases hd
    · cases hd
  · cases hd
set_option maxHeartbeats 1000000 in
theorem am_s41 (act : am_Act P Y Ts p R s m args meth c M d mc ms) (hk : am_okI P Y cl Ts M pc 41 a b k x nx tab) (hd : am_do P.2.1 P.2.2.2.2 41 a b k x nx tab d ls st S = some (pc', ls', st', S1)) (h : am_St em D cl Zs A s H locs cells slots ad ca tys lsA (P.2.2.1 M) ls st S c0 z0) (hC : am_okC P.2.1 cl Ts) (hA : ∀ q, s.heap.size ≤ q → A q) (hup : S1.2.1 ≤ c0 + mc ∧ S1.2.2 ≤ z0 + ms) (hE : am_ZE em P.2.2.2.2 Zs)
    (kk : am_K p l e R s m args below meth c Q em D cl Zs A (P.2.2.1 M) c0 z0 ad S.1.length pc' ls' st' S1) : W p l e R s m args below meth c H locs cells slots Q (F0 m pc lsA (st.map (am_v em ad))) := by
  obtain ⟨hx, hb, hml, hown, hts, hr, hlk, hnm, hRf, hRc, hRs, hRl, hexc, hhn⟩ := id act
  obtain ⟨hRl0, hS, hZ, hlo, hol, hos, hc, hz⟩ := id h
  obtain ⟨hP, hD, hK, hT, hW⟩ := id hRl0
  simp only [am_do] at hd
  simp only [am_okI] at hk
  obtain ⟨idx, hdg, rfl, h1, h2, h3, h4⟩ := hk
  split at hd
  · rename_i n dp k1 sp k0 r
    split at hd
    · rename_i n0 f n1 g hc0 hc1
      split at hd
      · rename_i hin
        cases hd
        obtain ⟨q1, q2, q3, q4, q5, q6, q7⟩ := hin
        obtain ⟨t0, ht0⟩ := hT k0 _ hc0
        obtain ⟨t1, ht1⟩ := hT k1 _ hc1
        have hosr : ∀ w ∈ st', am_okv S.1.length w := fun w hw => hos w (List.mem_cons_of_mem _ (List.mem_cons_of_mem _ (List.mem_cons_of_mem _ (List.mem_cons_of_mem _ (List.mem_cons_of_mem _ hw)))))
        have hloc : ((st'.map (am_v em ad)).map fun v => v.category).sum + (nativeFrameWords "java/lang/System" "arraycopy" 5 + 11) ≤ R.locals := by
          rw [am_catl st' hosr, hRl, show nativeFrameWords "java/lang/System" "arraycopy" 5 = 7 by decide]; omega
        refine va_copyi (ty := .int) hx hb (hml.trans hlo.1.1.symm) hown (hts _ h1) (hts _ h2) (hts _ h3) (hts _ h4) hK hP hD hS k0 k1 t0 t1 (am_w_get hc0) (am_w_get hc1) ht0 ht1 rfl q1 q2 q3 q4 q5 (fun _ _ => rfl) (by rw [hRf]; exact q6) hloc hdg (fun H1 locs1 hP1 hD1 hS1 => ?_)
        have hwset : (am_w em ad ca S.1).set k1 (ad k1, .inl (ca k1, n1, .inl (va_cpy f g sp.toNatClampNeg dp.toNatClampNeg n.toNatClampNeg))) = am_w em ad ca (S.1.set k1 (.inl (false, n1, va_cpy f g sp.toNatClampNeg dp.toNatClampNeg n.toNatClampNeg))) := by
          rw [← am_w_set]
          simp only [am_ce]
        rw [hwset] at hP1 hD1
        refine kk _ _ _ _ _ ca tys _ (fun _ _ => rfl) ⟨⟨hP1, hD1, hK, fun j q hj => ?_, fun j q hj => ?_⟩, hS1, hZ, hlo, by rw [List.length_set]; exact hol, by rw [List.length_set]; exact hosr, hc, hz⟩
        · rw [List.getElem?_set] at hj
          split at hj
          · split at hj
            · rename_i hjj _
              cases hj
              subst hjj
              exact ⟨t1, ht1⟩
            · cases hj
          · exact hT j q hj
        · rw [List.length_set]
          rw [List.getElem?_set] at hj
          split at hj
          · split at hj
            · cases hj; trivial
            · cases hj
          · exact hW j q hj
      · cases hd
    · cases hd
  · cases hd
set_option maxHeartbeats 1000000 in
theorem am_s42 (act : am_Act P Y Ts p R s m args meth c M d mc ms) (hk : am_okI P Y cl Ts M pc 42 a b k x nx tab) (hd : am_do P.2.1 P.2.2.2.2 42 a b k x nx tab d ls st S = some (pc', ls', st', S1)) (h : am_St em D cl Zs A s H locs cells slots ad ca tys lsA (P.2.2.1 M) ls st S c0 z0) (hC : am_okC P.2.1 cl Ts) (hA : ∀ q, s.heap.size ≤ q → A q) (hup : S1.2.1 ≤ c0 + mc ∧ S1.2.2 ≤ z0 + ms) (hE : am_ZE em P.2.2.2.2 Zs)
    (kk : am_K p l e R s m args below meth c Q em D cl Zs A (P.2.2.1 M) c0 z0 ad S.1.length pc' ls' st' S1) : W p l e R s m args below meth c H locs cells slots Q (F0 m pc lsA (st.map (am_v em ad))) := by
  obtain ⟨hx, hb, hml, hown, hts, hr, hlk, hnm, hRf, hRc, hRs, hRl, hexc, hhn⟩ := id act
  obtain ⟨hRl0, hS, hZ, hlo, hol, hos, hc, hz⟩ := id h
  obtain ⟨hP, hD, hK, hT, hW⟩ := id hRl0
  simp only [am_do] at hd
  simp only [am_okI] at hk
  obtain ⟨idx, hdg, rfl, h1, h2, h3, h4, C, T, N, hcl, hca⟩ := hk
  split at hd
  · rename_i n dp k1 sp k0 r
    split at hd
    · rename_i n0 f n1 g hc0 hc1
      split at hd
      · rename_i hin
        cases hd
        obtain ⟨q1, q2, q3, q4, q5, q6, q7, q8⟩ := hin
        obtain ⟨t0, ht0⟩ := hT k0 _ hc0
        obtain ⟨t1, ht1⟩ := hT k1 _ hc1
        have hosr : ∀ w ∈ st', am_okv S.1.length w := fun w hw => hos w (List.mem_cons_of_mem _ (List.mem_cons_of_mem _ (List.mem_cons_of_mem _ (List.mem_cons_of_mem _ (List.mem_cons_of_mem _ hw)))))
        have hloc : ((st'.map (am_v em ad)).map fun v => v.category).sum + (nativeFrameWords "java/lang/System" "arraycopy" 5 + 11) ≤ R.locals := by
          rw [am_catl st' hosr, hRl, show nativeFrameWords "java/lang/System" "arraycopy" 5 = 7 by decide]; omega
        refine va_copyq (C := C) hx hb (hml.trans hlo.1.1.symm) hown (hts _ h1) (hts _ h2) (hts _ h3) (hts _ h4) hK hP hD hS k0 k1 t0 t1 (am_w_get hc0) (am_w_get hc1) ht0 ht1 q1 q2 q3 q4 q5 (fun i hi y hy => ?_) (fun comp c9 hcomp hc9 => ?_) (by rw [hRf]; exact q6) hloc hdg (fun H1 locs1 hP1 hD1 hS1 => ?_)
        · have q9 := List.all_eq_true.mp q8 i (List.mem_range.mpr hi)
          cases hfi : f (sp.toNatClampNeg + i) with
          | none => rw [hfi] at hy; cases hy
          | some j =>
            rw [hfi] at hy q9
            cases hy
            dsimp only at q9
            split at q9
            · rename_i ci fs hcj
              obtain rfl : ci = a := of_decide_eq_true q9
              exact va_recv hK hP hcl (am_w_get hcj)
            · cases q9
        · obtain ⟨c3, c4, hc3, hc4, hasg⟩ := Cond.castable_spec (hts _ hca)
          cases hc3.symm.trans hc9
          cases hc4.symm.trans hcomp
          exact hasg
        · have hwset : (am_w em ad ca S.1).set k1 (ad k1, .inl (ca k1, n1, .inr (.inr (.inr (.inr (va_cpy (fun i => (f i).map ad) (fun i => (g i).map ad) sp.toNatClampNeg dp.toNatClampNeg n.toNatClampNeg)))))) = am_w em ad ca (S.1.set k1 (.inr (.inl (n1, va_cpy f g sp.toNatClampNeg dp.toNatClampNeg n.toNatClampNeg)))) := by
            rw [← am_w_set]
            have : (fun i => (va_cpy f g sp.toNatClampNeg dp.toNatClampNeg n.toNatClampNeg i).map ad) = va_cpy (fun i => (f i).map ad) (fun i => (g i).map ad) sp.toNatClampNeg dp.toNatClampNeg n.toNatClampNeg := by
              funext j; unfold va_cpy; split <;> rfl
            simp only [am_ce, this]
          rw [hwset] at hP1 hD1
          refine kk _ _ _ _ _ ca tys _ (fun _ _ => rfl) ⟨⟨hP1, hD1, hK, fun j q hj => ?_, fun j q hj => ?_⟩, hS1, hZ, hlo, by rw [List.length_set]; exact hol, by rw [List.length_set]; exact hosr, hc, hz⟩
          · rw [List.getElem?_set] at hj
            split at hj
            · split at hj
              · rename_i hjj _
                cases hj
                subst hjj
                exact ⟨t1, ht1⟩
              · cases hj
            · exact hT j q hj
          · rw [List.length_set]
            rw [List.getElem?_set] at hj
            split at hj
            · split at hj
              · cases hj
                intro i2 j2 hj2
                unfold va_cpy at hj2
                split at hj2
                · exact hW k0 _ hc0 _ j2 hj2
                · exact hW k1 _ hc1 i2 j2 hj2
              · cases hj
            · exact hW j q hj
      · cases hd
    · cases hd
  · cases hd
set_option maxHeartbeats 1000000 in
theorem am_s44 (act : am_Act P Y Ts p R s m args meth c M d mc ms) (hk : am_okI P Y cl Ts M pc 44 a b k x nx tab) (hd : am_do P.2.1 P.2.2.2.2 44 a b k x nx tab d ls st S = some (pc', ls', st', S1)) (h : am_St em D cl Zs A s H locs cells slots ad ca tys lsA (P.2.2.1 M) ls st S c0 z0) (hC : am_okC P.2.1 cl Ts) (hA : ∀ q, s.heap.size ≤ q → A q) (hup : S1.2.1 ≤ c0 + mc ∧ S1.2.2 ≤ z0 + ms) (hE : am_ZE em P.2.2.2.2 Zs)
    (kk : am_K p l e R s m args below meth c Q em D cl Zs A (P.2.2.1 M) c0 z0 ad S.1.length pc' ls' st' S1) : W p l e R s m args below meth c H locs cells slots Q (F0 m pc lsA (st.map (am_v em ad))) := by
  obtain ⟨hx, hb, hml, hown, hts, hr, hlk, hnm, hRf, hRc, hRs, hRl, hexc, hhn⟩ := id act
  obtain ⟨hRl0, hS, hZ, hlo, hol, hos, hc, hz⟩ := id h
  obtain ⟨hP, hD, hK, hT, hW⟩ := id hRl0
  simp only [am_do] at hd
  simp only [am_okI] at hk
  obtain ⟨idx, hdg, rfl, h1, h2, h3, h4, h5⟩ := hk
  split at hd
  · rename_i k0 r
    split at hd
    · rename_i ng hcell
      split at hd
      · rename_i hin
        cases hd
        obtain ⟨t0, ht0⟩ := hT k0 _ hcell
        have hosr : ∀ w ∈ r, am_okv S.1.length w := fun w hw => hos w (List.mem_cons_of_mem _ hw)
        obtain ⟨kA, comp, -, -, -, hfc⟩ := (hK.2 t0 _ ht0).2
        have hat := hP k0 _ (am_w_get hcell)
        exact va_getC (C := am_ED) hx hb (hml.trans hlo.1.1.symm) hown (hts _ h1) (hts _ h2) (hts _ h3) (hts _ h4) (hts _ h5) (hE A s hZ).2.2.1 ⟨_, hat, rfl, hfc⟩ (by rw [hRf]; exact hin.1) (by
          show ((r.map (am_v em ad)).map fun v => v.category).sum + 14 ≤ R.locals
          rw [am_catl r hosr, hRl]; omega) hdg (kk _ _ _ _ _ _ _ _ (fun _ _ => rfl) ⟨hRl0, hS, hZ, hlo, hol, am_oc trivial hosr, hc, hz⟩)
      · cases hd
    · cases hd
  · cases hd
set_option maxHeartbeats 1000000 in
theorem am_s43 (act : am_Act P Y Ts p R s m args meth c M d mc ms) (hk : am_okI P Y cl Ts M pc 43 a b k x nx tab) (hd : am_do P.2.1 P.2.2.2.2 43 a b k x nx tab d ls st S = some (pc', ls', st', S1)) (h : am_St em D cl Zs A s H locs cells slots ad ca tys lsA (P.2.2.1 M) ls st S c0 z0) (hC : am_okC P.2.1 cl Ts) (hA : ∀ q, s.heap.size ≤ q → A q) (hup : S1.2.1 ≤ c0 + mc ∧ S1.2.2 ≤ z0 + ms) (hE : am_ZE em P.2.2.2.2 Zs)
    (kk : am_K p l e R s m args below meth c Q em D cl Zs A (P.2.2.1 M) c0 z0 ad S.1.length pc' ls' st' S1) : W p l e R s m args below meth c H locs cells slots Q (F0 m pc lsA (st.map (am_v em ad))) := by
  obtain ⟨hx, hb, hml, hown, hts, hr, hlk, hnm, hRf, hRc, hRs, hRl, hexc, hhn⟩ := id act
  obtain ⟨hRl0, hS, hZ, hlo, hol, hos, hc, hz⟩ := id h
  obtain ⟨hP, hD, hK, hT, hW⟩ := id hRl0
  simp only [am_do] at hd
  simp only [am_okI] at hk
  obtain ⟨idx, hdg, rfl, h1⟩ := hk
  cases hd
  exact va_gets hx hb (hE A s hZ).1 hS hown (hts _ h1) (fun _ q => q) hdg (kk _ _ _ _ _ _ _ _ (fun _ _ => rfl) ⟨hRl0, hS, hZ, hlo, hol, am_oc trivial hos, hc, hz⟩)
set_option maxHeartbeats 1000000 in
theorem am_s45 (act : am_Act P Y Ts p R s m args meth c M d mc ms) (hk : am_okI P Y cl Ts M pc 45 a b k x nx tab) (hd : am_do P.2.1 P.2.2.2.2 45 a b k x nx tab d ls st S = some (pc', ls', st', S1)) (h : am_St em D cl Zs A s H locs cells slots ad ca tys lsA (P.2.2.1 M) ls st S c0 z0) (hC : am_okC P.2.1 cl Ts) (hA : ∀ q, s.heap.size ≤ q → A q) (hup : S1.2.1 ≤ c0 + mc ∧ S1.2.2 ≤ z0 + ms) (hE : am_ZE em P.2.2.2.2 Zs)
    (kk : am_K p l e R s m args below meth c Q em D cl Zs A (P.2.2.1 M) c0 z0 ad S.1.length pc' ls' st' S1) : W p l e R s m args below meth c H locs cells slots Q (F0 m pc lsA (st.map (am_v em ad))) := by
  obtain ⟨hx, hb, hml, hown, hts, hr, hlk, hnm, hRf, hRc, hRs, hRl, hexc, hhn⟩ := id act
  obtain ⟨hRl0, hS, hZ, hlo, hol, hos, hc, hz⟩ := id h
  obtain ⟨hP, hD, hK, hT, hW⟩ := id hRl0
  simp only [am_do] at hd
  simp only [am_okI] at hk
  obtain ⟨idx, hdg, rfl, h1⟩ := hk
  cases hd
  exact va_ldcM hx hb hown (hts _ h1) (hE A s hZ).2.2.1 hdg (kk _ _ _ _ _ _ _ _ (fun _ _ => rfl) ⟨hRl0, hS, hZ, hlo, hol, am_oc trivial hos, hc, hz⟩)
end AM4
