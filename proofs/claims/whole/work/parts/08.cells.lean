/-! SMALL INSTRUCTIONS OVER CELLS -/
theorem am_fitv {k : Nat} {desc : String} {v : Value} {ty : FieldType} (hk : am_okT k desc) (hf : am_fit k v = true) (em : Int64 → Nat) (ad : Nat → Nat) (hd : parseFieldDescriptor desc = some ty) : narrow ty (am_v em ad v) = am_v em ad v ∧ fits ty (am_v em ad v) = true := by
  match k, hk with
  | 0, hk =>
    simp only [am_okT] at hk
    cases hk.symm.trans hd
    cases v <;> simp [am_fit] at hf
    exact ⟨rfl, rfl⟩
  | 1, hk =>
    simp only [am_okT] at hk
    rcases hk with ⟨n, hk⟩ | ⟨n, hk⟩
    · cases hk.symm.trans hd
      cases v <;> simp [am_fit] at hf <;> exact ⟨rfl, rfl⟩
    · cases hk.symm.trans hd
      cases v <;> simp [am_fit] at hf <;> exact ⟨rfl, rfl⟩
  | 2, hk =>
    simp only [am_okT] at hk
    cases hk.symm.trans hd
    cases v <;> simp [am_fit] at hf
    rcases hf with rfl | rfl
    · show narrow .boolean (.int 0) = .int 0 ∧ fits .boolean (.int 0) = true
      exact ⟨by decide, by decide⟩
    · show narrow .boolean (.int 1) = .int 1 ∧ fits .boolean (.int 1) = true
      exact ⟨by decide, by decide⟩
  | n + 3, hk => exact hk.elim
theorem am_tyA {tys : List (ClassId × FieldType)} {cA : ClassId} {b : Bool} {q : Nat × (Nat → Int32)} (h : am_ty tys cA (.inl (b, q))) : ∃ t0 : Nat, tys[t0]? = some (cA, if b then .boolean else .int) := by
  cases b <;> exact h
section AM4
variable {em : Int64 → Nat} {P : am_P} {Y : am_Y} {D : va_G} {cl : List vw_C} {Ts : List Jvm.Cond} {Zs : (Nat → Prop) → State → Heap → Prop}
variable {p : Program} {l : Launch} {e : Env} {R : Room} {s : State} {m : MethodId} {args : Array Value} {below : List Frame} {meth : Method} {c : Code} {H : Heap} {locs : List Loc} {cells slots : Nat} {Q : State → Prop}
variable {A : Nat → Prop} {ad : Nat → Nat} {ca : Nat → ClassId} {tys : List (ClassId × FieldType)} {lsA : Array Slot} {ls ls' : am_V} {st st' : List Value} {S S1 : am_S} {c0 z0 mc ms M d pc pc' nx a b k n0 : Nat} {x : Int32} {tab : List (Int32 × Nat)}
set_option maxHeartbeats 1000000 in
theorem am_s20 (act : am_Act P Y Ts p R s m args meth c M d mc ms) (hk : am_okI P Y cl Ts M pc 20 a b k x nx tab) (hd : am_do P.2.1 20 a b k x nx tab d ls st S = some (pc', ls', st', S1)) (h : am_St em D cl Zs A s H locs cells slots ad ca tys lsA (P.2.2.1 M) ls st S c0 z0) (hC : am_okC P.2.1 cl Ts) (hA : ∀ q, s.heap.size ≤ q → A q) (hup : S1.2.1 ≤ c0 + mc ∧ S1.2.2 ≤ z0 + ms)
    (kk : am_K p l e R s m args below meth c Q em D cl Zs A (P.2.2.1 M) c0 z0 ad S.1.length pc' ls' st' S1) : W p l e R s m args below meth c H locs cells slots Q (F0 m pc lsA (st.map (am_v em ad))) := by
  obtain ⟨hx, hb, hml, hown, hts, hr, hlk, hnm, hRf, hRc, hRs, hRl, hexc⟩ := id act
  obtain ⟨hRl0, hS, hZ, hlo, hol, hos, hc, hz⟩ := id h
  obtain ⟨hP, hD, hK, hT, hW⟩ := id hRl0
  simp only [am_do] at hd
  simp only [am_okI] at hk
  obtain ⟨idx, hdg, rfl, C, T, N, ref, hcl, hbN, hfl, hsame⟩ := hk
  split at hd
  · rename_i k0 r
    split at hd
    · rename_i ci fs hcell
      split at hd
      · rename_i hci
        subst hci
        split at hd
        · rename_i v hv
          cases hd
          refine va_get (D := D) (ci := ci) (C := C) (T := T) (N := N) hx hb hts (hC ci C T N hcl).1 hown hK hP k0 (am_w_get hcell) hcl b hbN (hts _ hfl) (fun q hq => ?_) (v := am_v em ad v) (by rw [List.getElem?_map, hv]; rfl) hdg ?_
          · rcases hsame with rfl | hsame
            · exact hq
            · exact u_same (hts _ hsame) q hq
          · have hok : am_okv S.1.length v := hW k0 _ hcell v (List.mem_of_getElem? hv)
            exact kk _ _ _ _ _ _ _ _ (fun _ _ => rfl) ⟨hRl0, hS, hZ, hlo, hol, am_oc hok fun w hw => hos w (List.mem_cons_of_mem _ hw), hc, hz⟩
        · cases hd
      · cases hd
    · cases hd
  · cases hd
set_option maxHeartbeats 1000000 in
theorem am_s21 (act : am_Act P Y Ts p R s m args meth c M d mc ms) (hk : am_okI P Y cl Ts M pc 21 a b k x nx tab) (hd : am_do P.2.1 21 a b k x nx tab d ls st S = some (pc', ls', st', S1)) (h : am_St em D cl Zs A s H locs cells slots ad ca tys lsA (P.2.2.1 M) ls st S c0 z0) (hC : am_okC P.2.1 cl Ts) (hA : ∀ q, s.heap.size ≤ q → A q) (hup : S1.2.1 ≤ c0 + mc ∧ S1.2.2 ≤ z0 + ms)
    (kk : am_K p l e R s m args below meth c Q em D cl Zs A (P.2.2.1 M) c0 z0 ad S.1.length pc' ls' st' S1) : W p l e R s m args below meth c H locs cells slots Q (F0 m pc lsA (st.map (am_v em ad))) := by
  obtain ⟨hx, hb, hml, hown, hts, hr, hlk, hnm, hRf, hRc, hRs, hRl, hexc⟩ := id act
  obtain ⟨hRl0, hS, hZ, hlo, hol, hos, hc, hz⟩ := id h
  obtain ⟨hP, hD, hK, hT, hW⟩ := id hRl0
  simp only [am_do] at hd
  simp only [am_okI] at hk
  obtain ⟨idx, hdg, rfl, ⟨C, T, N, ref, hcl, hbN, hfl, hsame⟩, hkind⟩ := hk
  obtain ⟨hkT, hfin⟩ := hkind C T N hcl
  split at hd
  · rename_i v k0 r
    split at hd
    · rename_i ci fs hcell
      split at hd
      · rename_i hcond
        obtain ⟨rfl, hbl, hfit⟩ := hcond
        cases hd
        obtain ⟨hin, hnb, hdis, hnb0, ty, hty, hdef⟩ := hC ci C T N hcl
        obtain ⟨hn, hf⟩ := am_fitv hkT hfit em ad (hty b hbN)
        have hokv : am_okv S.1.length v := hos v List.mem_cons_self
        have hwset : (am_w em ad ca S.1).set k0 (ad k0, .inr (ci, (fs.map (am_v em ad)).set b (am_v em ad v))) = am_w em ad ca (S.1.set k0 (.inr (.inr (ci, fs.set b v)))) := by
          rw [← am_w_set]
          simp only [am_ce, List.map_set]
        have hnew : ∀ (H1 : Heap) (locs1 : List Loc), va_P D cl ((am_w em ad ca S.1).set k0 (ad k0, .inr (ci, (fs.map (am_v em ad)).set b (am_v em ad v)))) H1 → va_D A ((am_w em ad ca S.1).set k0 (ad k0, .inr (ci, (fs.map (am_v em ad)).set b (am_v em ad v)))) → va_S A s.heap H1 locs1 →
            W p l e R s m args below meth c H1 locs1 cells slots Q (F0 m (pc + 3) lsA (st'.map (am_v em ad))) := by
          intro H1 locs1 hP1 hD1 hS1
          rw [hwset] at hP1 hD1
          refine kk _ _ _ _ _ ca tys _ (fun _ _ => rfl) ⟨⟨hP1, hD1, hK, fun j q hj => ?_, fun j q hj => ?_⟩, hS1, hZ, hlo, by rw [List.length_set]; exact hol, by rw [List.length_set]; exact fun w hw => hos w (List.mem_cons_of_mem _ (List.mem_cons_of_mem _ hw)), hc, hz⟩
          · rw [List.getElem?_set] at hj
            split at hj
            · split at hj
              · cases hj; trivial
              · cases hj
            · exact hT j q hj
          · rw [List.length_set]
            rw [List.getElem?_set] at hj
            split at hj
            · split at hj
              · cases hj
                intro w hw
                rcases List.mem_or_eq_of_mem_set hw with hw | rfl
                · exact hW k0 _ hcell w hw
                · exact hokv
              · cases hj
            · exact hW j q hj
        have hsm : ∀ q, s.fieldFound? (T b).1 (T b).2.1 (T b).2.2.1 = some q → s.fieldFound? ref (T b).2.1 (T b).2.2.1 = some q := fun q hq => by
          rcases hsame with rfl | hsame
          · exact hq
          · exact u_same (hts _ hsame) q hq
        rcases hfin with hfin | ⟨hfin, hini, hdecl⟩
        · exact va_put (D := D) (ci := ci) (v := am_v em ad v) (ty := ty b) (C := C) (T := T) (N := N) hx hb hts hin ty hty hdis hown hK hP hD hS k0 (am_w_get hcell) hcl b hbN (hts _ hfl) hsm hfin (hty b hbN) hn hf (by rw [List.length_map]; exact hbl) hdg hnew
        · exact va_putF (D := D) (ci := ci) (v := am_v em ad v) (ty := ty b) (C := C) (T := T) (N := N) hx hb hts hin ty hty hdis hown hK hP hD hS k0 (am_w_get hcell) hcl b hbN (hts _ hfl) hsm hfin (by rw [hnm]; exact hini) hdecl (hty b hbN) hn hf (by rw [List.length_map]; exact hbl) hdg hnew
      · cases hd
    · cases hd
  · cases hd
set_option maxHeartbeats 1000000 in
theorem am_s22 (act : am_Act P Y Ts p R s m args meth c M d mc ms) (hk : am_okI P Y cl Ts M pc 22 a b k x nx tab) (hd : am_do P.2.1 22 a b k x nx tab d ls st S = some (pc', ls', st', S1)) (h : am_St em D cl Zs A s H locs cells slots ad ca tys lsA (P.2.2.1 M) ls st S c0 z0) (hC : am_okC P.2.1 cl Ts) (hA : ∀ q, s.heap.size ≤ q → A q) (hup : S1.2.1 ≤ c0 + mc ∧ S1.2.2 ≤ z0 + ms)
    (kk : am_K p l e R s m args below meth c Q em D cl Zs A (P.2.2.1 M) c0 z0 ad S.1.length pc' ls' st' S1) : W p l e R s m args below meth c H locs cells slots Q (F0 m pc lsA (st.map (am_v em ad))) := by
  obtain ⟨hx, hb, hml, hown, hts, hr, hlk, hnm, hRf, hRc, hRs, hRl, hexc⟩ := id act
  obtain ⟨hRl0, hS, hZ, hlo, hol, hos, hc, hz⟩ := id h
  obtain ⟨hP, hD, hK, hT, hW⟩ := id hRl0
  simp only [am_do] at hd
  simp only [am_okI] at hk
  obtain ⟨idx, C, T, N, hdg, rfl, hcl, h1, h2, h3⟩ := hk
  cases hd
  obtain ⟨hin, hnb, hdis, hnb0, ty, hty, hdef⟩ := hC a C T N hcl
  have hmap : ∀ ad' : Nat → Nat, (P.2.1 a).map (am_v em ad') = P.2.1 a := fun ad' => by
    conv => rhs; rw [← List.map_id (P.2.1 a)]
    exact List.map_congr_left fun v hv => by rcases hnb0 v hv with rfl | rfl <;> rfl
  have hR1 : cells + 1 ≤ R.cells := by rw [hRc]; have := hup.1; simp only at this; omega
  have hR2 : slots + N ≤ R.slots := by rw [hRs]; have := hup.2; simp only [hnb] at this; omega
  refine va_new (ci := a) (fs := P.2.1 a) (C := C) (T := T) (N := N) hx hb hts hin ty hty hown (hts _ h1) (hts _ h2) (hts _ h3) hK hP hD hS hA hcl hdef hR1 hR2 hdg (fun q H1 hP1 hD1 hS1 => ?_)
  rw [am_w_app (cA := 0) (c := .inr (.inr (a, P.2.1 a))) hW (by simp only [am_ce]; rw [hmap])] at hP1 hD1
  have hag : ∀ j, j < S.1.length → va_up ad S.1.length q j = ad j := fun j hj => if_neg (Nat.ne_of_lt hj)
  have e1 : st.map (am_v em ad) = st.map (am_v em (va_up ad S.1.length q)) := (am_st_eq hag hos).symm
  have e2 : va_up ad S.1.length q S.1.length = q := if_pos rfl
  rw [e1]
  have key := kk H1 locs (cells + 1) (slots + N) (va_up ad S.1.length q) (va_up ca S.1.length 0) tys lsA hag ⟨⟨hP1, hD1, hK, fun j w hj => ?_, fun j w hj => ?_⟩, hS1, hZ, hlo.agree hol hag, fun i v hv => (hol i v hv).mono (by simp), am_oc (by simp [am_okv]) (fun w hw => (hos w hw).mono (by simp)), by simp only; omega, by simp only [hnb]; omega⟩
  · rw [show (Value.ref S.1.length :: st).map (am_v em (va_up ad S.1.length q)) = .ref q :: st.map (am_v em (va_up ad S.1.length q)) by simp only [List.map_cons, am_v, e2]] at key
    exact key
  · rcases Nat.lt_or_ge j S.1.length with hj2 | hj2
    · rw [List.getElem?_append_left hj2] at hj
      rw [show va_up ca S.1.length 0 j = ca j from if_neg (Nat.ne_of_lt hj2)]
      exact hT j w hj
    · rw [List.getElem?_append_right hj2] at hj
      cases hq : j - S.1.length with
      | zero => rw [hq] at hj; cases hj; trivial
      | succ n => rw [hq] at hj; simp at hj
  · rcases Nat.lt_or_ge j S.1.length with hj2 | hj2
    · rw [List.getElem?_append_left hj2] at hj
      exact (hW j w hj).mono (by simp)
    · rw [List.getElem?_append_right hj2] at hj
      cases hq : j - S.1.length with
      | zero =>
        rw [hq] at hj; cases hj
        intro v hv
        rcases hnb0 v hv with rfl | rfl <;> trivial
      | succ n => rw [hq] at hj; simp at hj
set_option maxHeartbeats 1000000 in
theorem am_s23 (act : am_Act P Y Ts p R s m args meth c M d mc ms) (hk : am_okI P Y cl Ts M pc 23 a b k x nx tab) (hd : am_do P.2.1 23 a b k x nx tab d ls st S = some (pc', ls', st', S1)) (h : am_St em D cl Zs A s H locs cells slots ad ca tys lsA (P.2.2.1 M) ls st S c0 z0) (hC : am_okC P.2.1 cl Ts) (hA : ∀ q, s.heap.size ≤ q → A q) (hup : S1.2.1 ≤ c0 + mc ∧ S1.2.2 ≤ z0 + ms)
    (kk : am_K p l e R s m args below meth c Q em D cl Zs A (P.2.2.1 M) c0 z0 ad S.1.length pc' ls' st' S1) : W p l e R s m args below meth c H locs cells slots Q (F0 m pc lsA (st.map (am_v em ad))) := by
  obtain ⟨hx, hb, hml, hown, hts, hr, hlk, hnm, hRf, hRc, hRs, hRl, hexc⟩ := id act
  obtain ⟨hRl0, hS, hZ, hlo, hol, hos, hc, hz⟩ := id h
  obtain ⟨hP, hD, hK, hT, hW⟩ := id hRl0
  simp only [am_do] at hd
  simp only [am_okI] at hk
  obtain ⟨rfl, hk⟩ := hk
  split at hd
  · rename_i v r
    split at hd
    · rename_i hv
      cases hd
      have hR1 : cells + 1 ≤ R.cells := by rw [hRc]; have := hup.1; simp only at this; omega
      have hR2 : slots + v.toNatClampNeg ≤ R.slots := by rw [hRs]; have := hup.2; simp only at this; omega
      have hosr : ∀ w ∈ r, am_okv S.1.length w := fun w hw => hos w (List.mem_cons_of_mem _ hw)
      have fin : ∀ (ty : FieldType), am_ty [(0, ty)] 0 (.inl (decide (a = 1), v.toNatClampNeg, fun _ => 0)) → ∀ (q : Nat) (cA : ClassId) (H1 : Heap), va_K D cl (tys ++ [(cA, ty)]) s → va_P D cl (am_w em ad ca S.1 ++ [(q, .inl (cA, v.toNatClampNeg, .inl (fun _ => 0)))]) H1 → va_D A (am_w em ad ca S.1 ++ [(q, .inl (cA, v.toNatClampNeg, .inl (fun _ => 0)))]) → va_S A s.heap H1 locs →
          W p l e R s m args below meth c H1 locs (cells + 1) (slots + v.toNatClampNeg) Q (F0 m (pc + 2) lsA (.ref q :: r.map (am_v em ad))) := by
        intro ty hty q cA H1 hK1 hP1 hD1 hS1
        rw [am_w_app (cA := cA) (c := .inl (decide (a = 1), v.toNatClampNeg, fun _ => 0)) (E := .inl (cA, v.toNatClampNeg, .inl (fun _ => 0))) hW rfl] at hP1 hD1
        have hag : ∀ j, j < S.1.length → va_up ad S.1.length q j = ad j := fun j hj => if_neg (Nat.ne_of_lt hj)
        have e1 : r.map (am_v em ad) = r.map (am_v em (va_up ad S.1.length q)) := (am_st_eq hag hosr).symm
        have e2 : va_up ad S.1.length q S.1.length = q := if_pos rfl
        rw [e1]
        have key := kk H1 locs (cells + 1) (slots + v.toNatClampNeg) (va_up ad S.1.length q) (va_up ca S.1.length cA) (tys ++ [(cA, ty)]) lsA hag ⟨⟨hP1, hD1, hK1, fun j w hj => ?_, fun j w hj => ?_⟩, hS1, hZ, hlo.agree hol hag, fun i v hv => (hol i v hv).mono (by simp), am_oc (by simp [am_okv]) (fun w hw => (hosr w hw).mono (by simp)), by simp only; omega, by simp only; omega⟩
        · rw [show (Value.ref S.1.length :: r).map (am_v em (va_up ad S.1.length q)) = .ref q :: r.map (am_v em (va_up ad S.1.length q)) by simp only [List.map_cons, am_v, e2]] at key
          exact key
        · rcases Nat.lt_or_ge j S.1.length with hj2 | hj2
          · rw [List.getElem?_append_left hj2] at hj
            rw [show va_up ca S.1.length cA j = ca j from if_neg (Nat.ne_of_lt hj2)]
            exact (hT j w hj).more
          · rw [List.getElem?_append_right hj2] at hj
            cases hq : j - S.1.length with
            | zero =>
              have hj3 : j = S.1.length := by omega
              rw [hq] at hj; cases hj
              subst hj3
              rw [show va_up ca S.1.length cA S.1.length = cA from if_pos rfl]
              have hlast : (tys ++ [(cA, ty)])[tys.length]? = some (cA, ty) := by simp
              have h0 : ∀ (t0 : Nat) (ty0 : FieldType), ([(0, ty)] : List (ClassId × FieldType))[t0]? = some (0, ty0) → ty0 = ty := fun t0 ty0 q => by
                cases t0 with
                | zero => simp at q; exact q.symm
                | succ n => simp at q
              cases hbb : decide (a = 1) with
              | false => rw [hbb] at hty; obtain ⟨t0, h1⟩ := hty; exact ⟨tys.length, by rw [h0 _ _ h1]; exact hlast⟩
              | true => rw [hbb] at hty; obtain ⟨t0, h1⟩ := hty; exact ⟨tys.length, by rw [h0 _ _ h1]; exact hlast⟩
            | succ n => rw [hq] at hj; simp at hj
        · rcases Nat.lt_or_ge j S.1.length with hj2 | hj2
          · rw [List.getElem?_append_left hj2] at hj
            exact (hW j w hj).mono (by simp)
          · rw [List.getElem?_append_right hj2] at hj
            cases hq : j - S.1.length with
            | zero => rw [hq] at hj; cases hj; trivial
            | succ n => rw [hq] at hj; simp at hj
      rcases hk with ⟨rfl, hdg, harr⟩ | ⟨rfl, hdg, harr⟩
      · exact va_newa (atype := .int) (ty := .int) (a0 := (v.toNatClampNeg, .inl (fun _ => 0))) hx hb (hts _ harr) rfl hK hP hD hS hA (fun _ => rfl) hv.1 rfl (by show v.toNatClampNeg * 4 ≤ 536870912; have := hv.2; omega) hR1 hR2 hdg (fin .int ⟨0, rfl⟩)
      · exact va_newa (atype := .boolean) (ty := .boolean) (a0 := (v.toNatClampNeg, .inl (fun _ => 0))) hx hb (hts _ harr) rfl hK hP hD hS hA (fun _ => rfl) hv.1 rfl (by show v.toNatClampNeg * 1 ≤ 536870912; have := hv.2; omega) hR1 hR2 hdg (fin .boolean ⟨0, rfl⟩)
    · cases hd
  · cases hd
set_option maxHeartbeats 1000000 in
theorem am_s24 (act : am_Act P Y Ts p R s m args meth c M d mc ms) (hk : am_okI P Y cl Ts M pc 24 a b k x nx tab) (hd : am_do P.2.1 24 a b k x nx tab d ls st S = some (pc', ls', st', S1)) (h : am_St em D cl Zs A s H locs cells slots ad ca tys lsA (P.2.2.1 M) ls st S c0 z0) (hC : am_okC P.2.1 cl Ts) (hA : ∀ q, s.heap.size ≤ q → A q) (hup : S1.2.1 ≤ c0 + mc ∧ S1.2.2 ≤ z0 + ms)
    (kk : am_K p l e R s m args below meth c Q em D cl Zs A (P.2.2.1 M) c0 z0 ad S.1.length pc' ls' st' S1) : W p l e R s m args below meth c H locs cells slots Q (F0 m pc lsA (st.map (am_v em ad))) := by
  obtain ⟨hx, hb, hml, hown, hts, hr, hlk, hnm, hRf, hRc, hRs, hRl, hexc⟩ := id act
  obtain ⟨hRl0, hS, hZ, hlo, hol, hos, hc, hz⟩ := id h
  obtain ⟨hP, hD, hK, hT, hW⟩ := id hRl0
  simp only [am_do] at hd
  simp only [am_okI] at hk
  obtain ⟨hdg, rfl⟩ := hk
  split at hd
  · rename_i k0 r
    split at hd
    · rename_i bb n f hcell
      cases hd
      obtain ⟨t0, ht0⟩ := am_tyA (hT k0 _ hcell)
      exact va_alen hx hb hK hP k0 t0 (am_w_get hcell) ht0 rfl hdg (kk _ _ _ _ _ _ _ _ (fun _ _ => rfl) ⟨hRl0, hS, hZ, hlo, hol, am_oc trivial fun w hw => hos w (List.mem_cons_of_mem _ hw), hc, hz⟩)
    · rename_i n f hcell
      cases hd
      obtain ⟨t0, ht0⟩ := hT k0 _ hcell
      exact va_alen hx hb hK hP k0 t0 (am_w_get hcell) ht0 rfl hdg (kk _ _ _ _ _ _ _ _ (fun _ _ => rfl) ⟨hRl0, hS, hZ, hlo, hol, am_oc trivial fun w hw => hos w (List.mem_cons_of_mem _ hw), hc, hz⟩)
    · cases hd
  · cases hd
set_option maxHeartbeats 1000000 in
theorem am_s25 (act : am_Act P Y Ts p R s m args meth c M d mc ms) (hk : am_okI P Y cl Ts M pc 25 a b k x nx tab) (hd : am_do P.2.1 25 a b k x nx tab d ls st S = some (pc', ls', st', S1)) (h : am_St em D cl Zs A s H locs cells slots ad ca tys lsA (P.2.2.1 M) ls st S c0 z0) (hC : am_okC P.2.1 cl Ts) (hA : ∀ q, s.heap.size ≤ q → A q) (hup : S1.2.1 ≤ c0 + mc ∧ S1.2.2 ≤ z0 + ms)
    (kk : am_K p l e R s m args below meth c Q em D cl Zs A (P.2.2.1 M) c0 z0 ad S.1.length pc' ls' st' S1) : W p l e R s m args below meth c H locs cells slots Q (F0 m pc lsA (st.map (am_v em ad))) := by
  obtain ⟨hx, hb, hml, hown, hts, hr, hlk, hnm, hRf, hRc, hRs, hRl, hexc⟩ := id act
  obtain ⟨hRl0, hS, hZ, hlo, hol, hos, hc, hz⟩ := id h
  obtain ⟨hP, hD, hK, hT, hW⟩ := id hRl0
  simp only [am_do] at hd
  simp only [am_okI] at hk
  obtain ⟨rfl, hk⟩ := hk
  split at hd
  · rename_i i k0 r
    split at hd
    · rename_i bb n f hcell
      split at hd
      · rename_i hin
        cases hd
        obtain ⟨hbb, hi0, hin⟩ := hin
        have hi : vp_in i n := fun q => q.elim hi0 (fun q => by omega)
        obtain ⟨t0, ht0⟩ := am_tyA (hT k0 _ hcell)
        have kk1 := kk _ _ _ _ _ _ _ _ (fun _ _ => rfl) ⟨hRl0, hS, hZ, hlo, hol, am_oc (v := .int (f i.toNatClampNeg)) trivial fun w hw => hos w (List.mem_cons_of_mem _ (List.mem_cons_of_mem _ hw)), hc, hz⟩
        rcases hk with ⟨rfl, hdg⟩ | ⟨rfl, hdg⟩
        · rw [← hbb] at ht0
          exact va_iald hx hb hK hP k0 t0 (am_w_get hcell) ht0 hi hdg kk1
        · rw [← hbb] at ht0
          exact va_zald hx hb hK hP k0 t0 (am_w_get hcell) ht0 hi hdg kk1
      · cases hd
    · cases hd
  · cases hd
set_option maxHeartbeats 1000000 in
theorem am_s26 (act : am_Act P Y Ts p R s m args meth c M d mc ms) (hk : am_okI P Y cl Ts M pc 26 a b k x nx tab) (hd : am_do P.2.1 26 a b k x nx tab d ls st S = some (pc', ls', st', S1)) (h : am_St em D cl Zs A s H locs cells slots ad ca tys lsA (P.2.2.1 M) ls st S c0 z0) (hC : am_okC P.2.1 cl Ts) (hA : ∀ q, s.heap.size ≤ q → A q) (hup : S1.2.1 ≤ c0 + mc ∧ S1.2.2 ≤ z0 + ms)
    (kk : am_K p l e R s m args below meth c Q em D cl Zs A (P.2.2.1 M) c0 z0 ad S.1.length pc' ls' st' S1) : W p l e R s m args below meth c H locs cells slots Q (F0 m pc lsA (st.map (am_v em ad))) := by
  obtain ⟨hx, hb, hml, hown, hts, hr, hlk, hnm, hRf, hRc, hRs, hRl, hexc⟩ := id act
  obtain ⟨hRl0, hS, hZ, hlo, hol, hos, hc, hz⟩ := id h
  obtain ⟨hP, hD, hK, hT, hW⟩ := id hRl0
  simp only [am_do] at hd
  simp only [am_okI] at hk
  obtain ⟨rfl, hk⟩ := hk
  split at hd
  · rename_i v i k0 r
    split at hd
    · rename_i bb n f hcell
      split at hd
      · rename_i hin
        cases hd
        obtain ⟨hbb, hi0, hin, hbit⟩ := hin
        have hi : vp_in i n := fun q => q.elim hi0 (fun q => by omega)
        obtain ⟨t0, ht0⟩ := am_tyA (hT k0 _ hcell)
        have hwset : (am_w em ad ca S.1).set k0 (ad k0, .inl (ca k0, n, .inl (upd f i.toNatClampNeg v))) = am_w em ad ca (S.1.set k0 (.inl (bb, n, upd f i.toNatClampNeg v))) := by
          rw [← am_w_set]
          simp only [am_ce]
        have hnew : ∀ (H1 : Heap) (locs1 : List Loc), va_P D cl ((am_w em ad ca S.1).set k0 (ad k0, .inl (ca k0, n, .inl (upd f i.toNatClampNeg v)))) H1 → va_D A ((am_w em ad ca S.1).set k0 (ad k0, .inl (ca k0, n, .inl (upd f i.toNatClampNeg v)))) → va_S A s.heap H1 locs1 →
            W p l e R s m args below meth c H1 locs1 cells slots Q (F0 m (pc + 1) lsA (st'.map (am_v em ad))) := by
          intro H1 locs1 hP1 hD1 hS1
          rw [hwset] at hP1 hD1
          refine kk _ _ _ _ _ ca tys _ (fun _ _ => rfl) ⟨⟨hP1, hD1, hK, fun j q hj => ?_, fun j q hj => ?_⟩, hS1, hZ, hlo, by rw [List.length_set]; exact hol, by rw [List.length_set]; exact fun w hw => hos w (List.mem_cons_of_mem _ (List.mem_cons_of_mem _ (List.mem_cons_of_mem _ hw))), hc, hz⟩
          · rw [List.getElem?_set] at hj
            split at hj
            · split at hj
              · rename_i hjj _
                cases hj
                subst hjj
                have h9 := hT k0 _ hcell
                cases bb <;> exact h9
              · cases hj
            · exact hT j q hj
          · rw [List.length_set]
            rw [List.getElem?_set] at hj
            split at hj
            · split at hj
              · cases hj; trivial
              · cases hj
            · exact hW j q hj
        rcases hk with ⟨rfl, hdg⟩ | ⟨rfl, hdg⟩
        · rw [← hbb] at ht0
          exact va_iast hx hb hK hP hD hS k0 t0 (am_w_get hcell) ht0 hi hdg hnew
        · rw [← hbb] at ht0
          have hv : vp_nar .boolean v = v := by rcases hbit hbb.symm with rfl | rfl <;> decide
          refine va_zast hx hb hK hP hD hS k0 t0 (am_w_get hcell) ht0 hi hdg ?_
          rw [hv]
          exact hnew
      · cases hd
    · cases hd
  · cases hd
set_option maxHeartbeats 1000000 in
theorem am_s30 (act : am_Act P Y Ts p R s m args meth c M d mc ms) (hk : am_okI P Y cl Ts M pc 30 a b k x nx tab) (hd : am_do P.2.1 30 a b k x nx tab d ls st S = some (pc', ls', st', S1)) (h : am_St em D cl Zs A s H locs cells slots ad ca tys lsA (P.2.2.1 M) ls st S c0 z0) (hC : am_okC P.2.1 cl Ts) (hA : ∀ q, s.heap.size ≤ q → A q) (hup : S1.2.1 ≤ c0 + mc ∧ S1.2.2 ≤ z0 + ms)
    (kk : am_K p l e R s m args below meth c Q em D cl Zs A (P.2.2.1 M) c0 z0 ad S.1.length pc' ls' st' S1) : W p l e R s m args below meth c H locs cells slots Q (F0 m pc lsA (st.map (am_v em ad))) := by
  obtain ⟨hx, hb, hml, hown, hts, hr, hlk, hnm, hRf, hRc, hRs, hRl, hexc⟩ := id act
  obtain ⟨hRl0, hS, hZ, hlo, hol, hos, hc, hz⟩ := id h
  obtain ⟨hP, hD, hK, hT, hW⟩ := id hRl0
  simp only [am_do] at hd
  simp only [am_okI] at hk
  obtain ⟨idx, C, T, N, hdg, rfl, hcl, h1⟩ := hk
  split at hd
  · rename_i k0 r
    split at hd
    · rename_i ci fs hcell
      split at hd
      · rename_i hci
        subst hci
        cases hd
        exact va_castS hx hb hown (hts _ h1) (hK.1 ci _ hcl).2 (va_recv hK hP hcl (am_w_get hcell)) hdg (kk _ _ _ _ _ _ _ _ (fun _ _ => rfl) h)
      · cases hd
    · cases hd
  · cases hd
end AM4
