/-! ONE STEP MORE: the induction -/
section AM6
variable {em : Int64 → Nat} {P : am_P} {Y : am_Y} {D : va_G} {cl : List vw_C} {Ts : List Jvm.Cond} {Zs : (Nat → Prop) → State → Heap → Prop} {l : Launch}
set_option maxHeartbeats 4000000 in
theorem am_callS (hC : am_okC P.2.1 cl Ts) (hTs : ∀ w ∈ Ts, am_Ps w) (hZp : am_Zp Zs) (hCat : Jvm.Cond.castable am_ise am_ise ∈ Ts) {n : Nat} (ih : am_Snd em P Y D cl Ts Zs l n)
    {M pc a b k nx d : Nat} {x : Int32} {tab : List (Int32 × Nat)} {ls : am_V} {st : List Value} {S S' : am_S} {o : Option (Option Value)} (hk : am_okI P Y cl Ts M pc 32 a b k x nx tab)
    (hb0 : b ≤ st.length ∧ st.length ≤ b + 8 ∧ b ≤ P.2.2.1 a ∧ am_recv k (st.take b).reverse S = true)
    (hrun : (match am_run P n d a 0 (am_in (st.take b).reverse (P.2.2.1 a)) [] S with
      | none => none
      | some (some v, S1) => am_run P n (d + 1) M nx ls (v.toList ++ st.drop b) S1
      | some (none, S1) => match P.2.2.2.1 M pc with
        | none => some (none, S1)
        | some (h, j) => am_run P n (d + 1) M h (ls.set j none) [] S1) = some (o, S'))
    {p : Program} {e : Env} {R : Room} {s : State} {m : MethodId} {args : Array Value} {below : List Frame} {meth : Method} {c : Code} {H : Heap} {locs : List Loc} {cells slots mc ms c0 z0 n0 : Nat} {A : Nat → Prop} {ad ad0 : Nat → Nat} {ca : Nat → ClassId} {tys : List (ClassId × FieldType)} {lsA : Array Slot}
    (act : am_Act P Y Ts p R s m args meth c M (d + 1) mc ms) (h : am_St em D cl Zs A s H locs cells slots ad ca tys lsA (P.2.2.1 M) ls st S c0 z0) (hA : ∀ q, s.heap.size ≤ q → A q) (hmc : c0 + mc = S'.2.1) (hms : z0 + ms = S'.2.2) (hn0 : n0 ≤ S.1.length) (hag : ∀ k, k < n0 → ad k = ad0 k) :
    W p l e R s m args below meth c H locs cells slots (am_MQ below (am_Qc em D cl A n0 ad0 o S') args s mc ms A) (F0 m pc lsA (st.map (am_v em ad))) := by
  obtain ⟨hx, hb, hml, hown, hts, hr, hlk, hnm, hRf, hRc, hRs, hRl, hexc, hhn⟩ := id act
  obtain ⟨hRl0, hS, hZ, hlo, hol, hos, hc, hz⟩ := id h
  obtain ⟨hP, hD, hK, hT, hW⟩ := id hRl0
  obtain ⟨idx, rfl, hokM, hk⟩ := hk
  cases hcall : am_run P n d a 0 (am_in (st.take b).reverse (P.2.2.1 a)) [] S with
  | none => rw [hcall] at hrun; cases hrun
  | some q0 =>
    obtain ⟨o1, S1⟩ := q0
    rw [hcall] at hrun
    have has : ∀ w ∈ (st.take b).reverse, am_okv S.1.length w := fun w hw => hos w (List.mem_of_mem_take (List.mem_reverse.mp hw))
    have hal : (st.take b).reverse.length = b := by rw [List.length_reverse, List.length_take]; omega
    have hup1 := am_run_up P _ _ _ _ _ _ _ _ _ hcall
    have hdrop : ∀ w ∈ st.drop b, am_okv S.1.length w := fun w hw => hos w (List.mem_of_mem_drop hw)
    have hup : S1.2.1 ≤ S'.2.1 ∧ S1.2.2 ≤ S'.2.2 := by
      cases o1 with
      | some v => have := am_run_up P _ _ _ _ _ _ _ _ _ hrun; exact ⟨this.1, this.2.1⟩
      | none =>
        dsimp only at hrun
        cases hh : P.2.2.2.1 M pc with
        | none => rw [hh] at hrun; cases hrun; exact ⟨Nat.le_refl _, Nat.le_refl _⟩
        | some q => rw [hh] at hrun; have := am_run_up P _ _ _ _ _ _ _ _ _ hrun; exact ⟨this.1, this.2.1⟩
    obtain ⟨wsM, hwsM, hMet⟩ := am_met ih hcall hokM has (by rw [hal]; exact hb0.2.2.1) ad ca tys H
    have hsub := am_A.sub hRl0 hS hA
    have hZH : Zs A s H := hZp.1 A s s.heap H hZ hS.2.1 hS.1
    have hsplit : st.map (am_v em ad) = (((st.take b).reverse).map (am_v em ad)).reverse ++ (st.drop b).map (am_v em ad) := by
      rw [← List.map_reverse, List.reverse_reverse, ← List.map_append, List.take_append_drop]
    have hinv : am_Inv p l e R s m args below meth c H locs cells slots (F0 m pc lsA (st.map (am_v em ad))) ((st.drop b).map (am_v em ad)) (Y a).1 (((st.take b).reverse).map (am_v em ad)).toArray := by
      match k, hk, hb0 with
      | 0, hk, _ =>
        obtain ⟨hdg, hcd, h1, h2, hlen⟩ := hk
        exact am_invS hx hb hown (hts _ h1) (hts _ h2) (hts _ hokM.2.1) (hts _ hcd) hokM.2.2.1 rfl (fun sig hs => by rw [List.length_map, hal]; exact hlen sig hs) hsplit hdg
      | 1, hk, hb0 =>
        obtain ⟨hdg, hcd0, h1, h2, hin, hret, hlen⟩ := hk
        cases hasl : (st.take b).reverse with
        | nil => rw [hasl] at hb0; simp [am_recv] at hb0
        | cons w as1 =>
          rw [hasl] at hb0 hsplit hal
          cases w <;> simp only [am_recv] at hb0 <;> try (exact absurd hb0.2.2.2 (by decide))
          rename_i r0
          have hst2 : st.map (am_v em ad) = (as1.map (am_v em ad)).reverse ++ .ref (ad r0) :: (st.drop b).map (am_v em ad) := by
            rw [hsplit]; simp [am_v]
          have hl2 : ∀ sig, parseMethodDescriptor (Y a).1.desc = some sig → (as1.map (am_v em ad)).length = sig.parameters.length := fun sig hs => by
            have := hlen sig hs
            rw [List.length_map]; simp at hal; omega
          have hcd := hts _ hcd0
          rw [hret] at hcd
          rcases h1 with h1 | ⟨host, h1⟩
          · exact am_invI (b := ad r0) (As := as1.map (am_v em ad)) hx hb hown hin (hts _ h1) (hts _ h2) hcd hokM.2.2.1 rfl hl2 hst2 hdg
          · exact am_invIN (b := ad r0) (As := as1.map (am_v em ad)) hx hb hown hin (hts _ h1) (hts _ h2) hcd hokM.2.2.1 rfl hl2 hst2 hdg
      | kc + 2, hk, hb0 =>
        obtain ⟨C, T, N, hcl, hdg, h1, h2, h3, hlen⟩ := hk
        cases hasl : (st.take b).reverse with
        | nil => rw [hasl] at hb0; simp [am_recv] at hb0
        | cons w as1 =>
          rw [hasl] at hb0 hsplit hal
          cases w <;> simp only [am_recv] at hb0 <;> try (exact absurd hb0.2.2.2 (by decide))
          rename_i r0
          have hst2 : st.map (am_v em ad) = (as1.map (am_v em ad)).reverse ++ .ref (ad r0) :: (st.drop b).map (am_v em ad) := by
            rw [hsplit]; simp [am_v]
          have hl2 : ∀ sig, parseMethodDescriptor (Y a).1.desc = some sig → (as1.map (am_v em ad)).length = sig.parameters.length := fun sig hs => by
            have := hlen sig hs
            rw [List.length_map]; simp at hal; omega
          have hrecv := hb0.2.2.2
          split at hrecv
          · rename_i ci fs hcell
            have hci : ci = kc := of_decide_eq_true hrecv
            subst hci
            exact am_invV (b := ad r0) (C := C) (As := as1.map (am_v em ad)) hx hb hown (hts _ h1) (hts _ h2) (hts _ h3) (fun mk9 meth9 hn9 hm9 => by
              obtain ⟨m8, -, k1, -, -, k4⟩ := am_cdS hokM.1 hts mk9 hn9
              cases hm9.symm.trans k1
              exact k4) hokM.2.2.1 (va_recv hK hP hcl (am_w_get hcell)) rfl hl2 hst2 hdg
          · cases hrecv
    have hgood : ∀ w ∈ Ts, ∀ (a' : Array Value) (U : State), s.WarmedH U.vm → w.before a' U = true := fun w hw a' U hWU => hTs w hw s U args a' hWU (hts w hw)
    refine am_callW (maxL := P.2.2.1 a) hinv hMet ?_ rfl rfl ?_ (fun w hw => hgood w (hwsM w hw)) (fun U9 mk9 hW9 hn9 => by
      obtain ⟨m8, c8, k1, k2, k3, -⟩ := am_cdS (args := #[]) hokM.1 (fun w hw => hgood w hw _ _ hW9) mk9 hn9
      exact ⟨m8, c8, k1, k2, k3⟩) (hgood _ hokM.2.1) ?_ ?_ ?_ ?_ ?_ ?_
    · rintro a9 U g9 mk ⟨q1, q2, q3, q4⟩
      exact ⟨q1, q2, q3.moved (Vm.Alike.refl U.vm), hZp.2.1 _ U _ _ (State.WarmedH.refl U) q4⟩
    · refine ⟨by rw [hRf]; exact Nat.le_refl _, ?_⟩
      have := hokM.2.2.2.2
      rw [hRl]
      show 8 + (P.2.2.1 a + 11) + 41 * d ≤ 41 * (d + 1)
      omega
    · show lsA.size = c.maxLocals
      rw [hml]; exact hlo.1.1
    · show 2 * 0 + (((st.drop b).map (am_v em ad)).map fun v => v.category).sum ≤ 8
      rw [am_cats _ hdrop, List.length_drop]
      omega
    · rw [hRc, hRs]; omega
    · intro U hU hWU
      exact ⟨rfl, hU, (hRl0.own).moved hWU.alike, hZp.2.1 _ s U _ hWU (hZp.2.2 _ _ _ _ hsub hZH)⟩
    · intro v st₀ t L h0 hWt hL hq
      obtain ⟨⟨ad', ca', tys', hag', hRl', hm⟩, hF⟩ := hq
      cases o1 with
      | none => obtain ⟨q9, ce, hq9, -⟩ := hm; cases hq9
      | some v1 =>
        obtain ⟨hv1, hok1⟩ := hm
        cases hv1
        have e1 : (st.drop b).map (am_v em ad) = (st.drop b).map (am_v em ad') := (am_st_eq hag' hdrop).symm
        refine W.eq (g2 := F0 m (pc + 3) lsA ((v1.toList ++ st.drop b).map (am_v em ad'))) ?_ ?_
        · rw [e1, List.map_append]
          cases v1 <;> rfl
        · refine ih (d + 1) M (pc + 3) ls (v1.toList ++ st.drop b) S1 o S' hrun p e R s m args below meth c t.heap (locs ++ L) _ _ mc ms c0 z0 n0 A ad' ad0 ca' tys' lsA act ⟨(hRl'.moved hWt.alike.symm).weaken hsub, am_Sjoin hS h0 hF hsub hL, hZ, hlo.agree hol hag', fun i w hw => (hol i w hw).mono hup1.2.2, fun w hw => ?_, by omega, by omega⟩ hA hmc hms (Nat.le_trans hn0 hup1.2.2) (fun j hj => (hag' j (Nat.lt_of_lt_of_le hj hn0)).trans (hag j hj))
          rcases List.mem_append.mp hw with hw | hw
          · cases v1 with
            | none => cases hw
            | some v2 =>
              simp at hw
              subst hw
              exact hok1 _ rfl
          · exact (hdrop w hw).mono hup1.2.2
    · intro q st₀ t L h0 hWt hL hq
      obtain ⟨⟨ad', ca', tys', hag', hRl', hm⟩, hF⟩ := hq
      cases o1 with
      | some v1 => obtain ⟨hv1, -⟩ := hm; cases hv1
      | none =>
        obtain ⟨q9, ce, hq9, hce, hcv, hcc⟩ := hm
        cases hq9
        dsimp only at hrun
        have hcc' : s.vm.findClass am_ise = some ce.cls := by rw [← hWt.alike.findClass]; exact hcc
        have hSj := am_Sjoin hS h0 hF hsub hL
        have hRj := (hRl'.moved hWt.alike.symm).weaken hsub
        cases hh : P.2.2.2.1 M pc with
        | none =>
          rw [hh] at hrun
          cases hrun
          refine am_outX rfl rfl rfl (hexc pc hh) hlk (fun t2 ht2 hW2 => ?_) hSj.2.2 (by omega) (by omega)
          refine ⟨⟨ad', ca', tys', fun j hj => (hag' j (Nat.lt_of_lt_of_le hj hn0)).trans (hag j hj), ?_, q, ce, rfl, by rw [ht2]; exact hce, hcv, by rw [hW2.alike.findClass]; exact hcc'⟩, hSj.F ht2⟩
          rw [ht2]
          exact hRj.moved hW2.alike
        | some hj =>
          obtain ⟨h9, j⟩ := hj
          rw [hh] at hrun
          refine am_Cat hCat hh act (hlo.agree hol hag') (n := S1.1.length) (fun i w hw => (hol i w hw).mono hup1.2.2) hce hcv hcc' (fun lsA' hlo' => ?_)
          exact ih (d + 1) M h9 (ls.set j none) [] S1 o S' hrun p e R s m args below meth c t.heap (locs ++ L) _ _ mc ms c0 z0 n0 A ad' ad0 ca' tys' lsA' act ⟨hRj, hSj, hZ, hlo', am_okl.drop j (fun i w hw => (hol i w hw).mono hup1.2.2), (fun v hv => nomatch hv), by omega, by omega⟩ hA hmc hms (Nat.le_trans hn0 hup1.2.2) (fun j hj => (hag' j (Nat.lt_of_lt_of_le hj hn0)).trans (hag j hj))
set_option maxHeartbeats 4000000 in
theorem am_snd (hok : ∀ M pc op a b c x nx tab, P.1 M pc = some (op, a, b, c, x, nx, tab) → am_okI P Y cl Ts M pc op a b c x nx tab) (hC : am_okC P.2.1 cl Ts) (hTs : ∀ w ∈ Ts, am_Ps w) (hZp : am_Zp Zs) (hE : am_ZE em P.2.2.2.2 Zs) (hThr : am_Thr P Y Ts Zs l) (hCat : Jvm.Cond.castable am_ise am_ise ∈ Ts) : ∀ n, am_Snd em P Y D cl Ts Zs l n := by
  intro n
  induction n with
  | zero => intro d M pc ls st S o S' hrun; simp [am_run] at hrun
  | succ n ih =>
    intro d M pc ls st S o S' hrun p e R s m args below meth c H locs cells slots mc ms c0 z0 n0 A ad ad0 ca tys lsA act h hA hmc hms hn0 hag
    rw [am_run] at hrun
    cases hi : P.1 M pc with
    | none => rw [hi] at hrun; cases hrun
    | some i =>
      obtain ⟨op, a, b, k, x, nx, tab⟩ := i
      rw [hi] at hrun
      dsimp only at hrun
      have hk := hok M pc op a b k x nx tab hi
      obtain ⟨hx, hb, hml, hown, hts, hr, hlk, hnm, hRf, hRc, hRs, hRl, hexc, hhn⟩ := id act
      obtain ⟨hRl0, hS, hZ, hlo, hol, hos, hc, hz⟩ := id h
      by_cases h32 : op = 32
      · rw [if_pos h32] at hrun
        subst h32
        split at hrun
        · rename_i hb0
          cases d with
          | zero => cases hrun
          | succ d' => exact am_callS hC hTs hZp hCat ih hk hb0 hrun act h hA hmc hms hn0 hag
        · cases hrun
      · rw [if_neg h32] at hrun
        by_cases h37 : op = 37
        · rw [if_pos h37] at hrun
          subst h37
          split at hrun
          · rename_i hd0
            cases hrun
            simp only at hmc hms
            refine hThr M pc a b k x nx tab hi p e R s m args below meth c H locs cells slots d mc ms A lsA _ _ act hS hZ hA hlo.1.1 hd0.1 (by rw [am_cats _ hos]; exact hd0.2) (by omega) (by omega) (fun q ce t hWt hsz hkp hce hcv hcc => ?_)
            have hkp' : va_P D cl (am_w em ad ca S.1) t.heap := hRl0.1.kept fun k q hk => hkp _ ((hRl0.1 k q hk).lt)
            exact ⟨⟨ad, ca, tys, hag, ⟨hkp', hRl0.2.1, va_K.moved hWt.alike hRl0.2.2.1, hRl0.2.2.2⟩, q, ce, rfl, hce, hcv, hcc⟩, ⟨Nat.le_trans hS.1 hsz, fun z hz hzA => by rw [hkp z (Nat.lt_of_lt_of_le hz hS.1)]; exact hS.2.1 z hz hzA⟩⟩
          · cases hrun
        · rw [if_neg h37] at hrun
          by_cases h33 : 33 ≤ op ∧ op ≤ 36
          · rw [if_pos h33] at hrun
            cases hret : am_ret op st with
            | none => rw [hret] at hrun; cases hrun
            | some v =>
              rw [hret] at hrun
              cases hrun
              obtain rfl : cells = mc := by omega
              obtain rfl : slots = ms := by omega
              have hq : ∀ v2 : Option Value, (∀ y, v2 = some y → am_okv S.1.length y) → ∀ t : State, t.heap = H → s.WarmedH t.vm → am_Qc em D cl A n0 ad0 (some v2) S args s (.returned (v2.map (am_v em ad))) t := fun v2 hv2 t ht hWt =>
                ⟨⟨ad, ca, tys, hag, by rw [ht]; exact hRl0.moved hWt.alike, rfl, hv2⟩, hS.F ht⟩
              have h4 : op = 33 ∨ op = 34 ∨ op = 35 ∨ op = 36 := by omega
              rcases h4 with rfl | rfl | rfl | rfl
              · simp only [am_okI] at hk
                obtain ⟨hdg, hret2⟩ := hk
                unfold am_ret at hret
                split at hret <;> try (cases hret; done)
                all_goals try contradiction
                all_goals try omega
                rename_i v2 _
                cases hret
                exact am_MQ.of (W.iret hx hb (by rw [hr]; exact hret2) (hq (some (.int v2)) (fun y hy => by cases hy; trivial)) hS.2.2 hdg hlk)
              · simp only [am_okI] at hk
                obtain ⟨hdg, hret2⟩ := hk
                have hrt : ∃ rt, meth.sig.returnType = some rt ∧ ((∃ n, rt = .object n) ∨ ∃ t, rt = .array t) := by
                  rcases hret2 with ⟨n9, h9⟩ | ⟨n9, h9⟩
                  · exact ⟨_, by rw [hr]; exact h9, Or.inl ⟨n9, rfl⟩⟩
                  · exact ⟨_, by rw [hr]; exact h9, Or.inr ⟨n9, rfl⟩⟩
                obtain ⟨rt, hrt1, hrt2⟩ := hrt
                unfold am_ret at hret
                split at hret <;> try (cases hret; done)
                all_goals try contradiction
                all_goals try omega
                · rename_i v2 _
                  cases hret
                  exact am_MQ.of (W.aret hx hb hrt1 hrt2 (Or.inr ⟨_, rfl⟩) (hq (some (.ref v2)) (fun y hy => by cases hy; exact hos _ List.mem_cons_self)) hS.2.2 hdg hlk)
                · cases hret
                  exact am_MQ.of (W.aret hx hb hrt1 hrt2 (Or.inl rfl) (hq (some .null) (fun y hy => by cases hy; trivial)) hS.2.2 hdg hlk)
              · simp only [am_okI] at hk
                obtain ⟨hdg, hret2⟩ := hk
                unfold am_ret at hret
                split at hret <;> try (cases hret; done)
                all_goals try contradiction
                all_goals try omega
                cases hret
                exact am_MQ.of (W.vret hx hb (by rw [hr]; exact hret2) (hq none (fun y hy => by cases hy)) hS.2.2 hdg hlk)
              · simp only [am_okI] at hk
                obtain ⟨hdg, hret2⟩ := hk
                unfold am_ret at hret
                split at hret <;> try (cases hret; done)
                all_goals try contradiction
                all_goals try omega
                rename_i v2 _
                split at hret
                · rename_i hv2
                  cases hret
                  exact am_MQ.of (W.zret hx hb (by rw [hr]; exact hret2) (by rcases hv2 with rfl | rfl <;> decide) (hq (some (.int v2)) (fun y hy => by cases hy; trivial)) hS.2.2 hdg hlk)
                · cases hret
          · rw [if_neg h33] at hrun
            cases hd : am_do P.2.1 P.2.2.2.2 op a b k x nx tab d ls st S with
            | none => rw [hd] at hrun; cases hrun
            | some q =>
              rw [hd] at hrun
              obtain ⟨pc', ls', st', S1⟩ := q
              have hup0 := am_do_up hd
              have hup2 := am_run_up P _ _ _ _ _ _ _ _ _ hrun
              have hup : S1.2.1 ≤ c0 + mc ∧ S1.2.2 ≤ z0 + ms := ⟨by rw [hmc]; exact hup2.1, by rw [hms]; exact hup2.2.1⟩
              have kk : am_K p l e R s m args below meth c (am_MQ below (am_Qc em D cl A n0 ad0 o S') args s mc ms A) em D cl Zs A (P.2.2.1 M) c0 z0 ad S.1.length pc' ls' st' S1 := fun H' locs' cells' slots' ad' ca' tys' lsA' hag' hst' =>
                ih d M pc' ls' st' S1 o S' hrun p e R s m args below meth c H' locs' cells' slots' mc ms c0 z0 n0 A ad' ad0 ca' tys' lsA' act hst' hA hmc hms (Nat.le_trans hn0 hup0.2.2) (fun j hj => (hag' j (Nat.lt_of_lt_of_le hj hn0)).trans (hag j hj))
              match op, hk, hd with
              | 0, hk, hd => exact am_s0 act hk hd h kk
              | 1, hk, hd => exact am_s1 act hk hd h kk
              | 2, hk, hd => exact am_s2 act hk hd h kk
              | 3, hk, hd => exact am_s3 act hk hd h kk
              | 4, hk, hd => exact am_s4 act hk hd h kk
              | 5, hk, hd => exact am_s5 act hk hd h kk
              | 6, hk, hd => exact am_s6 act hk hd h kk
              | 7, hk, hd => exact am_s7 act hk hd h kk
              | 8, hk, hd => exact am_s8 act hk hd h kk
              | 9, hk, hd => exact am_s9 act hk hd h kk
              | 10, hk, hd => exact am_s10 act hk hd h kk
              | 11, hk, hd => exact am_s11 act hk hd h kk
              | 12, hk, hd => exact am_s12 act hk hd h kk
              | 13, hk, hd => exact am_s13 act hk hd h kk
              | 14, hk, hd => exact am_s14 act hk hd h kk
              | 15, hk, hd => exact am_s15 act hk hd h kk
              | 16, hk, hd => exact am_s16 act hk hd h hC hA hup hE kk
              | 17, hk, hd => exact am_s17 act hk hd h hC hA hup hE kk
              | 18, hk, hd => exact am_s18 act hk hd h kk
              | 19, hk, hd => exact am_s19 act hk hd h kk
              | 20, hk, hd => exact am_s20 act hk hd h hC hA hup hE kk
              | 21, hk, hd => exact am_s21 act hk hd h hC hA hup hE kk
              | 22, hk, hd => exact am_s22 act hk hd h hC hA hup hE kk
              | 23, hk, hd => exact am_s23 act hk hd h hC hA hup hE kk
              | 24, hk, hd => exact am_s24 act hk hd h hC hA hup hE kk
              | 25, hk, hd => exact am_s25 act hk hd h hC hA hup hE kk
              | 26, hk, hd => exact am_s26 act hk hd h hC hA hup hE kk
              | 27, hk, _ => exact hk.elim
              | 28, hk, _ => exact hk.elim
              | 29, hk, hd => exact am_s29 act hk hd h kk
              | 30, hk, hd => exact am_s30 act hk hd h hC hA hup hE kk
              | 31, hk, hd => exact am_s31 act hk hd h kk
              | 32, _, _ => exact absurd rfl h32
              | 33, _, _ => exact absurd ⟨by decide, by decide⟩ h33
              | 34, _, _ => exact absurd ⟨by decide, by decide⟩ h33
              | 35, _, _ => exact absurd ⟨by decide, by decide⟩ h33
              | 36, _, _ => exact absurd ⟨by decide, by decide⟩ h33
              | 37, _, _ => exact absurd rfl h37
              | 38, hk, hd => exact am_s38 act hk hd h hC hA hup hE kk
              | 39, hk, hd => exact am_s39 act hk hd h hC hA hup hE kk
              | 40, hk, hd => exact am_s40 act hk hd h hC hA hup hE kk
              | 41, hk, hd => exact am_s41 act hk hd h hC hA hup hE kk
              | 42, hk, hd => exact am_s42 act hk hd h hC hA hup hE kk
              | 43, hk, hd => exact am_s43 act hk hd h hC hA hup hE kk
              | 44, hk, hd => exact am_s44 act hk hd h hC hA hup hE kk
              | 45, hk, hd => exact am_s45 act hk hd h hC hA hup hE kk
              | n9 + 46, hk, _ => exact hk.elim
end AM6
