/-! EACH SMALL INSTRUCTION IS WHAT THE MACHINE DOES (no call, no end) -/
/-- facts of the heap outside a method's own cells: kept by what it does there, carried along by warmer tables, and true of fewer cells -/
def am_Zp (Zs : (Nat → Prop) → State → Heap → Prop) : Prop := (∀ (A : Nat → Prop) (U : State) (H H1 : Heap), Zs A U H → (∀ q : Nat, q < H.size → ¬ A q → H1[q]? = H[q]?) → H.size ≤ H1.size → Zs A U H1) ∧ (∀ (A : Nat → Prop) (u U : State) (H : Heap), u.WarmedH U.vm → Zs A u H → Zs A U H) ∧ ∀ (A B : Nat → Prop) (U : State) (H : Heap), (∀ q, B q → A q) → Zs A U H → Zs B U H
theorem am_oc {n : Nat} {v : Value} {st : List Value} (hv : am_okv n v) (hs : ∀ w ∈ st, am_okv n w) : ∀ w ∈ v :: st, am_okv n w := List.forall_mem_cons.mpr ⟨hv, hs⟩
/-- the walk from the next place on -/
def am_K (p : Program) (l : Launch) (e : Env) (R : Room) (s : State) (m : MethodId) (args : Array Value) (below : List Frame) (meth : Method) (c : Code) (Q : State → Prop) (em : Int64 → Nat) (D : va_G) (cl : List vw_C) (Zs : (Nat → Prop) → State → Heap → Prop) (A : Nat → Prop) (nL c0 z0 : Nat) (ad : Nat → Nat) (n pc : Nat) (ls : am_V) (st : List Value) (S : am_S) : Prop :=
  ∀ (H : Heap) (locs : List Loc) (cells slots : Nat) (ad' : Nat → Nat) (ca : Nat → ClassId) (tys : List (ClassId × FieldType)) (lsA : Array Slot), (∀ k, k < n → ad' k = ad k) → am_St em D cl Zs A s H locs cells slots ad' ca tys lsA nL ls st S c0 z0 → W p l e R s m args below meth c H locs cells slots Q (F0 m pc lsA (st.map (am_v em ad')))
section AM3
variable {em : Int64 → Nat} {P : am_P} {Y : am_Y} {D : va_G} {cl : List vw_C} {Ts : List Jvm.Cond} {Zs : (Nat → Prop) → State → Heap → Prop}
variable {p : Program} {l : Launch} {e : Env} {R : Room} {s : State} {m : MethodId} {args : Array Value} {below : List Frame} {meth : Method} {c : Code} {H : Heap} {locs : List Loc} {cells slots : Nat} {Q : State → Prop}
variable {A : Nat → Prop} {ad : Nat → Nat} {ca : Nat → ClassId} {tys : List (ClassId × FieldType)} {lsA : Array Slot} {ls ls' : am_V} {st st' : List Value} {S S1 : am_S} {c0 z0 mc ms M d pc pc' nx a b k n0 : Nat} {x : Int32} {tab : List (Int32 × Nat)}
theorem am_s0 (act : am_Act P Y Ts p R s m args meth c M d mc ms) (hk : am_okI P Y cl Ts M pc 0 a b k x nx tab) (hd : am_do P.2.1 P.2.2.2.2 0 a b k x nx tab d ls st S = some (pc', ls', st', S1)) (h : am_St em D cl Zs A s H locs cells slots ad ca tys lsA (P.2.2.1 M) ls st S c0 z0)
    (kk : am_K p l e R s m args below meth c Q em D cl Zs A (P.2.2.1 M) c0 z0 ad S.1.length pc' ls' st' S1) : W p l e R s m args below meth c H locs cells slots Q (F0 m pc lsA (st.map (am_v em ad))) := by
  obtain ⟨hx, hb, hml, hown, hts, hr, hlk, hnm, hRf, hRc, hRs, hRl, hexc, hhn⟩ := id act
  obtain ⟨hRl0, hS, hZ, hlo, hol, hos, hc, hz⟩ := id h
  simp only [am_do] at hd
  simp only [am_okI] at hk
  cases hd
  have h1 : am_St em D cl Zs A s H locs cells slots ad ca tys lsA (P.2.2.1 M) ls (.int x :: st) S c0 z0 := ⟨hRl0, hS, hZ, hlo, hol, am_oc trivial hos, hc, hz⟩
  rcases hk with ⟨n, hdg, hv, rfl⟩ | ⟨n, hdg, hv, rfl⟩ | ⟨n, hdg, hv, rfl⟩ | ⟨n, hdg, hv, rfl⟩
  · exact lv_iconst hx hb hdg hv (kk _ _ _ _ _ _ _ _ (fun _ _ => rfl) h1)
  · exact lv_bipush hx hb hdg hv (kk _ _ _ _ _ _ _ _ (fun _ _ => rfl) h1)
  · exact lv_sipush hx hb hdg hv (kk _ _ _ _ _ _ _ _ (fun _ _ => rfl) h1)
  · exact lv_ldc hx hb hown (hts _ hv) hdg (kk _ _ _ _ _ _ _ _ (fun _ _ => rfl) h1)
theorem am_s1 (act : am_Act P Y Ts p R s m args meth c M d mc ms) (hk : am_okI P Y cl Ts M pc 1 a b k x nx tab) (hd : am_do P.2.1 P.2.2.2.2 1 a b k x nx tab d ls st S = some (pc', ls', st', S1)) (h : am_St em D cl Zs A s H locs cells slots ad ca tys lsA (P.2.2.1 M) ls st S c0 z0)
    (kk : am_K p l e R s m args below meth c Q em D cl Zs A (P.2.2.1 M) c0 z0 ad S.1.length pc' ls' st' S1) : W p l e R s m args below meth c H locs cells slots Q (F0 m pc lsA (st.map (am_v em ad))) := by
  obtain ⟨hx, hb, hml, hown, hts, hr, hlk, hnm, hRf, hRc, hRs, hRl, hexc, hhn⟩ := id act
  obtain ⟨hRl0, hS, hZ, hlo, hol, hos, hc, hz⟩ := id h
  simp only [am_do] at hd
  simp only [am_okI] at hk
  split at hd
  · rename_i v hv
    cases hd
    have h1 : am_St em D cl Zs A s H locs cells slots ad ca tys lsA (P.2.2.1 M) ls (.int v :: st) S c0 z0 := ⟨hRl0, hS, hZ, hlo, hol, am_oc trivial hos, hc, hz⟩
    rcases hk with ⟨n, hdg, hn, rfl⟩ | ⟨hdg, rfl⟩
    · exact lv_iload_n hx hb hdg hn (hlo.at hv) (kk _ _ _ _ _ _ _ _ (fun _ _ => rfl) h1)
    · exact lv_iload hx hb hdg (hlo.at hv) (kk _ _ _ _ _ _ _ _ (fun _ _ => rfl) h1)
  · cases hd
theorem am_s2 (act : am_Act P Y Ts p R s m args meth c M d mc ms) (hk : am_okI P Y cl Ts M pc 2 a b k x nx tab) (hd : am_do P.2.1 P.2.2.2.2 2 a b k x nx tab d ls st S = some (pc', ls', st', S1)) (h : am_St em D cl Zs A s H locs cells slots ad ca tys lsA (P.2.2.1 M) ls st S c0 z0)
    (kk : am_K p l e R s m args below meth c Q em D cl Zs A (P.2.2.1 M) c0 z0 ad S.1.length pc' ls' st' S1) : W p l e R s m args below meth c H locs cells slots Q (F0 m pc lsA (st.map (am_v em ad))) := by
  obtain ⟨hx, hb, hml, hown, hts, hr, hlk, hnm, hRf, hRc, hRs, hRl, hexc, hhn⟩ := id act
  obtain ⟨hRl0, hS, hZ, hlo, hol, hos, hc, hz⟩ := id h
  simp only [am_do] at hd
  simp only [am_okI] at hk
  split at hd
  · rename_i v hv
    cases hd
    have h1 : am_St em D cl Zs A s H locs cells slots ad ca tys lsA (P.2.2.1 M) ls (.ref v :: st) S c0 z0 := ⟨hRl0, hS, hZ, hlo, hol, am_oc (hol _ _ hv) hos, hc, hz⟩
    rcases hk with ⟨n, hdg, hn, rfl⟩ | ⟨hdg, rfl⟩
    · exact lv_aload_n hx hb hdg hn (hlo.at hv) (kk _ _ _ _ _ _ _ _ (fun _ _ => rfl) h1)
    · exact lv_aload hx hb hdg (hlo.at hv) (kk _ _ _ _ _ _ _ _ (fun _ _ => rfl) h1)
  · rename_i hv
    cases hd
    have h1 : am_St em D cl Zs A s H locs cells slots ad ca tys lsA (P.2.2.1 M) ls (.null :: st) S c0 z0 := ⟨hRl0, hS, hZ, hlo, hol, am_oc trivial hos, hc, hz⟩
    rcases hk with ⟨n, hdg, hn, rfl⟩ | ⟨hdg, rfl⟩
    · exact lv_aload_nN hx hb hdg hn (hlo.at hv) (kk _ _ _ _ _ _ _ _ (fun _ _ => rfl) h1)
    · exact lv_aloadN hx hb hdg (hlo.at hv) (kk _ _ _ _ _ _ _ _ (fun _ _ => rfl) h1)
  · rename_i v hv
    cases hd
    have h1 : am_St em D cl Zs A s H locs cells slots ad ca tys lsA (P.2.2.1 M) ls (.long v :: st) S c0 z0 := ⟨hRl0, hS, hZ, hlo, hol, am_oc (hol _ _ hv) hos, hc, hz⟩
    rcases hk with ⟨n, hdg, hn, rfl⟩ | ⟨hdg, rfl⟩
    · exact lv_aload_n hx hb hdg hn (hlo.at hv) (kk _ _ _ _ _ _ _ _ (fun _ _ => rfl) h1)
    · exact lv_aload hx hb hdg (hlo.at hv) (kk _ _ _ _ _ _ _ _ (fun _ _ => rfl) h1)
  · cases hd
theorem am_s3 (act : am_Act P Y Ts p R s m args meth c M d mc ms) (hk : am_okI P Y cl Ts M pc 3 a b k x nx tab) (hd : am_do P.2.1 P.2.2.2.2 3 a b k x nx tab d ls st S = some (pc', ls', st', S1)) (h : am_St em D cl Zs A s H locs cells slots ad ca tys lsA (P.2.2.1 M) ls st S c0 z0)
    (kk : am_K p l e R s m args below meth c Q em D cl Zs A (P.2.2.1 M) c0 z0 ad S.1.length pc' ls' st' S1) : W p l e R s m args below meth c H locs cells slots Q (F0 m pc lsA (st.map (am_v em ad))) := by
  obtain ⟨hx, hb, hml, hown, hts, hr, hlk, hnm, hRf, hRc, hRs, hRl, hexc, hhn⟩ := id act
  obtain ⟨hRl0, hS, hZ, hlo, hol, hos, hc, hz⟩ := id h
  simp only [am_do] at hd
  simp only [am_okI] at hk
  split at hd
  · rename_i v r
    split at hd
    · rename_i ha
      cases hd
      have hcat : ∀ w, ls[a - 1]? = some (some w) → (am_v em ad w).category = 1 := fun w hw => am_cat (em := em) ad (hol _ _ hw)
      have h1 : ∀ lsA', lv_has lsA' (P.2.2.1 M) ((a, .int v) :: (am_al em ad ls).filter (fun q => !(q.1 == a) && !(q.1 + 1 == a && q.2.category == 2))) → am_St em D cl Zs A s H locs cells slots ad ca tys lsA' (P.2.2.1 M) (ls.set a (some (.int v))) st' S c0 z0 := fun lsA' h' =>
        ⟨hRl0, hS, hZ, hlo.set (v := .int v) hcat h', hol.set trivial, fun w hw => hos w (List.mem_cons_of_mem _ hw), hc, hz⟩
      rcases hk with ⟨n, hdg, hn, rfl⟩ | ⟨hdg, rfl⟩
      · exact lv_istore_n hx hb hdg hn hlo.1 (by rw [← hlo.2]; exact ha) rfl (fun lsA' h' => kk _ _ _ _ _ _ _ _ (fun _ _ => rfl) (h1 lsA' h'))
      · exact lv_istore hx hb hdg hlo.1 (by rw [← hlo.2]; exact ha) rfl (fun lsA' h' => kk _ _ _ _ _ _ _ _ (fun _ _ => rfl) (h1 lsA' h'))
    · cases hd
  · cases hd
theorem am_s4 (act : am_Act P Y Ts p R s m args meth c M d mc ms) (hk : am_okI P Y cl Ts M pc 4 a b k x nx tab) (hd : am_do P.2.1 P.2.2.2.2 4 a b k x nx tab d ls st S = some (pc', ls', st', S1)) (h : am_St em D cl Zs A s H locs cells slots ad ca tys lsA (P.2.2.1 M) ls st S c0 z0)
    (kk : am_K p l e R s m args below meth c Q em D cl Zs A (P.2.2.1 M) c0 z0 ad S.1.length pc' ls' st' S1) : W p l e R s m args below meth c H locs cells slots Q (F0 m pc lsA (st.map (am_v em ad))) := by
  obtain ⟨hx, hb, hml, hown, hts, hr, hlk, hnm, hRf, hRc, hRs, hRl, hexc, hhn⟩ := id act
  obtain ⟨hRl0, hS, hZ, hlo, hol, hos, hc, hz⟩ := id h
  simp only [am_do] at hd
  simp only [am_okI] at hk
  split at hd
  · rename_i v r
    split at hd
    · rename_i ha
      cases hd
      have hcat : ∀ w, ls[a - 1]? = some (some w) → (am_v em ad w).category = 1 := fun w hw => am_cat (em := em) ad (hol _ _ hw)
      have h1 : ∀ lsA', lv_has lsA' (P.2.2.1 M) ((a, .ref (ad v)) :: (am_al em ad ls).filter (fun q => !(q.1 == a) && !(q.1 + 1 == a && q.2.category == 2))) → am_St em D cl Zs A s H locs cells slots ad ca tys lsA' (P.2.2.1 M) (ls.set a (some (.ref v))) st' S c0 z0 := fun lsA' h' =>
        ⟨hRl0, hS, hZ, hlo.set (v := .ref v) hcat h', hol.set (hos _ List.mem_cons_self), fun w hw => hos w (List.mem_cons_of_mem _ hw), hc, hz⟩
      rcases hk with ⟨n, hdg, hn, rfl⟩ | ⟨hdg, rfl⟩
      · exact lv_astore_n hx hb hdg hn hlo.1 (by rw [← hlo.2]; exact ha) rfl (fun lsA' h' => kk _ _ _ _ _ _ _ _ (fun _ _ => rfl) (h1 lsA' h'))
      · exact lv_astore hx hb hdg hlo.1 (by rw [← hlo.2]; exact ha) rfl (fun lsA' h' => kk _ _ _ _ _ _ _ _ (fun _ _ => rfl) (h1 lsA' h'))
    · cases hd
  · rename_i r
    split at hd
    · rename_i ha
      cases hd
      have hcat : ∀ w, ls[a - 1]? = some (some w) → (am_v em ad w).category = 1 := fun w hw => am_cat (em := em) ad (hol _ _ hw)
      have h1 : ∀ lsA', lv_has lsA' (P.2.2.1 M) ((a, .null) :: (am_al em ad ls).filter (fun q => !(q.1 == a) && !(q.1 + 1 == a && q.2.category == 2))) → am_St em D cl Zs A s H locs cells slots ad ca tys lsA' (P.2.2.1 M) (ls.set a (some .null)) st' S c0 z0 := fun lsA' h' =>
        ⟨hRl0, hS, hZ, hlo.set (v := .null) hcat h', hol.set trivial, fun w hw => hos w (List.mem_cons_of_mem _ hw), hc, hz⟩
      rcases hk with ⟨n, hdg, hn, rfl⟩ | ⟨hdg, rfl⟩
      · exact lv_astore_nN hx hb hdg hn hlo.1 (by rw [← hlo.2]; exact ha) rfl (fun lsA' h' => kk _ _ _ _ _ _ _ _ (fun _ _ => rfl) (h1 lsA' h'))
      · exact lv_astoreN hx hb hdg hlo.1 (by rw [← hlo.2]; exact ha) rfl (fun lsA' h' => kk _ _ _ _ _ _ _ _ (fun _ _ => rfl) (h1 lsA' h'))
    · cases hd
  · rename_i v r
    split at hd
    · rename_i ha
      cases hd
      have hcat : ∀ w, ls[a - 1]? = some (some w) → (am_v em ad w).category = 1 := fun w hw => am_cat (em := em) ad (hol _ _ hw)
      have h1 : ∀ lsA', lv_has lsA' (P.2.2.1 M) ((a, .ref (em v)) :: (am_al em ad ls).filter (fun q => !(q.1 == a) && !(q.1 + 1 == a && q.2.category == 2))) → am_St em D cl Zs A s H locs cells slots ad ca tys lsA' (P.2.2.1 M) (ls.set a (some (.long v))) st' S c0 z0 := fun lsA' h' =>
        ⟨hRl0, hS, hZ, hlo.set (v := .long v) hcat h', hol.set trivial, fun w hw => hos w (List.mem_cons_of_mem _ hw), hc, hz⟩
      rcases hk with ⟨n, hdg, hn, rfl⟩ | ⟨hdg, rfl⟩
      · exact lv_astore_n hx hb hdg hn hlo.1 (by rw [← hlo.2]; exact ha) rfl (fun lsA' h' => kk _ _ _ _ _ _ _ _ (fun _ _ => rfl) (h1 lsA' h'))
      · exact lv_astore hx hb hdg hlo.1 (by rw [← hlo.2]; exact ha) rfl (fun lsA' h' => kk _ _ _ _ _ _ _ _ (fun _ _ => rfl) (h1 lsA' h'))
    · cases hd
  · cases hd
theorem am_s5 (act : am_Act P Y Ts p R s m args meth c M d mc ms) (hk : am_okI P Y cl Ts M pc 5 a b k x nx tab) (hd : am_do P.2.1 P.2.2.2.2 5 a b k x nx tab d ls st S = some (pc', ls', st', S1)) (h : am_St em D cl Zs A s H locs cells slots ad ca tys lsA (P.2.2.1 M) ls st S c0 z0)
    (kk : am_K p l e R s m args below meth c Q em D cl Zs A (P.2.2.1 M) c0 z0 ad S.1.length pc' ls' st' S1) : W p l e R s m args below meth c H locs cells slots Q (F0 m pc lsA (st.map (am_v em ad))) := by
  obtain ⟨hx, hb, hml, hown, hts, hr, hlk, hnm, hRf, hRc, hRs, hRl, hexc, hhn⟩ := id act
  obtain ⟨hRl0, hS, hZ, hlo, hol, hos, hc, hz⟩ := id h
  simp only [am_do] at hd
  simp only [am_okI] at hk
  split at hd
  · rename_i v hv
    cases hd
    have ha : a < ls.length := (List.getElem?_eq_some_iff.mp hv).1
    have hcat : ∀ w, ls[a - 1]? = some (some w) → (am_v em ad w).category = 1 := fun w hw => am_cat (em := em) ad (hol _ _ hw)
    obtain ⟨n, hdg, rfl, rfl⟩ := hk
    obtain ⟨j, hj⟩ := List.getElem?_of_mem (am_al_mem (ad := ad) (q := (a, .int v)) |>.mpr ⟨.int v, hv, rfl⟩)
    exact lv_iinc hx hb hdg hlo.1 hj rfl (by rw [← hlo.2]; exact ha) rfl (fun lsA' h' => kk _ _ _ _ _ _ _ _ (fun _ _ => rfl) ⟨hRl0, hS, hZ, hlo.set (v := .int (v + Int32.ofInt n)) hcat h', hol.set trivial, hos, hc, hz⟩)
  · cases hd
theorem am_s6 (act : am_Act P Y Ts p R s m args meth c M d mc ms) (hk : am_okI P Y cl Ts M pc 6 a b k x nx tab) (hd : am_do P.2.1 P.2.2.2.2 6 a b k x nx tab d ls st S = some (pc', ls', st', S1)) (h : am_St em D cl Zs A s H locs cells slots ad ca tys lsA (P.2.2.1 M) ls st S c0 z0)
    (kk : am_K p l e R s m args below meth c Q em D cl Zs A (P.2.2.1 M) c0 z0 ad S.1.length pc' ls' st' S1) : W p l e R s m args below meth c H locs cells slots Q (F0 m pc lsA (st.map (am_v em ad))) := by
  obtain ⟨hx, hb, hml, hown, hts, hr, hlk, hnm, hRf, hRc, hRs, hRl, hexc, hhn⟩ := id act
  obtain ⟨hRl0, hS, hZ, hlo, hol, hos, hc, hz⟩ := id h
  simp only [am_do] at hd
  simp only [am_okI] at hk
  obtain ⟨hdg, rfl⟩ := hk
  have h1 : ∀ v r, st = v :: r → am_St em D cl Zs A s H locs cells slots ad ca tys lsA (P.2.2.1 M) ls r S c0 z0 := fun v r e => ⟨hRl0, hS, hZ, hlo, hol, fun w hw => hos w (by rw [e]; exact List.mem_cons_of_mem _ hw), hc, hz⟩
  split at hd
  · cases hd; exact lv_pop hx hb hdg rfl (kk _ _ _ _ _ _ _ _ (fun _ _ => rfl) (h1 _ _ rfl))
  · cases hd; exact lv_pop hx hb hdg rfl (kk _ _ _ _ _ _ _ _ (fun _ _ => rfl) (h1 _ _ rfl))
  · cases hd; exact lv_pop hx hb hdg rfl (kk _ _ _ _ _ _ _ _ (fun _ _ => rfl) (h1 _ _ rfl))
  · cases hd; exact lv_pop hx hb hdg rfl (kk _ _ _ _ _ _ _ _ (fun _ _ => rfl) (h1 _ _ rfl))
  · cases hd
theorem am_s7 (act : am_Act P Y Ts p R s m args meth c M d mc ms) (hk : am_okI P Y cl Ts M pc 7 a b k x nx tab) (hd : am_do P.2.1 P.2.2.2.2 7 a b k x nx tab d ls st S = some (pc', ls', st', S1)) (h : am_St em D cl Zs A s H locs cells slots ad ca tys lsA (P.2.2.1 M) ls st S c0 z0)
    (kk : am_K p l e R s m args below meth c Q em D cl Zs A (P.2.2.1 M) c0 z0 ad S.1.length pc' ls' st' S1) : W p l e R s m args below meth c H locs cells slots Q (F0 m pc lsA (st.map (am_v em ad))) := by
  obtain ⟨hx, hb, hml, hown, hts, hr, hlk, hnm, hRf, hRc, hRs, hRl, hexc, hhn⟩ := id act
  obtain ⟨hRl0, hS, hZ, hlo, hol, hos, hc, hz⟩ := id h
  simp only [am_do] at hd
  simp only [am_okI] at hk
  obtain ⟨hdg, rfl⟩ := hk
  have h1 : ∀ v r, st = v :: r → am_St em D cl Zs A s H locs cells slots ad ca tys lsA (P.2.2.1 M) ls (v :: v :: r) S c0 z0 := fun v r e => ⟨hRl0, hS, hZ, hlo, hol, fun w hw => by
    rcases List.mem_cons.mp hw with rfl | hw
    · exact hos _ (by rw [e]; exact List.mem_cons_self)
    · exact hos w (by rw [e]; exact hw), hc, hz⟩
  split at hd
  · cases hd; exact lv_dup hx hb hdg rfl (kk _ _ _ _ _ _ _ _ (fun _ _ => rfl) (h1 _ _ rfl))
  · cases hd; exact lv_dup hx hb hdg rfl (kk _ _ _ _ _ _ _ _ (fun _ _ => rfl) (h1 _ _ rfl))
  · cases hd
theorem am_s8 (act : am_Act P Y Ts p R s m args meth c M d mc ms) (hk : am_okI P Y cl Ts M pc 8 a b k x nx tab) (hd : am_do P.2.1 P.2.2.2.2 8 a b k x nx tab d ls st S = some (pc', ls', st', S1)) (h : am_St em D cl Zs A s H locs cells slots ad ca tys lsA (P.2.2.1 M) ls st S c0 z0)
    (kk : am_K p l e R s m args below meth c Q em D cl Zs A (P.2.2.1 M) c0 z0 ad S.1.length pc' ls' st' S1) : W p l e R s m args below meth c H locs cells slots Q (F0 m pc lsA (st.map (am_v em ad))) := by
  obtain ⟨hx, hb, hml, hown, hts, hr, hlk, hnm, hRf, hRc, hRs, hRl, hexc, hhn⟩ := id act
  obtain ⟨hRl0, hS, hZ, hlo, hol, hos, hc, hz⟩ := id h
  simp only [am_do] at hd
  simp only [am_okI] at hk
  obtain ⟨hdg, rfl⟩ := hk
  split at hd
  · rename_i v w r
    cases hd
    refine lv_dup2_11 hx hb hdg rfl rfl (kk _ _ _ _ _ _ _ _ (fun _ _ => rfl) ⟨hRl0, hS, hZ, hlo, hol, fun u hu => ?_, hc, hz⟩)
    rcases List.mem_cons.mp hu with rfl | hu
    · trivial
    · rcases List.mem_cons.mp hu with rfl | hu
      · exact hos _ (List.mem_cons_of_mem _ List.mem_cons_self)
      · exact hos u hu
  · cases hd
theorem am_s9 (act : am_Act P Y Ts p R s m args meth c M d mc ms) (hk : am_okI P Y cl Ts M pc 9 a b k x nx tab) (hd : am_do P.2.1 P.2.2.2.2 9 a b k x nx tab d ls st S = some (pc', ls', st', S1)) (h : am_St em D cl Zs A s H locs cells slots ad ca tys lsA (P.2.2.1 M) ls st S c0 z0)
    (kk : am_K p l e R s m args below meth c Q em D cl Zs A (P.2.2.1 M) c0 z0 ad S.1.length pc' ls' st' S1) : W p l e R s m args below meth c H locs cells slots Q (F0 m pc lsA (st.map (am_v em ad))) := by
  obtain ⟨hx, hb, hml, hown, hts, hr, hlk, hnm, hRf, hRc, hRs, hRl, hexc, hhn⟩ := id act
  obtain ⟨hRl0, hS, hZ, hlo, hol, hos, hc, hz⟩ := id h
  simp only [am_do] at hd
  simp only [am_okI] at hk
  obtain ⟨hdg, rfl⟩ := hk
  split at hd
  · rename_i v w r
    cases hd
    refine lv_dup_x1 hx hb hdg (am_cat (em := em) ad (hos v List.mem_cons_self)) (am_cat (em := em) ad (hos w (List.mem_cons_of_mem _ List.mem_cons_self))) (kk _ _ _ _ _ _ _ _ (fun _ _ => rfl) ⟨hRl0, hS, hZ, hlo, hol, fun u hu => ?_, hc, hz⟩)
    rcases List.mem_cons.mp hu with rfl | hu
    · exact hos _ List.mem_cons_self
    · rcases List.mem_cons.mp hu with rfl | hu
      · exact hos _ (List.mem_cons_of_mem _ List.mem_cons_self)
      · rcases List.mem_cons.mp hu with rfl | hu
        · exact hos _ List.mem_cons_self
        · exact hos u (List.mem_cons_of_mem _ (List.mem_cons_of_mem _ hu))
  · cases hd
theorem am_s10 (act : am_Act P Y Ts p R s m args meth c M d mc ms) (hk : am_okI P Y cl Ts M pc 10 a b k x nx tab) (hd : am_do P.2.1 P.2.2.2.2 10 a b k x nx tab d ls st S = some (pc', ls', st', S1)) (h : am_St em D cl Zs A s H locs cells slots ad ca tys lsA (P.2.2.1 M) ls st S c0 z0)
    (kk : am_K p l e R s m args below meth c Q em D cl Zs A (P.2.2.1 M) c0 z0 ad S.1.length pc' ls' st' S1) : W p l e R s m args below meth c H locs cells slots Q (F0 m pc lsA (st.map (am_v em ad))) := by
  obtain ⟨hx, hb, hml, hown, hts, hr, hlk, hnm, hRf, hRc, hRs, hRl, hexc, hhn⟩ := id act
  obtain ⟨hRl0, hS, hZ, hlo, hol, hos, hc, hz⟩ := id h
  simp only [am_do] at hd
  simp only [am_okI] at hk
  obtain ⟨rfl, hk⟩ := hk
  split at hd
  · rename_i w v r
    cases hd
    have h1 : am_St em D cl Zs A s H locs cells slots ad ca tys lsA (P.2.2.1 M) ls (.int (am_bin a v w) :: r) S c0 z0 := ⟨hRl0, hS, hZ, hlo, hol, fun u hu => by
      rcases List.mem_cons.mp hu with rfl | hu
      · trivial
      · exact hos u (List.mem_cons_of_mem _ (List.mem_cons_of_mem _ hu)), hc, hz⟩
    have kk1 := kk _ _ _ _ _ _ _ _ (fun _ _ => rfl) h1
    match a, hk, kk1 with
    | 0, hdg, kk1 => exact lv_iadd hx hb hdg kk1
    | 1, hdg, kk1 => exact lv_isub hx hb hdg kk1
    | 2, hdg, kk1 => exact lv_imul hx hb hdg kk1
    | 3, hdg, kk1 => exact lv_iand hx hb hdg kk1
    | 4, hdg, kk1 => exact lv_ior hx hb hdg kk1
    | 5, hdg, kk1 => exact lv_ishr hx hb hdg kk1
    | n + 6, hdg, _ => exact hdg.elim
  · cases hd
theorem am_s11 (act : am_Act P Y Ts p R s m args meth c M d mc ms) (hk : am_okI P Y cl Ts M pc 11 a b k x nx tab) (hd : am_do P.2.1 P.2.2.2.2 11 a b k x nx tab d ls st S = some (pc', ls', st', S1)) (h : am_St em D cl Zs A s H locs cells slots ad ca tys lsA (P.2.2.1 M) ls st S c0 z0)
    (kk : am_K p l e R s m args below meth c Q em D cl Zs A (P.2.2.1 M) c0 z0 ad S.1.length pc' ls' st' S1) : W p l e R s m args below meth c H locs cells slots Q (F0 m pc lsA (st.map (am_v em ad))) := by
  obtain ⟨hx, hb, hml, hown, hts, hr, hlk, hnm, hRf, hRc, hRs, hRl, hexc, hhn⟩ := id act
  obtain ⟨hRl0, hS, hZ, hlo, hol, hos, hc, hz⟩ := id h
  simp only [am_do] at hd
  simp only [am_okI] at hk
  obtain ⟨hdg, rfl⟩ := hk
  split at hd
  · rename_i v r
    cases hd
    exact lv_ineg hx hb hdg (kk _ _ _ _ _ _ _ _ (fun _ _ => rfl) ⟨hRl0, hS, hZ, hlo, hol, fun u hu => by
      rcases List.mem_cons.mp hu with rfl | hu
      · trivial
      · exact hos u (List.mem_cons_of_mem _ hu), hc, hz⟩)
  · cases hd
theorem am_s12 (act : am_Act P Y Ts p R s m args meth c M d mc ms) (hk : am_okI P Y cl Ts M pc 12 a b k x nx tab) (hd : am_do P.2.1 P.2.2.2.2 12 a b k x nx tab d ls st S = some (pc', ls', st', S1)) (h : am_St em D cl Zs A s H locs cells slots ad ca tys lsA (P.2.2.1 M) ls st S c0 z0)
    (kk : am_K p l e R s m args below meth c Q em D cl Zs A (P.2.2.1 M) c0 z0 ad S.1.length pc' ls' st' S1) : W p l e R s m args below meth c H locs cells slots Q (F0 m pc lsA (st.map (am_v em ad))) := by
  obtain ⟨hx, hb, hml, hown, hts, hr, hlk, hnm, hRf, hRc, hRs, hRl, hexc, hhn⟩ := id act
  obtain ⟨hRl0, hS, hZ, hlo, hol, hos, hc, hz⟩ := id h
  simp only [am_do] at hd
  simp only [am_okI] at hk
  obtain ⟨off, hdg, ht, rfl, ha⟩ := hk
  split at hd
  · rename_i v r
    cases hd
    have h1 : am_St em D cl Zs A s H locs cells slots ad ca tys lsA (P.2.2.1 M) ls st' S c0 z0 := ⟨hRl0, hS, hZ, hlo, hol, fun w hw => hos w (List.mem_cons_of_mem _ hw), hc, hz⟩
    have kk1 := kk _ _ _ _ _ _ _ _ (fun _ _ => rfl) h1
    match a, ha, hdg, kk1 with
    | 0, _, hdg, kk1 => exact lv_if_eq hx hb hdg ht (fun q => by rwa [if_pos (by simp [am_cmp, q])] at kk1) (fun q => by rwa [if_neg (by simp [am_cmp, q])] at kk1)
    | 1, _, hdg, kk1 => exact lv_if_ne hx hb hdg ht (fun q => by rwa [if_pos (by simp [am_cmp, q])] at kk1) (fun q => by rwa [if_neg (by simp [am_cmp, q])] at kk1)
    | 2, _, hdg, kk1 => exact lv_if_lt hx hb hdg ht (fun q => by rwa [if_pos (show am_cmp 2 v 0 = true from decide_eq_true q)] at kk1) (fun q => by rwa [if_neg (show ¬ am_cmp 2 v 0 = true from fun z => q (of_decide_eq_true z))] at kk1)
    | 3, _, hdg, kk1 => exact lv_if_ge hx hb hdg ht (fun q => by rwa [if_pos (show am_cmp 3 v 0 = true from decide_eq_true q)] at kk1) (fun q => by rwa [if_neg (show ¬ am_cmp 3 v 0 = true from fun z => q (of_decide_eq_true z))] at kk1)
    | 4, _, hdg, kk1 => exact lv_if_gt hx hb hdg ht (fun q => by rwa [if_pos (show am_cmp 4 v 0 = true from decide_eq_true q)] at kk1) (fun q => by rwa [if_neg (show ¬ am_cmp 4 v 0 = true from fun z => q (of_decide_eq_true z))] at kk1)
    | 5, _, hdg, kk1 => exact lv_if_le hx hb hdg ht (fun q => by rwa [if_pos (show am_cmp 5 v 0 = true from decide_eq_true q)] at kk1) (fun q => by rwa [if_neg (show ¬ am_cmp 5 v 0 = true from fun z => q (of_decide_eq_true z))] at kk1)
    | n + 6, ha, _, _ => exact absurd ha (by omega)
  · cases hd
theorem am_s13 (act : am_Act P Y Ts p R s m args meth c M d mc ms) (hk : am_okI P Y cl Ts M pc 13 a b k x nx tab) (hd : am_do P.2.1 P.2.2.2.2 13 a b k x nx tab d ls st S = some (pc', ls', st', S1)) (h : am_St em D cl Zs A s H locs cells slots ad ca tys lsA (P.2.2.1 M) ls st S c0 z0)
    (kk : am_K p l e R s m args below meth c Q em D cl Zs A (P.2.2.1 M) c0 z0 ad S.1.length pc' ls' st' S1) : W p l e R s m args below meth c H locs cells slots Q (F0 m pc lsA (st.map (am_v em ad))) := by
  obtain ⟨hx, hb, hml, hown, hts, hr, hlk, hnm, hRf, hRc, hRs, hRl, hexc, hhn⟩ := id act
  obtain ⟨hRl0, hS, hZ, hlo, hol, hos, hc, hz⟩ := id h
  simp only [am_do] at hd
  simp only [am_okI] at hk
  obtain ⟨off, hdg, ht, rfl, ha⟩ := hk
  split at hd
  · rename_i w v r
    cases hd
    have h1 : am_St em D cl Zs A s H locs cells slots ad ca tys lsA (P.2.2.1 M) ls st' S c0 z0 := ⟨hRl0, hS, hZ, hlo, hol, fun w hw => hos w (List.mem_cons_of_mem _ (List.mem_cons_of_mem _ hw)), hc, hz⟩
    have kk1 := kk _ _ _ _ _ _ _ _ (fun _ _ => rfl) h1
    match a, ha, hdg, kk1 with
    | 0, _, hdg, kk1 => exact lv_icmp_eq hx hb hdg ht (fun q => by rwa [if_pos (by simp [am_cmp, q])] at kk1) (fun q => by rwa [if_neg (by simp [am_cmp, q])] at kk1)
    | 1, _, hdg, kk1 => exact lv_icmp_ne hx hb hdg ht (fun q => by rwa [if_pos (by simp [am_cmp, q])] at kk1) (fun q => by rwa [if_neg (by simp [am_cmp, q])] at kk1)
    | 2, _, hdg, kk1 => exact lv_icmp_lt hx hb hdg ht (fun q => by rwa [if_pos (show am_cmp 2 v w = true from decide_eq_true q)] at kk1) (fun q => by rwa [if_neg (show ¬ am_cmp 2 v w = true from fun z => q (of_decide_eq_true z))] at kk1)
    | 3, _, hdg, kk1 => exact lv_icmp_ge hx hb hdg ht (fun q => by rwa [if_pos (show am_cmp 3 v w = true from decide_eq_true q)] at kk1) (fun q => by rwa [if_neg (show ¬ am_cmp 3 v w = true from fun z => q (of_decide_eq_true z))] at kk1)
    | 4, _, hdg, kk1 => exact lv_icmp_gt hx hb hdg ht (fun q => by rwa [if_pos (show am_cmp 4 v w = true from decide_eq_true q)] at kk1) (fun q => by rwa [if_neg (show ¬ am_cmp 4 v w = true from fun z => q (of_decide_eq_true z))] at kk1)
    | 5, _, hdg, kk1 => exact lv_icmp_le hx hb hdg ht (fun q => by rwa [if_pos (show am_cmp 5 v w = true from decide_eq_true q)] at kk1) (fun q => by rwa [if_neg (show ¬ am_cmp 5 v w = true from fun z => q (of_decide_eq_true z))] at kk1)
    | n + 6, ha, _, _ => exact absurd ha (by omega)
  · cases hd
theorem am_s14 (act : am_Act P Y Ts p R s m args meth c M d mc ms) (hk : am_okI P Y cl Ts M pc 14 a b k x nx tab) (hd : am_do P.2.1 P.2.2.2.2 14 a b k x nx tab d ls st S = some (pc', ls', st', S1)) (h : am_St em D cl Zs A s H locs cells slots ad ca tys lsA (P.2.2.1 M) ls st S c0 z0)
    (kk : am_K p l e R s m args below meth c Q em D cl Zs A (P.2.2.1 M) c0 z0 ad S.1.length pc' ls' st' S1) : W p l e R s m args below meth c H locs cells slots Q (F0 m pc lsA (st.map (am_v em ad))) := by
  obtain ⟨hx, hb, hml, hown, hts, hr, hlk, hnm, hRf, hRc, hRs, hRl, hexc, hhn⟩ := id act
  obtain ⟨hRl0, hS, hZ, hlo, hol, hos, hc, hz⟩ := id h
  simp only [am_do] at hd
  simp only [am_okI] at hk
  obtain ⟨off, hdg, ht, rfl⟩ := hk
  have h1 : ∀ v r, st = v :: r → am_St em D cl Zs A s H locs cells slots ad ca tys lsA (P.2.2.1 M) ls r S c0 z0 := fun v r e => ⟨hRl0, hS, hZ, hlo, hol, fun w hw => hos w (by rw [e]; exact List.mem_cons_of_mem _ hw), hc, hz⟩
  split at hd
  · cases hd; exact lv_ifnull hx hb hdg (kk _ _ _ _ _ _ _ _ (fun _ _ => rfl) (h1 _ _ rfl))
  · cases hd; exact lv_ifnullN hx hb hdg ht (kk _ _ _ _ _ _ _ _ (fun _ _ => rfl) (h1 _ _ rfl))
  · cases hd
theorem am_s15 (act : am_Act P Y Ts p R s m args meth c M d mc ms) (hk : am_okI P Y cl Ts M pc 15 a b k x nx tab) (hd : am_do P.2.1 P.2.2.2.2 15 a b k x nx tab d ls st S = some (pc', ls', st', S1)) (h : am_St em D cl Zs A s H locs cells slots ad ca tys lsA (P.2.2.1 M) ls st S c0 z0)
    (kk : am_K p l e R s m args below meth c Q em D cl Zs A (P.2.2.1 M) c0 z0 ad S.1.length pc' ls' st' S1) : W p l e R s m args below meth c H locs cells slots Q (F0 m pc lsA (st.map (am_v em ad))) := by
  obtain ⟨hx, hb, hml, hown, hts, hr, hlk, hnm, hRf, hRc, hRs, hRl, hexc, hhn⟩ := id act
  obtain ⟨hRl0, hS, hZ, hlo, hol, hos, hc, hz⟩ := id h
  simp only [am_do] at hd
  simp only [am_okI] at hk
  obtain ⟨off, hdg, ht, rfl⟩ := hk
  have h1 : ∀ v r, st = v :: r → am_St em D cl Zs A s H locs cells slots ad ca tys lsA (P.2.2.1 M) ls r S c0 z0 := fun v r e => ⟨hRl0, hS, hZ, hlo, hol, fun w hw => hos w (by rw [e]; exact List.mem_cons_of_mem _ hw), hc, hz⟩
  split at hd
  · cases hd; exact lv_ifnonnull hx hb hdg ht (kk _ _ _ _ _ _ _ _ (fun _ _ => rfl) (h1 _ _ rfl))
  · cases hd; exact lv_ifnonnullN hx hb hdg (kk _ _ _ _ _ _ _ _ (fun _ _ => rfl) (h1 _ _ rfl))
  · cases hd
theorem am_s18 (act : am_Act P Y Ts p R s m args meth c M d mc ms) (hk : am_okI P Y cl Ts M pc 18 a b k x nx tab) (hd : am_do P.2.1 P.2.2.2.2 18 a b k x nx tab d ls st S = some (pc', ls', st', S1)) (h : am_St em D cl Zs A s H locs cells slots ad ca tys lsA (P.2.2.1 M) ls st S c0 z0)
    (kk : am_K p l e R s m args below meth c Q em D cl Zs A (P.2.2.1 M) c0 z0 ad S.1.length pc' ls' st' S1) : W p l e R s m args below meth c H locs cells slots Q (F0 m pc lsA (st.map (am_v em ad))) := by
  obtain ⟨hx, hb, hml, hown, hts, hr, hlk, hnm, hRf, hRc, hRs, hRl, hexc, hhn⟩ := id act
  obtain ⟨hRl0, hS, hZ, hlo, hol, hos, hc, hz⟩ := id h
  simp only [am_do] at hd
  simp only [am_okI] at hk
  cases hd
  obtain ⟨off, hdg, ht⟩ := hk
  exact lv_goto hx hb hdg ht (kk _ _ _ _ _ _ _ _ (fun _ _ => rfl) h)
theorem am_s19 (act : am_Act P Y Ts p R s m args meth c M d mc ms) (hk : am_okI P Y cl Ts M pc 19 a b k x nx tab) (hd : am_do P.2.1 P.2.2.2.2 19 a b k x nx tab d ls st S = some (pc', ls', st', S1)) (h : am_St em D cl Zs A s H locs cells slots ad ca tys lsA (P.2.2.1 M) ls st S c0 z0)
    (kk : am_K p l e R s m args below meth c Q em D cl Zs A (P.2.2.1 M) c0 z0 ad S.1.length pc' ls' st' S1) : W p l e R s m args below meth c H locs cells slots Q (F0 m pc lsA (st.map (am_v em ad))) := by
  obtain ⟨hx, hb, hml, hown, hts, hr, hlk, hnm, hRf, hRc, hRs, hRl, hexc, hhn⟩ := id act
  obtain ⟨hRl0, hS, hZ, hlo, hol, hos, hc, hz⟩ := id h
  simp only [am_do] at hd
  simp only [am_okI] at hk
  split at hd
  · rename_i v r
    cases hd
    have h1 : am_St em D cl Zs A s H locs cells slots ad ca tys lsA (P.2.2.1 M) ls st' S c0 z0 := ⟨hRl0, hS, hZ, hlo, hol, fun w hw => hos w (List.mem_cons_of_mem _ hw), hc, hz⟩
    have kk1 := kk _ _ _ _ _ _ _ _ (fun _ _ => rfl) h1
    rcases hk with ⟨dflt, lo, hi, offs, len, hdg, hdf, h2, h3⟩ | ⟨dflt, ps, len, hdg, hso, h2⟩
    · by_cases q1 : v.toInt < lo ∨ hi < v.toInt
      · rw [h2 v q1] at kk1
        exact lv_tableOut hx hb hdg q1 hdf kk1
      · obtain ⟨off, ho, ht⟩ := h3 v (fun z => q1 (Or.inl z)) (fun z => q1 (Or.inr z))
        exact lv_tableIn hx hb hdg (fun z => q1 (Or.inl z)) (fun z => q1 (Or.inr z)) ho ht kk1
    · exact lv_lookup hx hb hdg hso rfl (h2 v) kk1
  · cases hd
theorem am_s29 (act : am_Act P Y Ts p R s m args meth c M d mc ms) (hk : am_okI P Y cl Ts M pc 29 a b k x nx tab) (hd : am_do P.2.1 P.2.2.2.2 29 a b k x nx tab d ls st S = some (pc', ls', st', S1)) (h : am_St em D cl Zs A s H locs cells slots ad ca tys lsA (P.2.2.1 M) ls st S c0 z0)
    (kk : am_K p l e R s m args below meth c Q em D cl Zs A (P.2.2.1 M) c0 z0 ad S.1.length pc' ls' st' S1) : W p l e R s m args below meth c H locs cells slots Q (F0 m pc lsA (st.map (am_v em ad))) := by
  obtain ⟨hx, hb, hml, hown, hts, hr, hlk, hnm, hRf, hRc, hRs, hRl, hexc, hhn⟩ := id act
  obtain ⟨hRl0, hS, hZ, hlo, hol, hos, hc, hz⟩ := id h
  simp only [am_do] at hd
  simp only [am_okI] at hk
  cases hd
  obtain ⟨hdg, rfl⟩ := hk
  exact lv_null hx hb hdg (kk _ _ _ _ _ _ _ _ (fun _ _ => rfl) ⟨hRl0, hS, hZ, hlo, hol, am_oc trivial hos, hc, hz⟩)
theorem am_s31 (act : am_Act P Y Ts p R s m args meth c M d mc ms) (hk : am_okI P Y cl Ts M pc 31 a b k x nx tab) (hd : am_do P.2.1 P.2.2.2.2 31 a b k x nx tab d ls st S = some (pc', ls', st', S1)) (h : am_St em D cl Zs A s H locs cells slots ad ca tys lsA (P.2.2.1 M) ls st S c0 z0)
    (kk : am_K p l e R s m args below meth c Q em D cl Zs A (P.2.2.1 M) c0 z0 ad S.1.length pc' ls' st' S1) : W p l e R s m args below meth c H locs cells slots Q (F0 m pc lsA (st.map (am_v em ad))) := by
  obtain ⟨hx, hb, hml, hown, hts, hr, hlk, hnm, hRf, hRc, hRs, hRl, hexc, hhn⟩ := id act
  obtain ⟨hRl0, hS, hZ, hlo, hol, hos, hc, hz⟩ := id h
  simp only [am_do] at hd
  simp only [am_okI] at hk
  obtain ⟨idx, hdg, rfl, h2, h3, h4⟩ := hk
  split at hd
  · rename_i v r
    split at hd
    · rename_i hdr
      cases hd
      have hr1 : ∀ w ∈ st', am_okv S.1.length w := fun w hw => hos w (List.mem_cons_of_mem _ hw)
      have hcs : ∀ q : List Value, (∀ w ∈ q, am_okv S.1.length w) → ((q.map (am_v em ad)).map fun v => v.category).sum = q.length := by
        intro q
        induction q with
        | nil => intro _; rfl
        | cons w q ih => intro hq; simp only [List.map_cons, List.sum_cons, List.length_cons]; rw [ih fun u hu => hq u (List.mem_cons_of_mem _ hu), am_cat (em := em) ad (hq w List.mem_cons_self)]; omega
      have hsz : (F0 m pc lsA (((Value.ref v) :: st').map (am_v em ad))).locals.size = c.maxLocals := by rw [hml]; exact hlo.1.1
      exact W.eq (g2 := F0 m pc lsA (.ref (ad v) :: st'.map (am_v em ad))) rfl (W.objInit hx hb hown (hts _ h2) (hts _ h3) (hts _ h4) rfl hsz rfl hdg (by rw [hRf]; exact hdr.1) (by
        show 2 * 0 + ((st'.map (am_v em ad)).map fun v => v.category).sum + 12 ≤ R.locals
        rw [hcs st' hr1, hRl]; omega) (kk _ _ _ _ _ _ _ _ (fun _ _ => rfl) ⟨hRl0, hS, hZ, hlo, hol, hr1, hc, hz⟩))
    · cases hd
  · cases hd
end AM3
