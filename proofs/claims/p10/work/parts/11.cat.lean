/-! 'catch (IllegalStateException ..)' in a method with one handler -/
section AM8
variable {p : Program} {l : Launch} {e : Env} {R : Room} {s : State} {m : MethodId} {args : Array Value} {below : List Frame} {meth : Method} {c : Code} {H : Heap} {locs : List Loc} {cells slots : Nat} {Q : State → Prop}
/-- the search for a handler, where the one row of the table covers the place and its class takes what was thrown; the link is noted by it -/
theorem am_search {S : State} {g : JFrame} {q : Addr} {x : ExceptionTableEntry} {cT : ClassId} {ce : Cell} (hm : S.vm.method? g.method = some meth) (hc : meth.code = some c) (htab : c.exceptionTable.toList = [x]) (hx : covers x g.pc = true) (h0 : x.catchType ≠ 0)
    (hl : S.vm.ClassLinks e.platform g.method.cls x.catchType cT) (hcell : S.heap[q]? = some ce) (hv : ce.vm = .none) (hk1 : ∃ k, S.vm.classes[ce.cls]? = some k) (hk2 : ∃ k, S.vm.classes[cT]? = some k) (hfit : S.vm.assignable ce.cls cT = true)
    (Qh : Handler → Pre) (E : CtlPost) (d : Bool) (acts : List Action) : wp (findHandler g q) Qh E e d acts S ↔ Qh (.found x.handlerPc) d acts (S.setVm (S.vm.noted g.method.cls x.catchType (.cls cT))) := by
  have hal : S.vm.Alike (S.vm.noted g.method.cls x.catchType (.cls cT)) := (Vm.Alike.refl S.vm).noted _ _ _
  obtain ⟨k1, hk1⟩ := hk1
  obtain ⟨k2, hk2⟩ := hk2
  obtain ⟨k1', hk1', -⟩ := hal.2.2 _ _ hk1
  obtain ⟨k2', hk2', -⟩ := hal.2.2 _ _ hk2
  have hfit' : (S.vm.noted g.method.cls x.catchType (.cls cT)).assignable ce.cls cT = true := by rw [hal.assignable]; exact hfit
  have hobj : ∀ k, ce.vm ≠ .statics k := fun k h => by rw [hv] at h; cases h
  obtain ⟨ha, ht⟩ := (resolveClass_links e.toSetting hl).op (op := VmOp.resolveClass g.method.cls x.catchType) rfl
  rw [W.findHandler_eq hm hc, htab]
  simp only [covers] at hx
  simp [findHandler.go, hx, h0, ha, ht, hcell, hobj, hk1', hk2', hfit', VmOp.dirties, VmOp.acts]
theorem am_sfv (u : State) (vm' : Vm) (F G : List Frame) : ((u.setFrames F).setVm vm').setFrames G = (u.setVm vm').setFrames G := by
  show ((u.setVm vm').setFrames F).setFrames G = _
  rw [State.setFrames_setFrames]
theorem am_catchX {own : String} {pc : Nat} {ls : Array Slot} {rest : List Value} {q : Addr} {ce : Cell} {x : ExceptionTableEntry} (hown : s.vm.findClass own = some m.cls) (htab : c.exceptionTable.toList = [x]) (hx : covers x pc = true) (h0 : x.catchType ≠ 0)
    (hlink : (Jvm.Cond.classLink own x.catchType am_ise).before args s = true) (hcast : (Jvm.Cond.castable am_ise am_ise).before args s = true) (hcell : H[q]? = some ce) (hv : ce.vm = .none) (hcl : s.vm.findClass am_ise = some ce.cls)
    (kk : W p l e R s m args below meth c H locs cells slots Q (F0 m x.handlerPc ls [.ref q])) : am_X p l e R s m args below meth c H locs cells slots Q (F0 m pc ls rest) q := by
  intro T hT X
  have hpl : e.platform.magicAccessors = ({} : Platform).magicAccessors := by rw [X.admits.platform]
  obtain ⟨c3, c4, hc3, hc4, hasg⟩ := Cond.castable_spec hcast
  cases Option.some.inj (hc3.symm.trans hcl)
  cases Option.some.inj (hc4.symm.trans hcl)
  obtain ⟨c5, hc5, hcl5⟩ := Cond.classLink_spec hown hlink e.platform hpl
  cases Option.some.inj (hc5.symm.trans hcl)
  obtain ⟨dk, _, _, kt, hd, _, _, _, _, hkt, _, hopen⟩ := hcl5.here
  obtain ⟨kt', hkt', -⟩ := X.warmed.alike.2.2 _ _ hkt
  have hl' := X.warmed.classLinks hcl5
  have hW' := X.warmed.noted hd hopen (State.rightAt_cls hcl5)
  obtain ⟨t, a1, b1⟩ := kk (T.setVm (T.vm.noted m.cls x.catchType (.cls ce.cls))) hT (X.noted hW')
  refine ⟨t, ?_, b1⟩
  have h : At T m c below := X.here
  obtain ⟨hgo, hw⟩ := At.throwing (g := F0 m pc ls rest) h q
  refine Steps.head hgo hw ?_
  have hfind := am_search (e := e) (S := (T.setTop (F0 m pc ls rest)).pushFrame (.throwing q)) (g := F0 m pc ls rest) (q := q) (meth := meth) (c := c) X.method' X.code htab hx h0 hl' (by rw [Stand.throwing_heap, hT]; exact hcell) hv ⟨kt', hkt'⟩ ⟨kt', hkt'⟩ (by rw [Stand.throwing_vm, X.warmed.alike.assignable]; exact hasg)
  have hstep : ∀ r, (stepThrowing e ((T.setTop (F0 m pc ls rest)).pushFrame (.throwing q)) q (.java (F0 m pc ls rest) :: r)).Is ((((T.setTop (F0 m pc ls rest)).pushFrame (.throwing q)).setVm (T.vm.noted m.cls x.catchType (.cls ce.cls))).setFrames (.java { (F0 m pc ls rest) with pc := x.handlerPc, stack := [.ref q] } :: r)) [] := by
    intro r
    simp only [stepThrowing, searchFrame, vmDo]
    generalize hr : Sem.go _ e false [] _ = res
    obtain ⟨as, rfl, ha⟩ := Sem.eq_ok_of hr (a := Handler.found x.handlerPc) (s' := ((T.setTop (F0 m pc ls rest)).pushFrame (.throwing q)).setVm (T.vm.noted m.cls x.catchType (.cls ce.cls))) (acts' := []) (by simp [hfind]; rfl)
    exact ⟨rfl, ha⟩
  rw [stepThread_throwing (frames_entered h.top _), (hstep _).1]
  obtain ⟨g₀, hg⟩ := Option.isSome_iff_exists.mp h.top
  obtain ⟨r, hr⟩ := State.topJava?_eq_some.mp hg
  have hr' : (T.setVm (T.vm.noted m.cls x.catchType (.cls ce.cls))).frames = .java g₀ :: r := hr
  rw [State.setTop_of_frames _ hr'] at a1
  rw [hr, List.tail_cons, State.pushFrame, am_sfv, State.setTop_of_frames _ hr, am_sfv]
  exact a1
end AM8
/-- caught where the program says so: of the local that takes the reference nothing is known then -/
theorem am_Cat {em : Int64 → Nat} {P : am_P} {Y : am_Y} {Ts : List Jvm.Cond} {p : Program} {l : Launch} {e : Env} {R : Room} {s : State} {m : MethodId} {args : Array Value} {below : List Frame} {meth : Method} {c : Code} {H : Heap} {locs : List Loc} {cells slots : Nat} {Q : State → Prop} {M pc h j d mc ms n : Nat} {lsA : Array Slot} {rest : List Value} {ad : Nat → Nat} {ls : am_V} {q : Addr} {ce : Cell} (hcast : Jvm.Cond.castable am_ise am_ise ∈ Ts) (hh : P.2.2.2.1 M pc = some (h, j))
    (act : am_Act P Y Ts p R s m args meth c M d mc ms) (hlo : am_lo em (P.2.2.1 M) lsA ad ls) (hol : am_okl n ls) (hcell : H[q]? = some ce) (hv : ce.vm = .none) (hcl : s.vm.findClass am_ise = some ce.cls)
    (kk : ∀ lsA', am_lo em (P.2.2.1 M) lsA' ad (ls.set j none) → W p l e R s m args below meth c H locs cells slots Q (F0 m h lsA' [])) : am_X p l e R s m args below meth c H locs cells slots Q (F0 m pc lsA rest) q := by
  obtain ⟨hx, hb, hml, hown, hts, hr, hlk, hnm, hRf, hRc, hRs, hRl, hexc, hhn⟩ := id act
  obtain ⟨x, htab, hcov, h0, hlink, ⟨k, hdg, hkj⟩, rfl, hj⟩ := hhn pc h j hh
  refine am_catchX hown htab hcov h0 (hts _ hlink) (hts _ hcast) hcell hv hcl ?_
  refine lv_astore_n hx hb hdg hkj hlo.1 hj rfl (fun lsA' h' => kk lsA' ?_)
  refine ⟨⟨h'.1, h'.2.1, fun z hz => ?_⟩, by rw [List.length_set]; exact hlo.2⟩
  obtain ⟨w, hw, hz2⟩ := am_al_mem.mp hz
  rw [List.getElem?_set] at hw
  by_cases hi : j = z.1
  · rw [if_pos hi] at hw
    split at hw <;> cases hw
  · rw [if_neg hi] at hw
    refine h'.2.2 z (List.mem_cons_of_mem _ (List.mem_filter.mpr ⟨am_al_mem.mpr ⟨w, hw, hz2⟩, ?_⟩))
    have hne : (z.1 == j) = false := by simp; exact fun y => hi y.symm
    have hcat : z.2.category = 1 := by rw [hz2]; exact am_cat (em := em) ad (hol _ _ hw)
    rw [hne, hcat]
    simp
