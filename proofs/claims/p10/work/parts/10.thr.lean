/-! 'throw new IllegalStateException()' -/
section AM7
variable {p : Program} {l : Launch} {e : Env} {R : Room} {s : State} {m : MethodId} {args : Array Value} {below : List Frame} {meth : Method} {c : Code} {T : State} {locs : List Loc} {cells slots : Nat}
/-- the walk as if it had just begun, in the heap that is there now -/
theorem am_again (X : Stand p l e R s m args below meth c T locs cells slots) {R' : Room} (h1 : R'.frames ≤ R.frames) (h2 : R'.locals ≤ R.locals) (h3 : cells + R'.cells ≤ R.cells) (h4 : slots + R'.slots ≤ R.slots) :
    Stand p l e R' ((T.setVm s.vm).setFrames (.invoking m args :: below)) m args below meth c T [] 0 0 := by
  obtain ⟨g₀, hfr⟩ := X.frames_eq
  have htop : (T.setVm s.vm).topJava?.isSome := X.here.top
  have hF : ((T.setVm s.vm).setFrames (.invoking m args :: below)).frames = .invoking m args :: below := State.frames_setFrames _ (State.cur_lt_of_top htop)
  have hloc : ((T.setVm s.vm).setFrames (.invoking m args :: below)).localsInUse = s.localsInUse := by
    rw [State.localsInUse_invoking hF (meth := meth) (c := c) X.method X.code, State.localsInUse_invoking X.frames X.method X.code]
  have hlim : e.platform.stackLimits (T.setVm s.vm).me = e.platform.stackLimits s.me := X.limits
  have hby : (T.setVm s.vm).me.stackBytes = s.me.stackBytes := X.bytes
  have hfr' : (T.setVm s.vm).frames = .java g₀ :: below := hfr
  refine ⟨X.admits, X.cas, X.clock, hF, ?_, X.hears, X.method, X.code, X.here, X.tail, X.warmed, by rw [State.stackLimits_setFrames]; rfl, by rw [State.stackBytes_setFrames]; rfl, ?_, Nat.le_refl _, Nat.le_refl _, ?_, ?_, fun a c9 h9 => ⟨c9, h9, rfl, rfl, fun _ _ => rfl⟩⟩
  · have h := X.room
    have q1 := X.heapSize
    have q2 := X.used
    have q3 := X.frames
    simp only [State.hasRoom, Bool.and_eq_true, decide_eq_true_eq] at h ⊢
    obtain ⟨⟨⟨⟨a1, a2, a3, a4, a5, a6⟩, a7⟩, a8⟩, a9⟩ := h
    rw [q3, List.length_cons] at a2 a3
    simp only [hF, hloc, List.length_cons, State.stackLimits_setFrames, State.stackBytes_setFrames, hlim, hby]
    refine ⟨⟨⟨⟨by omega, by omega, by omega, by omega, by omega, a6⟩, ?_⟩, ?_⟩, X.book⟩
    · show T.heap.size + R'.cells ≤ e.platform.maxCells
      omega
    · show T.slotsUsed + R'.slots ≤ e.platform.maxSlots
      omega
  · obtain ⟨t, ht, -⟩ := State.frames_cons hfr'
    show T.setVm s.vm = { ((T.setVm s.vm).setFrames (.invoking m args :: below)).setFrames (T.setVm s.vm).frames with heap := T.heap, slotsUsed := T.slotsUsed }
    rw [State.setFrames_setFrames, State.setFrames_self ht]
    rfl
  · show T.slotsUsed = T.slotsUsed + ((T.heap.toList.drop T.heap.size).map (·.slots.size)).sum
    rw [List.drop_eq_nil_of_le (Nat.le_of_eq Array.length_toList)]
    rfl
  · show ((T.heap.toList.drop T.heap.size).map (·.slots.size)).sum ≤ 0
    rw [List.drop_eq_nil_of_le (Nat.le_of_eq Array.length_toList)]
    exact Nat.le_refl _
end AM7
/-- the words that the throw needs, of the class that throws, with the number of the constructor's link -/
def am_thn : List String := ["java/lang/RuntimeException", "java/lang/Exception"]
def am_thw (own : String) (ic : Nat) : List Jvm.Cond := Bundle.ownAtoms0 own ic am_ise am_thn
/-- they hold now, and in every later heap that keeps what lies outside A -/
def am_ZT (own : String) (ic : Nat) (A : Nat → Prop) (U : State) (H : Heap) : Prop := ∀ (s' : State) (args : Array Value), U.WarmedH s'.vm → H.size ≤ s'.heap.size → (∀ q : Nat, q < H.size → ¬ A q → s'.heap[q]? = H[q]?) → ∀ w ∈ am_thw own ic, w.before args s' = true
theorem am_ZT.kept {own : String} {ic : Nat} {A : Nat → Prop} {U : State} {H H1 : Heap} (h : am_ZT own ic A U H) (hq : ∀ q : Nat, q < H.size → ¬ A q → H1[q]? = H[q]?) (hz : H.size ≤ H1.size) : am_ZT own ic A U H1 :=
  fun s' args hW h1 h2 => h s' args hW (Nat.le_trans hz h1) fun q hq1 hA => by rw [h2 q (Nat.lt_of_lt_of_le hq1 hz) hA]; exact hq q hq1 hA
theorem am_ZT.moved {own : String} {ic : Nat} {A : Nat → Prop} {u U : State} {H : Heap} (h : am_ZT own ic A u H) (hW : u.WarmedH U.vm) : am_ZT own ic A U H :=
  fun s' args hW' h1 h2 => h s' args (State.WarmedH.trans hW hW') h1 h2
theorem am_ZT.narrow {own : String} {ic : Nat} {A B : Nat → Prop} {U : State} {H : Heap} (h : am_ZT own ic A U H) (hAB : ∀ q, B q → A q) : am_ZT own ic B U H :=
  fun s' args hW h1 h2 => h s' args hW h1 fun q hq hA => h2 q hq fun hB => hA (hAB q hB)
set_option maxHeartbeats 2000000 in
/-- new; dup; invokespecial; athrow -/
theorem am_throw {p : Program} {l : Launch} {e : Env} {R : Room} {s : State} {m : MethodId} {args : Array Value} {below : List Frame} {meth : Method} {c : Code} {H : Heap} {locs : List Loc} {cells slots : Nat} {Qc : Array Value → State → Outcome → State → Prop} {mc ms ik ic : Nat} {free : Addr → Prop} {own : String} {cc : ByteArray} {pc : Nat} {ls : Array Slot} {rest : List Value} {A : Nat → Prop}
    (hexec : p.tables.exec = Jvm.exec) (hb : c.code = cc) (hl : l.stackTraces = false) (hown : s.vm.findClass own = some m.cls) (hk : (Jvm.Cond.classLink own ik am_ise).before args s = true) (hini : (Jvm.Cond.initialized am_ise).before args s = true) (hkp : am_Ps (Jvm.Cond.classLink own ik am_ise)) (hip : am_Ps (Jvm.Cond.initialized am_ise))
    (hZ : am_ZT own ic A s s.heap) (hS : va_S A s.heap H locs) (hsize : ls.size = c.maxLocals)
    (d0 : decode cc pc = .ok (.new ik, 3)) (d3 : decode cc (pc + 3) = .ok (.dup, 1)) (d4 : decode cc (pc + 4) = .ok (.invokespecial ic, 3)) (d7 : decode cc (pc + 7) = .ok (.athrow, 1))
    (hout : ∀ x ∈ c.exceptionTable.toList, covers x (pc + 7) = false) (hRf : 6 ≤ R.frames) (hRl : (rest.map fun v => v.category).sum + 90 ≤ R.locals) (hRc : cells + 1 ≤ R.cells) (hRs : slots + 6 ≤ R.slots) (hlocks : meth.locks = false)
    (hx : ∀ (q : Addr) (ce : Cell) (t : State), s.WarmedH t.vm → H.size ≤ t.heap.size → (∀ z : Nat, z < H.size → t.heap[z]? = H[z]?) → t.heap[q]? = some ce → ce.vm = .none → t.vm.findClass am_ise = some ce.cls → Qc args s (.threw q) t)
    (hf : ∀ z ∈ locs, free z.base) (hc : cells + 1 ≤ mc) (hs : slots + 6 ≤ ms) :
    W p l e R s m args below meth c H locs cells slots (am_MQ below Qc args s mc ms free) (F0 m pc ls rest) := by
  intro T hT X
  have htr : e.platform.stackTraces = false := (show e.platform.stackTraces = l.stackTraces by rw [X.admits.platform]).trans hl
  have Y := am_again X (R' := { frames := R.frames, locals := R.locals, cells := 1, slots := 6 }) (Nat.le_refl _) (Nat.le_refl _) hRc hRs
  generalize hs' : (T.setVm s.vm).setFrames (.invoking m args :: below) = s' at Y
  have hvm : s'.vm = s.vm := by rw [← hs']; rfl
  have hhp : s'.heap = H := by rw [← hs']; exact hT
  have hW0 : s.WarmedH s'.vm := by rw [hvm]; exact State.WarmedH.refl s
  have hw : ∀ w ∈ Bundle.ownAtoms0 own ic am_ise am_thn, w.before args s' = true := hZ s' args hW0 (by rw [hhp]; exact hS.1) (by rw [hhp]; exact hS.2.1)
  have hown' : s'.vm.findClass own = some m.cls := by rw [hvm]; exact hown
  have hins : (Jvm.Cond.instantiable am_ise 6).before args s' = true := hw _ (by simp [Bundle.ownAtoms0])
  obtain ⟨vm₁, cX, kX, hfX, hkX, -, -, X₁, st1⟩ := Y.newCold hexec (own := own) (C := am_ise) (index := ik) (n := 6) hown' (hkp _ _ _ _ hW0 hk) hins (hip _ _ _ _ hW0 hini)
    (g := F0 m pc ls rest) rfl (by rw [hb]; exact d0) (Nat.le_refl _) (Nat.le_refl _)
  generalize hT1 : (T.setVm vm₁).pushCell { cls := cX, slots := kX.instanceTypes.map defaultValue, vm := .none } = T1 at X₁ st1
  have hcat : (Value.ref T.heap.size).category = 1 := rfl
  have hcellA : T1.heap[T.heap.size]? = some (freshCell cX kX) := by rw [← hT1]; exact State.heap_pushCell_size _ _
  have d3' : decode c.code (pc + 3) = .ok (.dup, 1) := by rw [hb]; exact d3
  obtain ⟨U, hsteps, hrun, hend, hW, hsame, ce, hce, hO⟩ := X₁.ctorThrow0 hexec htr (own := own) (cls := am_ise) (names := am_thn) (ic := ic) hown' (by decide +kernel) (by decide +kernel) hw (fun x hx => nomatch hx) hfX hkX hcellA (by rw [hhp, hT]; exact Nat.le_refl _)
    (g := { method := m, pc := pc + 4, locals := ls, stack := .ref T.heap.size :: .ref T.heap.size :: rest, locked := none }) rfl hsize rfl rfl (rest := rest) rfl
    (by rw [hb]; exact d4) (by rw [hb]; exact d7) hout (by show 2 + 3 < R.frames; omega) (by
      show 2 * 0 + (((Value.ref T.heap.size) :: rest).map fun v => v.category).sum + (13 * (2 + 1) + 41) ≤ R.locals
      simp only [List.map_cons, List.sum_cons, hcat]; omega) hlocks
  have hsame2 := hsame
  obtain ⟨e1, f1, e2⟩ := hsame2
  have f2 : ∀ q : Nat, q < s'.heap.size → U.heap[q]? = s'.heap[q]? := by
    intro q hq
    obtain ⟨c9, k1, k2, k3, k4⟩ := e2.2.2.2 q _ (Array.getElem?_eq_getElem hq)
    have hsl : c9.slots = (s'.heap[q]).slots := Array.ext_getElem? fun i => k4 i fun hm => nomatch hm
    have h9 : c9 = s'.heap[q] := by
      rw [hsl] at k2
      exact k2
    have k5 : U.heap[q]? = some c9 := k1
    rw [k5, h9, Array.getElem?_eq_getElem hq]
  have f1' : s'.heap.size ≤ U.heap.size := f1
  rw [hhp] at f1' f2
  have hWs : s.WarmedH U.vm := State.WarmedH.trans hW0 hW
  have hcl : s.vm.findClass am_ise = some ce.cls := by
    have h9 := hO.cls
    rw [hvm] at h9
    exact h9
  have hall : s.sameButNew ({ U with vm := s.vm } : State) locs mc ms := by
    subst hs'
    rw [State.setFrames_setFrames] at e1
    have h2 : (T.setVm s.vm).sameButNew ({ U with vm := s.vm } : State) [] (0 + 1) (0 + 6) := ⟨e1, f1, e2⟩
    have h3 := X.same.trans h2
    rw [List.append_nil] at h3
    exact h3.mono hc hs
  refine ⟨U, ?_, .threw T.heap.size, hrun, hend, hx T.heap.size ce U hWs f1' (fun q hq => f2 q hq) hce hO.vm (by rw [hWs.alike.findClass]; exact hcl), locs, ⟨hWs, hall⟩, hf⟩
  refine st1 _ ?_
  show Steps p.tables e below (T1.setTop { method := m, pc := pc + 3, locals := ls, stack := .ref T.heap.size :: rest, locked := none }) _
  jvm_step X₁.here [X₁.here.top, hexec, d3', Value.category]
  exact hsteps
