/-! ALL TOGETHER (printed by wip/p5/cw_run.py) -/
set_option maxRecDepth 4096
noncomputable def cfix : Nat → cRC
  | 0 => fun _ _ _ _ _ _ _ _ _ => none
  | m + 1 => fun k s x a b c e i j => if k = 52 then c52 (cfix m) s else if k = 59 then c59 (cfix m) s else if k = 60 then c60 (cfix m) s else if k = 61 then c61 (cfix m) s else if k = 70 then c70 (cfix m) s else if k = 71 then c71 (cfix m) s else if k = 73 then c73 (cfix m) s a b else if k = 77 then c77 (cfix m) s x else if k = 91 then c91 (cfix m) s else if k = 92 then c92 (cfix m) s a else if k = 111 then c111 (cfix m) s a else if k = 112 then c112 (cfix m) s else if k = 128 then c128 (cfix m) s else if k = 130 then c130 (cfix m) s else if k = 133 then c133 (cfix m) s else if k = 134 then c134 (cfix m) s else if k = 135 then c135 (cfix m) s else if k = 138 then c138 (cfix m) s else if k = 139 then c139 (cfix m) s else if k = 142 then c142 (cfix m) s a b else if k = 144 then c144 (cfix m) s else if k = 145 then c145 (cfix m) s else if k = 146 then c146 (cfix m) s else if k = 147 then c147 (cfix m) s else if k = 150 then c150 (cfix m) s else if k = 52002 then c52_2 (cfix m) s a else if k = 59032 then c59_32 (cfix m) s a b else if k = 60007 then c60_7 (cfix m) s a b else if k = 70015 then c70_15 (cfix m) s a b c e else if k = 71002 then c71_2 (cfix m) s a else if k = 77020 then c77_20 (cfix m) s x a b else if k = 91032 then c91_32 (cfix m) s a b c else if k = 112006 then c112_6 (cfix m) s a b c else if k = 134013 then c134_13 (cfix m) s a b c else if k = 144038 then c144_38 (cfix m) s a b c e else if k = 145023 then c145_23 (cfix m) s a b c else if k = 147027 then c147_27 (cfix m) s a b c e i j else none
theorem cf52 {m x : Nat} {s : cS} {a b c e i j : Int32} : cfix (m + 1) 52 s x a b c e i j = c52 (cfix m) s := rfl
theorem cf59 {m x : Nat} {s : cS} {a b c e i j : Int32} : cfix (m + 1) 59 s x a b c e i j = c59 (cfix m) s := rfl
theorem cf60 {m x : Nat} {s : cS} {a b c e i j : Int32} : cfix (m + 1) 60 s x a b c e i j = c60 (cfix m) s := rfl
theorem cf61 {m x : Nat} {s : cS} {a b c e i j : Int32} : cfix (m + 1) 61 s x a b c e i j = c61 (cfix m) s := rfl
theorem cf70 {m x : Nat} {s : cS} {a b c e i j : Int32} : cfix (m + 1) 70 s x a b c e i j = c70 (cfix m) s := rfl
theorem cf71 {m x : Nat} {s : cS} {a b c e i j : Int32} : cfix (m + 1) 71 s x a b c e i j = c71 (cfix m) s := rfl
theorem cf73 {m x : Nat} {s : cS} {a b c e i j : Int32} : cfix (m + 1) 73 s x a b c e i j = c73 (cfix m) s a b := rfl
theorem cf77 {m x : Nat} {s : cS} {a b c e i j : Int32} : cfix (m + 1) 77 s x a b c e i j = c77 (cfix m) s x := rfl
theorem cf91 {m x : Nat} {s : cS} {a b c e i j : Int32} : cfix (m + 1) 91 s x a b c e i j = c91 (cfix m) s := rfl
theorem cf92 {m x : Nat} {s : cS} {a b c e i j : Int32} : cfix (m + 1) 92 s x a b c e i j = c92 (cfix m) s a := rfl
theorem cf111 {m x : Nat} {s : cS} {a b c e i j : Int32} : cfix (m + 1) 111 s x a b c e i j = c111 (cfix m) s a := rfl
theorem cf112 {m x : Nat} {s : cS} {a b c e i j : Int32} : cfix (m + 1) 112 s x a b c e i j = c112 (cfix m) s := rfl
theorem cf128 {m x : Nat} {s : cS} {a b c e i j : Int32} : cfix (m + 1) 128 s x a b c e i j = c128 (cfix m) s := rfl
theorem cf130 {m x : Nat} {s : cS} {a b c e i j : Int32} : cfix (m + 1) 130 s x a b c e i j = c130 (cfix m) s := rfl
theorem cf133 {m x : Nat} {s : cS} {a b c e i j : Int32} : cfix (m + 1) 133 s x a b c e i j = c133 (cfix m) s := rfl
theorem cf134 {m x : Nat} {s : cS} {a b c e i j : Int32} : cfix (m + 1) 134 s x a b c e i j = c134 (cfix m) s := rfl
theorem cf135 {m x : Nat} {s : cS} {a b c e i j : Int32} : cfix (m + 1) 135 s x a b c e i j = c135 (cfix m) s := rfl
theorem cf138 {m x : Nat} {s : cS} {a b c e i j : Int32} : cfix (m + 1) 138 s x a b c e i j = c138 (cfix m) s := rfl
theorem cf139 {m x : Nat} {s : cS} {a b c e i j : Int32} : cfix (m + 1) 139 s x a b c e i j = c139 (cfix m) s := rfl
theorem cf142 {m x : Nat} {s : cS} {a b c e i j : Int32} : cfix (m + 1) 142 s x a b c e i j = c142 (cfix m) s a b := rfl
theorem cf144 {m x : Nat} {s : cS} {a b c e i j : Int32} : cfix (m + 1) 144 s x a b c e i j = c144 (cfix m) s := rfl
theorem cf145 {m x : Nat} {s : cS} {a b c e i j : Int32} : cfix (m + 1) 145 s x a b c e i j = c145 (cfix m) s := rfl
theorem cf146 {m x : Nat} {s : cS} {a b c e i j : Int32} : cfix (m + 1) 146 s x a b c e i j = c146 (cfix m) s := rfl
theorem cf147 {m x : Nat} {s : cS} {a b c e i j : Int32} : cfix (m + 1) 147 s x a b c e i j = c147 (cfix m) s := rfl
theorem cf150 {m x : Nat} {s : cS} {a b c e i j : Int32} : cfix (m + 1) 150 s x a b c e i j = c150 (cfix m) s := rfl
theorem cf52002 {m x : Nat} {s : cS} {a b c e i j : Int32} : cfix (m + 1) 52002 s x a b c e i j = c52_2 (cfix m) s a := rfl
theorem cf59032 {m x : Nat} {s : cS} {a b c e i j : Int32} : cfix (m + 1) 59032 s x a b c e i j = c59_32 (cfix m) s a b := rfl
theorem cf60007 {m x : Nat} {s : cS} {a b c e i j : Int32} : cfix (m + 1) 60007 s x a b c e i j = c60_7 (cfix m) s a b := rfl
theorem cf70015 {m x : Nat} {s : cS} {a b c e i j : Int32} : cfix (m + 1) 70015 s x a b c e i j = c70_15 (cfix m) s a b c e := rfl
theorem cf71002 {m x : Nat} {s : cS} {a b c e i j : Int32} : cfix (m + 1) 71002 s x a b c e i j = c71_2 (cfix m) s a := rfl
theorem cf77020 {m x : Nat} {s : cS} {a b c e i j : Int32} : cfix (m + 1) 77020 s x a b c e i j = c77_20 (cfix m) s x a b := rfl
theorem cf91032 {m x : Nat} {s : cS} {a b c e i j : Int32} : cfix (m + 1) 91032 s x a b c e i j = c91_32 (cfix m) s a b c := rfl
theorem cf112006 {m x : Nat} {s : cS} {a b c e i j : Int32} : cfix (m + 1) 112006 s x a b c e i j = c112_6 (cfix m) s a b c := rfl
theorem cf134013 {m x : Nat} {s : cS} {a b c e i j : Int32} : cfix (m + 1) 134013 s x a b c e i j = c134_13 (cfix m) s a b c := rfl
theorem cf144038 {m x : Nat} {s : cS} {a b c e i j : Int32} : cfix (m + 1) 144038 s x a b c e i j = c144_38 (cfix m) s a b c e := rfl
theorem cf145023 {m x : Nat} {s : cS} {a b c e i j : Int32} : cfix (m + 1) 145023 s x a b c e i j = c145_23 (cfix m) s a b c := rfl
theorem cf147027 {m x : Nat} {s : cS} {a b c e i j : Int32} : cfix (m + 1) 147027 s x a b c e i j = c147_27 (cfix m) s a b c e i j := rfl
theorem l_lt1 {P : am_P} {N d M pc : Nat} {ls : am_V} {st : List Value} {S : am_S} {Q : Option (Option Value) → am_S → Prop} (h : N < 1) : am_L P N d M pc ls st S Q := by
  obtain rfl : N = 0 := by omega
  exact l_zero
theorem rc_all {sc : Nat × (Nat → Int32)} : ∀ m, RCH sc (cfix m) (m + 1) := by
  intro m
  induction m with
  | zero => exact ⟨fun q _ => l_lt1 q, fun q _ => l_lt1 q, fun q _ => l_lt1 q, fun q _ => l_lt1 q, fun q _ => l_lt1 q, fun q _ => l_lt1 q, fun q _ => l_lt1 q, fun q _ _ => l_lt1 q, fun q _ => l_lt1 q, fun q _ => l_lt1 q, fun q _ => l_lt1 q, fun q _ => l_lt1 q, fun q _ => l_lt1 q, fun q _ => l_lt1 q, fun q _ => l_lt1 q, fun q _ => l_lt1 q, fun q _ => l_lt1 q, fun q _ => l_lt1 q, fun q _ => l_lt1 q, fun q _ => l_lt1 q, fun q _ => l_lt1 q, fun q _ => l_lt1 q, fun q _ => l_lt1 q, fun q _ => l_lt1 q, fun q _ => l_lt1 q, fun q _ => l_lt1 q, fun q _ => l_lt1 q, fun q _ => l_lt1 q, fun q _ => l_lt1 q, fun q _ => l_lt1 q, fun q _ _ => l_lt1 q, fun q _ => l_lt1 q, fun q _ => l_lt1 q, fun q _ => l_lt1 q, fun q _ => l_lt1 q, fun q _ => l_lt1 q, fun q _ => l_lt1 q⟩
  | succ m ih =>
    exact ⟨fun q hS => am_L.mono (lc52 (ih.less (Nat.le_of_lt_succ q)) hS) (fun o S1 z => by rw [cf52]; exact z),
      fun q hS => am_L.mono (lc59 (ih.less (Nat.le_of_lt_succ q)) hS) (fun o S1 z => by rw [cf59]; exact z),
      fun q hS => am_L.mono (lc60 (ih.less (Nat.le_of_lt_succ q)) hS) (fun o S1 z => by rw [cf60]; exact z),
      fun q hS => am_L.mono (lc61 (ih.less (Nat.le_of_lt_succ q)) hS) (fun o S1 z => by rw [cf61]; exact z),
      fun q hS => am_L.mono (lc70 (ih.less (Nat.le_of_lt_succ q)) hS) (fun o S1 z => by rw [cf70]; exact z),
      fun q hS => am_L.mono (lc71 (ih.less (Nat.le_of_lt_succ q)) hS) (fun o S1 z => by rw [cf71]; exact z),
      fun q hS => am_L.mono (lc73 (ih.less (Nat.le_of_lt_succ q)) hS) (fun o S1 z => by rw [cf73]; exact z),
      fun q hS hx => am_L.mono (lc77 (ih.less (Nat.le_of_lt_succ q)) hS hx) (fun o S1 z => by rw [cf77]; exact z),
      fun q hS => am_L.mono (lc91 (ih.less (Nat.le_of_lt_succ q)) hS) (fun o S1 z => by rw [cf91]; exact z),
      fun q hS => am_L.mono (lc92 (ih.less (Nat.le_of_lt_succ q)) hS) (fun o S1 z => by rw [cf92]; exact z),
      fun q hS => am_L.mono (lc111 (ih.less (Nat.le_of_lt_succ q)) hS) (fun o S1 z => by rw [cf111]; exact z),
      fun q hS => am_L.mono (lc112 (ih.less (Nat.le_of_lt_succ q)) hS) (fun o S1 z => by rw [cf112]; exact z),
      fun q hS => am_L.mono (lc128 (ih.less (Nat.le_of_lt_succ q)) hS) (fun o S1 z => by rw [cf128]; exact z),
      fun q hS => am_L.mono (lc130 (ih.less (Nat.le_of_lt_succ q)) hS) (fun o S1 z => by rw [cf130]; exact z),
      fun q hS => am_L.mono (lc133 (ih.less (Nat.le_of_lt_succ q)) hS) (fun o S1 z => by rw [cf133]; exact z),
      fun q hS => am_L.mono (lc134 (ih.less (Nat.le_of_lt_succ q)) hS) (fun o S1 z => by rw [cf134]; exact z),
      fun q hS => am_L.mono (lc135 (ih.less (Nat.le_of_lt_succ q)) hS) (fun o S1 z => by rw [cf135]; exact z),
      fun q hS => am_L.mono (lc138 (ih.less (Nat.le_of_lt_succ q)) hS) (fun o S1 z => by rw [cf138]; exact z),
      fun q hS => am_L.mono (lc139 (ih.less (Nat.le_of_lt_succ q)) hS) (fun o S1 z => by rw [cf139]; exact z),
      fun q hS => am_L.mono (lc142 (ih.less (Nat.le_of_lt_succ q)) hS) (fun o S1 z => by rw [cf142]; exact z),
      fun q hS => am_L.mono (lc144 (ih.less (Nat.le_of_lt_succ q)) hS) (fun o S1 z => by rw [cf144]; exact z),
      fun q hS => am_L.mono (lc145 (ih.less (Nat.le_of_lt_succ q)) hS) (fun o S1 z => by rw [cf145]; exact z),
      fun q hS => am_L.mono (lc146 (ih.less (Nat.le_of_lt_succ q)) hS) (fun o S1 z => by rw [cf146]; exact z),
      fun q hS => am_L.mono (lc147 (ih.less (Nat.le_of_lt_succ q)) hS) (fun o S1 z => by rw [cf147]; exact z),
      fun q hS => am_L.mono (lc150 (ih.less (Nat.le_of_lt_succ q)) hS) (fun o S1 z => by rw [cf150]; exact z),
      fun q hS => am_L.mono (lc52_2 (ih.less (Nat.le_of_lt_succ q)) hS) (fun o S1 z => by rw [cf52002]; exact z),
      fun q hS => am_L.mono (lc59_32 (ih.less (Nat.le_of_lt_succ q)) hS) (fun o S1 z => by rw [cf59032]; exact z),
      fun q hS => am_L.mono (lc60_7 (ih.less (Nat.le_of_lt_succ q)) hS) (fun o S1 z => by rw [cf60007]; exact z),
      fun q hS => am_L.mono (lc70_15 (ih.less (Nat.le_of_lt_succ q)) hS) (fun o S1 z => by rw [cf70015]; exact z),
      fun q hS => am_L.mono (lc71_2 (ih.less (Nat.le_of_lt_succ q)) hS) (fun o S1 z => by rw [cf71002]; exact z),
      fun q hS hx => am_L.mono (lc77_20 (ih.less (Nat.le_of_lt_succ q)) hS hx) (fun o S1 z => by rw [cf77020]; exact z),
      fun q hS => am_L.mono (lc91_32 (ih.less (Nat.le_of_lt_succ q)) hS) (fun o S1 z => by rw [cf91032]; exact z),
      fun q hS => am_L.mono (lc112_6 (ih.less (Nat.le_of_lt_succ q)) hS) (fun o S1 z => by rw [cf112006]; exact z),
      fun q hS => am_L.mono (lc134_13 (ih.less (Nat.le_of_lt_succ q)) hS) (fun o S1 z => by rw [cf134013]; exact z),
      fun q hS => am_L.mono (lc144_38 (ih.less (Nat.le_of_lt_succ q)) hS) (fun o S1 z => by rw [cf144038]; exact z),
      fun q hS => am_L.mono (lc145_23 (ih.less (Nat.le_of_lt_succ q)) hS) (fun o S1 z => by rw [cf145023]; exact z),
      fun q hS => am_L.mono (lc147_27 (ih.less (Nat.le_of_lt_succ q)) hS) (fun o S1 z => by rw [cf147027]; exact z)⟩
/-- a call whose throw is caught here -/
theorem l32c {P : am_P} {N d M pc : Nat} {ls : am_V} {st : List Value} {S : am_S} {Q : Option (Option Value) → am_S → Prop} {a b c nx hp j : Nat} {x : Int32} {tab : List (Int32 × Nat)} {Q1 : Option (Option Value) → am_S → Prop} {as rest : List Value} {la : am_V} (hi : P.1 M pc = some (32, a, b, c, x, nx, tab)) (hh : P.2.2.2.1 M pc = some (hp, j)) (has : (st.take b).reverse = as) (hla : am_in as (P.2.2.1 a) = la) (hrest : st.drop b = rest)
    (hc : ∀ N' d', N' < N → am_L P N' d' a 0 la [] S Q1) (k : ∀ v S1, Q1 (some v) S1 → am_L P N d M nx ls (v.toList ++ rest) S1 Q) (kx : ∀ S1, Q1 none S1 → am_L P N d M hp (ls.set j none) [] S1 Q) : am_L P N d M pc ls st S Q := by
  intro n hn o S' h
  cases n with
  | zero => simp [am_run] at h
  | succ n =>
    rw [am_run, hi] at h
    dsimp only at h
    rw [if_pos rfl] at h
    split at h
    · cases d with
      | zero => cases h
      | succ d' =>
        dsimp only at h
        rw [has, hla, hrest] at h
        cases hr : am_run P n d' a 0 la [] S with
        | none => rw [hr] at h; cases h
        | some q =>
          obtain ⟨o1, S1⟩ := q
          rw [hr] at h
          have q1 := hc n d' (by omega) n (Nat.le_refl _) o1 S1 hr
          cases o1 with
          | some v => exact k v S1 q1 n (by omega) o S' h
          | none =>
            dsimp only at h
            rw [hh] at h
            exact kx S1 q1 n (by omega) o S' h
    · cases h
def c38_32 (s : cS) : cS × Int32 := if (c152 s) ≠ 0 then if (c152 s) = 0 then ((c154 (nf s 0 5 (c153 s))).1, c155 ((c154 (nf s 0 5 (c153 s))).1)) else ((c40 ((c154 (nf s 0 5 (c153 s))).1)).1, -(c152 s)) else if (c152 s) = 0 then ((c154 (nf s 0 5 (c35 s))).1, c155 ((c154 (nf s 0 5 (c35 s))).1)) else ((c40 ((c154 (nf s 0 5 (c35 s))).1)).1, -(c152 s))
theorem lc38_32 {sc : Nat × (Nat → Int32)} {N d : Nat} {A : Nat → Nat} {K : Nat} {S : am_S} {s : cS} {o1 : Option Value} (hS : CM A K S s) : am_L (am_PP sc) N d 38 32 [some (.ref 0), o1] [] S (fun o S1 => o = some (some (.int (c38_32 s).2)) ∧ CM A K S1 (c38_32 s).1) := by
  refine l2 (v := 0) hi_38_32 rfl ?_
  refine l20s (v := .ref 1) hS cs_0 hi_38_33 rfl ?_
  refine l32 (as := [.ref 1]) (la := [some (.ref 1)]) (rest := []) hi_38_36 (show am_hd 38 36 = none from by decide) rfl rfl rfl (fun N' d' _ => lc152 (N := N') (d := d') hS ) ?_ (fun _ q => nomatch q.1)
  rintro v3 S1 ⟨ev3, h2⟩
  cases ev3
  show am_L _ _ _ _ _ [some (.ref 0), o1] [.int (c152 s)] _ _
  refine l3 (ls' := [some (.ref 0), some (.int (c152 s))]) hi_38_39 (Nat.le_of_ble_eq_true rfl) rfl ?_
  refine l2 (v := 0) hi_38_40 rfl ?_
  refine l1 (v := c152 s) hi_38_41 rfl ?_
  by_cases cn4 : (c152 s) ≠ 0
  · refine l12t hi_38_42 (decide_eq_true cn4) ?_
    refine l2 (v := 0) hi_38_55 rfl ?_
    refine l20s (v := .ref 1) h2 cs_0 hi_38_56 rfl ?_
    refine l32 (as := [.ref 1]) (la := [some (.ref 1)]) (rest := [.ref 0]) hi_38_59 (show am_hd 38 59 = none from by decide) rfl rfl rfl (fun N' d' _ => lc153 (N := N') (d := d') h2 ) ?_ (fun _ q => nomatch q.1)
    rintro v7 S5 ⟨ev7, h6⟩
    cases ev7
    show am_L _ _ _ _ _ [some (.ref 0), some (.int (c152 s))] [.int (c153 s), .ref 0] _ _
    refine l21s h6 cs_0 hi_38_62 (fun _ _ => rfl) fun S8 h9 => ?_
    refine l2 (v := 0) hi_38_65 rfl ?_
    refine l20s (v := .ref 2) h9 cs_0 hi_38_66 rfl ?_
    refine l32 (as := [.ref 2]) (la := [some (.ref 2)]) (rest := []) hi_38_69 (show am_hd 38 69 = none from by decide) rfl rfl rfl (fun N' d' _ => lc154 (N := N') (d := d') h9 ) ?_ (fun _ q => nomatch q.1)
    rintro v12 S10 ⟨ev12, h11⟩
    cases ev12
    show am_L _ _ _ _ _ [some (.ref 0), some (.int (c152 s))] [] _ _
    refine l1 (v := c152 s) hi_38_72 rfl ?_
    by_cases cn13 : (c152 s) = 0
    · refine l12t hi_38_73 (decide_eq_true cn13) ?_
      refine l2 (v := 0) hi_38_86 rfl ?_
      refine l20s (v := .ref 5) h11 cs_0 hi_38_87 rfl ?_
      refine l32 (as := [.ref 5]) (la := [some (.ref 5)]) (rest := []) hi_38_90 (show am_hd 38 90 = none from by decide) rfl rfl rfl (fun N' d' _ => lc155 (N := N') (d := d') h11 ) ?_ (fun _ q => nomatch q.1)
      rintro v16 S14 ⟨ev16, h15⟩
      cases ev16
      show am_L _ _ _ _ _ [some (.ref 0), some (.int (c152 s))] [.int (c155 ((c154 (nf s 0 5 (c153 s))).1))] _ _
      refine l33 hi_38_93 ⟨?_, ?_⟩
      · unfold c38_32; rw [if_pos cn4]; rw [if_pos cn13]
      · unfold c38_32; rw [if_pos cn4]; rw [if_pos cn13]; exact h15
    · refine l12f hi_38_73 (decide_eq_false cn13) ?_
      refine l2 (v := 0) hi_38_76 rfl ?_
      refine l20s (v := .ref 5) h11 cs_0 hi_38_77 rfl ?_
      refine l32 (as := [.ref 5]) (la := [some (.ref 5)]) (rest := []) hi_38_80 (show am_hd 38 80 = none from by decide) rfl rfl rfl (fun N' d' _ => lc40 (N := N') (d := d') h11 ) ?_ (fun _ q => nomatch q.1)
      rintro v19 S17 ⟨ev19, h18⟩
      cases ev19
      show am_L _ _ _ _ _ [some (.ref 0), some (.int (c152 s))] [] _ _
      refine l1 (v := c152 s) hi_38_83 rfl ?_
      refine l11 hi_38_84 ?_
      refine l33 hi_38_85 ⟨?_, ?_⟩
      · unfold c38_32; rw [if_pos cn4]; rw [if_neg cn13]
      · unfold c38_32; rw [if_pos cn4]; rw [if_neg cn13]; exact h18
  · refine l12f hi_38_42 (decide_eq_false cn4) ?_
    refine l2 (v := 0) hi_38_45 rfl ?_
    refine l20s (v := .ref 2) h2 cs_0 hi_38_46 rfl ?_
    refine l32 (as := [.ref 2]) (la := [some (.ref 2)]) (rest := [.ref 0]) hi_38_49 (show am_hd 38 49 = none from by decide) rfl rfl rfl (fun N' d' _ => lc35 (N := N') (d := d') h2 ) ?_ (fun _ q => nomatch q.1)
    rintro v22 S20 ⟨ev22, h21⟩
    cases ev22
    show am_L _ _ _ _ _ [some (.ref 0), some (.int (c152 s))] [.int (c35 s), .ref 0] _ _
    refine l18 hi_38_52 ?_
    refine l21s h21 cs_0 hi_38_62 (fun _ _ => rfl) fun S23 h24 => ?_
    refine l2 (v := 0) hi_38_65 rfl ?_
    refine l20s (v := .ref 2) h24 cs_0 hi_38_66 rfl ?_
    refine l32 (as := [.ref 2]) (la := [some (.ref 2)]) (rest := []) hi_38_69 (show am_hd 38 69 = none from by decide) rfl rfl rfl (fun N' d' _ => lc154 (N := N') (d := d') h24 ) ?_ (fun _ q => nomatch q.1)
    rintro v27 S25 ⟨ev27, h26⟩
    cases ev27
    show am_L _ _ _ _ _ [some (.ref 0), some (.int (c152 s))] [] _ _
    refine l1 (v := c152 s) hi_38_72 rfl ?_
    by_cases cn28 : (c152 s) = 0
    · refine l12t hi_38_73 (decide_eq_true cn28) ?_
      refine l2 (v := 0) hi_38_86 rfl ?_
      refine l20s (v := .ref 5) h26 cs_0 hi_38_87 rfl ?_
      refine l32 (as := [.ref 5]) (la := [some (.ref 5)]) (rest := []) hi_38_90 (show am_hd 38 90 = none from by decide) rfl rfl rfl (fun N' d' _ => lc155 (N := N') (d := d') h26 ) ?_ (fun _ q => nomatch q.1)
      rintro v31 S29 ⟨ev31, h30⟩
      cases ev31
      show am_L _ _ _ _ _ [some (.ref 0), some (.int (c152 s))] [.int (c155 ((c154 (nf s 0 5 (c35 s))).1))] _ _
      refine l33 hi_38_93 ⟨?_, ?_⟩
      · unfold c38_32; rw [if_neg cn4]; rw [if_pos cn28]
      · unfold c38_32; rw [if_neg cn4]; rw [if_pos cn28]; exact h30
    · refine l12f hi_38_73 (decide_eq_false cn28) ?_
      refine l2 (v := 0) hi_38_76 rfl ?_
      refine l20s (v := .ref 5) h26 cs_0 hi_38_77 rfl ?_
      refine l32 (as := [.ref 5]) (la := [some (.ref 5)]) (rest := []) hi_38_80 (show am_hd 38 80 = none from by decide) rfl rfl rfl (fun N' d' _ => lc40 (N := N') (d := d') h26 ) ?_ (fun _ q => nomatch q.1)
      rintro v34 S32 ⟨ev34, h33⟩
      cases ev34
      show am_L _ _ _ _ _ [some (.ref 0), some (.int (c152 s))] [] _ _
      refine l1 (v := c152 s) hi_38_83 rfl ?_
      refine l11 hi_38_84 ?_
      refine l33 hi_38_85 ⟨?_, ?_⟩
      · unfold c38_32; rw [if_neg cn4]; rw [if_neg cn28]
      · unfold c38_32; rw [if_neg cn4]; rw [if_neg cn28]; exact h33
noncomputable def c38f (s1 : cS) (w : Option Int32) : cS := match w with
  | none => (c40 s1).1
  | some _ => s1
theorem lc38 {sc : Nat × (Nat → Int32)} {N d : Nat} {A : Nat → Nat} {K : Nat} {S : am_S} {s : cS} (hS : CM A K S s) : am_L (am_PP sc) N d 38 0 [some (.ref 0), none] [] S (fun o S1 => ∃ m s1 w, c41 (cfix m) (c40 (c39 s).1).1 = some (s1, w) ∧ o = some (some (.int (c38_32 (c38f s1 w)).2)) ∧ CX A K S1 (c38_32 (c38f s1 w)).1) := by
  refine l2 (v := 0) hi_38_0 rfl ?_
  refine l20s (v := .ref 1) hS cs_0 hi_38_1 rfl ?_
  refine l32 (as := [.ref 1]) (la := [some (.ref 1)]) (rest := []) hi_38_4 (show am_hd 38 4 = none from by decide) rfl rfl rfl (fun N' d' _ => lc39 (N := N') (d := d') hS) ?_ (fun _ q => nomatch q.1)
  rintro v S1 ⟨ev, h1⟩
  cases ev
  refine l2 (v := 0) hi_38_7 rfl ?_
  refine l20s (v := .ref 5) h1 cs_0 hi_38_8 rfl ?_
  refine l32 (as := [.ref 5]) (la := [some (.ref 5)]) (rest := []) hi_38_11 (show am_hd 38 11 = none from by decide) rfl rfl rfl (fun N' d' _ => lc40 (N := N') (d := d') h1) ?_ (fun _ q => nomatch q.1)
  rintro v S2 ⟨ev, h2⟩
  cases ev
  refine l2 (v := 0) hi_38_14 rfl ?_
  refine l20s (v := .ref 7) h2 cs_0 hi_38_15 rfl ?_
  refine l32c (as := [.ref 7]) (la := [some (.ref 7), none]) (rest := []) hi_38_18 (show am_hd 38 18 = some (25, 1) from by decide) rfl rfl rfl (fun N' d' hN => lc41 (N := N') (d := d') ((rc_all N).less (by omega)) h2) ?_ ?_
  · rintro v S3 ⟨s1, w, q0, q1, A1, K1, q2, q3⟩
    obtain ⟨w1, rfl, rfl⟩ := cow_some q1
    refine l18 hi_38_21 ?_
    refine am_L.mono (lc38_32 q3) ?_
    rintro o S4 ⟨e1, h4⟩
    exact ⟨N, s1, some w1, q0, e1, A1, K1, q2, h4⟩
  · rintro S3 ⟨s1, w, q0, q1, A1, K1, q2, q3⟩
    obtain rfl := cow_none q1
    refine l2 (v := 0) hi_38_25 rfl ?_
    refine l20s (v := .ref 5) q3 cs_0 hi_38_26 rfl ?_
    refine l32 (as := [.ref 5]) (la := [some (.ref 5)]) (rest := []) hi_38_29 (show am_hd 38 29 = none from by decide) rfl rfl rfl (fun N' d' _ => lc40 (N := N') (d := d') q3) ?_ (fun _ q => nomatch q.1)
    rintro v S4 ⟨ev, h4⟩
    cases ev
    refine am_L.mono (lc38_32 h4) ?_
    rintro o S5 ⟨e1, h5⟩
    exact ⟨N, s1, none, q0, e1, A1, K1, q2, h5⟩
def c33 (s : cS) (x1 : Int32) (x2 : Int32) : cS × Int32 := if (c34 s x1) ≠ 0 then if (c35 s) < 16384 then ((c37 s x1 x2).1, (c37 s x1 x2).2) else (s, (-3)) else (s, (-1))
theorem lc33 {sc : Nat × (Nat → Int32)} {N d : Nat} {A : Nat → Nat} {K : Nat} {S : am_S} {s : cS} {x1 : Int32} {x2 : Int32} (hS : CM A K S s) : am_L (am_PP sc) N d 33 0 [some (.ref 0), some (.int x1), some (.int x2)] [] S (fun o S1 => o = some (some (.int (c33 s x1 x2).2)) ∧ CM A K S1 (c33 s x1 x2).1) := by
  refine l1 (v := x1) hi_33_0 rfl ?_
  refine l32 (as := [.int x1]) (la := [some (.int x1)]) (rest := []) hi_33_1 (am_hd0 (M := 33) (by decide) 1) rfl rfl rfl (fun N' d' _ => lc34 (N := N') (d := d') hS ) ?_ (fun _ q => nomatch q.1)
  rintro v3 S1 ⟨ev3, h2⟩
  cases ev3
  show am_L _ _ _ _ _ [some (.ref 0), some (.int x1), some (.int x2)] [.int (c34 s x1)] _ _
  by_cases cn4 : (c34 s x1) ≠ 0
  · refine l12t hi_33_4 (decide_eq_true cn4) ?_
    refine l2 (v := 0) hi_33_9 rfl ?_
    refine l20s (v := .ref 2) h2 cs_0 hi_33_10 rfl ?_
    refine l32 (as := [.ref 2]) (la := [some (.ref 2)]) (rest := []) hi_33_13 (am_hd0 (M := 33) (by decide) 13) rfl rfl rfl (fun N' d' _ => lc35 (N := N') (d := d') h2 ) ?_ (fun _ q => nomatch q.1)
    rintro v7 S5 ⟨ev7, h6⟩
    cases ev7
    show am_L _ _ _ _ _ [some (.ref 0), some (.int x1), some (.int x2)] [.int (c35 s)] _ _
    refine l0 hi_33_16 ?_
    by_cases cn8 : (c35 s) < 16384
    · refine l13t hi_33_19 (decide_eq_true cn8) ?_
      refine l2 (v := 0) hi_33_25 rfl ?_
      refine l20s (v := .ref 2) h6 cs_0 hi_33_26 rfl ?_
      refine l1 (v := x1) hi_33_29 rfl ?_
      refine l1 (v := x2) hi_33_30 rfl ?_
      refine l32 (as := [.ref 2, .int x1, .int x2]) (la := [some (.ref 2), some (.int x1), some (.int x2)]) (rest := []) hi_33_31 (am_hd0 (M := 33) (by decide) 31) rfl rfl rfl (fun N' d' _ => lc37 (N := N') (d := d') h6 ) ?_ (fun _ q => nomatch q.1)
      rintro v11 S9 ⟨ev11, h10⟩
      cases ev11
      show am_L _ _ _ _ _ [some (.ref 0), some (.int x1), some (.int x2)] [.int ((c37 s x1 x2).2)] _ _
      refine l33 hi_33_34 ⟨?_, ?_⟩
      · unfold c33; rw [if_pos cn4]; rw [if_pos cn8]
      · unfold c33; rw [if_pos cn4]; rw [if_pos cn8]; exact h10
    · refine l13f hi_33_19 (decide_eq_false cn8) ?_
      refine l0 hi_33_22 ?_
      refine l33 hi_33_24 ⟨?_, ?_⟩
      · unfold c33; rw [if_pos cn4]; rw [if_neg cn8]
      · unfold c33; rw [if_pos cn4]; rw [if_neg cn8]; exact h6
  · refine l12f hi_33_4 (decide_eq_false cn4) ?_
    refine l0 hi_33_7 ?_
    refine l33 hi_33_8 ⟨?_, ?_⟩
    · unfold c33; rw [if_neg cn4]
    · unfold c33; rw [if_neg cn4]; exact h2
