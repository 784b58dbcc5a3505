/-! JUMPS THAT WAIT: blocks are opened and closed -/
section JXL
theorem jK_len {o l g d : Nat} : ∀ {bs : List xB}, (kBl o l g d bs).length = jK (jb bs) := by
  intro bs
  induction bs with
  | nil => rfl
  | cons b r ih =>
    show (if b.2.2.2 = 2 then kBl o l g d r else kBl o l g d r ++ [_]).length = jK (jb r) + (if b.2.2.2 = 2 then 0 else 1)
    split
    · rw [ih]
      rfl
    · rw [List.length_append, ih]
      rfl
theorem jfK_len : ∀ {X : List xF}, (fkBl X).length = jfK (jx X) := by
  intro X
  induction X with
  | nil => rfl
  | cons f r ih =>
    show (fkBl r ++ kBl _ _ _ _ f.2.2.2.1).length = jfK (jx r) + jK (jb f.2.2.2.1)
    rw [List.length_append, ih, jK_len]
theorem jLab_b : ∀ {bs : List xB}, jLab (jb bs) = bLab bs := by
  intro bs
  induction bs with
  | nil => rfl
  | cons b r ih =>
    show jLab (jb r) ++ b.2.1 = bLab r ++ b.2.1
    rw [ih]
theorem jfLab_x : ∀ {X : List xF}, jfLab (jx X) = fLab X := by
  intro X
  induction X with
  | nil => rfl
  | cons f r ih =>
    show jfLab (jx r) ++ jLab (jb f.2.2.2.1) = fLab r ++ bLab f.2.2.2.1
    rw [ih, jLab_b]
theorem jUm_b : ∀ {bs : List xB}, jUm (jb bs) = bUm bs := by
  intro bs
  induction bs with
  | nil => rfl
  | cons b r ih =>
    show jUm (jb r) ++ b.2.2.1.filter (fun g => !(seen (jLab (jb (b :: r))) g.1)) = bUm r ++ b.2.2.1.filter (fun g => !(seen (bLab (b :: r)) g.1))
    rw [ih, jLab_b]
theorem jfUm_x : ∀ {X : List xF}, jfUm (jx X) = fUm X := by
  intro X
  induction X with
  | nil => rfl
  | cons f r ih =>
    show jfUm (jx r) ++ jUm (jb f.2.2.2.1) = fUm r ++ bUm f.2.2.2.1
    rw [ih, jUm_b]
variable {k k' : kS} {x : Nat}
theorem BGr.fb {j0 : Nat} : ∀ {bs : List jB} {Gs : List (List hE)}, (∀ i, i < j0 + jK bs → k'.2 43 i = k.2 43 i) → BGr k x j0 bs Gs → BGr k' x j0 bs Gs := by
  intro bs
  induction bs with
  | nil => intro Gs _ h; exact h
  | cons b r ih =>
    intro Gs e h
    have ej : jK (b :: r) = jK r + (if b.2.2 = 2 then 0 else 1) := rfl
    rcases h with ⟨h1, Gr, C, h2, h3, h4⟩ | ⟨h1, h2⟩
    · rw [if_neg (by omega)] at ej
      exact Or.inl ⟨h1, Gr, C, h2, ih (fun i hi => e i (by omega)) h3, by rw [e _ (by omega)]; exact h4.fr⟩
    · exact Or.inr ⟨h1, ih (fun i hi => e i (by omega)) h2⟩
theorem BFr.fb : ∀ {J : List jF} {Gs : List (List hE)}, (∀ i, i < jfK J → k'.2 43 i = k.2 43 i) → BFr k J Gs → BFr k' J Gs := by
  intro J
  induction J with
  | nil => intro Gs _ h; exact h
  | cons f r ih =>
    rintro Gs e ⟨Gr, Gf, h1, h2, h3⟩
    have ej : jfK (f :: r) = jfK r + jK f.2 := rfl
    exact ⟨Gr, Gf, h1, ih (fun i hi => e i (by omega)) h2, h3.fb (fun i hi => e i (by omega))⟩
end JXL
section OPB
variable {D : Df} {H : List hE} {s s' : cS} {k k' : kS} {f f' : xF} {r : List xF} {kd : Nat} {F T B G F' A' : Nat}
theorem jx_o (e1 : f'.1 = f.1) (e2 : jb f'.2.2.2.1 = ([], [], kd) :: jb f.2.2.2.1) : jx (f' :: r) = (f.1, ([], [], kd) :: jb f.2.2.2.1) :: jx r := by
  show (f'.1, jb f'.2.2.2.1) :: jx r = _
  rw [e1, e2]
theorem GX.opb {Hg : List hE} (h : GX k (jx (f :: r)) Hg) (e51 : k'.2 51 = k.2 51) : GX k' ((f.1, ([], [], kd) :: jb f.2.2.2.1) :: jx r) Hg := by
  obtain ⟨Hr, Hf, h1, h2, h3⟩ := h
  exact ⟨Hr, Hf, h1, h2.fr e51, Hf, [], (List.append_nil _).symm, h3.fr e51, rfl⟩
theorem lab_o {bs : List jB} : jLab (([], [], kd) :: bs) = jLab bs := List.append_nil _
theorem NR.opq {q q' : Nat} (h : NR q D H s k (f :: r)) (ej : jx (f' :: r) = (f.1, ([], [], kd) :: jb f.2.2.2.1) :: jx r) (hc : cFr F T B G s s') (hk : kFr F' A' k k') (c2 : T &&& 1342177280 = 0) (c4 : G &&& 21 = 0) (k1 : F' &&& 295156912378607566848 = 0) (k2 : A' &&& 18300325364793039912960 = 0) (e43 : ∀ i, i < jfK (jx (f :: r)) → k'.2 43 i = k.2 43 i) (e8 : k'.1 8 = 0 → k.1 8 = 0) (hp : ∀ p Gs, PN q p s k → BFr k (jx (f :: r)) Gs → ∃ p' Gs', PN q' p' s' k' ∧ BFr k' ((f.1, ([], [], kd) :: jb f.2.2.2.1) :: jx r) Gs' ∧ Gs' ++ p' = Gs ++ p) : NR q' D H s' k' (f' :: r) := by
  have hr := hc.2.2.2.2.2.2.1 (tb0 c4 (by decide))
  have e53 := hk.1 53 (tb0 k1 (by decide))
  have e68 := hk.1 68 (tb0 k1 (by decide))
  have e51 := hk.2 51 (tb0 k2 (by decide))
  have e46 := hk.2 46 (tb0 k2 (by decide))
  refine ⟨fun x => by rw [hr]; exact h.1 x, fun z => ?_⟩
  obtain ⟨h0, h1⟩ := h.2 (e8 z)
  refine ⟨by rw [e68]; exact h0, fun h6 hf => ?_⟩
  obtain ⟨p, Hd, hpn, ⟨Hg, Gs, ⟨d1, d2, d3⟩, d4, d5, d6⟩, h3⟩ := h1 (by rw [← e68]; exact h6) (hf.same hr e53)
  obtain ⟨p', Gs', w1, w2, w3⟩ := hp p Gs hpn d5
  refine ⟨p', Hd, w1, ⟨Hg, Gs', ⟨by rw [w3]; exact d1, ?_, ?_⟩, ?_, by rw [ej]; exact w2, by rw [w3]; exact d6.same (hc.2.1 28 (tb0 c2 (by decide))) (hc.2.1 30 (tb0 c2 (by decide)))⟩, h3.same hr (hc.2.2.2.2.2.1 (tb0 c4 (by decide))) (hc.2.2.2.1 (tb0 c4 (by decide))) e8 e53 e68 (hk.2 60 (tb0 k2 (by decide))) (fun j h1 h2 => ?_)⟩
  · rw [ej, e46]
    show ∀ i q, (jfLab (jx r) ++ jLab (([], [], kd) :: jb f.2.2.2.1))[i]? = some q → _
    rw [lab_o]
    exact d2
  · rw [ej]
    intro g hg
    rcases List.mem_cons.mp hg with e | e
    · rw [e]
      show ((jLab (([], [], kd) :: jb f.2.2.2.1)).map _).Nodup
      rw [lab_o]
      exact d3 (f.1, jb f.2.2.2.1) List.mem_cons_self
    · exact d3 g (List.mem_cons_of_mem _ e)
  · rw [ej]
    exact d4.opb e51
  · have : j = 69 ∨ j = 70 ∨ j = 71 ∨ j = 72 ∨ j = 73 := by omega
    rcases this with e | e | e | e | e <;> (subst e; exact hk.2 _ (tb0 k2 (by decide)))
/-- a block is opened that is no loop's -/
theorem NR.opb (h : NR 0 D H s k (f :: r)) (e1 : f'.1 = f.1) (e2 : jb f'.2.2.2.1 = ([], [], kd) :: jb f.2.2.2.1) (hkd : kd ≠ 1) (hc : cFr F T B G s s') (hk : kFr F' A' k k') (e43 : ∀ i, i < jfK (jx (f :: r)) → k'.2 43 i = k.2 43 i) (e8 : k'.1 8 = 0 → k.1 8 = 0) (c2 : T &&& 1342177280 = 0 := by rfl) (c4 : G &&& 21 = 0 := by rfl) (k1 : F' &&& 295156912378607566848 = 0 := by rfl) (k2 : A' &&& 18300325364793039912960 = 0 := by rfl) : NR 0 D H s' k' (f' :: r) := by
  refine h.opq (jx_o e1 e2) hc hk c2 c4 k1 k2 e43 e8 (fun p Gs hp hb => ⟨p, Gs, ?_, ?_, rfl⟩)
  · rcases hp with z | z | z
    · exact Or.inl z
    · exact absurd z.1 (by decide)
    · exact absurd z.1 (by decide)
  · obtain ⟨Gr, Gf, b1, b2, b3⟩ := hb.fb e43
    exact ⟨Gr, Gf, b1, b2, Or.inr ⟨hkd, b3⟩⟩
/-- a loop gets its block -/
theorem NR.opl (h : NR 1 D H s k (f :: r)) (e1 : f'.1 = f.1) (e2 : jb f'.2.2.2.1 = ([], [], 1) :: jb f.2.2.2.1) (hc : cFr F T B G s s') (hk : kFr F' A' k k') (e43 : ∀ i, i < jfK (jx (f :: r)) → k'.2 43 i = k.2 43 i) (e43n : k'.2 43 (jfK (jx (f :: r))) = 0) (e8 : k'.1 8 = 0 → k.1 8 = 0) (c2 : T &&& 1342177280 = 0 := by rfl) (c4 : G &&& 21 = 0 := by rfl) (k1 : F' &&& 295156912378607566848 = 0 := by rfl) (k2 : A' &&& 18300325364793039912960 = 0 := by rfl) : NR 0 D H s' k' (f' :: r) := by
  refine h.opq (jx_o e1 e2) hc hk c2 c4 k1 k2 e43 e8 (fun p Gs hp hb => ⟨[], Gs ++ [[]], Or.inl ⟨rfl, rfl⟩, ?_, ?_⟩)
  · obtain ⟨Gr, Gf, b1, b2, b3⟩ := hb.fb e43
    exact ⟨Gr, Gf ++ [[]], by rw [b1, List.append_assoc], b2, Or.inl ⟨rfl, Gf, [], rfl, b3, e43n⟩⟩
  · rcases hp with z | ⟨-, z⟩ | z
    · exact absurd z.1 (by decide)
    · rw [z, List.append_nil]
    · exact absurd z.1 (by decide)
end OPB
section CLN
variable {D : Df} {H : List hE} {s : cS} {k k' : kS} {f : xF} {r : List xF} {b b2 : xB} {bs : List xB} {e F' A' : Nat}
/-- closing a block: rows and gotos -/
theorem NR.c81x {q q' : Nat} {X' : List xF} (h : NR q D H s k (f :: r)) (hx : XC e s (f :: r)) (hz : SZ (f :: r)) (hb : f.2.2.2.1 = b :: bs) (hp : f.2.2.1 = []) (hn : b.1 ≤ f.2.1.length) (h1f : 1 ≤ f.1) (hk : kFr F' A' k k') (k1 : F' &&& 295156912378607566848 = 0) (k2 : A' &&& 18300325364793039912960 = 0) (e43 : k'.2 43 = k.2 43) (e8 : k'.1 8 = 0 → k.1 8 = 0) (hg : ∀ p Gs Hr Hbs HK, k'.1 8 = 0 → PN q p s k → BFr k (jx (f :: r)) Gs → GX k (jx r) Hr → GB k (f.1 - 1) (jfUm (jx r)).length (jb bs) Hbs → GL k (f.1 - 1) (jLab (jb bs)) ((jfUm (jx r)).length + (jUm (jb bs)).length) (b.2.2.1.filter (fun g => (flab b.2.1 g.1).isNone)) HK → (∀ i q, (jfLab (jx (f :: r)))[i]? = some q → k'.2 46 i = q.2.1) → (∀ g ∈ jx (f :: r), ((jLab g.2).map (fun l => l.1)).Nodup) → ∃ p' Gs', PN q' p' (c81 s).1 k' ∧ (Gs' ++ p' = Gs ++ p ∧ (∀ i q, (jfLab (jx X'))[i]? = some q → k'.2 46 i = q.2.1) ∧ ∀ g ∈ jx X', ((jLab g.2).map (fun l => l.1)).Nodup) ∧ GX k' (jx X') (Hr ++ (Hbs ++ HK)) ∧ BFr k' (jx X') Gs') : NR q' D H (c81 s).1 k' X' := by
  have fc := fr_c81 s
  have hr := fc.2.2.2.2.2.2.1 rfl
  have e53 := hk.1 53 (tb0 k1 (by decide))
  have e68 := hk.1 68 (tb0 k1 (by decide))
  refine ⟨fun x => by rw [hr]; exact h.1 x, fun z => ?_⟩
  obtain ⟨h0, h1⟩ := h.2 (e8 z)
  refine ⟨by rw [e68]; exact h0, fun h6 hf => ?_⟩
  obtain ⟨p, Hd, hpn, ⟨Hg, Gs, ⟨d1, d2, d3⟩, ⟨Hr, Hf, g1, g2, g3⟩, d5, d6⟩, h3⟩ := h1 (by rw [← e68]; exact h6) (hf.same hr e53)
  have g3 : GB k (f.1 - 1) (jfUm (jx r)).length (jb f.2.2.2.1) Hf := g3
  rw [hb] at g3
  obtain ⟨Hbs, Hb, t1, t2, t3⟩ := g3
  have hnd : ((jLab (b.2 :: jb bs)).map (fun l => l.1)).Nodup := by
    have := d3 (f.1, jb f.2.2.2.1) List.mem_cons_self
    rw [hb] at this
    exact this
  have enow : s.now = f.1 - 1 + 1 := by
    have := hx.nw f r rfl
    omega
  have hcb : CBP D (H ++ (Hr ++ Hbs)) (Gs ++ p).flatten k (f.1 - 1) ((jfUm (jx r)).length + (jUm (jb bs)).length) b.2 (jb bs) (c81 s).1 (b.2.2.1.filter (fun g => (flab b.2.1 g.1).isNone)) [] := by
    refine c81_ind (Ψ := CBP D (H ++ (Hr ++ Hbs)) (Gs ++ p).flatten k (f.1 - 1) ((jfUm (jx r)).length + (jUm (jb bs)).length) b.2 (jb bs)) hx hz hb hp hn ?_ ?_ ?_ ?_
    · intro s1 K G g l i j q1 q2 q3 q4 q5
      rw [enow]
      exact q1.led hnd q2 q3 q4 q5
    · intro s1 K G g i j q1 q2
      exact q1.kee q2
    · intro s1 s2 K fr q1
      exact q1.fr fr rfl
    · refine ⟨[], Hb, rfl, t3, ?_⟩
      have el : H ++ Hd = H ++ (Hr ++ Hbs) ++ ([] ++ (Hb ++ (Gs ++ p).flatten)) := by
        rw [d1, g1, t1, List.nil_append]
        simp only [List.append_assoc]
      rw [← el]
      exact h3
  obtain ⟨HK, HG, q1, q2, q3⟩ := hcb
  have q2 : HG = [] := q2
  subst q2
  obtain ⟨p', Gs', w1, ⟨w2, w3, w4⟩, w5, w6⟩ := hg p Gs Hr Hbs HK z hpn d5 g2 t2 q1 (fun i q hq => by rw [hk.2 46 (tb0 k2 (by decide))]; exact d2 i q hq) d3
  refine ⟨p', (Hr ++ (Hbs ++ HK)) ++ (Gs' ++ p').flatten, w1, ⟨Hr ++ (Hbs ++ HK), Gs', ⟨rfl, w3, w4⟩, w5, w6, ?_⟩, ?_⟩
  · rw [w2]
    exact d6.same (fc.2.1 28 rfl) (fc.2.1 30 rfl)
  · rw [w2]
    have el : H ++ (Hr ++ (Hbs ++ HK) ++ (Gs ++ p).flatten) = H ++ (Hr ++ Hbs) ++ (HK ++ ([] ++ (Gs ++ p).flatten)) := by
      rw [List.nil_append]
      simp only [List.append_assoc]
    rw [el]
    exact q3.same (fun _ => rfl) (fun _ => rfl) rfl e8 e53 e68 (hk.2 60 (tb0 k2 (by decide))) (fun j h1 h2 => by
      have : j = 69 ∨ j = 70 ∨ j = 71 ∨ j = 72 ∨ j = 73 := by omega
      rcases this with e | e | e | e | e <;> (subst e; exact hk.2 _ (tb0 k2 (by decide))))
theorem jx_c (hb : f.2.2.2.1 = b :: b2 :: bs) : jx (xc f :: r) = (f.1, (b2.2.1, b2.2.2.1 ++ xcb b, b2.2.2.2) :: jb bs) :: jx r := by
  unfold xc
  rw [hb]
  rfl
/-- a block in a block is closed -/
theorem NR.clb {q q' : Nat} (h : NR q D H s k (f :: r)) (hx : XC e s (f :: r)) (hz : SZ (f :: r)) (hb : f.2.2.2.1 = b :: b2 :: bs) (hp : f.2.2.1 = []) (hn : b.1 ≤ f.2.1.length) (h1f : 1 ≤ f.1) (hk : kFr F' A' k k') (e43 : k'.2 43 = k.2 43) (e8 : k'.1 8 = 0 → k.1 8 = 0) (hq : (b.2.2.2 ≠ 1 ∧ q = 0 ∧ q' = 0) ∨ (b.2.2.2 = 1 ∧ q = 0 ∧ q' = 2 ∧ k'.1 37 = xn (jfK (jx r) + jK (jb (b2 :: bs))) ∧ jfK (jx r) + jK (jb (b2 :: bs)) ≤ 1000000)) (k1 : F' &&& 295156912378607566848 = 0 := by rfl) (k2 : A' &&& 18300325364793039912960 = 0 := by rfl) : NR q' D H (c81 s).1 k' (xc f :: r) := by
  have e51 := hk.2 51 (tb0 k2 (by decide))
  refine h.c81x hx hz hb hp hn h1f hk k1 k2 e43 e8 (fun p Gs Hr Hbs HK z hpn d5 g2 t2 q1 l1 l2 => ?_)
  have p0 : p = [] := by
    have q0 : q = 0 := by rcases hq with ⟨-, z, -⟩ | ⟨-, z, -⟩ <;> exact z
    rcases hpn with ⟨-, z⟩ | ⟨z, -⟩ | ⟨z, -⟩
    · exact z
    · omega
    · omega
  subst p0
  obtain ⟨Gr, Gf, b1, b3, b4⟩ := d5
  have b4 : BGr k (f.1 - 1) (jfK (jx r)) (jb f.2.2.2.1) Gf := b4
  rw [hb] at b4
  obtain ⟨Hb', HB2, t3, t4, t5⟩ := t2
  have t5 : GL k (f.1 - 1) (jLab (b2.2 :: jb bs)) ((jfUm (jx r)).length + (jUm (jb bs)).length) b2.2.2.1 HB2 := t5
  have hgx : GX k' (jx (xc f :: r)) (Hr ++ (Hbs ++ HK)) := by
    rw [jx_c hb]
    refine ⟨Hr, Hbs ++ HK, rfl, g2.fr e51, Hb', HB2 ++ HK, by rw [t3, List.append_assoc], t4.fr e51, ?_⟩
    have key : GL k (f.1 - 1) (jLab (b2.2 :: jb bs)) ((jfUm (jx r)).length + (jUm (jb bs)).length) (b2.2.2.1 ++ xcb b) (HB2 ++ HK) := by
      refine t5.app ?_
      unfold xcb mvd
      refine GL.map ?_
      have el : (jfUm (jx r)).length + (jUm (jb bs)).length + (b2.2.2.1.filter (fun g => !(seen (jLab (b2.2 :: jb bs)) g.1))).length = (jfUm (jx r)).length + (jUm (jb (b2 :: bs))).length := by
        show _ = (jfUm (jx r)).length + (jUm (jb bs) ++ b2.2.2.1.filter (fun g => !(seen (jLab (b2.2 :: jb bs)) g.1))).length
        rw [List.length_append]
        omega
      rw [el]
      exact q1
    exact key.fr e51
  have hl3 : (∀ i q, (jfLab (jx (xc f :: r)))[i]? = some q → k'.2 46 i = q.2.1) := fun i q hi => by
    rw [jx_c hb] at hi
    have hi : (jfLab (jx r) ++ jLab (jb (b2 :: bs)))[i]? = some q := hi
    refine l1 i q ?_
    show (jfLab (jx r) ++ jLab (jb f.2.2.2.1))[i]? = some q
    rw [hb]
    show (jfLab (jx r) ++ (jLab (jb (b2 :: bs)) ++ b.2.1))[i]? = some q
    rw [← List.append_assoc, List.getElem?_append_left (List.getElem?_eq_some_iff.mp hi).1]
    exact hi
  have hl4 : ∀ g ∈ jx (xc f :: r), ((jLab g.2).map (fun l => l.1)).Nodup := fun g hg => by
    rw [jx_c hb] at hg
    rcases List.mem_cons.mp hg with e | e
    · rw [e]
      have z := l2 (f.1, jb f.2.2.2.1) List.mem_cons_self
      rw [hb] at z
      have z : ((jLab (jb (b2 :: bs)) ++ b.2.1).map (fun l => l.1)).Nodup := z
      rw [List.map_append] at z
      exact (List.nodup_append.mp z).1
    · exact l2 g (List.mem_cons_of_mem _ e)
  have bg' : ∀ Gs, BGr k (f.1 - 1) (jfK (jx r)) (jb (b2 :: bs)) Gs → BGr k' (f.1 - 1) (jfK (jx r)) ((b2.2.1, b2.2.2.1 ++ xcb b, b2.2.2.2) :: jb bs) Gs := fun Gs q => by
    have q := q.fr (k' := k') e43
    exact q
  rcases hq with ⟨c1, -, c3⟩ | ⟨c1, -, c3, c4, c5⟩
  · subst c3
    rcases b4 with ⟨z1, -⟩ | ⟨-, b4⟩
    · exact absurd z1 c1
    · refine ⟨[], Gs, Or.inl ⟨rfl, rfl⟩, ⟨rfl, hl3, hl4⟩, hgx, ?_⟩
      rw [jx_c hb]
      exact ⟨Gr, Gf, b1, b3.fr e43, bg' _ b4⟩
  · subst c3
    rcases b4 with ⟨-, G3, C, z2, z3, z4⟩ | ⟨z1, -⟩
    · refine ⟨[C], Gr ++ G3, Or.inr (Or.inr ⟨rfl, C, rfl, ?_⟩), ⟨by rw [b1, z2]; simp only [List.append_assoc, List.append_nil], hl3, hl4⟩, hgx, ?_⟩
      · have en : (c81 s).1.now - 1 = f.1 - 1 := by
          rw [(fr_c81 s).2.2.2.1 rfl, hx.nw f r rfl]
        have ek : kr k' 43 (k'.1 37) = k.2 43 (jfK (jx r) + jK (jb (b2 :: bs))) := by
          rw [c4]
          show k'.2 43 (xn _).toNatClampNeg = _
          rw [xn_nat (by omega), e43]
        rw [en, ek]
        exact z4.fr
      · rw [jx_c hb]
        exact ⟨Gr, G3, rfl, b3.fr e43, bg' _ z3⟩
    · exact absurd c1 z1
end CLN
