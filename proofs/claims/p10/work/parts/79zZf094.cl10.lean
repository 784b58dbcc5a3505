/-! THE CLASS: calls that only answer (printed by wip/p2/cl10.py) -/
theorem ck_change {sc : Nat × (Nat → Int32)} {d aw : Nat} {S : am_S} {b : Nat} {i : Int32} (h : SH aw S) (hc_b : cl (am_fs S) b = some 8) : am_E (am_PP sc) (d + 1) 165 0 [some (.ref b), some (.int i), none, none, none] [] S (am_N fun v S1 => ∃ r : Int32, v = some (.int r) ∧ S = S1) := by
  refine am_e2 (v := b) hi_165_0 rfl ?_
  refine cm_20t h hi_165_1 hc_b (by decide) rfl fun t1 ht1 ht1b => ?_
  refine am_e1 (v := i) hi_165_4 rfl ?_
  refine am_e0 hi_165_5 ?_
  refine am_e32n (as := [.ref t1, .int i, .int 0]) (la := [some (.ref t1), some (.int i), some (.int 0)]) (rest := []) hi_165_6 (am_hd0 (M := 165) (by decide) 6) (Nat.le_of_ble_eq_true rfl) (Nat.le_of_ble_eq_true rfl) (show 3 ≤ am_P0.2.2.1 54 from by decide +kernel) rfl (cl_recv ht1) rfl rfl (ck_get (d := d) h ht1  ) ?_
  rintro v2 S3 ⟨r4, rfl, rfl⟩
  show am_E _ _ _ _ [some (.ref b), some (.int i), none, none, none] [.int r4] _ _
  refine am_e3 (ls' := [some (.ref b), some (.int i), some (.int r4), none, none]) hi_165_9 (Nat.le_of_ble_eq_true rfl) rfl ?_
  refine am_e2 (v := b) hi_165_10 rfl ?_
  refine cm_20t h hi_165_11 hc_b (by decide) rfl fun t7 ht7 ht7b => ?_
  refine am_e1 (v := i) hi_165_14 rfl ?_
  refine am_e0 hi_165_15 ?_
  refine am_e32n (as := [.ref t7, .int i, .int 1]) (la := [some (.ref t7), some (.int i), some (.int 1)]) (rest := []) hi_165_16 (am_hd0 (M := 165) (by decide) 16) (Nat.le_of_ble_eq_true rfl) (Nat.le_of_ble_eq_true rfl) (show 3 ≤ am_P0.2.2.1 54 from by decide +kernel) rfl (cl_recv ht7) rfl rfl (ck_get (d := d) h ht7  ) ?_
  rintro v8 S9 ⟨r10, rfl, rfl⟩
  show am_E _ _ _ _ [some (.ref b), some (.int i), some (.int r4), none, none] [.int r10] _ _
  refine am_e3 (ls' := [some (.ref b), some (.int i), some (.int r4), some (.int r10), none]) hi_165_19 (Nat.le_of_ble_eq_true rfl) rfl ?_
  refine am_e2 (v := b) hi_165_20 rfl ?_
  refine cm_20t h hi_165_21 hc_b (by decide) rfl fun t13 ht13 ht13b => ?_
  refine am_e1 (v := i) hi_165_24 rfl ?_
  refine am_e0 hi_165_25 ?_
  refine am_e32n (as := [.ref t13, .int i, .int 2]) (la := [some (.ref t13), some (.int i), some (.int 2)]) (rest := []) hi_165_26 (am_hd0 (M := 165) (by decide) 26) (Nat.le_of_ble_eq_true rfl) (Nat.le_of_ble_eq_true rfl) (show 3 ≤ am_P0.2.2.1 54 from by decide +kernel) rfl (cl_recv ht13) rfl rfl (ck_get (d := d) h ht13  ) ?_
  rintro v14 S15 ⟨r16, rfl, rfl⟩
  show am_E _ _ _ _ [some (.ref b), some (.int i), some (.int r4), some (.int r10), none] [.int r16] _ _
  refine am_e3 (ls' := [some (.ref b), some (.int i), some (.int r4), some (.int r10), some (.int r16)]) hi_165_29 (Nat.le_of_ble_eq_true rfl) rfl ?_
  refine am_e1 (v := r4) hi_165_31 rfl ?_
  refine am_e0 hi_165_32 ?_
  by_cases c19 : r4.toInt < (1 : Int)
  · refine am_e13t hi_165_33 (am_cT (m := r4.toInt) (n := (1 : Int)) rfl (by decide) c19) ?_
    refine am_e1 (v := r4) hi_165_44 rfl ?_
    refine am_e19 (t := 261) hi_165_45 (am_swD (v := r4) (ks := [12, 13, 14, 17, 18, 20, 21, 25, 26, 27, 28, 33, 34, 36, 38, 39, 40, 41, 42, 43, 44, 45, 46]) (by decide) (by intro k hk; simp only [List.mem_cons, List.not_mem_nil, or_false] at hk; rcases hk with rfl | rfl | rfl | rfl | rfl | rfl | rfl | rfl | rfl | rfl | rfl | rfl | rfl | rfl | rfl | rfl | rfl | rfl | rfl | rfl | rfl | rfl | rfl <;> omega)) ?_
    refine am_e0 hi_165_261 ?_
    refine am_e33 hi_165_262 ?_
    exact ⟨(-1), rfl, rfl⟩
  · refine am_e13f hi_165_33 (am_cF (m := r4.toInt) (n := (1 : Int)) rfl (by decide) c19) ?_
    refine am_e1 (v := r4) hi_165_36 rfl ?_
    refine am_e0 hi_165_37 ?_
    by_cases c20 : (10 : Int) < r4.toInt
    · refine am_e13t hi_165_39 (am_cT (m := r4.toInt) (n := (10 : Int)) rfl (by decide) c20) ?_
      refine am_e1 (v := r4) hi_165_44 rfl ?_
      by_cases c21 : r4.toInt = 12
      · refine am_e19 (t := 202) hi_165_45 (am_swI (v := r4) (w := 12) (by decide) (by decide) c21) ?_
        refine am_e0 hi_165_202 ?_
        refine am_e33 hi_165_203 ?_
        exact ⟨0, rfl, rfl⟩
      · have c21_ : True := trivial
        by_cases c22 : r4.toInt = 13
        · refine am_e19 (t := 204) hi_165_45 (am_swI (v := r4) (w := 13) (by decide) (by decide) c22) ?_
          refine am_e1 (v := r16) hi_165_204 rfl ?_
          refine am_e0 hi_165_206 ?_
          obtain ⟨z23, hz23⟩ : ∃ q__, am_bin 3 r16 6 = q__ := ⟨_, rfl⟩
          refine am_e10 (z := z23) hi_165_208 hz23 ?_
          by_cases c24 : z23.toInt = (0 : Int)
          · refine am_e12t hi_165_209 (am_cT (m := z23.toInt) (n := (0 : Int)) rfl (by decide) c24) ?_
            refine am_e0 hi_165_216 ?_
            refine am_e1 (v := r10) hi_165_217 rfl ?_
            obtain ⟨z25, hz25⟩ : ∃ q__, am_bin 1 0 r10 = q__ := ⟨_, rfl⟩
            refine am_e10 (z := z25) hi_165_218 hz25 ?_
            refine am_e0 hi_165_219 ?_
            obtain ⟨z26, hz26⟩ : ∃ q__, am_bin 1 z25 1 = q__ := ⟨_, rfl⟩
            refine am_e10 (z := z26) hi_165_220 hz26 ?_
            refine am_e1 (v := r16) hi_165_221 rfl ?_
            refine am_e0 hi_165_223 ?_
            obtain ⟨z27, hz27⟩ : ∃ q__, am_bin 3 r16 1 = q__ := ⟨_, rfl⟩
            refine am_e10 (z := z27) hi_165_224 hz27 ?_
            obtain ⟨z28, hz28⟩ : ∃ q__, am_bin 1 z26 z27 = q__ := ⟨_, rfl⟩
            refine am_e10 (z := z28) hi_165_225 hz28 ?_
            refine am_e33 hi_165_226 ?_
            exact ⟨z28, rfl, rfl⟩
          · refine am_e12f hi_165_209 (am_cF (m := z23.toInt) (n := (0 : Int)) rfl (by decide) c24) ?_
            refine am_e0 hi_165_212 ?_
            refine am_e18 hi_165_213 ?_
            refine am_e1 (v := r10) hi_165_217 rfl ?_
            obtain ⟨z29, hz29⟩ : ∃ q__, am_bin 1 1 r10 = q__ := ⟨_, rfl⟩
            refine am_e10 (z := z29) hi_165_218 hz29 ?_
            refine am_e0 hi_165_219 ?_
            obtain ⟨z30, hz30⟩ : ∃ q__, am_bin 1 z29 1 = q__ := ⟨_, rfl⟩
            refine am_e10 (z := z30) hi_165_220 hz30 ?_
            refine am_e1 (v := r16) hi_165_221 rfl ?_
            refine am_e0 hi_165_223 ?_
            obtain ⟨z31, hz31⟩ : ∃ q__, am_bin 3 r16 1 = q__ := ⟨_, rfl⟩
            refine am_e10 (z := z31) hi_165_224 hz31 ?_
            obtain ⟨z32, hz32⟩ : ∃ q__, am_bin 1 z30 z31 = q__ := ⟨_, rfl⟩
            refine am_e10 (z := z32) hi_165_225 hz32 ?_
            refine am_e33 hi_165_226 ?_
            exact ⟨z32, rfl, rfl⟩
        · have c22_ : True := trivial
          by_cases c33 : r4.toInt = 14
          · refine am_e19 (t := 200) hi_165_45 (am_swI (v := r4) (w := 14) (by decide) (by decide) c33) ?_
            refine am_e0 hi_165_200 ?_
            refine am_e33 hi_165_201 ?_
            exact ⟨1, rfl, rfl⟩
          · have c33_ : True := trivial
            by_cases c34 : r4.toInt = 17
            · refine am_e19 (t := 202) hi_165_45 (am_swI (v := r4) (w := 17) (by decide) (by decide) c34) ?_
              refine am_e0 hi_165_202 ?_
              refine am_e33 hi_165_203 ?_
              exact ⟨0, rfl, rfl⟩
            · have c34_ : True := trivial
              by_cases c35 : r4.toInt = 18
              · refine am_e19 (t := 202) hi_165_45 (am_swI (v := r4) (w := 18) (by decide) (by decide) c35) ?_
                refine am_e0 hi_165_202 ?_
                refine am_e33 hi_165_203 ?_
                exact ⟨0, rfl, rfl⟩
              · have c35_ : True := trivial
                by_cases c36 : r4.toInt = 20
                · refine am_e19 (t := 200) hi_165_45 (am_swI (v := r4) (w := 20) (by decide) (by decide) c36) ?_
                  refine am_e0 hi_165_200 ?_
                  refine am_e33 hi_165_201 ?_
                  exact ⟨1, rfl, rfl⟩
                · have c36_ : True := trivial
                  by_cases c37 : r4.toInt = 21
                  · refine am_e19 (t := 238) hi_165_45 (am_swI (v := r4) (w := 21) (by decide) (by decide) c37) ?_
                    refine am_e0 hi_165_238 ?_
                    refine am_e33 hi_165_240 ?_
                    exact ⟨(-2), rfl, rfl⟩
                  · have c37_ : True := trivial
                    by_cases c38 : r4.toInt = 25
                    · refine am_e19 (t := 227) hi_165_45 (am_swI (v := r4) (w := 25) (by decide) (by decide) c38) ?_
                      refine am_e1 (v := r10) hi_165_227 rfl ?_
                      refine am_e0 hi_165_228 ?_
                      obtain ⟨z39, hz39⟩ : ∃ q__, am_bin 1 r10 1 = q__ := ⟨_, rfl⟩
                      refine am_e10 (z := z39) hi_165_229 hz39 ?_
                      refine am_e33 hi_165_230 ?_
                      exact ⟨z39, rfl, rfl⟩
                    · have c38_ : True := trivial
                      by_cases c40 : r4.toInt = 26
                      · refine am_e19 (t := 231) hi_165_45 (am_swI (v := r4) (w := 26) (by decide) (by decide) c40) ?_
                        refine am_e1 (v := r10) hi_165_231 rfl ?_
                        obtain ⟨z41, hz41⟩ : ∃ q__, -r10 = q__ := ⟨_, rfl⟩
                        refine am_e11 (z := z41) hi_165_232 hz41 ?_
                        refine am_e33 hi_165_233 ?_
                        exact ⟨z41, rfl, rfl⟩
                      · have c40_ : True := trivial
                        by_cases c42 : r4.toInt = 27
                        · refine am_e19 (t := 234) hi_165_45 (am_swI (v := r4) (w := 27) (by decide) (by decide) c42) ?_
                          refine am_e1 (v := r16) hi_165_234 rfl ?_
                          obtain ⟨z43, hz43⟩ : ∃ q__, -r16 = q__ := ⟨_, rfl⟩
                          refine am_e11 (z := z43) hi_165_236 hz43 ?_
                          refine am_e33 hi_165_237 ?_
                          exact ⟨z43, rfl, rfl⟩
                        · have c42_ : True := trivial
                          by_cases c44 : r4.toInt = 28
                          · refine am_e19 (t := 202) hi_165_45 (am_swI (v := r4) (w := 28) (by decide) (by decide) c44) ?_
                            refine am_e0 hi_165_202 ?_
                            refine am_e33 hi_165_203 ?_
                            exact ⟨0, rfl, rfl⟩
                          · have c44_ : True := trivial
                            by_cases c45 : r4.toInt = 33
                            · refine am_e19 (t := 202) hi_165_45 (am_swI (v := r4) (w := 33) (by decide) (by decide) c45) ?_
                              refine am_e0 hi_165_202 ?_
                              refine am_e33 hi_165_203 ?_
                              exact ⟨0, rfl, rfl⟩
                            · have c45_ : True := trivial
                              by_cases c46 : r4.toInt = 34
                              · refine am_e19 (t := 202) hi_165_45 (am_swI (v := r4) (w := 34) (by decide) (by decide) c46) ?_
                                refine am_e0 hi_165_202 ?_
                                refine am_e33 hi_165_203 ?_
                                exact ⟨0, rfl, rfl⟩
                              · have c46_ : True := trivial
                                by_cases c47 : r4.toInt = 36
                                · refine am_e19 (t := 202) hi_165_45 (am_swI (v := r4) (w := 36) (by decide) (by decide) c47) ?_
                                  refine am_e0 hi_165_202 ?_
                                  refine am_e33 hi_165_203 ?_
                                  exact ⟨0, rfl, rfl⟩
                                · have c47_ : True := trivial
                                  by_cases c48 : r4.toInt = 38
                                  · refine am_e19 (t := 241) hi_165_45 (am_swI (v := r4) (w := 38) (by decide) (by decide) c48) ?_
                                    refine am_e0 hi_165_241 ?_
                                    refine am_e33 hi_165_243 ?_
                                    exact ⟨(-3), rfl, rfl⟩
                                  · have c48_ : True := trivial
                                    by_cases c49 : r4.toInt = 39
                                    · refine am_e19 (t := 202) hi_165_45 (am_swI (v := r4) (w := 39) (by decide) (by decide) c49) ?_
                                      refine am_e0 hi_165_202 ?_
                                      refine am_e33 hi_165_203 ?_
                                      exact ⟨0, rfl, rfl⟩
                                    · have c49_ : True := trivial
                                      by_cases c50 : r4.toInt = 40
                                      · refine am_e19 (t := 202) hi_165_45 (am_swI (v := r4) (w := 40) (by decide) (by decide) c50) ?_
                                        refine am_e0 hi_165_202 ?_
                                        refine am_e33 hi_165_203 ?_
                                        exact ⟨0, rfl, rfl⟩
                                      · have c50_ : True := trivial
                                        by_cases c51 : r4.toInt = 41
                                        · refine am_e19 (t := 202) hi_165_45 (am_swI (v := r4) (w := 41) (by decide) (by decide) c51) ?_
                                          refine am_e0 hi_165_202 ?_
                                          refine am_e33 hi_165_203 ?_
                                          exact ⟨0, rfl, rfl⟩
                                        · have c51_ : True := trivial
                                          by_cases c52 : r4.toInt = 42
                                          · refine am_e19 (t := 244) hi_165_45 (am_swI (v := r4) (w := 42) (by decide) (by decide) c52) ?_
                                            refine am_e0 hi_165_244 ?_
                                            refine am_e33 hi_165_246 ?_
                                            exact ⟨(-4), rfl, rfl⟩
                                          · have c52_ : True := trivial
                                            by_cases c53 : r4.toInt = 43
                                            · refine am_e19 (t := 202) hi_165_45 (am_swI (v := r4) (w := 43) (by decide) (by decide) c53) ?_
                                              refine am_e0 hi_165_202 ?_
                                              refine am_e33 hi_165_203 ?_
                                              exact ⟨0, rfl, rfl⟩
                                            · have c53_ : True := trivial
                                              by_cases c54 : r4.toInt = 44
                                              · refine am_e19 (t := 202) hi_165_45 (am_swI (v := r4) (w := 44) (by decide) (by decide) c54) ?_
                                                refine am_e0 hi_165_202 ?_
                                                refine am_e33 hi_165_203 ?_
                                                exact ⟨0, rfl, rfl⟩
                                              · have c54_ : True := trivial
                                                by_cases c55 : r4.toInt = 45
                                                · refine am_e19 (t := 247) hi_165_45 (am_swI (v := r4) (w := 45) (by decide) (by decide) c55) ?_
                                                  refine am_e1 (v := r10) hi_165_247 rfl ?_
                                                  obtain ⟨z56, hz56⟩ : ∃ q__, -r10 = q__ := ⟨_, rfl⟩
                                                  refine am_e11 (z := z56) hi_165_248 hz56 ?_
                                                  refine am_e1 (v := r16) hi_165_249 rfl ?_
                                                  obtain ⟨z57, hz57⟩ : ∃ q__, am_bin 1 z56 r16 = q__ := ⟨_, rfl⟩
                                                  refine am_e10 (z := z57) hi_165_251 hz57 ?_
                                                  refine am_e33 hi_165_252 ?_
                                                  exact ⟨z57, rfl, rfl⟩
                                                · have c55_ : True := trivial
                                                  by_cases c58 : r4.toInt = 46
                                                  · refine am_e19 (t := 253) hi_165_45 (am_swI (v := r4) (w := 46) (by decide) (by decide) c58) ?_
                                                    refine am_e1 (v := r10) hi_165_253 rfl ?_
                                                    obtain ⟨z59, hz59⟩ : ∃ q__, -r10 = q__ := ⟨_, rfl⟩
                                                    refine am_e11 (z := z59) hi_165_254 hz59 ?_
                                                    refine am_e0 hi_165_255 ?_
                                                    obtain ⟨z60, hz60⟩ : ∃ q__, am_bin 1 z59 1 = q__ := ⟨_, rfl⟩
                                                    refine am_e10 (z := z60) hi_165_256 hz60 ?_
                                                    refine am_e1 (v := r16) hi_165_257 rfl ?_
                                                    obtain ⟨z61, hz61⟩ : ∃ q__, am_bin 1 z60 r16 = q__ := ⟨_, rfl⟩
                                                    refine am_e10 (z := z61) hi_165_259 hz61 ?_
                                                    refine am_e33 hi_165_260 ?_
                                                    exact ⟨z61, rfl, rfl⟩
                                                  · have c58_ : True := trivial
                                                    refine am_e19 (t := 261) hi_165_45 (am_swD (v := r4) (ks := [12, 13, 14, 17, 18, 20, 21, 25, 26, 27, 28, 33, 34, 36, 38, 39, 40, 41, 42, 43, 44, 45, 46]) (by decide) (by intro k hk; simp only [List.mem_cons, List.not_mem_nil, or_false] at hk; rcases hk with rfl | rfl | rfl | rfl | rfl | rfl | rfl | rfl | rfl | rfl | rfl | rfl | rfl | rfl | rfl | rfl | rfl | rfl | rfl | rfl | rfl | rfl | rfl <;> omega)) ?_
                                                    refine am_e0 hi_165_261 ?_
                                                    refine am_e33 hi_165_262 ?_
                                                    exact ⟨(-1), rfl, rfl⟩
    · refine am_e13f hi_165_39 (am_cF (m := r4.toInt) (n := (10 : Int)) rfl (by decide) c20) ?_
      refine am_e0 hi_165_42 ?_
      refine am_e33 hi_165_43 ?_
      exact ⟨1, rfl, rfl⟩
theorem ck_leads {sc : Nat × (Nat → Int32)} {d aw : Nat} {S : am_S} {b : Nat} {i : Int32} (h : SH aw S) (hc_b : cl (am_fs S) b = some 8) : am_E (am_PP sc) (d + 1) 169 0 [some (.ref b), some (.int i), none] [] S (am_N fun v S1 => ∃ r : Int32, v = some (.int r) ∧ (r = 0 ∨ r = 1) ∧ S = S1) := by
  refine am_e2 (v := b) hi_169_0 rfl ?_
  refine cm_20t h hi_169_1 hc_b (by decide) rfl fun t1 ht1 ht1b => ?_
  refine am_e1 (v := i) hi_169_4 rfl ?_
  refine am_e0 hi_169_5 ?_
  refine am_e32n (as := [.ref t1, .int i, .int 0]) (la := [some (.ref t1), some (.int i), some (.int 0)]) (rest := []) hi_169_6 (am_hd0 (M := 169) (by decide) 6) (Nat.le_of_ble_eq_true rfl) (Nat.le_of_ble_eq_true rfl) (show 3 ≤ am_P0.2.2.1 54 from by decide +kernel) rfl (cl_recv ht1) rfl rfl (ck_get (d := d) h ht1  ) ?_
  rintro v2 S3 ⟨r4, rfl, rfl⟩
  show am_E _ _ _ _ [some (.ref b), some (.int i), none] [.int r4] _ _
  by_cases c7 : r4.toInt = 15
  · refine am_e19 (t := 144) hi_169_9 (am_swI (v := r4) (w := 15) (by decide) (by decide) c7) ?_
    refine am_e2 (v := b) hi_169_144 rfl ?_
    refine cm_20t h hi_169_145 hc_b (by decide) rfl fun t8 ht8 ht8b => ?_
    refine am_e1 (v := i) hi_169_148 rfl ?_
    refine am_e0 hi_169_149 ?_
    refine am_e32n (as := [.ref t8, .int i, .int 1]) (la := [some (.ref t8), some (.int i), some (.int 1)]) (rest := []) hi_169_150 (am_hd0 (M := 169) (by decide) 150) (Nat.le_of_ble_eq_true rfl) (Nat.le_of_ble_eq_true rfl) (show 3 ≤ am_P0.2.2.1 54 from by decide +kernel) rfl (cl_recv ht8) rfl rfl (ck_get (d := d) h ht8  ) ?_
    rintro v9 S10 ⟨r11, rfl, rfl⟩
    show am_E _ _ _ _ [some (.ref b), some (.int i), none] [.int r11] _ _
    refine am_e3 (ls' := [some (.ref b), some (.int i), some (.int r11)]) hi_169_153 (Nat.le_of_ble_eq_true rfl) rfl ?_
    refine am_e18 hi_169_154 ?_
    refine am_e1 (v := r11) hi_169_172 rfl ?_
    by_cases c14 : r11.toInt < (0 : Int)
    · refine am_e12t hi_169_173 (am_cT (m := r11.toInt) (n := (0 : Int)) rfl (by decide) c14) ?_
      refine am_e0 hi_169_187 ?_
      refine am_e18 hi_169_188 ?_
      refine am_e36 hi_169_192 (by decide) ?_
      exact ⟨1, rfl, (by decide), rfl⟩
    · refine am_e12f hi_169_173 (am_cF (m := r11.toInt) (n := (0 : Int)) rfl (by decide) c14) ?_
      refine am_e1 (v := r11) hi_169_176 rfl ?_
      refine am_e2 (v := b) hi_169_177 rfl ?_
      refine cm_20t h hi_169_178 hc_b (by decide) rfl fun t15 ht15 ht15b => ?_
      refine am_e32n (as := [.ref t15]) (la := [some (.ref t15)]) (rest := [.int r11]) hi_169_181 (am_hd0 (M := 169) (by decide) 181) (Nat.le_of_ble_eq_true rfl) (Nat.le_of_ble_eq_true rfl) (show 1 ≤ am_P0.2.2.1 36 from by decide +kernel) rfl (cl_recv ht15) rfl rfl (ck_rows (d := d) h ht15  ) ?_
      rintro v16 S17 ⟨r18, rfl, rfl, h20, h21, h22⟩
      have h20_ : r18.toInt = iv S t15 1 := h20
      have h21_ : 0 ≤ r18.toInt := h21
      have h22_ : r18.toInt ≤ 2097154 := h22
      show am_E _ _ _ _ [some (.ref b), some (.int i), some (.int r11)] [.int r18, .int r11] _ _
      by_cases c24 : r11.toInt < r18.toInt
      · refine am_e13t hi_169_184 (am_cT (m := r11.toInt) (n := r18.toInt) rfl rfl c24) ?_
        refine am_e0 hi_169_191 ?_
        refine am_e36 hi_169_192 (by decide) ?_
        exact ⟨0, rfl, (by decide), rfl⟩
      · refine am_e13f hi_169_184 (am_cF (m := r11.toInt) (n := r18.toInt) rfl rfl c24) ?_
        refine am_e0 hi_169_187 ?_
        refine am_e18 hi_169_188 ?_
        refine am_e36 hi_169_192 (by decide) ?_
        exact ⟨1, rfl, (by decide), rfl⟩
  · have c7_ : True := trivial
    by_cases c25 : r4.toInt = 16
    · refine am_e19 (t := 144) hi_169_9 (am_swI (v := r4) (w := 16) (by decide) (by decide) c25) ?_
      refine am_e2 (v := b) hi_169_144 rfl ?_
      refine cm_20t h hi_169_145 hc_b (by decide) rfl fun t26 ht26 ht26b => ?_
      refine am_e1 (v := i) hi_169_148 rfl ?_
      refine am_e0 hi_169_149 ?_
      refine am_e32n (as := [.ref t26, .int i, .int 1]) (la := [some (.ref t26), some (.int i), some (.int 1)]) (rest := []) hi_169_150 (am_hd0 (M := 169) (by decide) 150) (Nat.le_of_ble_eq_true rfl) (Nat.le_of_ble_eq_true rfl) (show 3 ≤ am_P0.2.2.1 54 from by decide +kernel) rfl (cl_recv ht26) rfl rfl (ck_get (d := d) h ht26  ) ?_
      rintro v27 S28 ⟨r29, rfl, rfl⟩
      show am_E _ _ _ _ [some (.ref b), some (.int i), none] [.int r29] _ _
      refine am_e3 (ls' := [some (.ref b), some (.int i), some (.int r29)]) hi_169_153 (Nat.le_of_ble_eq_true rfl) rfl ?_
      refine am_e18 hi_169_154 ?_
      refine am_e1 (v := r29) hi_169_172 rfl ?_
      by_cases c32 : r29.toInt < (0 : Int)
      · refine am_e12t hi_169_173 (am_cT (m := r29.toInt) (n := (0 : Int)) rfl (by decide) c32) ?_
        refine am_e0 hi_169_187 ?_
        refine am_e18 hi_169_188 ?_
        refine am_e36 hi_169_192 (by decide) ?_
        exact ⟨1, rfl, (by decide), rfl⟩
      · refine am_e12f hi_169_173 (am_cF (m := r29.toInt) (n := (0 : Int)) rfl (by decide) c32) ?_
        refine am_e1 (v := r29) hi_169_176 rfl ?_
        refine am_e2 (v := b) hi_169_177 rfl ?_
        refine cm_20t h hi_169_178 hc_b (by decide) rfl fun t33 ht33 ht33b => ?_
        refine am_e32n (as := [.ref t33]) (la := [some (.ref t33)]) (rest := [.int r29]) hi_169_181 (am_hd0 (M := 169) (by decide) 181) (Nat.le_of_ble_eq_true rfl) (Nat.le_of_ble_eq_true rfl) (show 1 ≤ am_P0.2.2.1 36 from by decide +kernel) rfl (cl_recv ht33) rfl rfl (ck_rows (d := d) h ht33  ) ?_
        rintro v34 S35 ⟨r36, rfl, rfl, h38, h39, h40⟩
        have h38_ : r36.toInt = iv S t33 1 := h38
        have h39_ : 0 ≤ r36.toInt := h39
        have h40_ : r36.toInt ≤ 2097154 := h40
        show am_E _ _ _ _ [some (.ref b), some (.int i), some (.int r29)] [.int r36, .int r29] _ _
        by_cases c42 : r29.toInt < r36.toInt
        · refine am_e13t hi_169_184 (am_cT (m := r29.toInt) (n := r36.toInt) rfl rfl c42) ?_
          refine am_e0 hi_169_191 ?_
          refine am_e36 hi_169_192 (by decide) ?_
          exact ⟨0, rfl, (by decide), rfl⟩
        · refine am_e13f hi_169_184 (am_cF (m := r29.toInt) (n := r36.toInt) rfl rfl c42) ?_
          refine am_e0 hi_169_187 ?_
          refine am_e18 hi_169_188 ?_
          refine am_e36 hi_169_192 (by decide) ?_
          exact ⟨1, rfl, (by decide), rfl⟩
    · have c25_ : True := trivial
      by_cases c43 : r4.toInt = 35
      · refine am_e19 (t := 144) hi_169_9 (am_swI (v := r4) (w := 35) (by decide) (by decide) c43) ?_
        refine am_e2 (v := b) hi_169_144 rfl ?_
        refine cm_20t h hi_169_145 hc_b (by decide) rfl fun t44 ht44 ht44b => ?_
        refine am_e1 (v := i) hi_169_148 rfl ?_
        refine am_e0 hi_169_149 ?_
        refine am_e32n (as := [.ref t44, .int i, .int 1]) (la := [some (.ref t44), some (.int i), some (.int 1)]) (rest := []) hi_169_150 (am_hd0 (M := 169) (by decide) 150) (Nat.le_of_ble_eq_true rfl) (Nat.le_of_ble_eq_true rfl) (show 3 ≤ am_P0.2.2.1 54 from by decide +kernel) rfl (cl_recv ht44) rfl rfl (ck_get (d := d) h ht44  ) ?_
        rintro v45 S46 ⟨r47, rfl, rfl⟩
        show am_E _ _ _ _ [some (.ref b), some (.int i), none] [.int r47] _ _
        refine am_e3 (ls' := [some (.ref b), some (.int i), some (.int r47)]) hi_169_153 (Nat.le_of_ble_eq_true rfl) rfl ?_
        refine am_e18 hi_169_154 ?_
        refine am_e1 (v := r47) hi_169_172 rfl ?_
        by_cases c50 : r47.toInt < (0 : Int)
        · refine am_e12t hi_169_173 (am_cT (m := r47.toInt) (n := (0 : Int)) rfl (by decide) c50) ?_
          refine am_e0 hi_169_187 ?_
          refine am_e18 hi_169_188 ?_
          refine am_e36 hi_169_192 (by decide) ?_
          exact ⟨1, rfl, (by decide), rfl⟩
        · refine am_e12f hi_169_173 (am_cF (m := r47.toInt) (n := (0 : Int)) rfl (by decide) c50) ?_
          refine am_e1 (v := r47) hi_169_176 rfl ?_
          refine am_e2 (v := b) hi_169_177 rfl ?_
          refine cm_20t h hi_169_178 hc_b (by decide) rfl fun t51 ht51 ht51b => ?_
          refine am_e32n (as := [.ref t51]) (la := [some (.ref t51)]) (rest := [.int r47]) hi_169_181 (am_hd0 (M := 169) (by decide) 181) (Nat.le_of_ble_eq_true rfl) (Nat.le_of_ble_eq_true rfl) (show 1 ≤ am_P0.2.2.1 36 from by decide +kernel) rfl (cl_recv ht51) rfl rfl (ck_rows (d := d) h ht51  ) ?_
          rintro v52 S53 ⟨r54, rfl, rfl, h56, h57, h58⟩
          have h56_ : r54.toInt = iv S t51 1 := h56
          have h57_ : 0 ≤ r54.toInt := h57
          have h58_ : r54.toInt ≤ 2097154 := h58
          show am_E _ _ _ _ [some (.ref b), some (.int i), some (.int r47)] [.int r54, .int r47] _ _
          by_cases c60 : r47.toInt < r54.toInt
          · refine am_e13t hi_169_184 (am_cT (m := r47.toInt) (n := r54.toInt) rfl rfl c60) ?_
            refine am_e0 hi_169_191 ?_
            refine am_e36 hi_169_192 (by decide) ?_
            exact ⟨0, rfl, (by decide), rfl⟩
          · refine am_e13f hi_169_184 (am_cF (m := r47.toInt) (n := r54.toInt) rfl rfl c60) ?_
            refine am_e0 hi_169_187 ?_
            refine am_e18 hi_169_188 ?_
            refine am_e36 hi_169_192 (by decide) ?_
            exact ⟨1, rfl, (by decide), rfl⟩
      · have c43_ : True := trivial
        by_cases c61 : r4.toInt = 36
        · refine am_e19 (t := 144) hi_169_9 (am_swI (v := r4) (w := 36) (by decide) (by decide) c61) ?_
          refine am_e2 (v := b) hi_169_144 rfl ?_
          refine cm_20t h hi_169_145 hc_b (by decide) rfl fun t62 ht62 ht62b => ?_
          refine am_e1 (v := i) hi_169_148 rfl ?_
          refine am_e0 hi_169_149 ?_
          refine am_e32n (as := [.ref t62, .int i, .int 1]) (la := [some (.ref t62), some (.int i), some (.int 1)]) (rest := []) hi_169_150 (am_hd0 (M := 169) (by decide) 150) (Nat.le_of_ble_eq_true rfl) (Nat.le_of_ble_eq_true rfl) (show 3 ≤ am_P0.2.2.1 54 from by decide +kernel) rfl (cl_recv ht62) rfl rfl (ck_get (d := d) h ht62  ) ?_
          rintro v63 S64 ⟨r65, rfl, rfl⟩
          show am_E _ _ _ _ [some (.ref b), some (.int i), none] [.int r65] _ _
          refine am_e3 (ls' := [some (.ref b), some (.int i), some (.int r65)]) hi_169_153 (Nat.le_of_ble_eq_true rfl) rfl ?_
          refine am_e18 hi_169_154 ?_
          refine am_e1 (v := r65) hi_169_172 rfl ?_
          by_cases c68 : r65.toInt < (0 : Int)
          · refine am_e12t hi_169_173 (am_cT (m := r65.toInt) (n := (0 : Int)) rfl (by decide) c68) ?_
            refine am_e0 hi_169_187 ?_
            refine am_e18 hi_169_188 ?_
            refine am_e36 hi_169_192 (by decide) ?_
            exact ⟨1, rfl, (by decide), rfl⟩
          · refine am_e12f hi_169_173 (am_cF (m := r65.toInt) (n := (0 : Int)) rfl (by decide) c68) ?_
            refine am_e1 (v := r65) hi_169_176 rfl ?_
            refine am_e2 (v := b) hi_169_177 rfl ?_
            refine cm_20t h hi_169_178 hc_b (by decide) rfl fun t69 ht69 ht69b => ?_
            refine am_e32n (as := [.ref t69]) (la := [some (.ref t69)]) (rest := [.int r65]) hi_169_181 (am_hd0 (M := 169) (by decide) 181) (Nat.le_of_ble_eq_true rfl) (Nat.le_of_ble_eq_true rfl) (show 1 ≤ am_P0.2.2.1 36 from by decide +kernel) rfl (cl_recv ht69) rfl rfl (ck_rows (d := d) h ht69  ) ?_
            rintro v70 S71 ⟨r72, rfl, rfl, h74, h75, h76⟩
            have h74_ : r72.toInt = iv S t69 1 := h74
            have h75_ : 0 ≤ r72.toInt := h75
            have h76_ : r72.toInt ≤ 2097154 := h76
            show am_E _ _ _ _ [some (.ref b), some (.int i), some (.int r65)] [.int r72, .int r65] _ _
            by_cases c78 : r65.toInt < r72.toInt
            · refine am_e13t hi_169_184 (am_cT (m := r65.toInt) (n := r72.toInt) rfl rfl c78) ?_
              refine am_e0 hi_169_191 ?_
              refine am_e36 hi_169_192 (by decide) ?_
              exact ⟨0, rfl, (by decide), rfl⟩
            · refine am_e13f hi_169_184 (am_cF (m := r65.toInt) (n := r72.toInt) rfl rfl c78) ?_
              refine am_e0 hi_169_187 ?_
              refine am_e18 hi_169_188 ?_
              refine am_e36 hi_169_192 (by decide) ?_
              exact ⟨1, rfl, (by decide), rfl⟩
        · have c61_ : True := trivial
          by_cases c79 : r4.toInt = 37
          · refine am_e19 (t := 144) hi_169_9 (am_swI (v := r4) (w := 37) (by decide) (by decide) c79) ?_
            refine am_e2 (v := b) hi_169_144 rfl ?_
            refine cm_20t h hi_169_145 hc_b (by decide) rfl fun t80 ht80 ht80b => ?_
            refine am_e1 (v := i) hi_169_148 rfl ?_
            refine am_e0 hi_169_149 ?_
            refine am_e32n (as := [.ref t80, .int i, .int 1]) (la := [some (.ref t80), some (.int i), some (.int 1)]) (rest := []) hi_169_150 (am_hd0 (M := 169) (by decide) 150) (Nat.le_of_ble_eq_true rfl) (Nat.le_of_ble_eq_true rfl) (show 3 ≤ am_P0.2.2.1 54 from by decide +kernel) rfl (cl_recv ht80) rfl rfl (ck_get (d := d) h ht80  ) ?_
            rintro v81 S82 ⟨r83, rfl, rfl⟩
            show am_E _ _ _ _ [some (.ref b), some (.int i), none] [.int r83] _ _
            refine am_e3 (ls' := [some (.ref b), some (.int i), some (.int r83)]) hi_169_153 (Nat.le_of_ble_eq_true rfl) rfl ?_
            refine am_e18 hi_169_154 ?_
            refine am_e1 (v := r83) hi_169_172 rfl ?_
            by_cases c86 : r83.toInt < (0 : Int)
            · refine am_e12t hi_169_173 (am_cT (m := r83.toInt) (n := (0 : Int)) rfl (by decide) c86) ?_
              refine am_e0 hi_169_187 ?_
              refine am_e18 hi_169_188 ?_
              refine am_e36 hi_169_192 (by decide) ?_
              exact ⟨1, rfl, (by decide), rfl⟩
            · refine am_e12f hi_169_173 (am_cF (m := r83.toInt) (n := (0 : Int)) rfl (by decide) c86) ?_
              refine am_e1 (v := r83) hi_169_176 rfl ?_
              refine am_e2 (v := b) hi_169_177 rfl ?_
              refine cm_20t h hi_169_178 hc_b (by decide) rfl fun t87 ht87 ht87b => ?_
              refine am_e32n (as := [.ref t87]) (la := [some (.ref t87)]) (rest := [.int r83]) hi_169_181 (am_hd0 (M := 169) (by decide) 181) (Nat.le_of_ble_eq_true rfl) (Nat.le_of_ble_eq_true rfl) (show 1 ≤ am_P0.2.2.1 36 from by decide +kernel) rfl (cl_recv ht87) rfl rfl (ck_rows (d := d) h ht87  ) ?_
              rintro v88 S89 ⟨r90, rfl, rfl, h92, h93, h94⟩
              have h92_ : r90.toInt = iv S t87 1 := h92
              have h93_ : 0 ≤ r90.toInt := h93
              have h94_ : r90.toInt ≤ 2097154 := h94
              show am_E _ _ _ _ [some (.ref b), some (.int i), some (.int r83)] [.int r90, .int r83] _ _
              by_cases c96 : r83.toInt < r90.toInt
              · refine am_e13t hi_169_184 (am_cT (m := r83.toInt) (n := r90.toInt) rfl rfl c96) ?_
                refine am_e0 hi_169_191 ?_
                refine am_e36 hi_169_192 (by decide) ?_
                exact ⟨0, rfl, (by decide), rfl⟩
              · refine am_e13f hi_169_184 (am_cF (m := r83.toInt) (n := r90.toInt) rfl rfl c96) ?_
                refine am_e0 hi_169_187 ?_
                refine am_e18 hi_169_188 ?_
                refine am_e36 hi_169_192 (by decide) ?_
                exact ⟨1, rfl, (by decide), rfl⟩
          · have c79_ : True := trivial
            by_cases c97 : r4.toInt = 38
            · refine am_e19 (t := 157) hi_169_9 (am_swI (v := r4) (w := 38) (by decide) (by decide) c97) ?_
              refine am_e2 (v := b) hi_169_157 rfl ?_
              refine cm_20t h hi_169_158 hc_b (by decide) rfl fun t98 ht98 ht98b => ?_
              refine am_e1 (v := i) hi_169_161 rfl ?_
              refine am_e0 hi_169_162 ?_
              refine am_e32n (as := [.ref t98, .int i, .int 2]) (la := [some (.ref t98), some (.int i), some (.int 2)]) (rest := []) hi_169_163 (am_hd0 (M := 169) (by decide) 163) (Nat.le_of_ble_eq_true rfl) (Nat.le_of_ble_eq_true rfl) (show 3 ≤ am_P0.2.2.1 54 from by decide +kernel) rfl (cl_recv ht98) rfl rfl (ck_get (d := d) h ht98  ) ?_
              rintro v99 S100 ⟨r101, rfl, rfl⟩
              show am_E _ _ _ _ [some (.ref b), some (.int i), none] [.int r101] _ _
              refine am_e3 (ls' := [some (.ref b), some (.int i), some (.int r101)]) hi_169_166 (Nat.le_of_ble_eq_true rfl) rfl ?_
              refine am_e18 hi_169_167 ?_
              refine am_e1 (v := r101) hi_169_172 rfl ?_
              by_cases c104 : r101.toInt < (0 : Int)
              · refine am_e12t hi_169_173 (am_cT (m := r101.toInt) (n := (0 : Int)) rfl (by decide) c104) ?_
                refine am_e0 hi_169_187 ?_
                refine am_e18 hi_169_188 ?_
                refine am_e36 hi_169_192 (by decide) ?_
                exact ⟨1, rfl, (by decide), rfl⟩
              · refine am_e12f hi_169_173 (am_cF (m := r101.toInt) (n := (0 : Int)) rfl (by decide) c104) ?_
                refine am_e1 (v := r101) hi_169_176 rfl ?_
                refine am_e2 (v := b) hi_169_177 rfl ?_
                refine cm_20t h hi_169_178 hc_b (by decide) rfl fun t105 ht105 ht105b => ?_
                refine am_e32n (as := [.ref t105]) (la := [some (.ref t105)]) (rest := [.int r101]) hi_169_181 (am_hd0 (M := 169) (by decide) 181) (Nat.le_of_ble_eq_true rfl) (Nat.le_of_ble_eq_true rfl) (show 1 ≤ am_P0.2.2.1 36 from by decide +kernel) rfl (cl_recv ht105) rfl rfl (ck_rows (d := d) h ht105  ) ?_
                rintro v106 S107 ⟨r108, rfl, rfl, h110, h111, h112⟩
                have h110_ : r108.toInt = iv S t105 1 := h110
                have h111_ : 0 ≤ r108.toInt := h111
                have h112_ : r108.toInt ≤ 2097154 := h112
                show am_E _ _ _ _ [some (.ref b), some (.int i), some (.int r101)] [.int r108, .int r101] _ _
                by_cases c114 : r101.toInt < r108.toInt
                · refine am_e13t hi_169_184 (am_cT (m := r101.toInt) (n := r108.toInt) rfl rfl c114) ?_
                  refine am_e0 hi_169_191 ?_
                  refine am_e36 hi_169_192 (by decide) ?_
                  exact ⟨0, rfl, (by decide), rfl⟩
                · refine am_e13f hi_169_184 (am_cF (m := r101.toInt) (n := r108.toInt) rfl rfl c114) ?_
                  refine am_e0 hi_169_187 ?_
                  refine am_e18 hi_169_188 ?_
                  refine am_e36 hi_169_192 (by decide) ?_
                  exact ⟨1, rfl, (by decide), rfl⟩
            · have c97_ : True := trivial
              by_cases c115 : r4.toInt = 40
              · refine am_e19 (t := 157) hi_169_9 (am_swI (v := r4) (w := 40) (by decide) (by decide) c115) ?_
                refine am_e2 (v := b) hi_169_157 rfl ?_
                refine cm_20t h hi_169_158 hc_b (by decide) rfl fun t116 ht116 ht116b => ?_
                refine am_e1 (v := i) hi_169_161 rfl ?_
                refine am_e0 hi_169_162 ?_
                refine am_e32n (as := [.ref t116, .int i, .int 2]) (la := [some (.ref t116), some (.int i), some (.int 2)]) (rest := []) hi_169_163 (am_hd0 (M := 169) (by decide) 163) (Nat.le_of_ble_eq_true rfl) (Nat.le_of_ble_eq_true rfl) (show 3 ≤ am_P0.2.2.1 54 from by decide +kernel) rfl (cl_recv ht116) rfl rfl (ck_get (d := d) h ht116  ) ?_
                rintro v117 S118 ⟨r119, rfl, rfl⟩
                show am_E _ _ _ _ [some (.ref b), some (.int i), none] [.int r119] _ _
                refine am_e3 (ls' := [some (.ref b), some (.int i), some (.int r119)]) hi_169_166 (Nat.le_of_ble_eq_true rfl) rfl ?_
                refine am_e18 hi_169_167 ?_
                refine am_e1 (v := r119) hi_169_172 rfl ?_
                by_cases c122 : r119.toInt < (0 : Int)
                · refine am_e12t hi_169_173 (am_cT (m := r119.toInt) (n := (0 : Int)) rfl (by decide) c122) ?_
                  refine am_e0 hi_169_187 ?_
                  refine am_e18 hi_169_188 ?_
                  refine am_e36 hi_169_192 (by decide) ?_
                  exact ⟨1, rfl, (by decide), rfl⟩
                · refine am_e12f hi_169_173 (am_cF (m := r119.toInt) (n := (0 : Int)) rfl (by decide) c122) ?_
                  refine am_e1 (v := r119) hi_169_176 rfl ?_
                  refine am_e2 (v := b) hi_169_177 rfl ?_
                  refine cm_20t h hi_169_178 hc_b (by decide) rfl fun t123 ht123 ht123b => ?_
                  refine am_e32n (as := [.ref t123]) (la := [some (.ref t123)]) (rest := [.int r119]) hi_169_181 (am_hd0 (M := 169) (by decide) 181) (Nat.le_of_ble_eq_true rfl) (Nat.le_of_ble_eq_true rfl) (show 1 ≤ am_P0.2.2.1 36 from by decide +kernel) rfl (cl_recv ht123) rfl rfl (ck_rows (d := d) h ht123  ) ?_
                  rintro v124 S125 ⟨r126, rfl, rfl, h128, h129, h130⟩
                  have h128_ : r126.toInt = iv S t123 1 := h128
                  have h129_ : 0 ≤ r126.toInt := h129
                  have h130_ : r126.toInt ≤ 2097154 := h130
                  show am_E _ _ _ _ [some (.ref b), some (.int i), some (.int r119)] [.int r126, .int r119] _ _
                  by_cases c132 : r119.toInt < r126.toInt
                  · refine am_e13t hi_169_184 (am_cT (m := r119.toInt) (n := r126.toInt) rfl rfl c132) ?_
                    refine am_e0 hi_169_191 ?_
                    refine am_e36 hi_169_192 (by decide) ?_
                    exact ⟨0, rfl, (by decide), rfl⟩
                  · refine am_e13f hi_169_184 (am_cF (m := r119.toInt) (n := r126.toInt) rfl rfl c132) ?_
                    refine am_e0 hi_169_187 ?_
                    refine am_e18 hi_169_188 ?_
                    refine am_e36 hi_169_192 (by decide) ?_
                    exact ⟨1, rfl, (by decide), rfl⟩
              · have c115_ : True := trivial
                by_cases c133 : r4.toInt = 44
                · refine am_e19 (t := 157) hi_169_9 (am_swI (v := r4) (w := 44) (by decide) (by decide) c133) ?_
                  refine am_e2 (v := b) hi_169_157 rfl ?_
                  refine cm_20t h hi_169_158 hc_b (by decide) rfl fun t134 ht134 ht134b => ?_
                  refine am_e1 (v := i) hi_169_161 rfl ?_
                  refine am_e0 hi_169_162 ?_
                  refine am_e32n (as := [.ref t134, .int i, .int 2]) (la := [some (.ref t134), some (.int i), some (.int 2)]) (rest := []) hi_169_163 (am_hd0 (M := 169) (by decide) 163) (Nat.le_of_ble_eq_true rfl) (Nat.le_of_ble_eq_true rfl) (show 3 ≤ am_P0.2.2.1 54 from by decide +kernel) rfl (cl_recv ht134) rfl rfl (ck_get (d := d) h ht134  ) ?_
                  rintro v135 S136 ⟨r137, rfl, rfl⟩
                  show am_E _ _ _ _ [some (.ref b), some (.int i), none] [.int r137] _ _
                  refine am_e3 (ls' := [some (.ref b), some (.int i), some (.int r137)]) hi_169_166 (Nat.le_of_ble_eq_true rfl) rfl ?_
                  refine am_e18 hi_169_167 ?_
                  refine am_e1 (v := r137) hi_169_172 rfl ?_
                  by_cases c140 : r137.toInt < (0 : Int)
                  · refine am_e12t hi_169_173 (am_cT (m := r137.toInt) (n := (0 : Int)) rfl (by decide) c140) ?_
                    refine am_e0 hi_169_187 ?_
                    refine am_e18 hi_169_188 ?_
                    refine am_e36 hi_169_192 (by decide) ?_
                    exact ⟨1, rfl, (by decide), rfl⟩
                  · refine am_e12f hi_169_173 (am_cF (m := r137.toInt) (n := (0 : Int)) rfl (by decide) c140) ?_
                    refine am_e1 (v := r137) hi_169_176 rfl ?_
                    refine am_e2 (v := b) hi_169_177 rfl ?_
                    refine cm_20t h hi_169_178 hc_b (by decide) rfl fun t141 ht141 ht141b => ?_
                    refine am_e32n (as := [.ref t141]) (la := [some (.ref t141)]) (rest := [.int r137]) hi_169_181 (am_hd0 (M := 169) (by decide) 181) (Nat.le_of_ble_eq_true rfl) (Nat.le_of_ble_eq_true rfl) (show 1 ≤ am_P0.2.2.1 36 from by decide +kernel) rfl (cl_recv ht141) rfl rfl (ck_rows (d := d) h ht141  ) ?_
                    rintro v142 S143 ⟨r144, rfl, rfl, h146, h147, h148⟩
                    have h146_ : r144.toInt = iv S t141 1 := h146
                    have h147_ : 0 ≤ r144.toInt := h147
                    have h148_ : r144.toInt ≤ 2097154 := h148
                    show am_E _ _ _ _ [some (.ref b), some (.int i), some (.int r137)] [.int r144, .int r137] _ _
                    by_cases c150 : r137.toInt < r144.toInt
                    · refine am_e13t hi_169_184 (am_cT (m := r137.toInt) (n := r144.toInt) rfl rfl c150) ?_
                      refine am_e0 hi_169_191 ?_
                      refine am_e36 hi_169_192 (by decide) ?_
                      exact ⟨0, rfl, (by decide), rfl⟩
                    · refine am_e13f hi_169_184 (am_cF (m := r137.toInt) (n := r144.toInt) rfl rfl c150) ?_
                      refine am_e0 hi_169_187 ?_
                      refine am_e18 hi_169_188 ?_
                      refine am_e36 hi_169_192 (by decide) ?_
                      exact ⟨1, rfl, (by decide), rfl⟩
                · have c133_ : True := trivial
                  refine am_e19 (t := 170) hi_169_9 (am_swD (v := r4) (ks := [15, 16, 35, 36, 37, 38, 40, 44]) (by decide) (by intro k hk; simp only [List.mem_cons, List.not_mem_nil, or_false] at hk; rcases hk with rfl | rfl | rfl | rfl | rfl | rfl | rfl | rfl <;> omega)) ?_
                  refine am_e0 hi_169_170 ?_
                  refine am_e36 hi_169_171 (by decide) ?_
                  exact ⟨0, rfl, (by decide), rfl⟩
theorem ck_noSlot {sc : Nat × (Nat → Int32)} {d aw : Nat} {S : am_S} {b : Nat} {x : Int32} {y : Int32} (h : SH aw S) (hc_b : cl (am_fs S) b = some 8) : am_E (am_PP sc) (d + 0) 171 0 [some (.ref b), some (.int x), some (.int y)] [] S (am_N fun v S1 => ∃ r : Int32, v = some (.int r) ∧ (r = 0 ∨ r = 1) ∧ S = S1) := by
  refine am_e1 (v := x) hi_171_0 rfl ?_
  by_cases c1 : x.toInt < (0 : Int)
  · refine am_e12t hi_171_1 (am_cT (m := x.toInt) (n := (0 : Int)) rfl (by decide) c1) ?_
    refine am_e0 hi_171_12 ?_
    refine am_e18 hi_171_13 ?_
    refine am_e36 hi_171_17 (by decide) ?_
    exact ⟨1, rfl, (by decide), rfl⟩
  · refine am_e12f hi_171_1 (am_cF (m := x.toInt) (n := (0 : Int)) rfl (by decide) c1) ?_
    refine am_e1 (v := y) hi_171_4 rfl ?_
    refine am_e2 (v := b) hi_171_5 rfl ?_
    refine cm_20i h hi_171_6 hc_b (by decide) rfl fun v2 hv2 => ?_
    have hv2_ : v2.toInt = iv S b 7 := hv2
    by_cases c3 : y.toInt < v2.toInt
    · refine am_e13t hi_171_9 (am_cT (m := y.toInt) (n := v2.toInt) rfl rfl c3) ?_
      refine am_e0 hi_171_16 ?_
      refine am_e36 hi_171_17 (by decide) ?_
      exact ⟨0, rfl, (by decide), rfl⟩
    · refine am_e13f hi_171_9 (am_cF (m := y.toInt) (n := v2.toInt) rfl rfl c3) ?_
      refine am_e0 hi_171_12 ?_
      refine am_e18 hi_171_13 ?_
      refine am_e36 hi_171_17 (by decide) ?_
      exact ⟨1, rfl, (by decide), rfl⟩
theorem ck_notIn {sc : Nat × (Nat → Int32)} {d aw : Nat} {S : am_S} {b : Nat} {x : Int32} (h : SH aw S) (hc_b : cl (am_fs S) b = some 8) : am_E (am_PP sc) (d + 4) 172 0 [some (.ref 32), some (.ref b), some (.int x), none] [] S (am_N fun v S1 => ∃ r : Int32, v = some (.int r) ∧ (r = 0 ∨ r = 1) ∧ S = S1) := by
  refine am_e2 (v := 32) hi_172_0 rfl ?_
  refine cm_20f (r := 5) h hi_172_1 (h.1.s (32, 10) (by decide)) (by decide) rfl ?_
  refine am_e1 (v := x) hi_172_4 rfl ?_
  refine am_e32w (as := [.ref 5, .int x]) (la := [some (.ref 5), some (.int x)]) (rest := []) hi_172_5 (am_hd0 (M := 172) (by decide) 5) (Nat.le_of_ble_eq_true rfl) (Nat.le_of_ble_eq_true rfl) (show 2 ≤ am_P0.2.2.1 159 from by decide +kernel) rfl (cl_recv (h.1.s (5, 4) (by decide))) rfl rfl ?_
  refine am_e1 (v := x) hi_159_0 rfl ?_
  by_cases c1 : x.toInt < (0 : Int)
  · refine am_e12t hi_159_1 (am_cT (m := x.toInt) (n := (0 : Int)) rfl (by decide) c1) ?_
    refine am_e29 hi_159_37 ?_
    refine am_e34n hi_159_38 ?_
    show am_E _ _ _ _ [some (.ref 32), some (.ref b), some (.int x), none] [.null] _ _
    refine am_e4n (ls' := [some (.ref 32), some (.ref b), some (.int x), some .null]) hi_172_8 (Nat.le_of_ble_eq_true rfl) rfl ?_
    refine am_e2n hi_172_9 rfl ?_
    refine am_e14n hi_172_10 ?_
    refine am_e0 hi_172_24 ?_
    refine am_e18 hi_172_25 ?_
    refine am_e36 hi_172_29 (by decide) ?_
    exact ⟨1, rfl, (by decide), rfl⟩
  · refine am_e12f hi_159_1 (am_cF (m := x.toInt) (n := (0 : Int)) rfl (by decide) c1) ?_
    refine am_e1 (v := x) hi_159_4 rfl ?_
    refine am_e2 (v := 5) hi_159_5 rfl ?_
    refine cm_20i h hi_159_6 (h.1.s (5, 4) (by decide)) (by decide) rfl fun v2 hv2 => ?_
    have hv2_ : v2.toInt = iv S 5 1 := hv2
    by_cases c3 : v2.toInt ≤ x.toInt
    · refine am_e13t hi_159_9 (am_cT (m := x.toInt) (n := v2.toInt) rfl rfl c3) ?_
      refine am_e29 hi_159_37 ?_
      refine am_e34n hi_159_38 ?_
      show am_E _ _ _ _ [some (.ref 32), some (.ref b), some (.int x), none] [.null] _ _
      refine am_e4n (ls' := [some (.ref 32), some (.ref b), some (.int x), some .null]) hi_172_8 (Nat.le_of_ble_eq_true rfl) rfl ?_
      refine am_e2n hi_172_9 rfl ?_
      refine am_e14n hi_172_10 ?_
      refine am_e0 hi_172_24 ?_
      refine am_e18 hi_172_25 ?_
      refine am_e36 hi_172_29 (by decide) ?_
      exact ⟨1, rfl, (by decide), rfl⟩
    · refine am_e13f hi_159_9 (am_cF (m := x.toInt) (n := v2.toInt) rfl rfl c3) ?_
      refine am_e1 (v := x) hi_159_12 rfl ?_
      refine am_e2 (v := 5) hi_159_13 rfl ?_
      refine cm_20f (r := 6) h hi_159_14 (h.1.s (5, 4) (by decide)) (by decide) rfl ?_
      refine am_e32n (as := [.ref 6]) (la := [some (.ref 6)]) (rest := [.int x]) hi_159_17 (am_hd0 (M := 159) (by decide) 17) (Nat.le_of_ble_eq_true rfl) (Nat.le_of_ble_eq_true rfl) (show 1 ≤ am_P0.2.2.1 14 from by decide +kernel) rfl (cl_recv (h.1.s (6, 5) (by decide))) rfl rfl (ck_lsize (d := (d + 2)) h (by decide) ) ?_
      rintro v4 S5 ⟨r6, rfl, rfl, h8, h9, h10⟩
      have h8_ : r6.toInt = iv S 6 1 := h8
      have h9_ : 0 ≤ r6.toInt := h9
      have h10_ : r6.toInt ≤ 100000 := h10
      show am_E _ _ _ _ [some (.ref 5), some (.int x)] [.int r6, .int x] _ _
      by_cases c12 : r6.toInt ≤ x.toInt
      · refine am_e13t hi_159_20 (am_cT (m := x.toInt) (n := r6.toInt) rfl rfl c12) ?_
        refine am_e29 hi_159_37 ?_
        refine am_e34n hi_159_38 ?_
        show am_E _ _ _ _ [some (.ref 32), some (.ref b), some (.int x), none] [.null] _ _
        refine am_e4n (ls' := [some (.ref 32), some (.ref b), some (.int x), some .null]) hi_172_8 (Nat.le_of_ble_eq_true rfl) rfl ?_
        refine am_e2n hi_172_9 rfl ?_
        refine am_e14n hi_172_10 ?_
        refine am_e0 hi_172_24 ?_
        refine am_e18 hi_172_25 ?_
        refine am_e36 hi_172_29 (by decide) ?_
        exact ⟨1, rfl, (by decide), rfl⟩
      · refine am_e13f hi_159_20 (am_cF (m := x.toInt) (n := r6.toInt) rfl rfl c12) ?_
        refine am_e2 (v := 5) hi_159_23 rfl ?_
        refine cm_20f (r := 6) h hi_159_24 (h.1.s (5, 4) (by decide)) (by decide) rfl ?_
        refine am_e1 (v := x) hi_159_27 rfl ?_
        refine am_e32n (as := [.ref 6, .int x]) (la := [some (.ref 6), some (.int x)]) (rest := []) hi_159_28 (am_hd0 (M := 159) (by decide) 28) (Nat.le_of_ble_eq_true rfl) (Nat.le_of_ble_eq_true rfl) (show 2 ≤ am_P0.2.2.1 25 from by decide +kernel) rfl (cl_recv (h.1.s (6, 5) (by decide))) rfl rfl (ck_lget (d := d) h (by decide) (by show 0 ≤ x.toInt; omega) (by show x.toInt + 1 ≤ iv S 6 1; omega)) ?_
        rintro v13 S14 ⟨r15, rfl, hb17, rfl⟩
        show am_E _ _ _ _ [some (.ref 5), some (.int x)] [.ref r15] _ _
        obtain ⟨f18, hf18⟩ := cl_of hb17
        refine am_e30 hi_159_31 hf18 ?_
        refine am_e18 hi_159_34 ?_
        refine am_e34 hi_159_38 ?_
        show am_E _ _ _ _ [some (.ref 32), some (.ref b), some (.int x), none] [.ref r15] _ _
        refine am_e4 (ls' := [some (.ref 32), some (.ref b), some (.int x), some (.ref r15)]) hi_172_8 (Nat.le_of_ble_eq_true rfl) rfl ?_
        refine am_e2 (v := r15) hi_172_9 rfl ?_
        refine am_e14r hi_172_10 ?_
        refine am_e2 (v := r15) hi_172_13 rfl ?_
        refine cm_20i h hi_172_14 hb17 (by decide) rfl fun v19 hv19 => ?_
        have hv19_ : v19.toInt = iv S r15 3 := hv19
        refine am_e2 (v := b) hi_172_17 rfl ?_
        refine cm_20i h hi_172_18 hc_b (by decide) rfl fun v20 hv20 => ?_
        have hv20_ : v20.toInt = iv S b 2 := hv20
        by_cases c21 : v19.toInt = v20.toInt
        · refine am_e13t hi_172_21 (am_cT (m := v19.toInt) (n := v20.toInt) rfl rfl c21) ?_
          refine am_e0 hi_172_28 ?_
          refine am_e36 hi_172_29 (by decide) ?_
          exact ⟨0, rfl, (by decide), rfl⟩
        · refine am_e13f hi_172_21 (am_cF (m := v19.toInt) (n := v20.toInt) rfl rfl c21) ?_
          refine am_e0 hi_172_24 ?_
          refine am_e18 hi_172_25 ?_
          refine am_e36 hi_172_29 (by decide) ?_
          exact ⟨1, rfl, (by decide), rfl⟩
theorem ck_means {sc : Nat × (Nat → Int32)} {d aw : Nat} {S : am_S} {b : Nat} {i : Int32} (h : SH aw S) (hc_b : cl (am_fs S) b = some 8) : am_E (am_PP sc) (d + 5) 170 0 [some (.ref 32), some (.ref b), some (.int i), none] [] S (am_N fun v S1 => ∃ r : Int32, v = some (.int r) ∧ (r = 0 ∨ r = 1) ∧ S = S1) := by
  refine am_e2 (v := b) hi_170_0 rfl ?_
  refine cm_20t h hi_170_1 hc_b (by decide) rfl fun t1 ht1 ht1b => ?_
  refine am_e1 (v := i) hi_170_4 rfl ?_
  refine am_e0 hi_170_5 ?_
  refine am_e32n (as := [.ref t1, .int i, .int 1]) (la := [some (.ref t1), some (.int i), some (.int 1)]) (rest := []) hi_170_6 (am_hd0 (M := 170) (by decide) 6) (Nat.le_of_ble_eq_true rfl) (Nat.le_of_ble_eq_true rfl) (show 3 ≤ am_P0.2.2.1 54 from by decide +kernel) rfl (cl_recv ht1) rfl rfl (ck_get (d := (d + 4)) h ht1  ) ?_
  rintro v2 S3 ⟨r4, rfl, rfl⟩
  show am_E _ _ _ _ [some (.ref 32), some (.ref b), some (.int i), none] [.int r4] _ _
  refine am_e3 (ls' := [some (.ref 32), some (.ref b), some (.int i), some (.int r4)]) hi_170_9 (Nat.le_of_ble_eq_true rfl) rfl ?_
  refine am_e2 (v := b) hi_170_10 rfl ?_
  refine cm_20t h hi_170_11 hc_b (by decide) rfl fun t7 ht7 ht7b => ?_
  refine am_e1 (v := i) hi_170_14 rfl ?_
  refine am_e0 hi_170_15 ?_
  refine am_e32n (as := [.ref t7, .int i, .int 0]) (la := [some (.ref t7), some (.int i), some (.int 0)]) (rest := []) hi_170_16 (am_hd0 (M := 170) (by decide) 16) (Nat.le_of_ble_eq_true rfl) (Nat.le_of_ble_eq_true rfl) (show 3 ≤ am_P0.2.2.1 54 from by decide +kernel) rfl (cl_recv ht7) rfl rfl (ck_get (d := (d + 4)) h ht7  ) ?_
  rintro v8 S9 ⟨r10, rfl, rfl⟩
  show am_E _ _ _ _ [some (.ref 32), some (.ref b), some (.int i), some (.int r4)] [.int r10] _ _
  by_cases c13 : r10.toInt = 7
  · refine am_e19 (t := 282) hi_170_19 (am_swI (v := r10) (w := 7) (by decide) (by decide) c13) ?_
    refine am_e2 (v := 32) hi_170_282 rfl ?_
    refine am_e2 (v := b) hi_170_283 rfl ?_
    refine am_e1 (v := r4) hi_170_284 rfl ?_
    refine am_e32n (as := [.ref 32, .ref b, .int r4]) (la := [some (.ref 32), some (.ref b), some (.int r4), none]) (rest := []) hi_170_285 (am_hd0 (M := 170) (by decide) 285) (Nat.le_of_ble_eq_true rfl) (Nat.le_of_ble_eq_true rfl) (show 3 ≤ am_P0.2.2.1 172 from by decide +kernel) rfl (cl_recv (h.1.s (32, 10) (by decide))) rfl rfl (ck_notIn (d := d) h hc_b  ) ?_
    rintro v14 S15 ⟨r16, rfl, hb18, rfl⟩
    have hb18_ : r16.toInt = 0 ∨ r16.toInt = 1 := hb18.elim (fun e => Or.inl (by rw [e]; rfl)) (fun e => Or.inr (by rw [e]; rfl))
    show am_E _ _ _ _ [some (.ref 32), some (.ref b), some (.int i), some (.int r4)] [.int r16] _ _
    refine am_e36 hi_170_288 hb18 ?_
    exact ⟨r16, rfl, hb18, rfl⟩
  · have c13_ : True := trivial
    by_cases c19 : r10.toInt = 8
    · refine am_e19 (t := 184) hi_170_19 (am_swI (v := r10) (w := 8) (by decide) (by decide) c19) ?_
      refine am_e2 (v := b) hi_170_184 rfl ?_
      refine am_e1 (v := r4) hi_170_185 rfl ?_
      refine am_e1 (v := r4) hi_170_186 rfl ?_
      refine am_e32n (as := [.ref b, .int r4, .int r4]) (la := [some (.ref b), some (.int r4), some (.int r4)]) (rest := []) hi_170_187 (am_hd0 (M := 170) (by decide) 187) (Nat.le_of_ble_eq_true rfl) (Nat.le_of_ble_eq_true rfl) (show 3 ≤ am_P0.2.2.1 171 from by decide +kernel) rfl rfl rfl rfl (ck_noSlot (d := (d + 4)) h hc_b  ) ?_
      rintro v20 S21 ⟨r22, rfl, hb24, rfl⟩
      have hb24_ : r22.toInt = 0 ∨ r22.toInt = 1 := hb24.elim (fun e => Or.inl (by rw [e]; rfl)) (fun e => Or.inr (by rw [e]; rfl))
      show am_E _ _ _ _ [some (.ref 32), some (.ref b), some (.int i), some (.int r4)] [.int r22] _ _
      refine am_e36 hi_170_190 hb24 ?_
      exact ⟨r22, rfl, hb24, rfl⟩
    · have c19_ : True := trivial
      by_cases c25 : r10.toInt = 9
      · refine am_e19 (t := 265) hi_170_19 (am_swI (v := r10) (w := 9) (by decide) (by decide) c25) ?_
        refine am_e2 (v := b) hi_170_265 rfl ?_
        refine cm_20t h hi_170_266 hc_b (by decide) rfl fun t26 ht26 ht26b => ?_
        refine am_e1 (v := r4) hi_170_269 rfl ?_
        refine am_e32n (as := [.ref t26, .int r4]) (la := [some (.ref t26), some (.int r4)]) (rest := []) hi_170_270 (am_hd0 (M := 170) (by decide) 270) (Nat.le_of_ble_eq_true rfl) (Nat.le_of_ble_eq_true rfl) (show 2 ≤ am_P0.2.2.1 161 from by decide +kernel) rfl (cl_recv ht26) rfl rfl (ck_has (d := (d + 4)) h ht26  ) ?_
        rintro v27 S28 ⟨r29, rfl, hb31, rfl⟩
        have hb31_ : r29.toInt = 0 ∨ r29.toInt = 1 := hb31.elim (fun e => Or.inl (by rw [e]; rfl)) (fun e => Or.inr (by rw [e]; rfl))
        show am_E _ _ _ _ [some (.ref 32), some (.ref b), some (.int i), some (.int r4)] [.int r29] _ _
        by_cases c32 : ¬ r29.toInt = (0 : Int)
        · refine am_e12t hi_170_273 (am_cT (m := r29.toInt) (n := (0 : Int)) rfl (by decide) c32) ?_
          refine am_e0 hi_170_280 ?_
          refine am_e36 hi_170_281 (by decide) ?_
          exact ⟨0, rfl, (by decide), rfl⟩
        · refine am_e12f hi_170_273 (am_cF (m := r29.toInt) (n := (0 : Int)) rfl (by decide) c32) ?_
          refine am_e0 hi_170_276 ?_
          refine am_e18 hi_170_277 ?_
          refine am_e36 hi_170_281 (by decide) ?_
          exact ⟨1, rfl, (by decide), rfl⟩
      · have c25_ : True := trivial
        by_cases c33 : r10.toInt = 27
        · refine am_e19 (t := 191) hi_170_19 (am_swI (v := r10) (w := 27) (by decide) (by decide) c33) ?_
          refine am_e2 (v := b) hi_170_191 rfl ?_
          refine am_e1 (v := r4) hi_170_192 rfl ?_
          refine am_e1 (v := r4) hi_170_193 rfl ?_
          refine am_e2 (v := b) hi_170_194 rfl ?_
          refine cm_20t h hi_170_195 hc_b (by decide) rfl fun t34 ht34 ht34b => ?_
          refine am_e1 (v := i) hi_170_198 rfl ?_
          refine am_e0 hi_170_199 ?_
          refine am_e32n (as := [.ref t34, .int i, .int 2]) (la := [some (.ref t34), some (.int i), some (.int 2)]) (rest := [.int r4, .int r4, .ref b]) hi_170_200 (am_hd0 (M := 170) (by decide) 200) (Nat.le_of_ble_eq_true rfl) (Nat.le_of_ble_eq_true rfl) (show 3 ≤ am_P0.2.2.1 54 from by decide +kernel) rfl (cl_recv ht34) rfl rfl (ck_get (d := (d + 4)) h ht34  ) ?_
          rintro v35 S36 ⟨r37, rfl, rfl⟩
          show am_E _ _ _ _ [some (.ref 32), some (.ref b), some (.int i), some (.int r4)] [.int r37, .int r4, .int r4, .ref b] _ _
          obtain ⟨z40, hz40⟩ : ∃ q__, am_bin 0 r4 r37 = q__ := ⟨_, rfl⟩
          refine am_e10 (z := z40) hi_170_203 hz40 ?_
          refine am_e0 hi_170_204 ?_
          obtain ⟨z41, hz41⟩ : ∃ q__, am_bin 1 z40 1 = q__ := ⟨_, rfl⟩
          refine am_e10 (z := z41) hi_170_205 hz41 ?_
          refine am_e32n (as := [.ref b, .int r4, .int z41]) (la := [some (.ref b), some (.int r4), some (.int z41)]) (rest := []) hi_170_206 (am_hd0 (M := 170) (by decide) 206) (Nat.le_of_ble_eq_true rfl) (Nat.le_of_ble_eq_true rfl) (show 3 ≤ am_P0.2.2.1 171 from by decide +kernel) rfl rfl rfl rfl (ck_noSlot (d := (d + 4)) h hc_b  ) ?_
          rintro v42 S43 ⟨r44, rfl, hb46, rfl⟩
          have hb46_ : r44.toInt = 0 ∨ r44.toInt = 1 := hb46.elim (fun e => Or.inl (by rw [e]; rfl)) (fun e => Or.inr (by rw [e]; rfl))
          show am_E _ _ _ _ [some (.ref 32), some (.ref b), some (.int i), some (.int r4)] [.int r44] _ _
          refine am_e36 hi_170_209 hb46 ?_
          exact ⟨r44, rfl, hb46, rfl⟩
        · have c33_ : True := trivial
          by_cases c47 : r10.toInt = 28
          · refine am_e19 (t := 184) hi_170_19 (am_swI (v := r10) (w := 28) (by decide) (by decide) c47) ?_
            refine am_e2 (v := b) hi_170_184 rfl ?_
            refine am_e1 (v := r4) hi_170_185 rfl ?_
            refine am_e1 (v := r4) hi_170_186 rfl ?_
            refine am_e32n (as := [.ref b, .int r4, .int r4]) (la := [some (.ref b), some (.int r4), some (.int r4)]) (rest := []) hi_170_187 (am_hd0 (M := 170) (by decide) 187) (Nat.le_of_ble_eq_true rfl) (Nat.le_of_ble_eq_true rfl) (show 3 ≤ am_P0.2.2.1 171 from by decide +kernel) rfl rfl rfl rfl (ck_noSlot (d := (d + 4)) h hc_b  ) ?_
            rintro v48 S49 ⟨r50, rfl, hb52, rfl⟩
            have hb52_ : r50.toInt = 0 ∨ r50.toInt = 1 := hb52.elim (fun e => Or.inl (by rw [e]; rfl)) (fun e => Or.inr (by rw [e]; rfl))
            show am_E _ _ _ _ [some (.ref 32), some (.ref b), some (.int i), some (.int r4)] [.int r50] _ _
            refine am_e36 hi_170_190 hb52 ?_
            exact ⟨r50, rfl, hb52, rfl⟩
          · have c47_ : True := trivial
            by_cases c53 : r10.toInt = 29
            · refine am_e19 (t := 184) hi_170_19 (am_swI (v := r10) (w := 29) (by decide) (by decide) c53) ?_
              refine am_e2 (v := b) hi_170_184 rfl ?_
              refine am_e1 (v := r4) hi_170_185 rfl ?_
              refine am_e1 (v := r4) hi_170_186 rfl ?_
              refine am_e32n (as := [.ref b, .int r4, .int r4]) (la := [some (.ref b), some (.int r4), some (.int r4)]) (rest := []) hi_170_187 (am_hd0 (M := 170) (by decide) 187) (Nat.le_of_ble_eq_true rfl) (Nat.le_of_ble_eq_true rfl) (show 3 ≤ am_P0.2.2.1 171 from by decide +kernel) rfl rfl rfl rfl (ck_noSlot (d := (d + 4)) h hc_b  ) ?_
              rintro v54 S55 ⟨r56, rfl, hb58, rfl⟩
              have hb58_ : r56.toInt = 0 ∨ r56.toInt = 1 := hb58.elim (fun e => Or.inl (by rw [e]; rfl)) (fun e => Or.inr (by rw [e]; rfl))
              show am_E _ _ _ _ [some (.ref 32), some (.ref b), some (.int i), some (.int r4)] [.int r56] _ _
              refine am_e36 hi_170_190 hb58 ?_
              exact ⟨r56, rfl, hb58, rfl⟩
            · have c53_ : True := trivial
              by_cases c59 : r10.toInt = 30
              · refine am_e19 (t := 265) hi_170_19 (am_swI (v := r10) (w := 30) (by decide) (by decide) c59) ?_
                refine am_e2 (v := b) hi_170_265 rfl ?_
                refine cm_20t h hi_170_266 hc_b (by decide) rfl fun t60 ht60 ht60b => ?_
                refine am_e1 (v := r4) hi_170_269 rfl ?_
                refine am_e32n (as := [.ref t60, .int r4]) (la := [some (.ref t60), some (.int r4)]) (rest := []) hi_170_270 (am_hd0 (M := 170) (by decide) 270) (Nat.le_of_ble_eq_true rfl) (Nat.le_of_ble_eq_true rfl) (show 2 ≤ am_P0.2.2.1 161 from by decide +kernel) rfl (cl_recv ht60) rfl rfl (ck_has (d := (d + 4)) h ht60  ) ?_
                rintro v61 S62 ⟨r63, rfl, hb65, rfl⟩
                have hb65_ : r63.toInt = 0 ∨ r63.toInt = 1 := hb65.elim (fun e => Or.inl (by rw [e]; rfl)) (fun e => Or.inr (by rw [e]; rfl))
                show am_E _ _ _ _ [some (.ref 32), some (.ref b), some (.int i), some (.int r4)] [.int r63] _ _
                by_cases c66 : ¬ r63.toInt = (0 : Int)
                · refine am_e12t hi_170_273 (am_cT (m := r63.toInt) (n := (0 : Int)) rfl (by decide) c66) ?_
                  refine am_e0 hi_170_280 ?_
                  refine am_e36 hi_170_281 (by decide) ?_
                  exact ⟨0, rfl, (by decide), rfl⟩
                · refine am_e12f hi_170_273 (am_cF (m := r63.toInt) (n := (0 : Int)) rfl (by decide) c66) ?_
                  refine am_e0 hi_170_276 ?_
                  refine am_e18 hi_170_277 ?_
                  refine am_e36 hi_170_281 (by decide) ?_
                  exact ⟨1, rfl, (by decide), rfl⟩
              · have c59_ : True := trivial
                by_cases c67 : r10.toInt = 33
                · refine am_e19 (t := 247) hi_170_19 (am_swI (v := r10) (w := 33) (by decide) (by decide) c67) ?_
                  refine am_e1 (v := r4) hi_170_247 rfl ?_
                  by_cases c68 : r4.toInt < (0 : Int)
                  · refine am_e12t hi_170_248 (am_cT (m := r4.toInt) (n := (0 : Int)) rfl (by decide) c68) ?_
                    refine am_e0 hi_170_259 ?_
                    refine am_e18 hi_170_260 ?_
                    refine am_e36 hi_170_264 (by decide) ?_
                    exact ⟨1, rfl, (by decide), rfl⟩
                  · refine am_e12f hi_170_248 (am_cF (m := r4.toInt) (n := (0 : Int)) rfl (by decide) c68) ?_
                    refine am_e1 (v := r4) hi_170_251 rfl ?_
                    refine am_e2 (v := b) hi_170_252 rfl ?_
                    refine cm_20i h hi_170_253 hc_b (by decide) rfl fun v69 hv69 => ?_
                    have hv69_ : v69.toInt = iv S b 7 := hv69
                    by_cases c70 : r4.toInt ≤ v69.toInt
                    · refine am_e13t hi_170_256 (am_cT (m := r4.toInt) (n := v69.toInt) rfl rfl c70) ?_
                      refine am_e0 hi_170_263 ?_
                      refine am_e36 hi_170_264 (by decide) ?_
                      exact ⟨0, rfl, (by decide), rfl⟩
                    · refine am_e13f hi_170_256 (am_cF (m := r4.toInt) (n := v69.toInt) rfl rfl c70) ?_
                      refine am_e0 hi_170_259 ?_
                      refine am_e18 hi_170_260 ?_
                      refine am_e36 hi_170_264 (by decide) ?_
                      exact ⟨1, rfl, (by decide), rfl⟩
                · have c67_ : True := trivial
                  by_cases c71 : r10.toInt = 38
                  · refine am_e19 (t := 184) hi_170_19 (am_swI (v := r10) (w := 38) (by decide) (by decide) c71) ?_
                    refine am_e2 (v := b) hi_170_184 rfl ?_
                    refine am_e1 (v := r4) hi_170_185 rfl ?_
                    refine am_e1 (v := r4) hi_170_186 rfl ?_
                    refine am_e32n (as := [.ref b, .int r4, .int r4]) (la := [some (.ref b), some (.int r4), some (.int r4)]) (rest := []) hi_170_187 (am_hd0 (M := 170) (by decide) 187) (Nat.le_of_ble_eq_true rfl) (Nat.le_of_ble_eq_true rfl) (show 3 ≤ am_P0.2.2.1 171 from by decide +kernel) rfl rfl rfl rfl (ck_noSlot (d := (d + 4)) h hc_b  ) ?_
                    rintro v72 S73 ⟨r74, rfl, hb76, rfl⟩
                    have hb76_ : r74.toInt = 0 ∨ r74.toInt = 1 := hb76.elim (fun e => Or.inl (by rw [e]; rfl)) (fun e => Or.inr (by rw [e]; rfl))
                    show am_E _ _ _ _ [some (.ref 32), some (.ref b), some (.int i), some (.int r4)] [.int r74] _ _
                    refine am_e36 hi_170_190 hb76 ?_
                    exact ⟨r74, rfl, hb76, rfl⟩
                  · have c71_ : True := trivial
                    by_cases c77 : r10.toInt = 39
                    · refine am_e19 (t := 210) hi_170_19 (am_swI (v := r10) (w := 39) (by decide) (by decide) c77) ?_
                      refine am_e2 (v := b) hi_170_210 rfl ?_
                      refine am_e1 (v := r4) hi_170_211 rfl ?_
                      refine am_e1 (v := r4) hi_170_212 rfl ?_
                      refine am_e0 hi_170_213 ?_
                      obtain ⟨z78, hz78⟩ : ∃ q__, am_bin 0 r4 3 = q__ := ⟨_, rfl⟩
                      refine am_e10 (z := z78) hi_170_214 hz78 ?_
                      refine am_e32n (as := [.ref b, .int r4, .int z78]) (la := [some (.ref b), some (.int r4), some (.int z78)]) (rest := []) hi_170_215 (am_hd0 (M := 170) (by decide) 215) (Nat.le_of_ble_eq_true rfl) (Nat.le_of_ble_eq_true rfl) (show 3 ≤ am_P0.2.2.1 171 from by decide +kernel) rfl rfl rfl rfl (ck_noSlot (d := (d + 4)) h hc_b  ) ?_
                      rintro v79 S80 ⟨r81, rfl, hb83, rfl⟩
                      have hb83_ : r81.toInt = 0 ∨ r81.toInt = 1 := hb83.elim (fun e => Or.inl (by rw [e]; rfl)) (fun e => Or.inr (by rw [e]; rfl))
                      show am_E _ _ _ _ [some (.ref 32), some (.ref b), some (.int i), some (.int r4)] [.int r81] _ _
                      refine am_e36 hi_170_218 hb83 ?_
                      exact ⟨r81, rfl, hb83, rfl⟩
                    · have c77_ : True := trivial
                      by_cases c84 : r10.toInt = 40
                      · refine am_e19 (t := 184) hi_170_19 (am_swI (v := r10) (w := 40) (by decide) (by decide) c84) ?_
                        refine am_e2 (v := b) hi_170_184 rfl ?_
                        refine am_e1 (v := r4) hi_170_185 rfl ?_
                        refine am_e1 (v := r4) hi_170_186 rfl ?_
                        refine am_e32n (as := [.ref b, .int r4, .int r4]) (la := [some (.ref b), some (.int r4), some (.int r4)]) (rest := []) hi_170_187 (am_hd0 (M := 170) (by decide) 187) (Nat.le_of_ble_eq_true rfl) (Nat.le_of_ble_eq_true rfl) (show 3 ≤ am_P0.2.2.1 171 from by decide +kernel) rfl rfl rfl rfl (ck_noSlot (d := (d + 4)) h hc_b  ) ?_
                        rintro v85 S86 ⟨r87, rfl, hb89, rfl⟩
                        have hb89_ : r87.toInt = 0 ∨ r87.toInt = 1 := hb89.elim (fun e => Or.inl (by rw [e]; rfl)) (fun e => Or.inr (by rw [e]; rfl))
                        show am_E _ _ _ _ [some (.ref 32), some (.ref b), some (.int i), some (.int r4)] [.int r87] _ _
                        refine am_e36 hi_170_190 hb89 ?_
                        exact ⟨r87, rfl, hb89, rfl⟩
                      · have c84_ : True := trivial
                        by_cases c90 : r10.toInt = 41
                        · refine am_e19 (t := 184) hi_170_19 (am_swI (v := r10) (w := 41) (by decide) (by decide) c90) ?_
                          refine am_e2 (v := b) hi_170_184 rfl ?_
                          refine am_e1 (v := r4) hi_170_185 rfl ?_
                          refine am_e1 (v := r4) hi_170_186 rfl ?_
                          refine am_e32n (as := [.ref b, .int r4, .int r4]) (la := [some (.ref b), some (.int r4), some (.int r4)]) (rest := []) hi_170_187 (am_hd0 (M := 170) (by decide) 187) (Nat.le_of_ble_eq_true rfl) (Nat.le_of_ble_eq_true rfl) (show 3 ≤ am_P0.2.2.1 171 from by decide +kernel) rfl rfl rfl rfl (ck_noSlot (d := (d + 4)) h hc_b  ) ?_
                          rintro v91 S92 ⟨r93, rfl, hb95, rfl⟩
                          have hb95_ : r93.toInt = 0 ∨ r93.toInt = 1 := hb95.elim (fun e => Or.inl (by rw [e]; rfl)) (fun e => Or.inr (by rw [e]; rfl))
                          show am_E _ _ _ _ [some (.ref 32), some (.ref b), some (.int i), some (.int r4)] [.int r93] _ _
                          refine am_e36 hi_170_190 hb95 ?_
                          exact ⟨r93, rfl, hb95, rfl⟩
                        · have c90_ : True := trivial
                          by_cases c96 : r10.toInt = 42
                          · refine am_e19 (t := 210) hi_170_19 (am_swI (v := r10) (w := 42) (by decide) (by decide) c96) ?_
                            refine am_e2 (v := b) hi_170_210 rfl ?_
                            refine am_e1 (v := r4) hi_170_211 rfl ?_
                            refine am_e1 (v := r4) hi_170_212 rfl ?_
                            refine am_e0 hi_170_213 ?_
                            obtain ⟨z97, hz97⟩ : ∃ q__, am_bin 0 r4 3 = q__ := ⟨_, rfl⟩
                            refine am_e10 (z := z97) hi_170_214 hz97 ?_
                            refine am_e32n (as := [.ref b, .int r4, .int z97]) (la := [some (.ref b), some (.int r4), some (.int z97)]) (rest := []) hi_170_215 (am_hd0 (M := 170) (by decide) 215) (Nat.le_of_ble_eq_true rfl) (Nat.le_of_ble_eq_true rfl) (show 3 ≤ am_P0.2.2.1 171 from by decide +kernel) rfl rfl rfl rfl (ck_noSlot (d := (d + 4)) h hc_b  ) ?_
                            rintro v98 S99 ⟨r100, rfl, hb102, rfl⟩
                            have hb102_ : r100.toInt = 0 ∨ r100.toInt = 1 := hb102.elim (fun e => Or.inl (by rw [e]; rfl)) (fun e => Or.inr (by rw [e]; rfl))
                            show am_E _ _ _ _ [some (.ref 32), some (.ref b), some (.int i), some (.int r4)] [.int r100] _ _
                            refine am_e36 hi_170_218 hb102 ?_
                            exact ⟨r100, rfl, hb102, rfl⟩
                          · have c96_ : True := trivial
                            by_cases c103 : r10.toInt = 43
                            · refine am_e19 (t := 219) hi_170_19 (am_swI (v := r10) (w := 43) (by decide) (by decide) c103) ?_
                              refine am_e2 (v := b) hi_170_219 rfl ?_
                              refine am_e1 (v := r4) hi_170_220 rfl ?_
                              refine am_e1 (v := r4) hi_170_221 rfl ?_
                              refine am_e0 hi_170_222 ?_
                              obtain ⟨z104, hz104⟩ : ∃ q__, am_bin 0 r4 3 = q__ := ⟨_, rfl⟩
                              refine am_e10 (z := z104) hi_170_223 hz104 ?_
                              refine am_e2 (v := b) hi_170_224 rfl ?_
                              refine cm_20t h hi_170_225 hc_b (by decide) rfl fun t105 ht105 ht105b => ?_
                              refine am_e1 (v := i) hi_170_228 rfl ?_
                              refine am_e0 hi_170_229 ?_
                              refine am_e32n (as := [.ref t105, .int i, .int 2]) (la := [some (.ref t105), some (.int i), some (.int 2)]) (rest := [.int z104, .int r4, .ref b]) hi_170_230 (am_hd0 (M := 170) (by decide) 230) (Nat.le_of_ble_eq_true rfl) (Nat.le_of_ble_eq_true rfl) (show 3 ≤ am_P0.2.2.1 54 from by decide +kernel) rfl (cl_recv ht105) rfl rfl (ck_get (d := (d + 4)) h ht105  ) ?_
                              rintro v106 S107 ⟨r108, rfl, rfl⟩
                              show am_E _ _ _ _ [some (.ref 32), some (.ref b), some (.int i), some (.int r4)] [.int r108, .int z104, .int r4, .ref b] _ _
                              obtain ⟨z111, hz111⟩ : ∃ q__, am_bin 0 z104 r108 = q__ := ⟨_, rfl⟩
                              refine am_e10 (z := z111) hi_170_233 hz111 ?_
                              refine am_e32n (as := [.ref b, .int r4, .int z111]) (la := [some (.ref b), some (.int r4), some (.int z111)]) (rest := []) hi_170_234 (am_hd0 (M := 170) (by decide) 234) (Nat.le_of_ble_eq_true rfl) (Nat.le_of_ble_eq_true rfl) (show 3 ≤ am_P0.2.2.1 171 from by decide +kernel) rfl rfl rfl rfl (ck_noSlot (d := (d + 4)) h hc_b  ) ?_
                              rintro v112 S113 ⟨r114, rfl, hb116, rfl⟩
                              have hb116_ : r114.toInt = 0 ∨ r114.toInt = 1 := hb116.elim (fun e => Or.inl (by rw [e]; rfl)) (fun e => Or.inr (by rw [e]; rfl))
                              show am_E _ _ _ _ [some (.ref 32), some (.ref b), some (.int i), some (.int r4)] [.int r114] _ _
                              refine am_e36 hi_170_237 hb116 ?_
                              exact ⟨r114, rfl, hb116, rfl⟩
                            · have c103_ : True := trivial
                              by_cases c117 : r10.toInt = 44
                              · refine am_e19 (t := 238) hi_170_19 (am_swI (v := r10) (w := 44) (by decide) (by decide) c117) ?_
                                refine am_e2 (v := b) hi_170_238 rfl ?_
                                refine am_e1 (v := r4) hi_170_239 rfl ?_
                                refine am_e1 (v := r4) hi_170_240 rfl ?_
                                refine am_e0 hi_170_241 ?_
                                obtain ⟨z118, hz118⟩ : ∃ q__, am_bin 0 r4 4 = q__ := ⟨_, rfl⟩
                                refine am_e10 (z := z118) hi_170_242 hz118 ?_
                                refine am_e32n (as := [.ref b, .int r4, .int z118]) (la := [some (.ref b), some (.int r4), some (.int z118)]) (rest := []) hi_170_243 (am_hd0 (M := 170) (by decide) 243) (Nat.le_of_ble_eq_true rfl) (Nat.le_of_ble_eq_true rfl) (show 3 ≤ am_P0.2.2.1 171 from by decide +kernel) rfl rfl rfl rfl (ck_noSlot (d := (d + 4)) h hc_b  ) ?_
                                rintro v119 S120 ⟨r121, rfl, hb123, rfl⟩
                                have hb123_ : r121.toInt = 0 ∨ r121.toInt = 1 := hb123.elim (fun e => Or.inl (by rw [e]; rfl)) (fun e => Or.inr (by rw [e]; rfl))
                                show am_E _ _ _ _ [some (.ref 32), some (.ref b), some (.int i), some (.int r4)] [.int r121] _ _
                                refine am_e36 hi_170_246 hb123 ?_
                                exact ⟨r121, rfl, hb123, rfl⟩
                              · have c117_ : True := trivial
                                refine am_e19 (t := 289) hi_170_19 (am_swD (v := r10) (ks := [7, 8, 9, 27, 28, 29, 30, 33, 38, 39, 40, 41, 42, 43, 44]) (by decide) (by intro k hk; simp only [List.mem_cons, List.not_mem_nil, or_false] at hk; rcases hk with rfl | rfl | rfl | rfl | rfl | rfl | rfl | rfl | rfl | rfl | rfl | rfl | rfl | rfl | rfl <;> omega)) ?_
                                refine am_e0 hi_170_289 ?_
                                refine am_e36 hi_170_290 (by decide) ?_
                                exact ⟨0, rfl, (by decide), rfl⟩
theorem cf_greatest {sc : Nat × (Nat → Int32)} {d aw : Nat} {Sb : am_S} {b : Nat} {Q : Option (Option Value) → am_S → Prop} (h : SH aw Sb) (hc_b : cl (am_fs Sb) b = some 8) (hx0 : ∀ (s g i : Int32), am_E (am_PP sc) (d + 2) 164 40 [some (.ref 32), some (.ref b), some (.int s), some (.int g), some (.int i)] [] Sb Q) : ∀ (N : Nat) (s g i : Int32), 2147483647 - i.toInt < (N : Int) → am_E (am_PP sc) (d + 2) 164 7 [some (.ref 32), some (.ref b), some (.int s), some (.int g), some (.int i)] [] Sb Q := by
  intro N
  induction N with
  | zero =>
    intro   s g i    hN
    have := i32_le s
    have := i32_le g
    have := i32_le i
    have := i32_ge s
    have := i32_ge g
    have := i32_ge i
    exfalso
    omega
  | succ N ih =>
    intro   s g i    hN
    have hl_s := i32_le s
    have hg_s := i32_ge s
    have hl_g := i32_le g
    have hg_g := i32_ge g
    have hl_i := i32_le i
    have hg_i := i32_ge i
    refine am_e1 (v := i) hi_164_7 rfl ?_
    refine am_e2 (v := b) hi_164_9 rfl ?_
    refine cm_20t h hi_164_10 hc_b (by decide) rfl fun t1 ht1 ht1b => ?_
    refine am_e32n (as := [.ref t1]) (la := [some (.ref t1)]) (rest := [.int i]) hi_164_13 (am_hd0 (M := 164) (by decide) 13) (Nat.le_of_ble_eq_true rfl) (Nat.le_of_ble_eq_true rfl) (show 1 ≤ am_P0.2.2.1 36 from by decide +kernel) rfl (cl_recv ht1) rfl rfl (ck_rows (d := (d + 1)) h ht1  ) ?_
    rintro v2 S3 ⟨r4, rfl, rfl, h6, h7, h8⟩
    have h6_ : r4.toInt = iv Sb t1 1 := h6
    have h7_ : 0 ≤ r4.toInt := h7
    have h8_ : r4.toInt ≤ 2097154 := h8
    show am_E _ _ _ _ [some (.ref 32), some (.ref b), some (.int s), some (.int g), some (.int i)] [.int r4, .int i] _ _
    by_cases c10 : r4.toInt ≤ i.toInt
    · refine am_e13t hi_164_16 (am_cT (m := i.toInt) (n := r4.toInt) rfl rfl c10) ?_
      exact hx0 s g i
    · refine am_e13f hi_164_16 (am_cF (m := i.toInt) (n := r4.toInt) rfl rfl c10) ?_
      refine am_e1 (v := s) hi_164_19 rfl ?_
      refine am_e2 (v := b) hi_164_20 rfl ?_
      refine am_e1 (v := i) hi_164_21 rfl ?_
      refine am_e32n (as := [.ref b, .int i]) (la := [some (.ref b), some (.int i), none, none, none]) (rest := [.int s]) hi_164_23 (am_hd0 (M := 164) (by decide) 23) (Nat.le_of_ble_eq_true rfl) (Nat.le_of_ble_eq_true rfl) (show 2 ≤ am_P0.2.2.1 165 from by decide +kernel) rfl rfl rfl rfl (ck_change (d := d) h hc_b  ) ?_
      rintro v11 S12 ⟨r13, rfl, rfl⟩
      show am_E _ _ _ _ [some (.ref 32), some (.ref b), some (.int s), some (.int g), some (.int i)] [.int r13, .int s] _ _
      obtain ⟨z16, hz16⟩ : ∃ q__, am_bin 0 s r13 = q__ := ⟨_, rfl⟩
      refine am_e10 (z := z16) hi_164_26 hz16 ?_
      refine am_e3 (ls' := [some (.ref 32), some (.ref b), some (.int z16), some (.int g), some (.int i)]) hi_164_27 (Nat.le_of_ble_eq_true rfl) rfl ?_
      refine am_e1 (v := g) hi_164_28 rfl ?_
      refine am_e1 (v := z16) hi_164_29 rfl ?_
      refine am_e32n (as := [.int g, .int z16]) (la := [some (.int g), some (.int z16)]) (rest := []) hi_164_30 (am_hd0 (M := 164) (by decide) 30) (Nat.le_of_ble_eq_true rfl) (Nat.le_of_ble_eq_true rfl) (show 2 ≤ am_P0.2.2.1 20 from by decide +kernel) rfl rfl rfl rfl (ck_max (d := (d + 1)) h   ) ?_
      rintro v17 S18 ⟨r19, rfl, rfl, h21, h22, h23⟩
      have h21_ : g.toInt ≤ r19.toInt := h21
      have h22_ : z16.toInt ≤ r19.toInt := h22
      have h23_ : r19.toInt = g.toInt ∨ r19.toInt = z16.toInt := h23
      show am_E _ _ _ _ [some (.ref 32), some (.ref b), some (.int z16), some (.int g), some (.int i)] [.int r19] _ _
      refine am_e3 (ls' := [some (.ref 32), some (.ref b), some (.int z16), some (.int r19), some (.int i)]) hi_164_33 (Nat.le_of_ble_eq_true rfl) rfl ?_
      obtain ⟨z25, hz25, tz25⟩ := am_addI (x := i) (y := 1) (m := i.toInt) (n := (1 : Int)) rfl (by decide) (by omega) (by omega)
      refine am_e5 (v := i) (z := z25) (ls' := [some (.ref 32), some (.ref b), some (.int z16), some (.int r19), some (.int z25)]) hi_164_34 rfl hz25 rfl ?_
      refine am_e18 hi_164_37 ?_
      exact ih z16 r19 z25 (by show 2147483647 - z25.toInt < (N : Int); omega)
theorem ck_greatest {sc : Nat × (Nat → Int32)} {d aw : Nat} {S : am_S} {b : Nat} (h : SH aw S) (hc_b : cl (am_fs S) b = some 8) : am_E (am_PP sc) (d + 2) 164 0 [some (.ref 32), some (.ref b), none, none, none] [] S (am_N fun v S1 => ∃ r : Int32, v = some (.int r) ∧ S = S1) := by
  refine am_e0 hi_164_0 ?_
  refine am_e3 (ls' := [some (.ref 32), some (.ref b), some (.int 0), none, none]) hi_164_1 (Nat.le_of_ble_eq_true rfl) rfl ?_
  refine am_e0 hi_164_2 ?_
  refine am_e3 (ls' := [some (.ref 32), some (.ref b), some (.int 0), some (.int 0), none]) hi_164_3 (Nat.le_of_ble_eq_true rfl) rfl ?_
  refine am_e0 hi_164_4 ?_
  refine am_e3 (ls' := [some (.ref 32), some (.ref b), some (.int 0), some (.int 0), some (.int 0)]) hi_164_5 (Nat.le_of_ble_eq_true rfl) rfl ?_
  refine cf_greatest (d := d) (Sb := S) (b := b) h hc_b   ?_ ((2147483647 - (0 : Int)).toNat + 1) 0 0 0 (by show 2147483647 - (0 : Int) < _; omega)
  · intro s1 g2 i3
    show am_E _ _ _ _ [some (.ref 32), some (.ref b), some (.int s1), some (.int g2), some (.int i3)] [] _ _
    refine am_e1 (v := g2) hi_164_40 rfl ?_
    refine am_e33 hi_164_41 ?_
    exact ⟨g2, rfl, rfl⟩
theorem cf_flawedOf {sc : Nat × (Nat → Int32)} {d aw : Nat} {Sb : am_S} {b : Nat} {Q : Option (Option Value) → am_S → Prop} (h : SH aw Sb) (hc_b : cl (am_fs Sb) b = some 8) (hx0 : ∀ (x5 : Option Value) (x6 : Option Value) (s f i : Int32), am_E (am_PP sc) (d + 6) 168 116 [some (.ref 32), some (.ref b), some (.int s), some (.int f), some (.int i), x5, x6] [] Sb Q) : ∀ (N : Nat) (x5 : Option Value) (x6 : Option Value) (s f i : Int32), 2147483647 - i.toInt < (N : Int) → am_E (am_PP sc) (d + 6) 168 7 [some (.ref 32), some (.ref b), some (.int s), some (.int f), some (.int i), x5, x6] [] Sb Q := by
  intro N
  induction N with
  | zero =>
    intro  x5 x6 s f i    hN
    have := i32_le s
    have := i32_le f
    have := i32_le i
    have := i32_ge s
    have := i32_ge f
    have := i32_ge i
    exfalso
    omega
  | succ N ih =>
    intro  x5 x6 s f i    hN
    have hl_s := i32_le s
    have hg_s := i32_ge s
    have hl_f := i32_le f
    have hg_f := i32_ge f
    have hl_i := i32_le i
    have hg_i := i32_ge i
    refine am_e1 (v := i) hi_168_7 rfl ?_
    refine am_e2 (v := b) hi_168_9 rfl ?_
    refine cm_20t h hi_168_10 hc_b (by decide) rfl fun t1 ht1 ht1b => ?_
    refine am_e32n (as := [.ref t1]) (la := [some (.ref t1)]) (rest := [.int i]) hi_168_13 (am_hd0 (M := 168) (by decide) 13) (Nat.le_of_ble_eq_true rfl) (Nat.le_of_ble_eq_true rfl) (show 1 ≤ am_P0.2.2.1 36 from by decide +kernel) rfl (cl_recv ht1) rfl rfl (ck_rows (d := (d + 5)) h ht1  ) ?_
    rintro v2 S3 ⟨r4, rfl, rfl, h6, h7, h8⟩
    have h6_ : r4.toInt = iv Sb t1 1 := h6
    have h7_ : 0 ≤ r4.toInt := h7
    have h8_ : r4.toInt ≤ 2097154 := h8
    show am_E _ _ _ _ [some (.ref 32), some (.ref b), some (.int s), some (.int f), some (.int i), x5, x6] [.int r4, .int i] _ _
    by_cases c10 : r4.toInt ≤ i.toInt
    · refine am_e13t hi_168_16 (am_cT (m := i.toInt) (n := r4.toInt) rfl rfl c10) ?_
      exact hx0 x5 x6 s f i
    · refine am_e13f hi_168_16 (am_cF (m := i.toInt) (n := r4.toInt) rfl rfl c10) ?_
      refine am_e2 (v := b) hi_168_19 rfl ?_
      refine cm_20t h hi_168_20 hc_b (by decide) rfl fun t11 ht11 ht11b => ?_
      refine am_e1 (v := i) hi_168_23 rfl ?_
      refine am_e0 hi_168_25 ?_
      refine am_e32n (as := [.ref t11, .int i, .int 0]) (la := [some (.ref t11), some (.int i), some (.int 0)]) (rest := []) hi_168_26 (am_hd0 (M := 168) (by decide) 26) (Nat.le_of_ble_eq_true rfl) (Nat.le_of_ble_eq_true rfl) (show 3 ≤ am_P0.2.2.1 54 from by decide +kernel) rfl (cl_recv ht11) rfl rfl (ck_get (d := (d + 5)) h ht11  ) ?_
      rintro v12 S13 ⟨r14, rfl, rfl⟩
      show am_E _ _ _ _ [some (.ref 32), some (.ref b), some (.int s), some (.int f), some (.int i), x5, x6] [.int r14] _ _
      refine am_e3 (ls' := [some (.ref 32), some (.ref b), some (.int s), some (.int f), some (.int i), some (.int r14), x6]) hi_168_29 (Nat.le_of_ble_eq_true rfl) rfl ?_
      refine am_e1 (v := r14) hi_168_31 rfl ?_
      refine am_e0 hi_168_33 ?_
      by_cases c17 : ¬ r14.toInt = (34 : Int)
      · refine am_e13t hi_168_35 (am_cT (m := r14.toInt) (n := (34 : Int)) rfl (by decide) c17) ?_
        refine am_e1 (v := i) hi_168_42 rfl ?_
        refine am_e2 (v := b) hi_168_44 rfl ?_
        refine cm_20t h hi_168_45 hc_b (by decide) rfl fun t18 ht18 ht18b => ?_
        refine am_e32n (as := [.ref t18]) (la := [some (.ref t18)]) (rest := [.int i]) hi_168_48 (am_hd0 (M := 168) (by decide) 48) (Nat.le_of_ble_eq_true rfl) (Nat.le_of_ble_eq_true rfl) (show 1 ≤ am_P0.2.2.1 36 from by decide +kernel) rfl (cl_recv ht18) rfl rfl (ck_rows (d := (d + 5)) h ht18  ) ?_
        rintro v19 S20 ⟨r21, rfl, rfl, h23, h24, h25⟩
        have h23_ : r21.toInt = iv Sb t18 1 := h23
        have h24_ : 0 ≤ r21.toInt := h24
        have h25_ : r21.toInt ≤ 2097154 := h25
        show am_E _ _ _ _ [some (.ref 32), some (.ref b), some (.int s), some (.int f), some (.int i), some (.int r14), x6] [.int r21, .int i] _ _
        refine am_e0 hi_168_51 ?_
        obtain ⟨z27, hz27, tz27⟩ := am_subI (x := r21) (y := 1) (m := r21.toInt) (n := (1 : Int)) rfl (by decide) (by omega) (by omega)
        refine am_e10 (z := z27) hi_168_52 hz27 ?_
        by_cases c28 : ¬ i.toInt = z27.toInt
        · refine am_e13t hi_168_53 (am_cT (m := i.toInt) (n := z27.toInt) rfl rfl c28) ?_
          refine am_e0 hi_168_67 ?_
          refine am_e3 (ls' := [some (.ref 32), some (.ref b), some (.int s), some (.int f), some (.int i), some (.int r14), some (.int 0)]) hi_168_68 (Nat.le_of_ble_eq_true rfl) rfl ?_
          refine am_e1 (v := s) hi_168_70 rfl ?_
          refine am_e2 (v := b) hi_168_71 rfl ?_
          refine am_e1 (v := i) hi_168_72 rfl ?_
          refine am_e32n (as := [.ref b, .int i]) (la := [some (.ref b), some (.int i), none, none, none]) (rest := [.int s]) hi_168_74 (am_hd0 (M := 168) (by decide) 74) (Nat.le_of_ble_eq_true rfl) (Nat.le_of_ble_eq_true rfl) (show 2 ≤ am_P0.2.2.1 165 from by decide +kernel) rfl rfl rfl rfl (ck_change (d := (d + 4)) h hc_b  ) ?_
          rintro v29 S30 ⟨r31, rfl, rfl⟩
          show am_E _ _ _ _ [some (.ref 32), some (.ref b), some (.int s), some (.int f), some (.int i), some (.int r14), some (.int 0)] [.int r31, .int s] _ _
          obtain ⟨z34, hz34⟩ : ∃ q__, am_bin 0 s r31 = q__ := ⟨_, rfl⟩
          refine am_e10 (z := z34) hi_168_77 hz34 ?_
          refine am_e3 (ls' := [some (.ref 32), some (.ref b), some (.int z34), some (.int f), some (.int i), some (.int r14), some (.int 0)]) hi_168_78 (Nat.le_of_ble_eq_true rfl) rfl ?_
          refine am_e1 (v := 0) hi_168_79 rfl ?_
          refine am_e12f hi_168_81 (by decide) ?_
          refine am_e1 (v := z34) hi_168_84 rfl ?_
          by_cases c35 : z34.toInt < (0 : Int)
          · refine am_e12t hi_168_85 (am_cT (m := z34.toInt) (n := (0 : Int)) rfl (by decide) c35) ?_
            obtain ⟨z36, hz36⟩ : ∃ q__, am_bin 0 f 1 = q__ := ⟨_, rfl⟩
            refine am_e5 (v := f) (z := z36) (ls' := [some (.ref 32), some (.ref b), some (.int z34), some (.int z36), some (.int i), some (.int r14), some (.int 0)]) hi_168_107 rfl hz36 rfl ?_
            obtain ⟨z37, hz37, tz37⟩ := am_addI (x := i) (y := 1) (m := i.toInt) (n := (1 : Int)) rfl (by decide) (by omega) (by omega)
            refine am_e5 (v := i) (z := z37) (ls' := [some (.ref 32), some (.ref b), some (.int z34), some (.int z36), some (.int z37), some (.int r14), some (.int 0)]) hi_168_110 rfl hz37 rfl ?_
            refine am_e18 hi_168_113 ?_
            exact ih (some (.int r14)) (some (.int 0)) z34 z36 z37 (by show 2147483647 - z37.toInt < (N : Int); omega)
          · refine am_e12f hi_168_85 (am_cF (m := z34.toInt) (n := (0 : Int)) rfl (by decide) c35) ?_
            refine am_e2 (v := b) hi_168_88 rfl ?_
            refine am_e1 (v := i) hi_168_89 rfl ?_
            refine am_e32n (as := [.ref b, .int i]) (la := [some (.ref b), some (.int i), none]) (rest := []) hi_168_91 (am_hd0 (M := 168) (by decide) 91) (Nat.le_of_ble_eq_true rfl) (Nat.le_of_ble_eq_true rfl) (show 2 ≤ am_P0.2.2.1 169 from by decide +kernel) rfl rfl rfl rfl (ck_leads (d := (d + 4)) h hc_b  ) ?_
            rintro v38 S39 ⟨r40, rfl, hb42, rfl⟩
            have hb42_ : r40.toInt = 0 ∨ r40.toInt = 1 := hb42.elim (fun e => Or.inl (by rw [e]; rfl)) (fun e => Or.inr (by rw [e]; rfl))
            show am_E _ _ _ _ [some (.ref 32), some (.ref b), some (.int z34), some (.int f), some (.int i), some (.int r14), some (.int 0)] [.int r40] _ _
            by_cases c43 : ¬ r40.toInt = (0 : Int)
            · refine am_e12t hi_168_94 (am_cT (m := r40.toInt) (n := (0 : Int)) rfl (by decide) c43) ?_
              obtain ⟨z44, hz44⟩ : ∃ q__, am_bin 0 f 1 = q__ := ⟨_, rfl⟩
              refine am_e5 (v := f) (z := z44) (ls' := [some (.ref 32), some (.ref b), some (.int z34), some (.int z44), some (.int i), some (.int r14), some (.int 0)]) hi_168_107 rfl hz44 rfl ?_
              obtain ⟨z45, hz45, tz45⟩ := am_addI (x := i) (y := 1) (m := i.toInt) (n := (1 : Int)) rfl (by decide) (by omega) (by omega)
              refine am_e5 (v := i) (z := z45) (ls' := [some (.ref 32), some (.ref b), some (.int z34), some (.int z44), some (.int z45), some (.int r14), some (.int 0)]) hi_168_110 rfl hz45 rfl ?_
              refine am_e18 hi_168_113 ?_
              exact ih (some (.int r14)) (some (.int 0)) z34 z44 z45 (by show 2147483647 - z45.toInt < (N : Int); omega)
            · refine am_e12f hi_168_94 (am_cF (m := r40.toInt) (n := (0 : Int)) rfl (by decide) c43) ?_
              refine am_e2 (v := 32) hi_168_97 rfl ?_
              refine am_e2 (v := b) hi_168_98 rfl ?_
              refine am_e1 (v := i) hi_168_99 rfl ?_
              refine am_e32n (as := [.ref 32, .ref b, .int i]) (la := [some (.ref 32), some (.ref b), some (.int i), none]) (rest := []) hi_168_101 (am_hd0 (M := 168) (by decide) 101) (Nat.le_of_ble_eq_true rfl) (Nat.le_of_ble_eq_true rfl) (show 3 ≤ am_P0.2.2.1 170 from by decide +kernel) rfl (cl_recv (h.1.s (32, 10) (by decide))) rfl rfl (ck_means (d := d) h hc_b  ) ?_
              rintro v46 S47 ⟨r48, rfl, hb50, rfl⟩
              have hb50_ : r48.toInt = 0 ∨ r48.toInt = 1 := hb50.elim (fun e => Or.inl (by rw [e]; rfl)) (fun e => Or.inr (by rw [e]; rfl))
              show am_E _ _ _ _ [some (.ref 32), some (.ref b), some (.int z34), some (.int f), some (.int i), some (.int r14), some (.int 0)] [.int r48] _ _
              by_cases c51 : r48.toInt = (0 : Int)
              · refine am_e12t hi_168_104 (am_cT (m := r48.toInt) (n := (0 : Int)) rfl (by decide) c51) ?_
                obtain ⟨z52, hz52, tz52⟩ := am_addI (x := i) (y := 1) (m := i.toInt) (n := (1 : Int)) rfl (by decide) (by omega) (by omega)
                refine am_e5 (v := i) (z := z52) (ls' := [some (.ref 32), some (.ref b), some (.int z34), some (.int f), some (.int z52), some (.int r14), some (.int 0)]) hi_168_110 rfl hz52 rfl ?_
                refine am_e18 hi_168_113 ?_
                exact ih (some (.int r14)) (some (.int 0)) z34 f z52 (by show 2147483647 - z52.toInt < (N : Int); omega)
              · refine am_e12f hi_168_104 (am_cF (m := r48.toInt) (n := (0 : Int)) rfl (by decide) c51) ?_
                obtain ⟨z53, hz53⟩ : ∃ q__, am_bin 0 f 1 = q__ := ⟨_, rfl⟩
                refine am_e5 (v := f) (z := z53) (ls' := [some (.ref 32), some (.ref b), some (.int z34), some (.int z53), some (.int i), some (.int r14), some (.int 0)]) hi_168_107 rfl hz53 rfl ?_
                obtain ⟨z54, hz54, tz54⟩ := am_addI (x := i) (y := 1) (m := i.toInt) (n := (1 : Int)) rfl (by decide) (by omega) (by omega)
                refine am_e5 (v := i) (z := z54) (ls' := [some (.ref 32), some (.ref b), some (.int z34), some (.int z53), some (.int z54), some (.int r14), some (.int 0)]) hi_168_110 rfl hz54 rfl ?_
                refine am_e18 hi_168_113 ?_
                exact ih (some (.int r14)) (some (.int 0)) z34 z53 z54 (by show 2147483647 - z54.toInt < (N : Int); omega)
        · refine am_e13f hi_168_53 (am_cF (m := i.toInt) (n := z27.toInt) rfl rfl c28) ?_
          refine am_e1 (v := r14) hi_168_56 rfl ?_
          refine am_e0 hi_168_58 ?_
          by_cases c55 : r14.toInt = (45 : Int)
          · refine am_e13t hi_168_60 (am_cT (m := r14.toInt) (n := (45 : Int)) rfl (by decide) c55) ?_
            refine am_e0 hi_168_67 ?_
            refine am_e3 (ls' := [some (.ref 32), some (.ref b), some (.int s), some (.int f), some (.int i), some (.int r14), some (.int 0)]) hi_168_68 (Nat.le_of_ble_eq_true rfl) rfl ?_
            refine am_e1 (v := s) hi_168_70 rfl ?_
            refine am_e2 (v := b) hi_168_71 rfl ?_
            refine am_e1 (v := i) hi_168_72 rfl ?_
            refine am_e32n (as := [.ref b, .int i]) (la := [some (.ref b), some (.int i), none, none, none]) (rest := [.int s]) hi_168_74 (am_hd0 (M := 168) (by decide) 74) (Nat.le_of_ble_eq_true rfl) (Nat.le_of_ble_eq_true rfl) (show 2 ≤ am_P0.2.2.1 165 from by decide +kernel) rfl rfl rfl rfl (ck_change (d := (d + 4)) h hc_b  ) ?_
            rintro v56 S57 ⟨r58, rfl, rfl⟩
            show am_E _ _ _ _ [some (.ref 32), some (.ref b), some (.int s), some (.int f), some (.int i), some (.int r14), some (.int 0)] [.int r58, .int s] _ _
            obtain ⟨z61, hz61⟩ : ∃ q__, am_bin 0 s r58 = q__ := ⟨_, rfl⟩
            refine am_e10 (z := z61) hi_168_77 hz61 ?_
            refine am_e3 (ls' := [some (.ref 32), some (.ref b), some (.int z61), some (.int f), some (.int i), some (.int r14), some (.int 0)]) hi_168_78 (Nat.le_of_ble_eq_true rfl) rfl ?_
            refine am_e1 (v := 0) hi_168_79 rfl ?_
            refine am_e12f hi_168_81 (by decide) ?_
            refine am_e1 (v := z61) hi_168_84 rfl ?_
            by_cases c62 : z61.toInt < (0 : Int)
            · refine am_e12t hi_168_85 (am_cT (m := z61.toInt) (n := (0 : Int)) rfl (by decide) c62) ?_
              obtain ⟨z63, hz63⟩ : ∃ q__, am_bin 0 f 1 = q__ := ⟨_, rfl⟩
              refine am_e5 (v := f) (z := z63) (ls' := [some (.ref 32), some (.ref b), some (.int z61), some (.int z63), some (.int i), some (.int r14), some (.int 0)]) hi_168_107 rfl hz63 rfl ?_
              obtain ⟨z64, hz64, tz64⟩ := am_addI (x := i) (y := 1) (m := i.toInt) (n := (1 : Int)) rfl (by decide) (by omega) (by omega)
              refine am_e5 (v := i) (z := z64) (ls' := [some (.ref 32), some (.ref b), some (.int z61), some (.int z63), some (.int z64), some (.int r14), some (.int 0)]) hi_168_110 rfl hz64 rfl ?_
              refine am_e18 hi_168_113 ?_
              exact ih (some (.int r14)) (some (.int 0)) z61 z63 z64 (by show 2147483647 - z64.toInt < (N : Int); omega)
            · refine am_e12f hi_168_85 (am_cF (m := z61.toInt) (n := (0 : Int)) rfl (by decide) c62) ?_
              refine am_e2 (v := b) hi_168_88 rfl ?_
              refine am_e1 (v := i) hi_168_89 rfl ?_
              refine am_e32n (as := [.ref b, .int i]) (la := [some (.ref b), some (.int i), none]) (rest := []) hi_168_91 (am_hd0 (M := 168) (by decide) 91) (Nat.le_of_ble_eq_true rfl) (Nat.le_of_ble_eq_true rfl) (show 2 ≤ am_P0.2.2.1 169 from by decide +kernel) rfl rfl rfl rfl (ck_leads (d := (d + 4)) h hc_b  ) ?_
              rintro v65 S66 ⟨r67, rfl, hb69, rfl⟩
              have hb69_ : r67.toInt = 0 ∨ r67.toInt = 1 := hb69.elim (fun e => Or.inl (by rw [e]; rfl)) (fun e => Or.inr (by rw [e]; rfl))
              show am_E _ _ _ _ [some (.ref 32), some (.ref b), some (.int z61), some (.int f), some (.int i), some (.int r14), some (.int 0)] [.int r67] _ _
              by_cases c70 : ¬ r67.toInt = (0 : Int)
              · refine am_e12t hi_168_94 (am_cT (m := r67.toInt) (n := (0 : Int)) rfl (by decide) c70) ?_
                obtain ⟨z71, hz71⟩ : ∃ q__, am_bin 0 f 1 = q__ := ⟨_, rfl⟩
                refine am_e5 (v := f) (z := z71) (ls' := [some (.ref 32), some (.ref b), some (.int z61), some (.int z71), some (.int i), some (.int r14), some (.int 0)]) hi_168_107 rfl hz71 rfl ?_
                obtain ⟨z72, hz72, tz72⟩ := am_addI (x := i) (y := 1) (m := i.toInt) (n := (1 : Int)) rfl (by decide) (by omega) (by omega)
                refine am_e5 (v := i) (z := z72) (ls' := [some (.ref 32), some (.ref b), some (.int z61), some (.int z71), some (.int z72), some (.int r14), some (.int 0)]) hi_168_110 rfl hz72 rfl ?_
                refine am_e18 hi_168_113 ?_
                exact ih (some (.int r14)) (some (.int 0)) z61 z71 z72 (by show 2147483647 - z72.toInt < (N : Int); omega)
              · refine am_e12f hi_168_94 (am_cF (m := r67.toInt) (n := (0 : Int)) rfl (by decide) c70) ?_
                refine am_e2 (v := 32) hi_168_97 rfl ?_
                refine am_e2 (v := b) hi_168_98 rfl ?_
                refine am_e1 (v := i) hi_168_99 rfl ?_
                refine am_e32n (as := [.ref 32, .ref b, .int i]) (la := [some (.ref 32), some (.ref b), some (.int i), none]) (rest := []) hi_168_101 (am_hd0 (M := 168) (by decide) 101) (Nat.le_of_ble_eq_true rfl) (Nat.le_of_ble_eq_true rfl) (show 3 ≤ am_P0.2.2.1 170 from by decide +kernel) rfl (cl_recv (h.1.s (32, 10) (by decide))) rfl rfl (ck_means (d := d) h hc_b  ) ?_
                rintro v73 S74 ⟨r75, rfl, hb77, rfl⟩
                have hb77_ : r75.toInt = 0 ∨ r75.toInt = 1 := hb77.elim (fun e => Or.inl (by rw [e]; rfl)) (fun e => Or.inr (by rw [e]; rfl))
                show am_E _ _ _ _ [some (.ref 32), some (.ref b), some (.int z61), some (.int f), some (.int i), some (.int r14), some (.int 0)] [.int r75] _ _
                by_cases c78 : r75.toInt = (0 : Int)
                · refine am_e12t hi_168_104 (am_cT (m := r75.toInt) (n := (0 : Int)) rfl (by decide) c78) ?_
                  obtain ⟨z79, hz79, tz79⟩ := am_addI (x := i) (y := 1) (m := i.toInt) (n := (1 : Int)) rfl (by decide) (by omega) (by omega)
                  refine am_e5 (v := i) (z := z79) (ls' := [some (.ref 32), some (.ref b), some (.int z61), some (.int f), some (.int z79), some (.int r14), some (.int 0)]) hi_168_110 rfl hz79 rfl ?_
                  refine am_e18 hi_168_113 ?_
                  exact ih (some (.int r14)) (some (.int 0)) z61 f z79 (by show 2147483647 - z79.toInt < (N : Int); omega)
                · refine am_e12f hi_168_104 (am_cF (m := r75.toInt) (n := (0 : Int)) rfl (by decide) c78) ?_
                  obtain ⟨z80, hz80⟩ : ∃ q__, am_bin 0 f 1 = q__ := ⟨_, rfl⟩
                  refine am_e5 (v := f) (z := z80) (ls' := [some (.ref 32), some (.ref b), some (.int z61), some (.int z80), some (.int i), some (.int r14), some (.int 0)]) hi_168_107 rfl hz80 rfl ?_
                  obtain ⟨z81, hz81, tz81⟩ := am_addI (x := i) (y := 1) (m := i.toInt) (n := (1 : Int)) rfl (by decide) (by omega) (by omega)
                  refine am_e5 (v := i) (z := z81) (ls' := [some (.ref 32), some (.ref b), some (.int z61), some (.int z80), some (.int z81), some (.int r14), some (.int 0)]) hi_168_110 rfl hz81 rfl ?_
                  refine am_e18 hi_168_113 ?_
                  exact ih (some (.int r14)) (some (.int 0)) z61 z80 z81 (by show 2147483647 - z81.toInt < (N : Int); omega)
          · refine am_e13f hi_168_60 (am_cF (m := r14.toInt) (n := (45 : Int)) rfl (by decide) c55) ?_
            refine am_e0 hi_168_63 ?_
            refine am_e18 hi_168_64 ?_
            refine am_e3 (ls' := [some (.ref 32), some (.ref b), some (.int s), some (.int f), some (.int i), some (.int r14), some (.int 1)]) hi_168_68 (Nat.le_of_ble_eq_true rfl) rfl ?_
            refine am_e1 (v := s) hi_168_70 rfl ?_
            refine am_e2 (v := b) hi_168_71 rfl ?_
            refine am_e1 (v := i) hi_168_72 rfl ?_
            refine am_e32n (as := [.ref b, .int i]) (la := [some (.ref b), some (.int i), none, none, none]) (rest := [.int s]) hi_168_74 (am_hd0 (M := 168) (by decide) 74) (Nat.le_of_ble_eq_true rfl) (Nat.le_of_ble_eq_true rfl) (show 2 ≤ am_P0.2.2.1 165 from by decide +kernel) rfl rfl rfl rfl (ck_change (d := (d + 4)) h hc_b  ) ?_
            rintro v82 S83 ⟨r84, rfl, rfl⟩
            show am_E _ _ _ _ [some (.ref 32), some (.ref b), some (.int s), some (.int f), some (.int i), some (.int r14), some (.int 1)] [.int r84, .int s] _ _
            obtain ⟨z87, hz87⟩ : ∃ q__, am_bin 0 s r84 = q__ := ⟨_, rfl⟩
            refine am_e10 (z := z87) hi_168_77 hz87 ?_
            refine am_e3 (ls' := [some (.ref 32), some (.ref b), some (.int z87), some (.int f), some (.int i), some (.int r14), some (.int 1)]) hi_168_78 (Nat.le_of_ble_eq_true rfl) rfl ?_
            refine am_e1 (v := 1) hi_168_79 rfl ?_
            refine am_e12t hi_168_81 (by decide) ?_
            obtain ⟨z88, hz88⟩ : ∃ q__, am_bin 0 f 1 = q__ := ⟨_, rfl⟩
            refine am_e5 (v := f) (z := z88) (ls' := [some (.ref 32), some (.ref b), some (.int z87), some (.int z88), some (.int i), some (.int r14), some (.int 1)]) hi_168_107 rfl hz88 rfl ?_
            obtain ⟨z89, hz89, tz89⟩ := am_addI (x := i) (y := 1) (m := i.toInt) (n := (1 : Int)) rfl (by decide) (by omega) (by omega)
            refine am_e5 (v := i) (z := z89) (ls' := [some (.ref 32), some (.ref b), some (.int z87), some (.int z88), some (.int z89), some (.int r14), some (.int 1)]) hi_168_110 rfl hz89 rfl ?_
            refine am_e18 hi_168_113 ?_
            exact ih (some (.int r14)) (some (.int 1)) z87 z88 z89 (by show 2147483647 - z89.toInt < (N : Int); omega)
      · refine am_e13f hi_168_35 (am_cF (m := r14.toInt) (n := (34 : Int)) rfl (by decide) c17) ?_
        refine am_e1 (v := s) hi_168_38 rfl ?_
        by_cases c90 : ¬ s.toInt = (0 : Int)
        · refine am_e12t hi_168_39 (am_cT (m := s.toInt) (n := (0 : Int)) rfl (by decide) c90) ?_
          refine am_e0 hi_168_63 ?_
          refine am_e18 hi_168_64 ?_
          refine am_e3 (ls' := [some (.ref 32), some (.ref b), some (.int s), some (.int f), some (.int i), some (.int r14), some (.int 1)]) hi_168_68 (Nat.le_of_ble_eq_true rfl) rfl ?_
          refine am_e1 (v := s) hi_168_70 rfl ?_
          refine am_e2 (v := b) hi_168_71 rfl ?_
          refine am_e1 (v := i) hi_168_72 rfl ?_
          refine am_e32n (as := [.ref b, .int i]) (la := [some (.ref b), some (.int i), none, none, none]) (rest := [.int s]) hi_168_74 (am_hd0 (M := 168) (by decide) 74) (Nat.le_of_ble_eq_true rfl) (Nat.le_of_ble_eq_true rfl) (show 2 ≤ am_P0.2.2.1 165 from by decide +kernel) rfl rfl rfl rfl (ck_change (d := (d + 4)) h hc_b  ) ?_
          rintro v91 S92 ⟨r93, rfl, rfl⟩
          show am_E _ _ _ _ [some (.ref 32), some (.ref b), some (.int s), some (.int f), some (.int i), some (.int r14), some (.int 1)] [.int r93, .int s] _ _
          obtain ⟨z96, hz96⟩ : ∃ q__, am_bin 0 s r93 = q__ := ⟨_, rfl⟩
          refine am_e10 (z := z96) hi_168_77 hz96 ?_
          refine am_e3 (ls' := [some (.ref 32), some (.ref b), some (.int z96), some (.int f), some (.int i), some (.int r14), some (.int 1)]) hi_168_78 (Nat.le_of_ble_eq_true rfl) rfl ?_
          refine am_e1 (v := 1) hi_168_79 rfl ?_
          refine am_e12t hi_168_81 (by decide) ?_
          obtain ⟨z97, hz97⟩ : ∃ q__, am_bin 0 f 1 = q__ := ⟨_, rfl⟩
          refine am_e5 (v := f) (z := z97) (ls' := [some (.ref 32), some (.ref b), some (.int z96), some (.int z97), some (.int i), some (.int r14), some (.int 1)]) hi_168_107 rfl hz97 rfl ?_
          obtain ⟨z98, hz98, tz98⟩ := am_addI (x := i) (y := 1) (m := i.toInt) (n := (1 : Int)) rfl (by decide) (by omega) (by omega)
          refine am_e5 (v := i) (z := z98) (ls' := [some (.ref 32), some (.ref b), some (.int z96), some (.int z97), some (.int z98), some (.int r14), some (.int 1)]) hi_168_110 rfl hz98 rfl ?_
          refine am_e18 hi_168_113 ?_
          exact ih (some (.int r14)) (some (.int 1)) z96 z97 z98 (by show 2147483647 - z98.toInt < (N : Int); omega)
        · refine am_e12f hi_168_39 (am_cF (m := s.toInt) (n := (0 : Int)) rfl (by decide) c90) ?_
          refine am_e1 (v := i) hi_168_42 rfl ?_
          refine am_e2 (v := b) hi_168_44 rfl ?_
          refine cm_20t h hi_168_45 hc_b (by decide) rfl fun t99 ht99 ht99b => ?_
          refine am_e32n (as := [.ref t99]) (la := [some (.ref t99)]) (rest := [.int i]) hi_168_48 (am_hd0 (M := 168) (by decide) 48) (Nat.le_of_ble_eq_true rfl) (Nat.le_of_ble_eq_true rfl) (show 1 ≤ am_P0.2.2.1 36 from by decide +kernel) rfl (cl_recv ht99) rfl rfl (ck_rows (d := (d + 5)) h ht99  ) ?_
          rintro v100 S101 ⟨r102, rfl, rfl, h104, h105, h106⟩
          have h104_ : r102.toInt = iv Sb t99 1 := h104
          have h105_ : 0 ≤ r102.toInt := h105
          have h106_ : r102.toInt ≤ 2097154 := h106
          show am_E _ _ _ _ [some (.ref 32), some (.ref b), some (.int s), some (.int f), some (.int i), some (.int r14), x6] [.int r102, .int i] _ _
          refine am_e0 hi_168_51 ?_
          obtain ⟨z108, hz108, tz108⟩ := am_subI (x := r102) (y := 1) (m := r102.toInt) (n := (1 : Int)) rfl (by decide) (by omega) (by omega)
          refine am_e10 (z := z108) hi_168_52 hz108 ?_
          by_cases c109 : ¬ i.toInt = z108.toInt
          · refine am_e13t hi_168_53 (am_cT (m := i.toInt) (n := z108.toInt) rfl rfl c109) ?_
            refine am_e0 hi_168_67 ?_
            refine am_e3 (ls' := [some (.ref 32), some (.ref b), some (.int s), some (.int f), some (.int i), some (.int r14), some (.int 0)]) hi_168_68 (Nat.le_of_ble_eq_true rfl) rfl ?_
            refine am_e1 (v := s) hi_168_70 rfl ?_
            refine am_e2 (v := b) hi_168_71 rfl ?_
            refine am_e1 (v := i) hi_168_72 rfl ?_
            refine am_e32n (as := [.ref b, .int i]) (la := [some (.ref b), some (.int i), none, none, none]) (rest := [.int s]) hi_168_74 (am_hd0 (M := 168) (by decide) 74) (Nat.le_of_ble_eq_true rfl) (Nat.le_of_ble_eq_true rfl) (show 2 ≤ am_P0.2.2.1 165 from by decide +kernel) rfl rfl rfl rfl (ck_change (d := (d + 4)) h hc_b  ) ?_
            rintro v110 S111 ⟨r112, rfl, rfl⟩
            show am_E _ _ _ _ [some (.ref 32), some (.ref b), some (.int s), some (.int f), some (.int i), some (.int r14), some (.int 0)] [.int r112, .int s] _ _
            obtain ⟨z115, hz115⟩ : ∃ q__, am_bin 0 s r112 = q__ := ⟨_, rfl⟩
            refine am_e10 (z := z115) hi_168_77 hz115 ?_
            refine am_e3 (ls' := [some (.ref 32), some (.ref b), some (.int z115), some (.int f), some (.int i), some (.int r14), some (.int 0)]) hi_168_78 (Nat.le_of_ble_eq_true rfl) rfl ?_
            refine am_e1 (v := 0) hi_168_79 rfl ?_
            refine am_e12f hi_168_81 (by decide) ?_
            refine am_e1 (v := z115) hi_168_84 rfl ?_
            by_cases c116 : z115.toInt < (0 : Int)
            · refine am_e12t hi_168_85 (am_cT (m := z115.toInt) (n := (0 : Int)) rfl (by decide) c116) ?_
              obtain ⟨z117, hz117⟩ : ∃ q__, am_bin 0 f 1 = q__ := ⟨_, rfl⟩
              refine am_e5 (v := f) (z := z117) (ls' := [some (.ref 32), some (.ref b), some (.int z115), some (.int z117), some (.int i), some (.int r14), some (.int 0)]) hi_168_107 rfl hz117 rfl ?_
              obtain ⟨z118, hz118, tz118⟩ := am_addI (x := i) (y := 1) (m := i.toInt) (n := (1 : Int)) rfl (by decide) (by omega) (by omega)
              refine am_e5 (v := i) (z := z118) (ls' := [some (.ref 32), some (.ref b), some (.int z115), some (.int z117), some (.int z118), some (.int r14), some (.int 0)]) hi_168_110 rfl hz118 rfl ?_
              refine am_e18 hi_168_113 ?_
              exact ih (some (.int r14)) (some (.int 0)) z115 z117 z118 (by show 2147483647 - z118.toInt < (N : Int); omega)
            · refine am_e12f hi_168_85 (am_cF (m := z115.toInt) (n := (0 : Int)) rfl (by decide) c116) ?_
              refine am_e2 (v := b) hi_168_88 rfl ?_
              refine am_e1 (v := i) hi_168_89 rfl ?_
              refine am_e32n (as := [.ref b, .int i]) (la := [some (.ref b), some (.int i), none]) (rest := []) hi_168_91 (am_hd0 (M := 168) (by decide) 91) (Nat.le_of_ble_eq_true rfl) (Nat.le_of_ble_eq_true rfl) (show 2 ≤ am_P0.2.2.1 169 from by decide +kernel) rfl rfl rfl rfl (ck_leads (d := (d + 4)) h hc_b  ) ?_
              rintro v119 S120 ⟨r121, rfl, hb123, rfl⟩
              have hb123_ : r121.toInt = 0 ∨ r121.toInt = 1 := hb123.elim (fun e => Or.inl (by rw [e]; rfl)) (fun e => Or.inr (by rw [e]; rfl))
              show am_E _ _ _ _ [some (.ref 32), some (.ref b), some (.int z115), some (.int f), some (.int i), some (.int r14), some (.int 0)] [.int r121] _ _
              by_cases c124 : ¬ r121.toInt = (0 : Int)
              · refine am_e12t hi_168_94 (am_cT (m := r121.toInt) (n := (0 : Int)) rfl (by decide) c124) ?_
                obtain ⟨z125, hz125⟩ : ∃ q__, am_bin 0 f 1 = q__ := ⟨_, rfl⟩
                refine am_e5 (v := f) (z := z125) (ls' := [some (.ref 32), some (.ref b), some (.int z115), some (.int z125), some (.int i), some (.int r14), some (.int 0)]) hi_168_107 rfl hz125 rfl ?_
                obtain ⟨z126, hz126, tz126⟩ := am_addI (x := i) (y := 1) (m := i.toInt) (n := (1 : Int)) rfl (by decide) (by omega) (by omega)
                refine am_e5 (v := i) (z := z126) (ls' := [some (.ref 32), some (.ref b), some (.int z115), some (.int z125), some (.int z126), some (.int r14), some (.int 0)]) hi_168_110 rfl hz126 rfl ?_
                refine am_e18 hi_168_113 ?_
                exact ih (some (.int r14)) (some (.int 0)) z115 z125 z126 (by show 2147483647 - z126.toInt < (N : Int); omega)
              · refine am_e12f hi_168_94 (am_cF (m := r121.toInt) (n := (0 : Int)) rfl (by decide) c124) ?_
                refine am_e2 (v := 32) hi_168_97 rfl ?_
                refine am_e2 (v := b) hi_168_98 rfl ?_
                refine am_e1 (v := i) hi_168_99 rfl ?_
                refine am_e32n (as := [.ref 32, .ref b, .int i]) (la := [some (.ref 32), some (.ref b), some (.int i), none]) (rest := []) hi_168_101 (am_hd0 (M := 168) (by decide) 101) (Nat.le_of_ble_eq_true rfl) (Nat.le_of_ble_eq_true rfl) (show 3 ≤ am_P0.2.2.1 170 from by decide +kernel) rfl (cl_recv (h.1.s (32, 10) (by decide))) rfl rfl (ck_means (d := d) h hc_b  ) ?_
                rintro v127 S128 ⟨r129, rfl, hb131, rfl⟩
                have hb131_ : r129.toInt = 0 ∨ r129.toInt = 1 := hb131.elim (fun e => Or.inl (by rw [e]; rfl)) (fun e => Or.inr (by rw [e]; rfl))
                show am_E _ _ _ _ [some (.ref 32), some (.ref b), some (.int z115), some (.int f), some (.int i), some (.int r14), some (.int 0)] [.int r129] _ _
                by_cases c132 : r129.toInt = (0 : Int)
                · refine am_e12t hi_168_104 (am_cT (m := r129.toInt) (n := (0 : Int)) rfl (by decide) c132) ?_
                  obtain ⟨z133, hz133, tz133⟩ := am_addI (x := i) (y := 1) (m := i.toInt) (n := (1 : Int)) rfl (by decide) (by omega) (by omega)
                  refine am_e5 (v := i) (z := z133) (ls' := [some (.ref 32), some (.ref b), some (.int z115), some (.int f), some (.int z133), some (.int r14), some (.int 0)]) hi_168_110 rfl hz133 rfl ?_
                  refine am_e18 hi_168_113 ?_
                  exact ih (some (.int r14)) (some (.int 0)) z115 f z133 (by show 2147483647 - z133.toInt < (N : Int); omega)
                · refine am_e12f hi_168_104 (am_cF (m := r129.toInt) (n := (0 : Int)) rfl (by decide) c132) ?_
                  obtain ⟨z134, hz134⟩ : ∃ q__, am_bin 0 f 1 = q__ := ⟨_, rfl⟩
                  refine am_e5 (v := f) (z := z134) (ls' := [some (.ref 32), some (.ref b), some (.int z115), some (.int z134), some (.int i), some (.int r14), some (.int 0)]) hi_168_107 rfl hz134 rfl ?_
                  obtain ⟨z135, hz135, tz135⟩ := am_addI (x := i) (y := 1) (m := i.toInt) (n := (1 : Int)) rfl (by decide) (by omega) (by omega)
                  refine am_e5 (v := i) (z := z135) (ls' := [some (.ref 32), some (.ref b), some (.int z115), some (.int z134), some (.int z135), some (.int r14), some (.int 0)]) hi_168_110 rfl hz135 rfl ?_
                  refine am_e18 hi_168_113 ?_
                  exact ih (some (.int r14)) (some (.int 0)) z115 z134 z135 (by show 2147483647 - z135.toInt < (N : Int); omega)
          · refine am_e13f hi_168_53 (am_cF (m := i.toInt) (n := z108.toInt) rfl rfl c109) ?_
            refine am_e1 (v := r14) hi_168_56 rfl ?_
            refine am_e0 hi_168_58 ?_
            refine am_e13f hi_168_60 (am_cF (m := r14.toInt) (n := (45 : Int)) rfl (by decide) (by simp only [am_cI]; omega)) ?_
            refine am_e0 hi_168_63 ?_
            refine am_e18 hi_168_64 ?_
            refine am_e3 (ls' := [some (.ref 32), some (.ref b), some (.int s), some (.int f), some (.int i), some (.int r14), some (.int 1)]) hi_168_68 (Nat.le_of_ble_eq_true rfl) rfl ?_
            refine am_e1 (v := s) hi_168_70 rfl ?_
            refine am_e2 (v := b) hi_168_71 rfl ?_
            refine am_e1 (v := i) hi_168_72 rfl ?_
            refine am_e32n (as := [.ref b, .int i]) (la := [some (.ref b), some (.int i), none, none, none]) (rest := [.int s]) hi_168_74 (am_hd0 (M := 168) (by decide) 74) (Nat.le_of_ble_eq_true rfl) (Nat.le_of_ble_eq_true rfl) (show 2 ≤ am_P0.2.2.1 165 from by decide +kernel) rfl rfl rfl rfl (ck_change (d := (d + 4)) h hc_b  ) ?_
            rintro v136 S137 ⟨r138, rfl, rfl⟩
            show am_E _ _ _ _ [some (.ref 32), some (.ref b), some (.int s), some (.int f), some (.int i), some (.int r14), some (.int 1)] [.int r138, .int s] _ _
            obtain ⟨z141, hz141⟩ : ∃ q__, am_bin 0 s r138 = q__ := ⟨_, rfl⟩
            refine am_e10 (z := z141) hi_168_77 hz141 ?_
            refine am_e3 (ls' := [some (.ref 32), some (.ref b), some (.int z141), some (.int f), some (.int i), some (.int r14), some (.int 1)]) hi_168_78 (Nat.le_of_ble_eq_true rfl) rfl ?_
            refine am_e1 (v := 1) hi_168_79 rfl ?_
            refine am_e12t hi_168_81 (by decide) ?_
            obtain ⟨z142, hz142⟩ : ∃ q__, am_bin 0 f 1 = q__ := ⟨_, rfl⟩
            refine am_e5 (v := f) (z := z142) (ls' := [some (.ref 32), some (.ref b), some (.int z141), some (.int z142), some (.int i), some (.int r14), some (.int 1)]) hi_168_107 rfl hz142 rfl ?_
            obtain ⟨z143, hz143, tz143⟩ := am_addI (x := i) (y := 1) (m := i.toInt) (n := (1 : Int)) rfl (by decide) (by omega) (by omega)
            refine am_e5 (v := i) (z := z143) (ls' := [some (.ref 32), some (.ref b), some (.int z141), some (.int z142), some (.int z143), some (.int r14), some (.int 1)]) hi_168_110 rfl hz143 rfl ?_
            refine am_e18 hi_168_113 ?_
            exact ih (some (.int r14)) (some (.int 1)) z141 z142 z143 (by show 2147483647 - z143.toInt < (N : Int); omega)
theorem ck_flawedOf {sc : Nat × (Nat → Int32)} {d aw : Nat} {S : am_S} {b : Nat} (h : SH aw S) (hc_b : cl (am_fs S) b = some 8) : am_E (am_PP sc) (d + 6) 168 0 [some (.ref 32), some (.ref b), none, none, none, none, none] [] S (am_N fun v S1 => ∃ r : Int32, v = some (.int r) ∧ S = S1) := by
  refine am_e0 hi_168_0 ?_
  refine am_e3 (ls' := [some (.ref 32), some (.ref b), some (.int 0), none, none, none, none]) hi_168_1 (Nat.le_of_ble_eq_true rfl) rfl ?_
  refine am_e0 hi_168_2 ?_
  refine am_e3 (ls' := [some (.ref 32), some (.ref b), some (.int 0), some (.int 0), none, none, none]) hi_168_3 (Nat.le_of_ble_eq_true rfl) rfl ?_
  refine am_e0 hi_168_4 ?_
  refine am_e3 (ls' := [some (.ref 32), some (.ref b), some (.int 0), some (.int 0), some (.int 0), none, none]) hi_168_5 (Nat.le_of_ble_eq_true rfl) rfl ?_
  refine cf_flawedOf (d := d) (Sb := S) (b := b) h hc_b   ?_ ((2147483647 - (0 : Int)).toNat + 1) none none 0 0 0 (by show 2147483647 - (0 : Int) < _; omega)
  · intro x56 x67 s1 f2 i3
    show am_E _ _ _ _ [some (.ref 32), some (.ref b), some (.int s1), some (.int f2), some (.int i3), x56, x67] [] _ _
    refine am_e1 (v := f2) hi_168_116 rfl ?_
    refine am_e33 hi_168_117 ?_
    exact ⟨f2, rfl, rfl⟩
theorem cf_flawedAll {sc : Nat × (Nat → Int32)} {d aw : Nat} {Sb : am_S} {Q : Option (Option Value) → am_S → Prop} (h : SH aw Sb) (p0 : iv Sb 5 1 ≤ iv Sb 6 1) (hx0 : ∀ (x3 : Option Value) (f i : Int32), am_E (am_PP sc) (d + 7) 167 42 [some (.ref 32), some (.int f), some (.int i), x3] [] Sb Q) : ∀ (N : Nat) (x3 : Option Value) (f i : Int32), 2147483647 - i.toInt < (N : Int) → am_E (am_PP sc) (d + 7) 167 4 [some (.ref 32), some (.int f), some (.int i), x3] [] Sb Q := by
  intro N
  induction N with
  | zero =>
    intro  x3 f i    hN
    have := i32_le f
    have := i32_le i
    have := i32_ge f
    have := i32_ge i
    exfalso
    omega
  | succ N ih =>
    intro  x3 f i    hN
    have hl_f := i32_le f
    have hg_f := i32_ge f
    have hl_i := i32_le i
    have hg_i := i32_ge i
    refine am_e1 (v := i) hi_167_4 rfl ?_
    refine am_e2 (v := 32) hi_167_5 rfl ?_
    refine cm_20f (r := 5) h hi_167_6 (h.1.s (32, 10) (by decide)) (by decide) rfl ?_
    refine am_e32n (as := [.ref 5]) (la := [some (.ref 5)]) (rest := [.int i]) hi_167_9 (am_hd0 (M := 167) (by decide) 9) (Nat.le_of_ble_eq_true rfl) (Nat.le_of_ble_eq_true rfl) (show 1 ≤ am_P0.2.2.1 155 from by decide +kernel) rfl (cl_recv (h.1.s (5, 4) (by decide))) rfl rfl (ck_bcount (d := (d + 6)) h   ) ?_
    rintro v1 S2 ⟨r3, rfl, rfl, h5⟩
    have h5_ : r3.toInt = iv Sb 5 1 := h5
    show am_E _ _ _ _ [some (.ref 32), some (.int f), some (.int i), x3] [.int r3, .int i] _ _
    by_cases c7 : r3.toInt ≤ i.toInt
    · refine am_e13t hi_167_12 (am_cT (m := i.toInt) (n := r3.toInt) rfl rfl c7) ?_
      exact hx0 x3 f i
    · refine am_e13f hi_167_12 (am_cF (m := i.toInt) (n := r3.toInt) rfl rfl c7) ?_
      refine am_e2 (v := 32) hi_167_15 rfl ?_
      refine cm_20f (r := 5) h hi_167_16 (h.1.s (32, 10) (by decide)) (by decide) rfl ?_
      refine am_e1 (v := i) hi_167_19 rfl ?_
      refine am_e32w (as := [.ref 5, .int i]) (la := [some (.ref 5), some (.int i)]) (rest := []) hi_167_20 (am_hd0 (M := 167) (by decide) 20) (Nat.le_of_ble_eq_true rfl) (Nat.le_of_ble_eq_true rfl) (show 2 ≤ am_P0.2.2.1 159 from by decide +kernel) rfl (cl_recv (h.1.s (5, 4) (by decide))) rfl rfl ?_
      refine am_e1 (v := i) hi_159_0 rfl ?_
      by_cases c8 : i.toInt < (0 : Int)
      · refine am_e12t hi_159_1 (am_cT (m := i.toInt) (n := (0 : Int)) rfl (by decide) c8) ?_
        refine am_e29 hi_159_37 ?_
        refine am_e34n hi_159_38 ?_
        show am_E _ _ _ _ [some (.ref 32), some (.int f), some (.int i), x3] [.null] _ _
        refine am_e4n (ls' := [some (.ref 32), some (.int f), some (.int i), some .null]) hi_167_23 (Nat.le_of_ble_eq_true rfl) rfl ?_
        refine am_e2n hi_167_24 rfl ?_
        refine am_e14n hi_167_25 ?_
        obtain ⟨z9, hz9, tz9⟩ := am_addI (x := i) (y := 1) (m := i.toInt) (n := (1 : Int)) rfl (by decide) (by omega) (by omega)
        refine am_e5 (v := i) (z := z9) (ls' := [some (.ref 32), some (.int f), some (.int z9), some .null]) hi_167_36 rfl hz9 rfl ?_
        refine am_e18 hi_167_39 ?_
        exact ih (some .null) f z9 (by show 2147483647 - z9.toInt < (N : Int); omega)
      · refine am_e12f hi_159_1 (am_cF (m := i.toInt) (n := (0 : Int)) rfl (by decide) c8) ?_
        refine am_e1 (v := i) hi_159_4 rfl ?_
        refine am_e2 (v := 5) hi_159_5 rfl ?_
        refine cm_20i h hi_159_6 (h.1.s (5, 4) (by decide)) (by decide) rfl fun v10 hv10 => ?_
        have hv10_ : v10.toInt = iv Sb 5 1 := hv10
        refine am_e13f hi_159_9 (am_cF (m := i.toInt) (n := v10.toInt) rfl rfl (by simp only [am_cI]; omega)) ?_
        refine am_e1 (v := i) hi_159_12 rfl ?_
        refine am_e2 (v := 5) hi_159_13 rfl ?_
        refine cm_20f (r := 6) h hi_159_14 (h.1.s (5, 4) (by decide)) (by decide) rfl ?_
        refine am_e32n (as := [.ref 6]) (la := [some (.ref 6)]) (rest := [.int i]) hi_159_17 (am_hd0 (M := 159) (by decide) 17) (Nat.le_of_ble_eq_true rfl) (Nat.le_of_ble_eq_true rfl) (show 1 ≤ am_P0.2.2.1 14 from by decide +kernel) rfl (cl_recv (h.1.s (6, 5) (by decide))) rfl rfl (ck_lsize (d := (d + 5)) h (by decide) ) ?_
        rintro v11 S12 ⟨r13, rfl, rfl, h15, h16, h17⟩
        have h15_ : r13.toInt = iv Sb 6 1 := h15
        have h16_ : 0 ≤ r13.toInt := h16
        have h17_ : r13.toInt ≤ 100000 := h17
        show am_E _ _ _ _ [some (.ref 5), some (.int i)] [.int r13, .int i] _ _
        refine am_e13f hi_159_20 (am_cF (m := i.toInt) (n := r13.toInt) rfl rfl (by simp only [am_cI]; omega)) ?_
        refine am_e2 (v := 5) hi_159_23 rfl ?_
        refine cm_20f (r := 6) h hi_159_24 (h.1.s (5, 4) (by decide)) (by decide) rfl ?_
        refine am_e1 (v := i) hi_159_27 rfl ?_
        refine am_e32n (as := [.ref 6, .int i]) (la := [some (.ref 6), some (.int i)]) (rest := []) hi_159_28 (am_hd0 (M := 159) (by decide) 28) (Nat.le_of_ble_eq_true rfl) (Nat.le_of_ble_eq_true rfl) (show 2 ≤ am_P0.2.2.1 25 from by decide +kernel) rfl (cl_recv (h.1.s (6, 5) (by decide))) rfl rfl (ck_lget (d := (d + 3)) h (by decide) (by show 0 ≤ i.toInt; omega) (by show i.toInt + 1 ≤ iv Sb 6 1; omega)) ?_
        rintro v19 S20 ⟨r21, rfl, hb23, rfl⟩
        show am_E _ _ _ _ [some (.ref 5), some (.int i)] [.ref r21] _ _
        obtain ⟨f24, hf24⟩ := cl_of hb23
        refine am_e30 hi_159_31 hf24 ?_
        refine am_e18 hi_159_34 ?_
        refine am_e34 hi_159_38 ?_
        show am_E _ _ _ _ [some (.ref 32), some (.int f), some (.int i), x3] [.ref r21] _ _
        refine am_e4 (ls' := [some (.ref 32), some (.int f), some (.int i), some (.ref r21)]) hi_167_23 (Nat.le_of_ble_eq_true rfl) rfl ?_
        refine am_e2 (v := r21) hi_167_24 rfl ?_
        refine am_e14r hi_167_25 ?_
        refine am_e1 (v := f) hi_167_28 rfl ?_
        refine am_e2 (v := 32) hi_167_29 rfl ?_
        refine am_e2 (v := r21) hi_167_30 rfl ?_
        refine am_e32n (as := [.ref 32, .ref r21]) (la := [some (.ref 32), some (.ref r21), none, none, none, none, none]) (rest := [.int f]) hi_167_31 (am_hd0 (M := 167) (by decide) 31) (Nat.le_of_ble_eq_true rfl) (Nat.le_of_ble_eq_true rfl) (show 2 ≤ am_P0.2.2.1 168 from by decide +kernel) rfl (cl_recv (h.1.s (32, 10) (by decide))) rfl rfl (ck_flawedOf (d := d) h hb23  ) ?_
        rintro v25 S26 ⟨r27, rfl, rfl⟩
        show am_E _ _ _ _ [some (.ref 32), some (.int f), some (.int i), some (.ref r21)] [.int r27, .int f] _ _
        obtain ⟨z30, hz30⟩ : ∃ q__, am_bin 0 f r27 = q__ := ⟨_, rfl⟩
        refine am_e10 (z := z30) hi_167_34 hz30 ?_
        refine am_e3 (ls' := [some (.ref 32), some (.int z30), some (.int i), some (.ref r21)]) hi_167_35 (Nat.le_of_ble_eq_true rfl) rfl ?_
        obtain ⟨z31, hz31, tz31⟩ := am_addI (x := i) (y := 1) (m := i.toInt) (n := (1 : Int)) rfl (by decide) (by omega) (by omega)
        refine am_e5 (v := i) (z := z31) (ls' := [some (.ref 32), some (.int z30), some (.int z31), some (.ref r21)]) hi_167_36 rfl hz31 rfl ?_
        refine am_e18 hi_167_39 ?_
        exact ih (some (.ref r21)) z30 z31 (by show 2147483647 - z31.toInt < (N : Int); omega)
theorem ck_flawedAll {sc : Nat × (Nat → Int32)} {d aw : Nat} {S : am_S} (h : SH aw S) : am_E (am_PP sc) (d + 7) 167 0 [some (.ref 32), none, none, none] [] S (am_N fun v S1 => ∃ r : Int32, v = some (.int r) ∧ S = S1) := by
  obtain ⟨c0, -, q1, q2, q3⟩ := h.cnt
  refine am_e0 hi_167_0 ?_
  refine am_e3 (ls' := [some (.ref 32), some (.int 0), none, none]) hi_167_1 (Nat.le_of_ble_eq_true rfl) rfl ?_
  refine am_e0 hi_167_2 ?_
  refine am_e3 (ls' := [some (.ref 32), some (.int 0), some (.int 0), none]) hi_167_3 (Nat.le_of_ble_eq_true rfl) rfl ?_
  refine cf_flawedAll (d := d) (Sb := S) h   (by show iv S 5 1 ≤ iv S 6 1; omega) ?_ ((2147483647 - (0 : Int)).toNat + 1) none 0 0 (by show 2147483647 - (0 : Int) < _; omega)
  · intro x35 f1 i2
    show am_E _ _ _ _ [some (.ref 32), some (.int f1), some (.int i2), x35] [] _ _
    refine am_e1 (v := f1) hi_167_42 rfl ?_
    refine am_e33 hi_167_43 ?_
    exact ⟨f1, rfl, rfl⟩
theorem ck_place {sc : Nat × (Nat → Int32)} {d aw : Nat} {S : am_S} (h : SH aw S) : am_E (am_PP sc) (d + 0) 156 0 [some (.ref 0)] [] S (am_N fun v S1 => ∃ r : Int32, v = some (.int r) ∧ S = S1) := by
  refine am_e2 (v := 0) hi_156_0 rfl ?_
  refine cm_20i h hi_156_1 (h.1.s (0, 0) (by decide)) (by decide) rfl fun v1 hv1 => ?_
  have hv1_ : v1.toInt = iv S 0 5 := hv1
  refine am_e33 hi_156_4 ?_
  exact ⟨v1, rfl, rfl⟩
theorem ck_functions {sc : Nat × (Nat → Int32)} {d aw : Nat} {S : am_S} (h : SH aw S) : am_E (am_PP sc) (d + 1) 157 0 [some (.ref 0)] [] S (am_N fun v S1 => ∃ r : Int32, v = some (.int r) ∧ S = S1) := by
  refine am_e2 (v := 0) hi_157_0 rfl ?_
  refine cm_20f (r := 5) h hi_157_1 (h.1.s (0, 0) (by decide)) (by decide) rfl ?_
  refine am_e32n (as := [.ref 5]) (la := [some (.ref 5)]) (rest := []) hi_157_4 (am_hd0 (M := 157) (by decide) 4) (Nat.le_of_ble_eq_true rfl) (Nat.le_of_ble_eq_true rfl) (show 1 ≤ am_P0.2.2.1 155 from by decide +kernel) rfl (cl_recv (h.1.s (5, 4) (by decide))) rfl rfl (ck_bcount (d := d) h   ) ?_
  rintro v1 S2 ⟨r3, rfl, rfl, h5⟩
  have h5_ : r3.toInt = iv S 5 1 := h5
  show am_E _ _ _ _ [some (.ref 0)] [.int r3] _ _
  refine am_e33 hi_157_7 ?_
  exact ⟨r3, rfl, rfl⟩
theorem ck_function {sc : Nat × (Nat → Int32)} {d aw : Nat} {S : am_S} {x : Int32} {y : Int32} (h : SH aw S) : am_E (am_PP sc) (d + 4) 158 0 [some (.ref 0), some (.int x), some (.int y), none] [] S (am_N fun v S1 => ∃ r : Int32, v = some (.int r) ∧ S = S1) := by
  refine am_e2 (v := 0) hi_158_0 rfl ?_
  refine cm_20f (r := 5) h hi_158_1 (h.1.s (0, 0) (by decide)) (by decide) rfl ?_
  refine am_e1 (v := x) hi_158_4 rfl ?_
  refine am_e32w (as := [.ref 5, .int x]) (la := [some (.ref 5), some (.int x)]) (rest := []) hi_158_5 (am_hd0 (M := 158) (by decide) 5) (Nat.le_of_ble_eq_true rfl) (Nat.le_of_ble_eq_true rfl) (show 2 ≤ am_P0.2.2.1 159 from by decide +kernel) rfl (cl_recv (h.1.s (5, 4) (by decide))) rfl rfl ?_
  refine am_e1 (v := x) hi_159_0 rfl ?_
  by_cases c1 : x.toInt < (0 : Int)
  · refine am_e12t hi_159_1 (am_cT (m := x.toInt) (n := (0 : Int)) rfl (by decide) c1) ?_
    refine am_e29 hi_159_37 ?_
    refine am_e34n hi_159_38 ?_
    show am_E _ _ _ _ [some (.ref 0), some (.int x), some (.int y), none] [.null] _ _
    refine am_e4n (ls' := [some (.ref 0), some (.int x), some (.int y), some .null]) hi_158_8 (Nat.le_of_ble_eq_true rfl) rfl ?_
    refine am_e2n hi_158_9 rfl ?_
    refine am_e15n hi_158_10 ?_
    refine am_e0 hi_158_13 ?_
    refine am_e33 hi_158_14 ?_
    exact ⟨(-1), rfl, rfl⟩
  · refine am_e12f hi_159_1 (am_cF (m := x.toInt) (n := (0 : Int)) rfl (by decide) c1) ?_
    refine am_e1 (v := x) hi_159_4 rfl ?_
    refine am_e2 (v := 5) hi_159_5 rfl ?_
    refine cm_20i h hi_159_6 (h.1.s (5, 4) (by decide)) (by decide) rfl fun v2 hv2 => ?_
    have hv2_ : v2.toInt = iv S 5 1 := hv2
    by_cases c3 : v2.toInt ≤ x.toInt
    · refine am_e13t hi_159_9 (am_cT (m := x.toInt) (n := v2.toInt) rfl rfl c3) ?_
      refine am_e29 hi_159_37 ?_
      refine am_e34n hi_159_38 ?_
      show am_E _ _ _ _ [some (.ref 0), some (.int x), some (.int y), none] [.null] _ _
      refine am_e4n (ls' := [some (.ref 0), some (.int x), some (.int y), some .null]) hi_158_8 (Nat.le_of_ble_eq_true rfl) rfl ?_
      refine am_e2n hi_158_9 rfl ?_
      refine am_e15n hi_158_10 ?_
      refine am_e0 hi_158_13 ?_
      refine am_e33 hi_158_14 ?_
      exact ⟨(-1), rfl, rfl⟩
    · refine am_e13f hi_159_9 (am_cF (m := x.toInt) (n := v2.toInt) rfl rfl c3) ?_
      refine am_e1 (v := x) hi_159_12 rfl ?_
      refine am_e2 (v := 5) hi_159_13 rfl ?_
      refine cm_20f (r := 6) h hi_159_14 (h.1.s (5, 4) (by decide)) (by decide) rfl ?_
      refine am_e32n (as := [.ref 6]) (la := [some (.ref 6)]) (rest := [.int x]) hi_159_17 (am_hd0 (M := 159) (by decide) 17) (Nat.le_of_ble_eq_true rfl) (Nat.le_of_ble_eq_true rfl) (show 1 ≤ am_P0.2.2.1 14 from by decide +kernel) rfl (cl_recv (h.1.s (6, 5) (by decide))) rfl rfl (ck_lsize (d := (d + 2)) h (by decide) ) ?_
      rintro v4 S5 ⟨r6, rfl, rfl, h8, h9, h10⟩
      have h8_ : r6.toInt = iv S 6 1 := h8
      have h9_ : 0 ≤ r6.toInt := h9
      have h10_ : r6.toInt ≤ 100000 := h10
      show am_E _ _ _ _ [some (.ref 5), some (.int x)] [.int r6, .int x] _ _
      by_cases c12 : r6.toInt ≤ x.toInt
      · refine am_e13t hi_159_20 (am_cT (m := x.toInt) (n := r6.toInt) rfl rfl c12) ?_
        refine am_e29 hi_159_37 ?_
        refine am_e34n hi_159_38 ?_
        show am_E _ _ _ _ [some (.ref 0), some (.int x), some (.int y), none] [.null] _ _
        refine am_e4n (ls' := [some (.ref 0), some (.int x), some (.int y), some .null]) hi_158_8 (Nat.le_of_ble_eq_true rfl) rfl ?_
        refine am_e2n hi_158_9 rfl ?_
        refine am_e15n hi_158_10 ?_
        refine am_e0 hi_158_13 ?_
        refine am_e33 hi_158_14 ?_
        exact ⟨(-1), rfl, rfl⟩
      · refine am_e13f hi_159_20 (am_cF (m := x.toInt) (n := r6.toInt) rfl rfl c12) ?_
        refine am_e2 (v := 5) hi_159_23 rfl ?_
        refine cm_20f (r := 6) h hi_159_24 (h.1.s (5, 4) (by decide)) (by decide) rfl ?_
        refine am_e1 (v := x) hi_159_27 rfl ?_
        refine am_e32n (as := [.ref 6, .int x]) (la := [some (.ref 6), some (.int x)]) (rest := []) hi_159_28 (am_hd0 (M := 159) (by decide) 28) (Nat.le_of_ble_eq_true rfl) (Nat.le_of_ble_eq_true rfl) (show 2 ≤ am_P0.2.2.1 25 from by decide +kernel) rfl (cl_recv (h.1.s (6, 5) (by decide))) rfl rfl (ck_lget (d := d) h (by decide) (by show 0 ≤ x.toInt; omega) (by show x.toInt + 1 ≤ iv S 6 1; omega)) ?_
        rintro v13 S14 ⟨r15, rfl, hb17, rfl⟩
        show am_E _ _ _ _ [some (.ref 5), some (.int x)] [.ref r15] _ _
        obtain ⟨f18, hf18⟩ := cl_of hb17
        refine am_e30 hi_159_31 hf18 ?_
        refine am_e18 hi_159_34 ?_
        refine am_e34 hi_159_38 ?_
        show am_E _ _ _ _ [some (.ref 0), some (.int x), some (.int y), none] [.ref r15] _ _
        refine am_e4 (ls' := [some (.ref 0), some (.int x), some (.int y), some (.ref r15)]) hi_158_8 (Nat.le_of_ble_eq_true rfl) rfl ?_
        refine am_e2 (v := r15) hi_158_9 rfl ?_
        refine am_e15r hi_158_10 ?_
        refine am_e1 (v := y) hi_158_15 rfl ?_
        by_cases c19 : y.toInt = 0
        · refine am_e19 (t := 64) hi_158_16 (am_swI (v := y) (w := 0) (by decide) (by decide) c19) ?_
          refine am_e2 (v := r15) hi_158_64 rfl ?_
          refine cm_20i h hi_158_65 hb17 (by decide) rfl fun v20 hv20 => ?_
          have hv20_ : v20.toInt = iv S r15 3 := hv20
          refine am_e33 hi_158_68 ?_
          exact ⟨v20, rfl, rfl⟩
        · have c19_ : True := trivial
          by_cases c21 : y.toInt = 1
          · refine am_e19 (t := 69) hi_158_16 (am_swI (v := y) (w := 1) (by decide) (by decide) c21) ?_
            refine am_e2 (v := r15) hi_158_69 rfl ?_
            refine cm_20i h hi_158_70 hb17 (by decide) rfl fun v22 hv22 => ?_
            have hv22_ : v22.toInt = iv S r15 4 := hv22
            refine am_e33 hi_158_73 ?_
            exact ⟨v22, rfl, rfl⟩
          · have c21_ : True := trivial
            by_cases c23 : y.toInt = 2
            · refine am_e19 (t := 74) hi_158_16 (am_swI (v := y) (w := 2) (by decide) (by decide) c23) ?_
              refine am_e2 (v := r15) hi_158_74 rfl ?_
              refine cm_20i h hi_158_75 hb17 (by decide) rfl fun v24 hv24 => ?_
              have hv24_ : v24.toInt = iv S r15 5 := hv24
              refine am_e33 hi_158_78 ?_
              exact ⟨v24, rfl, rfl⟩
            · have c23_ : True := trivial
              by_cases c25 : y.toInt = 3
              · refine am_e19 (t := 79) hi_158_16 (am_swI (v := y) (w := 3) (by decide) (by decide) c25) ?_
                refine am_e2 (v := r15) hi_158_79 rfl ?_
                refine cm_20i h hi_158_80 hb17 (by decide) rfl fun v26 hv26 => ?_
                have hv26_ : v26.toInt = iv S r15 6 := hv26
                refine am_e33 hi_158_83 ?_
                exact ⟨v26, rfl, rfl⟩
              · have c25_ : True := trivial
                by_cases c27 : y.toInt = 4
                · refine am_e19 (t := 84) hi_158_16 (am_swI (v := y) (w := 4) (by decide) (by decide) c27) ?_
                  refine am_e2 (v := r15) hi_158_84 rfl ?_
                  refine cm_20i h hi_158_85 hb17 (by decide) rfl fun v28 hv28 => ?_
                  have hv28_ : v28.toInt = iv S r15 7 := hv28
                  refine am_e33 hi_158_88 ?_
                  exact ⟨v28, rfl, rfl⟩
                · have c27_ : True := trivial
                  by_cases c29 : y.toInt = 5
                  · refine am_e19 (t := 89) hi_158_16 (am_swI (v := y) (w := 5) (by decide) (by decide) c29) ?_
                    refine am_e2 (v := r15) hi_158_89 rfl ?_
                    refine cm_20t h hi_158_90 hb17 (by decide) rfl fun t30 ht30 ht30b => ?_
                    refine am_e32n (as := [.ref t30]) (la := [some (.ref t30)]) (rest := []) hi_158_93 (am_hd0 (M := 158) (by decide) 93) (Nat.le_of_ble_eq_true rfl) (Nat.le_of_ble_eq_true rfl) (show 1 ≤ am_P0.2.2.1 36 from by decide +kernel) rfl (cl_recv ht30) rfl rfl (ck_rows (d := (d + 3)) h ht30  ) ?_
                    rintro v31 S32 ⟨r33, rfl, rfl, h35, h36, h37⟩
                    have h35_ : r33.toInt = iv S t30 1 := h35
                    have h36_ : 0 ≤ r33.toInt := h36
                    have h37_ : r33.toInt ≤ 2097154 := h37
                    show am_E _ _ _ _ [some (.ref 0), some (.int x), some (.int y), some (.ref r15)] [.int r33] _ _
                    refine am_e33 hi_158_96 ?_
                    exact ⟨r33, rfl, rfl⟩
                  · have c29_ : True := trivial
                    by_cases c39 : y.toInt = 6
                    · refine am_e19 (t := 97) hi_158_16 (am_swI (v := y) (w := 6) (by decide) (by decide) c39) ?_
                      refine am_e2 (v := r15) hi_158_97 rfl ?_
                      refine cm_20t h hi_158_98 hb17 (by decide) rfl fun t40 ht40 ht40b => ?_
                      refine am_e32n (as := [.ref t40]) (la := [some (.ref t40)]) (rest := []) hi_158_101 (am_hd0 (M := 158) (by decide) 101) (Nat.le_of_ble_eq_true rfl) (Nat.le_of_ble_eq_true rfl) (show 1 ≤ am_P0.2.2.1 36 from by decide +kernel) rfl (cl_recv ht40) rfl rfl (ck_rows (d := (d + 3)) h ht40  ) ?_
                      rintro v41 S42 ⟨r43, rfl, rfl, h45, h46, h47⟩
                      have h45_ : r43.toInt = iv S t40 1 := h45
                      have h46_ : 0 ≤ r43.toInt := h46
                      have h47_ : r43.toInt ≤ 2097154 := h47
                      show am_E _ _ _ _ [some (.ref 0), some (.int x), some (.int y), some (.ref r15)] [.int r43] _ _
                      refine am_e33 hi_158_104 ?_
                      exact ⟨r43, rfl, rfl⟩
                    · have c39_ : True := trivial
                      by_cases c49 : y.toInt = 7
                      · refine am_e19 (t := 105) hi_158_16 (am_swI (v := y) (w := 7) (by decide) (by decide) c49) ?_
                        refine am_e2 (v := r15) hi_158_105 rfl ?_
                        refine cm_20i h hi_158_106 hb17 (by decide) rfl fun v50 hv50 => ?_
                        have hv50_ : v50.toInt = iv S r15 8 := hv50
                        refine am_e33 hi_158_109 ?_
                        exact ⟨v50, rfl, rfl⟩
                      · have c49_ : True := trivial
                        refine am_e19 (t := 110) hi_158_16 (am_swK (v := y) (ks := [0, 1, 2, 3, 4, 5, 6, 7]) (by decide) (by intro k hk; simp only [List.mem_cons, List.not_mem_nil, or_false] at hk; rcases hk with rfl | rfl | rfl | rfl | rfl | rfl | rfl | rfl <;> omega)) ?_
                        refine am_e0 hi_158_110 ?_
                        refine am_e33 hi_158_111 ?_
                        exact ⟨(-1), rfl, rfl⟩
theorem ck_outer {sc : Nat × (Nat → Int32)} {d aw : Nat} {S : am_S} {x : Int32} {y : Int32} {w : Int32} (h : SH aw S) : am_E (am_PP sc) (d + 4) 160 0 [some (.ref 0), some (.int x), some (.int y), some (.int w), none] [] S (am_N fun v S1 => ∃ r : Int32, v = some (.int r) ∧ S = S1) := by
  refine am_e2 (v := 0) hi_160_0 rfl ?_
  refine cm_20f (r := 5) h hi_160_1 (h.1.s (0, 0) (by decide)) (by decide) rfl ?_
  refine am_e1 (v := x) hi_160_4 rfl ?_
  refine am_e32w (as := [.ref 5, .int x]) (la := [some (.ref 5), some (.int x)]) (rest := []) hi_160_5 (am_hd0 (M := 160) (by decide) 5) (Nat.le_of_ble_eq_true rfl) (Nat.le_of_ble_eq_true rfl) (show 2 ≤ am_P0.2.2.1 159 from by decide +kernel) rfl (cl_recv (h.1.s (5, 4) (by decide))) rfl rfl ?_
  refine am_e1 (v := x) hi_159_0 rfl ?_
  by_cases c1 : x.toInt < (0 : Int)
  · refine am_e12t hi_159_1 (am_cT (m := x.toInt) (n := (0 : Int)) rfl (by decide) c1) ?_
    refine am_e29 hi_159_37 ?_
    refine am_e34n hi_159_38 ?_
    show am_E _ _ _ _ [some (.ref 0), some (.int x), some (.int y), some (.int w), none] [.null] _ _
    refine am_e4n (ls' := [some (.ref 0), some (.int x), some (.int y), some (.int w), some .null]) hi_160_8 (Nat.le_of_ble_eq_true rfl) rfl ?_
    refine am_e2n hi_160_10 rfl ?_
    refine am_e14n hi_160_12 ?_
    refine am_e0 hi_160_36 ?_
    refine am_e33 hi_160_37 ?_
    exact ⟨(-1), rfl, rfl⟩
  · refine am_e12f hi_159_1 (am_cF (m := x.toInt) (n := (0 : Int)) rfl (by decide) c1) ?_
    refine am_e1 (v := x) hi_159_4 rfl ?_
    refine am_e2 (v := 5) hi_159_5 rfl ?_
    refine cm_20i h hi_159_6 (h.1.s (5, 4) (by decide)) (by decide) rfl fun v2 hv2 => ?_
    have hv2_ : v2.toInt = iv S 5 1 := hv2
    by_cases c3 : v2.toInt ≤ x.toInt
    · refine am_e13t hi_159_9 (am_cT (m := x.toInt) (n := v2.toInt) rfl rfl c3) ?_
      refine am_e29 hi_159_37 ?_
      refine am_e34n hi_159_38 ?_
      show am_E _ _ _ _ [some (.ref 0), some (.int x), some (.int y), some (.int w), none] [.null] _ _
      refine am_e4n (ls' := [some (.ref 0), some (.int x), some (.int y), some (.int w), some .null]) hi_160_8 (Nat.le_of_ble_eq_true rfl) rfl ?_
      refine am_e2n hi_160_10 rfl ?_
      refine am_e14n hi_160_12 ?_
      refine am_e0 hi_160_36 ?_
      refine am_e33 hi_160_37 ?_
      exact ⟨(-1), rfl, rfl⟩
    · refine am_e13f hi_159_9 (am_cF (m := x.toInt) (n := v2.toInt) rfl rfl c3) ?_
      refine am_e1 (v := x) hi_159_12 rfl ?_
      refine am_e2 (v := 5) hi_159_13 rfl ?_
      refine cm_20f (r := 6) h hi_159_14 (h.1.s (5, 4) (by decide)) (by decide) rfl ?_
      refine am_e32n (as := [.ref 6]) (la := [some (.ref 6)]) (rest := [.int x]) hi_159_17 (am_hd0 (M := 159) (by decide) 17) (Nat.le_of_ble_eq_true rfl) (Nat.le_of_ble_eq_true rfl) (show 1 ≤ am_P0.2.2.1 14 from by decide +kernel) rfl (cl_recv (h.1.s (6, 5) (by decide))) rfl rfl (ck_lsize (d := (d + 2)) h (by decide) ) ?_
      rintro v4 S5 ⟨r6, rfl, rfl, h8, h9, h10⟩
      have h8_ : r6.toInt = iv S 6 1 := h8
      have h9_ : 0 ≤ r6.toInt := h9
      have h10_ : r6.toInt ≤ 100000 := h10
      show am_E _ _ _ _ [some (.ref 5), some (.int x)] [.int r6, .int x] _ _
      by_cases c12 : r6.toInt ≤ x.toInt
      · refine am_e13t hi_159_20 (am_cT (m := x.toInt) (n := r6.toInt) rfl rfl c12) ?_
        refine am_e29 hi_159_37 ?_
        refine am_e34n hi_159_38 ?_
        show am_E _ _ _ _ [some (.ref 0), some (.int x), some (.int y), some (.int w), none] [.null] _ _
        refine am_e4n (ls' := [some (.ref 0), some (.int x), some (.int y), some (.int w), some .null]) hi_160_8 (Nat.le_of_ble_eq_true rfl) rfl ?_
        refine am_e2n hi_160_10 rfl ?_
        refine am_e14n hi_160_12 ?_
        refine am_e0 hi_160_36 ?_
        refine am_e33 hi_160_37 ?_
        exact ⟨(-1), rfl, rfl⟩
      · refine am_e13f hi_159_20 (am_cF (m := x.toInt) (n := r6.toInt) rfl rfl c12) ?_
        refine am_e2 (v := 5) hi_159_23 rfl ?_
        refine cm_20f (r := 6) h hi_159_24 (h.1.s (5, 4) (by decide)) (by decide) rfl ?_
        refine am_e1 (v := x) hi_159_27 rfl ?_
        refine am_e32n (as := [.ref 6, .int x]) (la := [some (.ref 6), some (.int x)]) (rest := []) hi_159_28 (am_hd0 (M := 159) (by decide) 28) (Nat.le_of_ble_eq_true rfl) (Nat.le_of_ble_eq_true rfl) (show 2 ≤ am_P0.2.2.1 25 from by decide +kernel) rfl (cl_recv (h.1.s (6, 5) (by decide))) rfl rfl (ck_lget (d := d) h (by decide) (by show 0 ≤ x.toInt; omega) (by show x.toInt + 1 ≤ iv S 6 1; omega)) ?_
        rintro v13 S14 ⟨r15, rfl, hb17, rfl⟩
        show am_E _ _ _ _ [some (.ref 5), some (.int x)] [.ref r15] _ _
        obtain ⟨f18, hf18⟩ := cl_of hb17
        refine am_e30 hi_159_31 hf18 ?_
        refine am_e18 hi_159_34 ?_
        refine am_e34 hi_159_38 ?_
        show am_E _ _ _ _ [some (.ref 0), some (.int x), some (.int y), some (.int w), none] [.ref r15] _ _
        refine am_e4 (ls' := [some (.ref 0), some (.int x), some (.int y), some (.int w), some (.ref r15)]) hi_160_8 (Nat.le_of_ble_eq_true rfl) rfl ?_
        refine am_e2 (v := r15) hi_160_10 rfl ?_
        refine am_e14r hi_160_12 ?_
        refine am_e2 (v := r15) hi_160_15 rfl ?_
        refine cm_20t h hi_160_17 hb17 (by decide) rfl fun t19 ht19 ht19b => ?_
        refine am_e1 (v := y) hi_160_20 rfl ?_
        refine am_e32n (as := [.ref t19, .int y]) (la := [some (.ref t19), some (.int y)]) (rest := []) hi_160_21 (am_hd0 (M := 160) (by decide) 21) (Nat.le_of_ble_eq_true rfl) (Nat.le_of_ble_eq_true rfl) (show 2 ≤ am_P0.2.2.1 161 from by decide +kernel) rfl (cl_recv ht19) rfl rfl (ck_has (d := (d + 3)) h ht19  ) ?_
        rintro v20 S21 ⟨r22, rfl, hb24, rfl⟩
        have hb24_ : r22.toInt = 0 ∨ r22.toInt = 1 := hb24.elim (fun e => Or.inl (by rw [e]; rfl)) (fun e => Or.inr (by rw [e]; rfl))
        show am_E _ _ _ _ [some (.ref 0), some (.int x), some (.int y), some (.int w), some (.ref r15)] [.int r22] _ _
        by_cases c25 : r22.toInt = (0 : Int)
        · refine am_e12t hi_160_24 (am_cT (m := r22.toInt) (n := (0 : Int)) rfl (by decide) c25) ?_
          refine am_e0 hi_160_36 ?_
          refine am_e33 hi_160_37 ?_
          exact ⟨(-1), rfl, rfl⟩
        · refine am_e12f hi_160_24 (am_cF (m := r22.toInt) (n := (0 : Int)) rfl (by decide) c25) ?_
          refine am_e1 (v := w) hi_160_27 rfl ?_
          by_cases c26 : w.toInt < (0 : Int)
          · refine am_e12t hi_160_28 (am_cT (m := w.toInt) (n := (0 : Int)) rfl (by decide) c26) ?_
            refine am_e0 hi_160_36 ?_
            refine am_e33 hi_160_37 ?_
            exact ⟨(-1), rfl, rfl⟩
          · refine am_e12f hi_160_28 (am_cF (m := w.toInt) (n := (0 : Int)) rfl (by decide) c26) ?_
            refine am_e1 (v := w) hi_160_31 rfl ?_
            refine am_e0 hi_160_32 ?_
            by_cases c27 : w.toInt ≤ (1 : Int)
            · refine am_e13t hi_160_33 (am_cT (m := w.toInt) (n := (1 : Int)) rfl (by decide) c27) ?_
              refine am_e2 (v := r15) hi_160_38 rfl ?_
              refine cm_20t h hi_160_40 hb17 (by decide) rfl fun t28 ht28 ht28b => ?_
              refine am_e1 (v := y) hi_160_43 rfl ?_
              refine am_e1 (v := w) hi_160_44 rfl ?_
              refine am_e32n (as := [.ref t28, .int y, .int w]) (la := [some (.ref t28), some (.int y), some (.int w)]) (rest := []) hi_160_45 (am_hd0 (M := 160) (by decide) 45) (Nat.le_of_ble_eq_true rfl) (Nat.le_of_ble_eq_true rfl) (show 3 ≤ am_P0.2.2.1 54 from by decide +kernel) rfl (cl_recv ht28) rfl rfl (ck_get (d := (d + 3)) h ht28  ) ?_
              rintro v29 S30 ⟨r31, rfl, rfl⟩
              show am_E _ _ _ _ [some (.ref 0), some (.int x), some (.int y), some (.int w), some (.ref r15)] [.int r31] _ _
              refine am_e33 hi_160_48 ?_
              exact ⟨r31, rfl, rfl⟩
            · refine am_e13f hi_160_33 (am_cF (m := w.toInt) (n := (1 : Int)) rfl (by decide) c27) ?_
              refine am_e0 hi_160_36 ?_
              refine am_e33 hi_160_37 ?_
              exact ⟨(-1), rfl, rfl⟩
theorem ck_code {sc : Nat × (Nat → Int32)} {d aw : Nat} {S : am_S} {x : Int32} {y : Int32} {w : Int32} (h : SH aw S) : am_E (am_PP sc) (d + 4) 162 0 [some (.ref 0), some (.int x), some (.int y), some (.int w), none] [] S (am_N fun v S1 => ∃ r : Int32, v = some (.int r) ∧ S = S1) := by
  refine am_e2 (v := 0) hi_162_0 rfl ?_
  refine cm_20f (r := 5) h hi_162_1 (h.1.s (0, 0) (by decide)) (by decide) rfl ?_
  refine am_e1 (v := x) hi_162_4 rfl ?_
  refine am_e32w (as := [.ref 5, .int x]) (la := [some (.ref 5), some (.int x)]) (rest := []) hi_162_5 (am_hd0 (M := 162) (by decide) 5) (Nat.le_of_ble_eq_true rfl) (Nat.le_of_ble_eq_true rfl) (show 2 ≤ am_P0.2.2.1 159 from by decide +kernel) rfl (cl_recv (h.1.s (5, 4) (by decide))) rfl rfl ?_
  refine am_e1 (v := x) hi_159_0 rfl ?_
  by_cases c1 : x.toInt < (0 : Int)
  · refine am_e12t hi_159_1 (am_cT (m := x.toInt) (n := (0 : Int)) rfl (by decide) c1) ?_
    refine am_e29 hi_159_37 ?_
    refine am_e34n hi_159_38 ?_
    show am_E _ _ _ _ [some (.ref 0), some (.int x), some (.int y), some (.int w), none] [.null] _ _
    refine am_e4n (ls' := [some (.ref 0), some (.int x), some (.int y), some (.int w), some .null]) hi_162_8 (Nat.le_of_ble_eq_true rfl) rfl ?_
    refine am_e2n hi_162_10 rfl ?_
    refine am_e14n hi_162_12 ?_
    refine am_e0 hi_162_36 ?_
    refine am_e33 hi_162_37 ?_
    exact ⟨(-1), rfl, rfl⟩
  · refine am_e12f hi_159_1 (am_cF (m := x.toInt) (n := (0 : Int)) rfl (by decide) c1) ?_
    refine am_e1 (v := x) hi_159_4 rfl ?_
    refine am_e2 (v := 5) hi_159_5 rfl ?_
    refine cm_20i h hi_159_6 (h.1.s (5, 4) (by decide)) (by decide) rfl fun v2 hv2 => ?_
    have hv2_ : v2.toInt = iv S 5 1 := hv2
    by_cases c3 : v2.toInt ≤ x.toInt
    · refine am_e13t hi_159_9 (am_cT (m := x.toInt) (n := v2.toInt) rfl rfl c3) ?_
      refine am_e29 hi_159_37 ?_
      refine am_e34n hi_159_38 ?_
      show am_E _ _ _ _ [some (.ref 0), some (.int x), some (.int y), some (.int w), none] [.null] _ _
      refine am_e4n (ls' := [some (.ref 0), some (.int x), some (.int y), some (.int w), some .null]) hi_162_8 (Nat.le_of_ble_eq_true rfl) rfl ?_
      refine am_e2n hi_162_10 rfl ?_
      refine am_e14n hi_162_12 ?_
      refine am_e0 hi_162_36 ?_
      refine am_e33 hi_162_37 ?_
      exact ⟨(-1), rfl, rfl⟩
    · refine am_e13f hi_159_9 (am_cF (m := x.toInt) (n := v2.toInt) rfl rfl c3) ?_
      refine am_e1 (v := x) hi_159_12 rfl ?_
      refine am_e2 (v := 5) hi_159_13 rfl ?_
      refine cm_20f (r := 6) h hi_159_14 (h.1.s (5, 4) (by decide)) (by decide) rfl ?_
      refine am_e32n (as := [.ref 6]) (la := [some (.ref 6)]) (rest := [.int x]) hi_159_17 (am_hd0 (M := 159) (by decide) 17) (Nat.le_of_ble_eq_true rfl) (Nat.le_of_ble_eq_true rfl) (show 1 ≤ am_P0.2.2.1 14 from by decide +kernel) rfl (cl_recv (h.1.s (6, 5) (by decide))) rfl rfl (ck_lsize (d := (d + 2)) h (by decide) ) ?_
      rintro v4 S5 ⟨r6, rfl, rfl, h8, h9, h10⟩
      have h8_ : r6.toInt = iv S 6 1 := h8
      have h9_ : 0 ≤ r6.toInt := h9
      have h10_ : r6.toInt ≤ 100000 := h10
      show am_E _ _ _ _ [some (.ref 5), some (.int x)] [.int r6, .int x] _ _
      by_cases c12 : r6.toInt ≤ x.toInt
      · refine am_e13t hi_159_20 (am_cT (m := x.toInt) (n := r6.toInt) rfl rfl c12) ?_
        refine am_e29 hi_159_37 ?_
        refine am_e34n hi_159_38 ?_
        show am_E _ _ _ _ [some (.ref 0), some (.int x), some (.int y), some (.int w), none] [.null] _ _
        refine am_e4n (ls' := [some (.ref 0), some (.int x), some (.int y), some (.int w), some .null]) hi_162_8 (Nat.le_of_ble_eq_true rfl) rfl ?_
        refine am_e2n hi_162_10 rfl ?_
        refine am_e14n hi_162_12 ?_
        refine am_e0 hi_162_36 ?_
        refine am_e33 hi_162_37 ?_
        exact ⟨(-1), rfl, rfl⟩
      · refine am_e13f hi_159_20 (am_cF (m := x.toInt) (n := r6.toInt) rfl rfl c12) ?_
        refine am_e2 (v := 5) hi_159_23 rfl ?_
        refine cm_20f (r := 6) h hi_159_24 (h.1.s (5, 4) (by decide)) (by decide) rfl ?_
        refine am_e1 (v := x) hi_159_27 rfl ?_
        refine am_e32n (as := [.ref 6, .int x]) (la := [some (.ref 6), some (.int x)]) (rest := []) hi_159_28 (am_hd0 (M := 159) (by decide) 28) (Nat.le_of_ble_eq_true rfl) (Nat.le_of_ble_eq_true rfl) (show 2 ≤ am_P0.2.2.1 25 from by decide +kernel) rfl (cl_recv (h.1.s (6, 5) (by decide))) rfl rfl (ck_lget (d := d) h (by decide) (by show 0 ≤ x.toInt; omega) (by show x.toInt + 1 ≤ iv S 6 1; omega)) ?_
        rintro v13 S14 ⟨r15, rfl, hb17, rfl⟩
        show am_E _ _ _ _ [some (.ref 5), some (.int x)] [.ref r15] _ _
        obtain ⟨f18, hf18⟩ := cl_of hb17
        refine am_e30 hi_159_31 hf18 ?_
        refine am_e18 hi_159_34 ?_
        refine am_e34 hi_159_38 ?_
        show am_E _ _ _ _ [some (.ref 0), some (.int x), some (.int y), some (.int w), none] [.ref r15] _ _
        refine am_e4 (ls' := [some (.ref 0), some (.int x), some (.int y), some (.int w), some (.ref r15)]) hi_162_8 (Nat.le_of_ble_eq_true rfl) rfl ?_
        refine am_e2 (v := r15) hi_162_10 rfl ?_
        refine am_e14r hi_162_12 ?_
        refine am_e2 (v := r15) hi_162_15 rfl ?_
        refine cm_20t h hi_162_17 hb17 (by decide) rfl fun t19 ht19 ht19b => ?_
        refine am_e1 (v := y) hi_162_20 rfl ?_
        refine am_e32n (as := [.ref t19, .int y]) (la := [some (.ref t19), some (.int y)]) (rest := []) hi_162_21 (am_hd0 (M := 162) (by decide) 21) (Nat.le_of_ble_eq_true rfl) (Nat.le_of_ble_eq_true rfl) (show 2 ≤ am_P0.2.2.1 161 from by decide +kernel) rfl (cl_recv ht19) rfl rfl (ck_has (d := (d + 3)) h ht19  ) ?_
        rintro v20 S21 ⟨r22, rfl, hb24, rfl⟩
        have hb24_ : r22.toInt = 0 ∨ r22.toInt = 1 := hb24.elim (fun e => Or.inl (by rw [e]; rfl)) (fun e => Or.inr (by rw [e]; rfl))
        show am_E _ _ _ _ [some (.ref 0), some (.int x), some (.int y), some (.int w), some (.ref r15)] [.int r22] _ _
        by_cases c25 : r22.toInt = (0 : Int)
        · refine am_e12t hi_162_24 (am_cT (m := r22.toInt) (n := (0 : Int)) rfl (by decide) c25) ?_
          refine am_e0 hi_162_36 ?_
          refine am_e33 hi_162_37 ?_
          exact ⟨(-1), rfl, rfl⟩
        · refine am_e12f hi_162_24 (am_cF (m := r22.toInt) (n := (0 : Int)) rfl (by decide) c25) ?_
          refine am_e1 (v := w) hi_162_27 rfl ?_
          by_cases c26 : w.toInt < (0 : Int)
          · refine am_e12t hi_162_28 (am_cT (m := w.toInt) (n := (0 : Int)) rfl (by decide) c26) ?_
            refine am_e0 hi_162_36 ?_
            refine am_e33 hi_162_37 ?_
            exact ⟨(-1), rfl, rfl⟩
          · refine am_e12f hi_162_28 (am_cF (m := w.toInt) (n := (0 : Int)) rfl (by decide) c26) ?_
            refine am_e1 (v := w) hi_162_31 rfl ?_
            refine am_e0 hi_162_32 ?_
            by_cases c27 : w.toInt ≤ (3 : Int)
            · refine am_e13t hi_162_33 (am_cT (m := w.toInt) (n := (3 : Int)) rfl (by decide) c27) ?_
              refine am_e2 (v := r15) hi_162_38 rfl ?_
              refine cm_20t h hi_162_40 hb17 (by decide) rfl fun t28 ht28 ht28b => ?_
              refine am_e1 (v := y) hi_162_43 rfl ?_
              refine am_e1 (v := w) hi_162_44 rfl ?_
              refine am_e32n (as := [.ref t28, .int y, .int w]) (la := [some (.ref t28), some (.int y), some (.int w)]) (rest := []) hi_162_45 (am_hd0 (M := 162) (by decide) 45) (Nat.le_of_ble_eq_true rfl) (Nat.le_of_ble_eq_true rfl) (show 3 ≤ am_P0.2.2.1 54 from by decide +kernel) rfl (cl_recv ht28) rfl rfl (ck_get (d := (d + 3)) h ht28  ) ?_
              rintro v29 S30 ⟨r31, rfl, rfl⟩
              show am_E _ _ _ _ [some (.ref 0), some (.int x), some (.int y), some (.int w), some (.ref r15)] [.int r31] _ _
              refine am_e33 hi_162_48 ?_
              exact ⟨r31, rfl, rfl⟩
            · refine am_e13f hi_162_33 (am_cF (m := w.toInt) (n := (3 : Int)) rfl (by decide) c27) ?_
              refine am_e0 hi_162_36 ?_
              refine am_e33 hi_162_37 ?_
              exact ⟨(-1), rfl, rfl⟩
theorem ck_depth {sc : Nat × (Nat → Int32)} {d aw : Nat} {S : am_S} {x : Int32} (h : SH aw S) : am_E (am_PP sc) (d + 4) 163 0 [some (.ref 0), some (.int x), none] [] S (am_N fun v S1 => ∃ r : Int32, v = some (.int r) ∧ S = S1) := by
  refine am_e2 (v := 0) hi_163_0 rfl ?_
  refine cm_20f (r := 5) h hi_163_1 (h.1.s (0, 0) (by decide)) (by decide) rfl ?_
  refine am_e1 (v := x) hi_163_4 rfl ?_
  refine am_e32w (as := [.ref 5, .int x]) (la := [some (.ref 5), some (.int x)]) (rest := []) hi_163_5 (am_hd0 (M := 163) (by decide) 5) (Nat.le_of_ble_eq_true rfl) (Nat.le_of_ble_eq_true rfl) (show 2 ≤ am_P0.2.2.1 159 from by decide +kernel) rfl (cl_recv (h.1.s (5, 4) (by decide))) rfl rfl ?_
  refine am_e1 (v := x) hi_159_0 rfl ?_
  by_cases c1 : x.toInt < (0 : Int)
  · refine am_e12t hi_159_1 (am_cT (m := x.toInt) (n := (0 : Int)) rfl (by decide) c1) ?_
    refine am_e29 hi_159_37 ?_
    refine am_e34n hi_159_38 ?_
    show am_E _ _ _ _ [some (.ref 0), some (.int x), none] [.null] _ _
    refine am_e4n (ls' := [some (.ref 0), some (.int x), some .null]) hi_163_8 (Nat.le_of_ble_eq_true rfl) rfl ?_
    refine am_e2n hi_163_9 rfl ?_
    refine am_e15n hi_163_10 ?_
    refine am_e0 hi_163_13 ?_
    refine am_e18 hi_163_14 ?_
    refine am_e33 hi_163_25 ?_
    exact ⟨(-1), rfl, rfl⟩
  · refine am_e12f hi_159_1 (am_cF (m := x.toInt) (n := (0 : Int)) rfl (by decide) c1) ?_
    refine am_e1 (v := x) hi_159_4 rfl ?_
    refine am_e2 (v := 5) hi_159_5 rfl ?_
    refine cm_20i h hi_159_6 (h.1.s (5, 4) (by decide)) (by decide) rfl fun v2 hv2 => ?_
    have hv2_ : v2.toInt = iv S 5 1 := hv2
    by_cases c3 : v2.toInt ≤ x.toInt
    · refine am_e13t hi_159_9 (am_cT (m := x.toInt) (n := v2.toInt) rfl rfl c3) ?_
      refine am_e29 hi_159_37 ?_
      refine am_e34n hi_159_38 ?_
      show am_E _ _ _ _ [some (.ref 0), some (.int x), none] [.null] _ _
      refine am_e4n (ls' := [some (.ref 0), some (.int x), some .null]) hi_163_8 (Nat.le_of_ble_eq_true rfl) rfl ?_
      refine am_e2n hi_163_9 rfl ?_
      refine am_e15n hi_163_10 ?_
      refine am_e0 hi_163_13 ?_
      refine am_e18 hi_163_14 ?_
      refine am_e33 hi_163_25 ?_
      exact ⟨(-1), rfl, rfl⟩
    · refine am_e13f hi_159_9 (am_cF (m := x.toInt) (n := v2.toInt) rfl rfl c3) ?_
      refine am_e1 (v := x) hi_159_12 rfl ?_
      refine am_e2 (v := 5) hi_159_13 rfl ?_
      refine cm_20f (r := 6) h hi_159_14 (h.1.s (5, 4) (by decide)) (by decide) rfl ?_
      refine am_e32n (as := [.ref 6]) (la := [some (.ref 6)]) (rest := [.int x]) hi_159_17 (am_hd0 (M := 159) (by decide) 17) (Nat.le_of_ble_eq_true rfl) (Nat.le_of_ble_eq_true rfl) (show 1 ≤ am_P0.2.2.1 14 from by decide +kernel) rfl (cl_recv (h.1.s (6, 5) (by decide))) rfl rfl (ck_lsize (d := (d + 2)) h (by decide) ) ?_
      rintro v4 S5 ⟨r6, rfl, rfl, h8, h9, h10⟩
      have h8_ : r6.toInt = iv S 6 1 := h8
      have h9_ : 0 ≤ r6.toInt := h9
      have h10_ : r6.toInt ≤ 100000 := h10
      show am_E _ _ _ _ [some (.ref 5), some (.int x)] [.int r6, .int x] _ _
      by_cases c12 : r6.toInt ≤ x.toInt
      · refine am_e13t hi_159_20 (am_cT (m := x.toInt) (n := r6.toInt) rfl rfl c12) ?_
        refine am_e29 hi_159_37 ?_
        refine am_e34n hi_159_38 ?_
        show am_E _ _ _ _ [some (.ref 0), some (.int x), none] [.null] _ _
        refine am_e4n (ls' := [some (.ref 0), some (.int x), some .null]) hi_163_8 (Nat.le_of_ble_eq_true rfl) rfl ?_
        refine am_e2n hi_163_9 rfl ?_
        refine am_e15n hi_163_10 ?_
        refine am_e0 hi_163_13 ?_
        refine am_e18 hi_163_14 ?_
        refine am_e33 hi_163_25 ?_
        exact ⟨(-1), rfl, rfl⟩
      · refine am_e13f hi_159_20 (am_cF (m := x.toInt) (n := r6.toInt) rfl rfl c12) ?_
        refine am_e2 (v := 5) hi_159_23 rfl ?_
        refine cm_20f (r := 6) h hi_159_24 (h.1.s (5, 4) (by decide)) (by decide) rfl ?_
        refine am_e1 (v := x) hi_159_27 rfl ?_
        refine am_e32n (as := [.ref 6, .int x]) (la := [some (.ref 6), some (.int x)]) (rest := []) hi_159_28 (am_hd0 (M := 159) (by decide) 28) (Nat.le_of_ble_eq_true rfl) (Nat.le_of_ble_eq_true rfl) (show 2 ≤ am_P0.2.2.1 25 from by decide +kernel) rfl (cl_recv (h.1.s (6, 5) (by decide))) rfl rfl (ck_lget (d := d) h (by decide) (by show 0 ≤ x.toInt; omega) (by show x.toInt + 1 ≤ iv S 6 1; omega)) ?_
        rintro v13 S14 ⟨r15, rfl, hb17, rfl⟩
        show am_E _ _ _ _ [some (.ref 5), some (.int x)] [.ref r15] _ _
        obtain ⟨f18, hf18⟩ := cl_of hb17
        refine am_e30 hi_159_31 hf18 ?_
        refine am_e18 hi_159_34 ?_
        refine am_e34 hi_159_38 ?_
        show am_E _ _ _ _ [some (.ref 0), some (.int x), none] [.ref r15] _ _
        refine am_e4 (ls' := [some (.ref 0), some (.int x), some (.ref r15)]) hi_163_8 (Nat.le_of_ble_eq_true rfl) rfl ?_
        refine am_e2 (v := r15) hi_163_9 rfl ?_
        refine am_e15r hi_163_10 ?_
        refine am_e2 (v := 0) hi_163_17 rfl ?_
        refine cm_20f (r := 32) h hi_163_18 (h.1.s (0, 0) (by decide)) (by decide) rfl ?_
        refine am_e2 (v := r15) hi_163_21 rfl ?_
        refine am_e32n (as := [.ref 32, .ref r15]) (la := [some (.ref 32), some (.ref r15), none, none, none]) (rest := []) hi_163_22 (am_hd0 (M := 163) (by decide) 22) (Nat.le_of_ble_eq_true rfl) (Nat.le_of_ble_eq_true rfl) (show 2 ≤ am_P0.2.2.1 164 from by decide +kernel) rfl (cl_recv (h.1.s (32, 10) (by decide))) rfl rfl (ck_greatest (d := (d + 1)) h hb17  ) ?_
        rintro v19 S20 ⟨r21, rfl, rfl⟩
        show am_E _ _ _ _ [some (.ref 0), some (.int x), some (.ref r15)] [.int r21] _ _
        refine am_e33 hi_163_25 ?_
        exact ⟨r21, rfl, rfl⟩
theorem ck_flaws {sc : Nat × (Nat → Int32)} {d aw : Nat} {S : am_S} (h : SH aw S) : am_E (am_PP sc) (d + 8) 166 0 [some (.ref 0)] [] S (am_N fun v S1 => ∃ r : Int32, v = some (.int r) ∧ S = S1) := by
  refine am_e2 (v := 0) hi_166_0 rfl ?_
  refine cm_20f (r := 32) h hi_166_1 (h.1.s (0, 0) (by decide)) (by decide) rfl ?_
  refine am_e32n (as := [.ref 32]) (la := [some (.ref 32), none, none, none]) (rest := []) hi_166_4 (am_hd0 (M := 166) (by decide) 4) (Nat.le_of_ble_eq_true rfl) (Nat.le_of_ble_eq_true rfl) (show 1 ≤ am_P0.2.2.1 167 from by decide +kernel) rfl (cl_recv (h.1.s (32, 10) (by decide))) rfl rfl (ck_flawedAll (d := d) h   ) ?_
  rintro v1 S2 ⟨r3, rfl, rfl⟩
  show am_E _ _ _ _ [some (.ref 0)] [.int r3] _ _
  refine am_e33 hi_166_7 ?_
  exact ⟨r3, rfl, rfl⟩
