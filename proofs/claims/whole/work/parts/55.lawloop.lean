theorem LW.up {cB cC cI : ClassId} {xh vh : Nat} {u v : Nat → Nat} {i : Nat} {w : va_W} (h : LW cB cC cI xh vh u v i w) : LW cB cC cI xh vh u v (i + 1) w := by
  obtain ⟨n, h, a, d, k, r, q, tl, lo, ik, kho, ksl, jd, jo, bs1, bp1, bu1, wa1, sd, og, isw, nw, ek, em, eh, es, ed, el, sn, hs, kd, st, co, gt, pd, de, us, tm, tn, lt, kst, kgt, kpd, kde, kus, jm, ps, tr, be, ds, sv, ke, rfl, hC, hKP⟩ := h
  exact ⟨n, h, a, d, k, r, q, tl, lo, ik, kho, ksl, jd, jo, bs1, bp1, bu1, wa1, sd, og, isw, nw, ek, em, eh, es, ed, el, sn, hs, kd, st, co, gt, pd, de, us, tm, tn, lt, kst, kgt, kpd, kde, kus, jm, ps, tr, be, ds, sv, ke, rfl, hC.up, hKP.up⟩
theorem law_4 (L : Nat) : nI (L + 4) - 4 = nI L := by
  rw [← nI_add L 4]
  show nI L + 4 - 4 = nI L
  rw [Int32.sub_eq_add_neg, Int32.add_assoc]
  show nI L + (4 + -4) = nI L
  rw [show (4 : Int32) + -4 = 0 from by decide, Int32.add_zero]
theorem law_neg : ∀ L, L < 4 → ∀ i, i ≤ 64 → nI L - 4 < nI (4 * i) := by decide
theorem law_more {L i : Nat} (hL : L ≤ 256) (hi : i ≤ 64) (h : ¬ nI L - 4 < nI (4 * i)) : 4 * i + 4 ≤ L := by
  by_cases h4 : L < 4
  · exact absurd (law_neg L h4 i hi) h
  · obtain ⟨M, rfl⟩ : ∃ M, L = M + 4 := ⟨L - 4, by omega⟩
    rw [law_4] at h
    have h5 : ¬ M < 4 * i := fun z => h (nI_lt z (by omega))
    omega
set_option maxHeartbeats 4000000 in
set_option maxRecDepth 100000 in
theorem law_head {p : Program} {l : Launch} {e : Env} {s : State} {m : MethodId} {below : List Frame} {meth : Method} {c : Code} {D : va_G} {cB cC cI : ClassId} {ka va b L xh vh : Nat} {xs : Nat → Int32} {u v : Nat → Nat} {i : Nat} (C : LCtx p s m meth c D cB cC cI ka va b L xs) (hL : L ≤ 256) (hi0 : i ≤ 64) (nx : 4 * i + 4 ≤ L → AtL p l e s m below meth c D cB cC cI b xh vh u v (i + 1) (i + 1) 18) : AtL p l e s m below meth c D cB cC cI b xh vh u v i i 18 := by
  intro w H locs hW hP hD hS ls hl
  obtain ⟨hx, hb, hr, hml, hown, hts, hX, hbl, hlocks, hK, hG⟩ := id C
  have hbA : ¬ (fun q : Nat => s.heap.size ≤ q) b := Nat.not_le.mpr hbl
  have K6 : 4 * i + 4 ≤ L → AtL p l e s m below meth c D cB cC cI b xh vh u v (i + 1) i 636 := by
    intro hi w H locs hW hP hD hS ls hl
    refine lv_iinc (v := nI (4 * (i + 1))) (lv' := [(3, .int (nI (4 * (i + 1)))), (2, .ref vh), (1, .ref xh), (0, .ref b)]) hx hb dL_law_636 hl (k := 0) rfl (nI_add (4 * i) 4) (by decide) rfl (fun ls hl => ?_)
    refine lv_goto (tgt := 18) hx hb dL_law_639 (by decide) ?_
    exact nx hi _ _ _ hW hP hD hS ls hl
  refine lv_iload_n hx hb dL_law_18 rfl (lv_at hl 0 rfl) ?_
  refine lv_aload_n hx hb dL_law_19 rfl (lv_at hl 3 rfl) ?_
  refine va_slen hx hb hX hbl hbA hS dL_law_20 ?_
  refine lv_iconst (v := 4) hx hb dL_law_21 (by decide) ?_
  refine lv_isub hx hb dL_law_22 ?_
  refine lv_icmp_gt (tgt := 642) hx hb dL_law_23 (by decide) (fun c_1 => ?_) (fun c_1 => ?_)
  · refine lv_iconst (v := 1) hx hb dL_law_642 (by decide) ?_
    refine va_forget (fun q hq => hS.2.2 q hq) ?_
    refine W.widen (k := 694957) (n := 7017377) (by decide) (by decide) ?_
    exact lw_ret hx hb hr hlocks dL_law_643
  · have hi : 4 * i + 4 ≤ L := law_more hL hi0 c_1
    refine lv_aload_n hx hb dL_law_26 rfl (lv_at hl 3 rfl) ?_
    refine lv_iload_n hx hb dL_law_27 rfl (lv_at hl 0 rfl) ?_
    refine va_sld hx hb hX hbl hbA hS (vp_in_nI (n := 4 * i) (N := L) (by omega) (by omega)) dL_law_28 ?_
    refine lv_bipush (v := 31) hx hb dL_law_29 (by decide) ?_
    refine lv_iand hx hb dL_law_31 ?_
    by_cases k_2 : ((xs (nI (4 * i)).toNatClampNeg) &&& 31) = 0
    · refine lv_tableIn (off := 100) (tgt := 132) hx hb dL_law_32 (by rw [k_2]; decide) (by rw [k_2]; decide) (by rw [k_2]; decide +kernel) (by decide) ?_
      exact law_letter C hi hL hW hP hD hS hl (K6 hi)
    · by_cases k_3 : ((xs (nI (4 * i)).toNatClampNeg) &&& 31) = 1
      · refine lv_tableIn (off := 123) (tgt := 155) hx hb dL_law_32 (by rw [k_3]; decide) (by rw [k_3]; decide) (by rw [k_3]; decide +kernel) (by decide) ?_
        exact law_blank C hi hL hW hP hD hS hl (K6 hi)
      · by_cases k_4 : ((xs (nI (4 * i)).toNatClampNeg) &&& 31) = 2
        · refine lv_tableIn (off := 136) (tgt := 168) hx hb dL_law_32 (by rw [k_4]; decide) (by rw [k_4]; decide) (by rw [k_4]; decide +kernel) (by decide) ?_
          exact law_fault C hi hL hW hP hD hS hl (K6 hi)
        · by_cases k_5 : ((xs (nI (4 * i)).toNatClampNeg) &&& 31) = 3
          · refine lv_tableIn (off := 149) (tgt := 181) hx hb dL_law_32 (by rw [k_5]; decide) (by rw [k_5]; decide) (by rw [k_5]; decide +kernel) (by decide) ?_
            exact law_market C hi hL hW hP hD hS hl (K6 hi)
          · by_cases k_6 : ((xs (nI (4 * i)).toNatClampNeg) &&& 31) = 4
            · refine lv_tableIn (off := 162) (tgt := 194) hx hb dL_law_32 (by rw [k_6]; decide) (by rw [k_6]; decide) (by rw [k_6]; decide +kernel) (by decide) ?_
              exact law_about C hi hL hW hP hD hS hl (K6 hi)
            · by_cases k_7 : ((xs (nI (4 * i)).toNatClampNeg) &&& 31) = 5
              · refine lv_tableIn (off := 195) (tgt := 227) hx hb dL_law_32 (by rw [k_7]; decide) (by rw [k_7]; decide) (by rw [k_7]; decide +kernel) (by decide) ?_
                exact law_as C hi hL hW hP hD hS hl (K6 hi)
              · by_cases k_8 : ((xs (nI (4 * i)).toNatClampNeg) &&& 31) = 6
                · refine lv_tableIn (off := 228) (tgt := 260) hx hb dL_law_32 (by rw [k_8]; decide) (by rw [k_8]; decide) (by rw [k_8]; decide +kernel) (by decide) ?_
                  exact law_measure C hi hL hW hP hD hS hl (K6 hi)
                · by_cases k_9 : ((xs (nI (4 * i)).toNatClampNeg) &&& 31) = 7
                  · refine lv_tableIn (off := 271) (tgt := 303) hx hb dL_law_32 (by rw [k_9]; decide) (by rw [k_9]; decide) (by rw [k_9]; decide +kernel) (by decide) ?_
                    exact law_buy C hi hL hW hP hD hS hl (K6 hi)
                  · by_cases k_10 : ((xs (nI (4 * i)).toNatClampNeg) &&& 31) = 8
                    · refine lv_tableIn (off := 314) (tgt := 346) hx hb dL_law_32 (by rw [k_10]; decide) (by rw [k_10]; decide) (by rw [k_10]; decide +kernel) (by decide) ?_
                      exact law_hour C hi hL hW hP hD hS hl (K6 hi)
                    · by_cases k_11 : ((xs (nI (4 * i)).toNatClampNeg) &&& 31) = 9
                      · refine lv_tableIn (off := 327) (tgt := 359) hx hb dL_law_32 (by rw [k_11]; decide) (by rw [k_11]; decide) (by rw [k_11]; decide +kernel) (by decide) ?_
                        exact law_plan C hi hL hW hP hD hS hl (K6 hi)
                      · by_cases k_12 : ((xs (nI (4 * i)).toNatClampNeg) &&& 31) = 10
                        · refine lv_tableIn (off := 370) (tgt := 402) hx hb dL_law_32 (by rw [k_12]; decide) (by rw [k_12]; decide) (by rw [k_12]; decide +kernel) (by decide) ?_
                          exact law_fair C hi hL hW hP hD hS hl (K6 hi)
                        · by_cases k_13 : ((xs (nI (4 * i)).toNatClampNeg) &&& 31) = 11
                          · refine lv_tableIn (off := 403) (tgt := 435) hx hb dL_law_32 (by rw [k_13]; decide) (by rw [k_13]; decide) (by rw [k_13]; decide +kernel) (by decide) ?_
                            exact law_pass C hi hL hW hP hD hS hl (K6 hi)
                          · by_cases k_14 : ((xs (nI (4 * i)).toNatClampNeg) &&& 31) = 12
                            · refine lv_tableIn (off := 426) (tgt := 458) hx hb dL_law_32 (by rw [k_14]; decide) (by rw [k_14]; decide) (by rw [k_14]; decide +kernel) (by decide) ?_
                              exact law_lose C hi hL hW hP hD hS hl (K6 hi)
                            · by_cases k_15 : ((xs (nI (4 * i)).toNatClampNeg) &&& 31) = 13
                              · refine lv_tableIn (off := 449) (tgt := 481) hx hb dL_law_32 (by rw [k_15]; decide) (by rw [k_15]; decide) (by rw [k_15]; decide +kernel) (by decide) ?_
                                exact law_clear C hi hL hW hP hD hS hl (K6 hi)
                              · by_cases k_16 : ((xs (nI (4 * i)).toNatClampNeg) &&& 31) = 14
                                · refine lv_tableIn (off := 462) (tgt := 494) hx hb dL_law_32 (by rw [k_16]; decide) (by rw [k_16]; decide) (by rw [k_16]; decide +kernel) (by decide) ?_
                                  exact law_rubbed C hi hL hW hP hD hS hl (K6 hi)
                                · by_cases k_17 : ((xs (nI (4 * i)).toNatClampNeg) &&& 31) = 15
                                  · refine lv_tableIn (off := 485) (tgt := 517) hx hb dL_law_32 (by rw [k_17]; decide) (by rw [k_17]; decide) (by rw [k_17]; decide +kernel) (by decide) ?_
                                    exact law_watch C hi hL hW hP hD hS hl (K6 hi)
                                  · by_cases k_18 : ((xs (nI (4 * i)).toNatClampNeg) &&& 31) = 16
                                    · refine lv_tableIn (off := 498) (tgt := 530) hx hb dL_law_32 (by rw [k_18]; decide) (by rw [k_18]; decide) (by rw [k_18]; decide +kernel) (by decide) ?_
                                      exact law_markets C hi hL hW hP hD hS hl (K6 hi)
                                    · by_cases k_19 : ((xs (nI (4 * i)).toNatClampNeg) &&& 31) = 17
                                      · refine lv_tableIn (off := 541) (tgt := 573) hx hb dL_law_32 (by rw [k_19]; decide) (by rw [k_19]; decide) (by rw [k_19]; decide +kernel) (by decide) ?_
                                        exact law_image C hi hL hW hP hD hS hl (K6 hi)
                                      · by_cases k_20 : ((xs (nI (4 * i)).toNatClampNeg) &&& 31) = 18
                                        · refine lv_tableIn (off := 554) (tgt := 586) hx hb dL_law_32 (by rw [k_20]; decide) (by rw [k_20]; decide) (by rw [k_20]; decide +kernel) (by decide) ?_
                                          exact law_restore C hi hL hW hP hD hS hl (K6 hi)
                                        · by_cases k_21 : ((xs (nI (4 * i)).toNatClampNeg) &&& 31) = 19
                                          · refine lv_tableIn (off := 567) (tgt := 599) hx hb dL_law_32 (by rw [k_21]; decide) (by rw [k_21]; decide) (by rw [k_21]; decide +kernel) (by decide) ?_
                                            exact law_count C hi hL hW hP hD hS hl (K6 hi)
                                          · by_cases k_22 : ((xs (nI (4 * i)).toNatClampNeg) &&& 31) = 20
                                            · refine lv_tableIn (off := 590) (tgt := 622) hx hb dL_law_32 (by rw [k_22]; decide) (by rw [k_22]; decide) (by rw [k_22]; decide +kernel) (by decide) ?_
                                              exact law_digest C hi hL hW hP hD hS hl (K6 hi)
                                            · have hout : ((xs (nI (4 * i)).toNatClampNeg) &&& 31).toInt < 0 ∨ 20 < ((xs (nI (4 * i)).toNatClampNeg) &&& 31).toInt := by
                                                have q0 := lv_neT (a := 0) k_2 (by decide)
                                                have q1 := lv_neT (a := 1) k_3 (by decide)
                                                have q2 := lv_neT (a := 2) k_4 (by decide)
                                                have q3 := lv_neT (a := 3) k_5 (by decide)
                                                have q4 := lv_neT (a := 4) k_6 (by decide)
                                                have q5 := lv_neT (a := 5) k_7 (by decide)
                                                have q6 := lv_neT (a := 6) k_8 (by decide)
                                                have q7 := lv_neT (a := 7) k_9 (by decide)
                                                have q8 := lv_neT (a := 8) k_10 (by decide)
                                                have q9 := lv_neT (a := 9) k_11 (by decide)
                                                have q10 := lv_neT (a := 10) k_12 (by decide)
                                                have q11 := lv_neT (a := 11) k_13 (by decide)
                                                have q12 := lv_neT (a := 12) k_14 (by decide)
                                                have q13 := lv_neT (a := 13) k_15 (by decide)
                                                have q14 := lv_neT (a := 14) k_16 (by decide)
                                                have q15 := lv_neT (a := 15) k_17 (by decide)
                                                have q16 := lv_neT (a := 16) k_18 (by decide)
                                                have q17 := lv_neT (a := 17) k_19 (by decide)
                                                have q18 := lv_neT (a := 18) k_20 (by decide)
                                                have q19 := lv_neT (a := 19) k_21 (by decide)
                                                have q20 := lv_neT (a := 20) k_22 (by decide)
                                                omega
                                              refine lv_tableOut (tgt := 636) hx hb dL_law_32 hout (by decide) ?_
                                              exact K6 hi _ _ _ hW.up hP hD hS ls hl
theorem law_loop {p : Program} {l : Launch} {e : Env} {s : State} {m : MethodId} {below : List Frame} {meth : Method} {c : Code} {D : va_G} {cB cC cI : ClassId} {ka va b L xh vh : Nat} {xs : Nat → Int32} {u v : Nat → Nat} (C : LCtx p s m meth c D cB cC cI ka va b L xs) (hL : L ≤ 256) : ∀ (fu i : Nat), i ≤ 64 → 64 ≤ i + fu → AtL p l e s m below meth c D cB cC cI b xh vh u v i i 18
  | 0, i, h1, h2 => law_head C hL h1 (fun h => by omega)
  | fu + 1, i, h1, h2 => law_head C hL h1 (fun h => law_loop C hL fu (i + 1) (by omega) (by omega))
