set_option maxHeartbeats 4000000 in
set_option maxRecDepth 100000 in
theorem c_X3_init (l : Launch) (D : va_G) (cB cC cI : ClassId) (ph : Nat) (sz : Nat) : Met l yX3_init wsX3_init ({ frames := 1, cells := 1, slots := 18, locals := 12 }) (gPw D cB cC cI [.ref ph] [(ph, .inr (3, [.null, .int 0]))] sz) (va_Qv (fun (_ : Nat → Nat) => True) (gB D (va_A [(ph, .inr (3, [.null, .int 0]))] sz) (fun u => [(ph, .inr (3, [.ref (u 0), .int 0])), (u 0, .inl (cC, 18, .inl (fun _ => 0)))])) (va_A [(ph, .inr (3, [.null, .int 0]))] sz)) 1 18 (va_A [(ph, .inr (3, [.null, .int 0]))] sz) := by
  refine metW (cc := cX3_init) (maxL := 1) (ret := none) (mc := 1) (ms := 18) (QA := fun A => (va_Qv (fun (_ : Nat → Nat) => True) (gB D A (fun u => [(ph, .inr (3, [.ref (u 0), .int 0])), (u 0, .inl (cC, 18, .inl (fun _ => 0)))])) A)) RX3 rfl (by decide) rfl (Nat.le_of_ble_eq_true rfl) ?_
  intro p e s m below meth c A hx hb hr hml hown hts hlocks hin hP hK hD hA hS ls hl
  have iwX3 : ∀ w ∈ wsX30, w ∈ wsX3_init := by decide +kernel
  have fk9 := hts (.fieldLink RX3 9 "BuyersWeights$Page" "letters" "[C") (by decide +kernel)
  have fk15 := hts (.fieldLink RX3 15 "BuyersWeights$Page" "length" "I") (by decide +kernel)
  have hl : lv_has ls 1 [(0, .ref ph)] := hl
  refine lv_aload_n hx hb dX3_init_0 rfl (lv_at hl 0 rfl) ?_
  refine W.objInit hx hb hown (hts (.methodLink RX3 3 objectInit) (by decide +kernel)) (hts (.instanceMethod objectInit) (by decide +kernel)) (hts (.code objectInit ⟨#[0xb1]⟩ 1 none) (by decide +kernel)) rfl (by rw [hml]; exact hl.1) rfl dX3_init_1 (Nat.le_of_ble_eq_true rfl) (Nat.le_of_ble_eq_true rfl) ?_
  refine W.eq (g2 := F0 m 4 ls []) rfl ?_
  refine lv_aload_n hx hb dX3_init_4 rfl (lv_at hl 0 rfl) ?_
  refine lv_bipush (v := 18) hx hb dX3_init_5 (by decide) ?_
  refine my_newa (atype := .char) (ty := .char) (N' := 18) (a0 := (18, .inl (fun _ => 0))) hx hb (hts (.arrayClass .char) (by decide +kernel)) rfl hK 1 rfl (fun _ h => h) hP hD hS hA (fun _ => rfl) (by decide) rfl (by decide) (Nat.le_of_ble_eq_true rfl) (Nat.le_of_ble_eq_true rfl) dX3_init_7 (fun q_1 H hP hD hS => ?_)
  have hP : va_P D vwCl [(ph, .inr (3, [.null, .int 0])), (q_1, .inl (cC, 18, .inl (fun _ => 0)))] H := hP
  have hD : va_D A [(ph, .inr (3, [.null, .int 0])), (q_1, .inl (cC, 18, .inl (fun _ => 0)))] := hD
  refine W.widen (k := 1) (n := 18) (by decide) (by decide) ?_
  refine va_putF (D := D) (ci := 3) (v := .ref q_1) (ty := .array .char) (C := RX3) (T := TX3) (N := 2) hx hb hts iwX3 tyX3 tyX3_ok nmX3 hown hK.1 hP hD hS 0 rfl rfl 0 (by decide) fk9 (fun _ h9 => h9) rfl hin rfl (by decide +kernel) rfl rfl (Nat.le_of_ble_eq_true rfl) dX3_init_9 (fun H locs hP hD hS => ?_)
  have hP : va_P D vwCl [(ph, .inr (3, [.ref q_1, .int 0])), (q_1, .inl (cC, 18, .inl (fun _ => 0)))] H := hP
  have hD : va_D A [(ph, .inr (3, [.ref q_1, .int 0])), (q_1, .inl (cC, 18, .inl (fun _ => 0)))] := hD
  refine lv_aload_n hx hb dX3_init_12 rfl (lv_at hl 0 rfl) ?_
  refine lv_iconst (v := 0) hx hb dX3_init_13 (by decide) ?_
  refine va_put (D := D) (ci := 3) (v := .int 0) (ty := .int) (C := RX3) (T := TX3) (N := 2) hx hb hts iwX3 tyX3 tyX3_ok nmX3 hown hK.1 hP hD hS 0 rfl rfl 1 (by decide) fk15 (fun _ h9 => h9) rfl (by decide +kernel) rfl rfl (Nat.le_of_ble_eq_true rfl) dX3_init_14 (fun H locs hP hD hS => ?_)
  have hP : va_P D vwCl [(ph, .inr (3, [.ref q_1, .int 0])), (q_1, .inl (cC, 18, .inl (fun _ => 0)))] H := hP
  have hD : va_D A [(ph, .inr (3, [.ref q_1, .int 0])), (q_1, .inl (cC, 18, .inl (fun _ => 0)))] := hD
  exact retWv (u := fun i => ([q_1] : List Nat).getD i 0) hx hb hr hlocks trivial hP hD hS dX3_init_17
set_option maxHeartbeats 4000000 in
set_option maxRecDepth 100000 in
theorem c_X2_init (l : Launch) (D : va_G) (cB cC cI : ClassId) (mh : Nat) (sz : Nat) : Met l yX2_init wsX2_init ({ frames := 1, cells := 7, slots := 28, locals := 12 }) (gPw D cB cC cI [.ref mh] [(mh, .inr (2, [.null, .null, .null, .null, .null, .null, .null, .int 0, .int 0, .int 0, .int 0]))] sz) (va_Qv (fun (_ : Nat → Nat) => True) (gB D (va_A [(mh, .inr (2, [.null, .null, .null, .null, .null, .null, .null, .int 0, .int 0, .int 0, .int 0]))] sz) (fun u => [(mh, .inr (2, [.ref (u 0), .ref (u 1), .ref (u 2), .ref (u 3), .ref (u 4), .ref (u 5), .ref (u 6), .int 0, .int 0, .int 0, .int 0])), (u 0, .inl (cI, 4, .inl (fun _ => 0))), (u 1, .inl (cI, 4, .inl (fun _ => 0))), (u 2, .inl (cI, 4, .inl (fun _ => 0))), (u 3, .inl (cI, 4, .inl (fun _ => 0))), (u 4, .inl (cI, 4, .inl (fun _ => 0))), (u 5, .inl (cI, 4, .inl (fun _ => 0))), (u 6, .inl (cI, 4, .inl (fun _ => 0)))])) (va_A [(mh, .inr (2, [.null, .null, .null, .null, .null, .null, .null, .int 0, .int 0, .int 0, .int 0]))] sz)) 7 28 (va_A [(mh, .inr (2, [.null, .null, .null, .null, .null, .null, .null, .int 0, .int 0, .int 0, .int 0]))] sz) := by
  refine metW (cc := cX2_init) (maxL := 1) (ret := none) (mc := 7) (ms := 28) (QA := fun A => (va_Qv (fun (_ : Nat → Nat) => True) (gB D A (fun u => [(mh, .inr (2, [.ref (u 0), .ref (u 1), .ref (u 2), .ref (u 3), .ref (u 4), .ref (u 5), .ref (u 6), .int 0, .int 0, .int 0, .int 0])), (u 0, .inl (cI, 4, .inl (fun _ => 0))), (u 1, .inl (cI, 4, .inl (fun _ => 0))), (u 2, .inl (cI, 4, .inl (fun _ => 0))), (u 3, .inl (cI, 4, .inl (fun _ => 0))), (u 4, .inl (cI, 4, .inl (fun _ => 0))), (u 5, .inl (cI, 4, .inl (fun _ => 0))), (u 6, .inl (cI, 4, .inl (fun _ => 0)))])) A)) RX2 rfl (by decide) rfl (Nat.le_of_ble_eq_true rfl) ?_
  intro p e s m below meth c A hx hb hr hml hown hts hlocks hin hP hK hD hA hS ls hl
  have iwX2 : ∀ w ∈ wsX20, w ∈ wsX2_init := by decide +kernel
  have fk9 := hts (.fieldLink RX2 9 "BuyersWeights$Market" "kinds" "[I") (by decide +kernel)
  have fk15 := hts (.fieldLink RX2 15 "BuyersWeights$Market" "stones" "[I") (by decide +kernel)
  have fk18 := hts (.fieldLink RX2 18 "BuyersWeights$Market" "coins" "[I") (by decide +kernel)
  have fk21 := hts (.fieldLink RX2 21 "BuyersWeights$Market" "got" "[I") (by decide +kernel)
  have fk24 := hts (.fieldLink RX2 24 "BuyersWeights$Market" "paid" "[I") (by decide +kernel)
  have fk27 := hts (.fieldLink RX2 27 "BuyersWeights$Market" "dealt" "[I") (by decide +kernel)
  have fk30 := hts (.fieldLink RX2 30 "BuyersWeights$Market" "used" "[I") (by decide +kernel)
  have fk33 := hts (.fieldLink RX2 33 "BuyersWeights$Market" "houses" "I") (by decide +kernel)
  have fk37 := hts (.fieldLink RX2 37 "BuyersWeights$Market" "tilt" "I") (by decide +kernel)
  have fk40 := hts (.fieldLink RX2 40 "BuyersWeights$Market" "hourNow" "I") (by decide +kernel)
  have fk43 := hts (.fieldLink RX2 43 "BuyersWeights$Market" "sales" "I") (by decide +kernel)
  have hl : lv_has ls 1 [(0, .ref mh)] := hl
  refine lv_aload_n hx hb dX2_init_0 rfl (lv_at hl 0 rfl) ?_
  refine W.objInit hx hb hown (hts (.methodLink RX2 3 objectInit) (by decide +kernel)) (hts (.instanceMethod objectInit) (by decide +kernel)) (hts (.code objectInit ⟨#[0xb1]⟩ 1 none) (by decide +kernel)) rfl (by rw [hml]; exact hl.1) rfl dX2_init_1 (Nat.le_of_ble_eq_true rfl) (Nat.le_of_ble_eq_true rfl) ?_
  refine W.eq (g2 := F0 m 4 ls []) rfl ?_
  refine lv_aload_n hx hb dX2_init_4 rfl (lv_at hl 0 rfl) ?_
  refine lv_iconst (v := 4) hx hb dX2_init_5 (by decide) ?_
  refine my_newa (atype := .int) (ty := .int) (N' := 4) (a0 := (4, .inl (fun _ => 0))) hx hb (hts (.arrayClass .int) (by decide +kernel)) rfl hK 0 rfl (fun _ h => h) hP hD hS hA (fun _ => rfl) (by decide) rfl (by decide) (Nat.le_of_ble_eq_true rfl) (Nat.le_of_ble_eq_true rfl) dX2_init_6 (fun q_1 H hP hD hS => ?_)
  have hP : va_P D vwCl [(mh, .inr (2, [.null, .null, .null, .null, .null, .null, .null, .int 0, .int 0, .int 0, .int 0])), (q_1, .inl (cI, 4, .inl (fun _ => 0)))] H := hP
  have hD : va_D A [(mh, .inr (2, [.null, .null, .null, .null, .null, .null, .null, .int 0, .int 0, .int 0, .int 0])), (q_1, .inl (cI, 4, .inl (fun _ => 0)))] := hD
  refine W.widen (k := 1) (n := 4) (by decide) (by decide) ?_
  refine va_putF (D := D) (ci := 2) (v := .ref q_1) (ty := .array .int) (C := RX2) (T := TX2) (N := 11) hx hb hts iwX2 tyX2 tyX2_ok nmX2 hown hK.1 hP hD hS 0 rfl rfl 0 (by decide) fk9 (fun _ h9 => h9) rfl hin rfl (by decide +kernel) rfl rfl (Nat.le_of_ble_eq_true rfl) dX2_init_8 (fun H locs hP hD hS => ?_)
  have hP : va_P D vwCl [(mh, .inr (2, [.ref q_1, .null, .null, .null, .null, .null, .null, .int 0, .int 0, .int 0, .int 0])), (q_1, .inl (cI, 4, .inl (fun _ => 0)))] H := hP
  have hD : va_D A [(mh, .inr (2, [.ref q_1, .null, .null, .null, .null, .null, .null, .int 0, .int 0, .int 0, .int 0])), (q_1, .inl (cI, 4, .inl (fun _ => 0)))] := hD
  refine lv_aload_n hx hb dX2_init_11 rfl (lv_at hl 0 rfl) ?_
  refine lv_iconst (v := 4) hx hb dX2_init_12 (by decide) ?_
  refine my_newa (atype := .int) (ty := .int) (N' := 4) (a0 := (4, .inl (fun _ => 0))) hx hb (hts (.arrayClass .int) (by decide +kernel)) rfl hK 0 rfl (fun _ h => h) hP hD hS hA (fun _ => rfl) (by decide) rfl (by decide) (Nat.le_of_ble_eq_true rfl) (Nat.le_of_ble_eq_true rfl) dX2_init_13 (fun q_2 H hP hD hS => ?_)
  have hP : va_P D vwCl [(mh, .inr (2, [.ref q_1, .null, .null, .null, .null, .null, .null, .int 0, .int 0, .int 0, .int 0])), (q_1, .inl (cI, 4, .inl (fun _ => 0))), (q_2, .inl (cI, 4, .inl (fun _ => 0)))] H := hP
  have hD : va_D A [(mh, .inr (2, [.ref q_1, .null, .null, .null, .null, .null, .null, .int 0, .int 0, .int 0, .int 0])), (q_1, .inl (cI, 4, .inl (fun _ => 0))), (q_2, .inl (cI, 4, .inl (fun _ => 0)))] := hD
  refine W.widen (k := 2) (n := 8) (by decide) (by decide) ?_
  refine va_putF (D := D) (ci := 2) (v := .ref q_2) (ty := .array .int) (C := RX2) (T := TX2) (N := 11) hx hb hts iwX2 tyX2 tyX2_ok nmX2 hown hK.1 hP hD hS 0 rfl rfl 1 (by decide) fk15 (fun _ h9 => h9) rfl hin rfl (by decide +kernel) rfl rfl (Nat.le_of_ble_eq_true rfl) dX2_init_15 (fun H locs hP hD hS => ?_)
  have hP : va_P D vwCl [(mh, .inr (2, [.ref q_1, .ref q_2, .null, .null, .null, .null, .null, .int 0, .int 0, .int 0, .int 0])), (q_1, .inl (cI, 4, .inl (fun _ => 0))), (q_2, .inl (cI, 4, .inl (fun _ => 0)))] H := hP
  have hD : va_D A [(mh, .inr (2, [.ref q_1, .ref q_2, .null, .null, .null, .null, .null, .int 0, .int 0, .int 0, .int 0])), (q_1, .inl (cI, 4, .inl (fun _ => 0))), (q_2, .inl (cI, 4, .inl (fun _ => 0)))] := hD
  refine lv_aload_n hx hb dX2_init_18 rfl (lv_at hl 0 rfl) ?_
  refine lv_iconst (v := 4) hx hb dX2_init_19 (by decide) ?_
  refine my_newa (atype := .int) (ty := .int) (N' := 4) (a0 := (4, .inl (fun _ => 0))) hx hb (hts (.arrayClass .int) (by decide +kernel)) rfl hK 0 rfl (fun _ h => h) hP hD hS hA (fun _ => rfl) (by decide) rfl (by decide) (Nat.le_of_ble_eq_true rfl) (Nat.le_of_ble_eq_true rfl) dX2_init_20 (fun q_3 H hP hD hS => ?_)
  have hP : va_P D vwCl [(mh, .inr (2, [.ref q_1, .ref q_2, .null, .null, .null, .null, .null, .int 0, .int 0, .int 0, .int 0])), (q_1, .inl (cI, 4, .inl (fun _ => 0))), (q_2, .inl (cI, 4, .inl (fun _ => 0))), (q_3, .inl (cI, 4, .inl (fun _ => 0)))] H := hP
  have hD : va_D A [(mh, .inr (2, [.ref q_1, .ref q_2, .null, .null, .null, .null, .null, .int 0, .int 0, .int 0, .int 0])), (q_1, .inl (cI, 4, .inl (fun _ => 0))), (q_2, .inl (cI, 4, .inl (fun _ => 0))), (q_3, .inl (cI, 4, .inl (fun _ => 0)))] := hD
  refine W.widen (k := 3) (n := 12) (by decide) (by decide) ?_
  refine va_putF (D := D) (ci := 2) (v := .ref q_3) (ty := .array .int) (C := RX2) (T := TX2) (N := 11) hx hb hts iwX2 tyX2 tyX2_ok nmX2 hown hK.1 hP hD hS 0 rfl rfl 2 (by decide) fk18 (fun _ h9 => h9) rfl hin rfl (by decide +kernel) rfl rfl (Nat.le_of_ble_eq_true rfl) dX2_init_22 (fun H locs hP hD hS => ?_)
  have hP : va_P D vwCl [(mh, .inr (2, [.ref q_1, .ref q_2, .ref q_3, .null, .null, .null, .null, .int 0, .int 0, .int 0, .int 0])), (q_1, .inl (cI, 4, .inl (fun _ => 0))), (q_2, .inl (cI, 4, .inl (fun _ => 0))), (q_3, .inl (cI, 4, .inl (fun _ => 0)))] H := hP
  have hD : va_D A [(mh, .inr (2, [.ref q_1, .ref q_2, .ref q_3, .null, .null, .null, .null, .int 0, .int 0, .int 0, .int 0])), (q_1, .inl (cI, 4, .inl (fun _ => 0))), (q_2, .inl (cI, 4, .inl (fun _ => 0))), (q_3, .inl (cI, 4, .inl (fun _ => 0)))] := hD
  refine lv_aload_n hx hb dX2_init_25 rfl (lv_at hl 0 rfl) ?_
  refine lv_iconst (v := 4) hx hb dX2_init_26 (by decide) ?_
  refine my_newa (atype := .int) (ty := .int) (N' := 4) (a0 := (4, .inl (fun _ => 0))) hx hb (hts (.arrayClass .int) (by decide +kernel)) rfl hK 0 rfl (fun _ h => h) hP hD hS hA (fun _ => rfl) (by decide) rfl (by decide) (Nat.le_of_ble_eq_true rfl) (Nat.le_of_ble_eq_true rfl) dX2_init_27 (fun q_4 H hP hD hS => ?_)
  have hP : va_P D vwCl [(mh, .inr (2, [.ref q_1, .ref q_2, .ref q_3, .null, .null, .null, .null, .int 0, .int 0, .int 0, .int 0])), (q_1, .inl (cI, 4, .inl (fun _ => 0))), (q_2, .inl (cI, 4, .inl (fun _ => 0))), (q_3, .inl (cI, 4, .inl (fun _ => 0))), (q_4, .inl (cI, 4, .inl (fun _ => 0)))] H := hP
  have hD : va_D A [(mh, .inr (2, [.ref q_1, .ref q_2, .ref q_3, .null, .null, .null, .null, .int 0, .int 0, .int 0, .int 0])), (q_1, .inl (cI, 4, .inl (fun _ => 0))), (q_2, .inl (cI, 4, .inl (fun _ => 0))), (q_3, .inl (cI, 4, .inl (fun _ => 0))), (q_4, .inl (cI, 4, .inl (fun _ => 0)))] := hD
  refine W.widen (k := 4) (n := 16) (by decide) (by decide) ?_
  refine va_putF (D := D) (ci := 2) (v := .ref q_4) (ty := .array .int) (C := RX2) (T := TX2) (N := 11) hx hb hts iwX2 tyX2 tyX2_ok nmX2 hown hK.1 hP hD hS 0 rfl rfl 3 (by decide) fk21 (fun _ h9 => h9) rfl hin rfl (by decide +kernel) rfl rfl (Nat.le_of_ble_eq_true rfl) dX2_init_29 (fun H locs hP hD hS => ?_)
  have hP : va_P D vwCl [(mh, .inr (2, [.ref q_1, .ref q_2, .ref q_3, .ref q_4, .null, .null, .null, .int 0, .int 0, .int 0, .int 0])), (q_1, .inl (cI, 4, .inl (fun _ => 0))), (q_2, .inl (cI, 4, .inl (fun _ => 0))), (q_3, .inl (cI, 4, .inl (fun _ => 0))), (q_4, .inl (cI, 4, .inl (fun _ => 0)))] H := hP
  have hD : va_D A [(mh, .inr (2, [.ref q_1, .ref q_2, .ref q_3, .ref q_4, .null, .null, .null, .int 0, .int 0, .int 0, .int 0])), (q_1, .inl (cI, 4, .inl (fun _ => 0))), (q_2, .inl (cI, 4, .inl (fun _ => 0))), (q_3, .inl (cI, 4, .inl (fun _ => 0))), (q_4, .inl (cI, 4, .inl (fun _ => 0)))] := hD
  refine lv_aload_n hx hb dX2_init_32 rfl (lv_at hl 0 rfl) ?_
  refine lv_iconst (v := 4) hx hb dX2_init_33 (by decide) ?_
  refine my_newa (atype := .int) (ty := .int) (N' := 4) (a0 := (4, .inl (fun _ => 0))) hx hb (hts (.arrayClass .int) (by decide +kernel)) rfl hK 0 rfl (fun _ h => h) hP hD hS hA (fun _ => rfl) (by decide) rfl (by decide) (Nat.le_of_ble_eq_true rfl) (Nat.le_of_ble_eq_true rfl) dX2_init_34 (fun q_5 H hP hD hS => ?_)
  have hP : va_P D vwCl [(mh, .inr (2, [.ref q_1, .ref q_2, .ref q_3, .ref q_4, .null, .null, .null, .int 0, .int 0, .int 0, .int 0])), (q_1, .inl (cI, 4, .inl (fun _ => 0))), (q_2, .inl (cI, 4, .inl (fun _ => 0))), (q_3, .inl (cI, 4, .inl (fun _ => 0))), (q_4, .inl (cI, 4, .inl (fun _ => 0))), (q_5, .inl (cI, 4, .inl (fun _ => 0)))] H := hP
  have hD : va_D A [(mh, .inr (2, [.ref q_1, .ref q_2, .ref q_3, .ref q_4, .null, .null, .null, .int 0, .int 0, .int 0, .int 0])), (q_1, .inl (cI, 4, .inl (fun _ => 0))), (q_2, .inl (cI, 4, .inl (fun _ => 0))), (q_3, .inl (cI, 4, .inl (fun _ => 0))), (q_4, .inl (cI, 4, .inl (fun _ => 0))), (q_5, .inl (cI, 4, .inl (fun _ => 0)))] := hD
  refine W.widen (k := 5) (n := 20) (by decide) (by decide) ?_
  refine va_putF (D := D) (ci := 2) (v := .ref q_5) (ty := .array .int) (C := RX2) (T := TX2) (N := 11) hx hb hts iwX2 tyX2 tyX2_ok nmX2 hown hK.1 hP hD hS 0 rfl rfl 4 (by decide) fk24 (fun _ h9 => h9) rfl hin rfl (by decide +kernel) rfl rfl (Nat.le_of_ble_eq_true rfl) dX2_init_36 (fun H locs hP hD hS => ?_)
  have hP : va_P D vwCl [(mh, .inr (2, [.ref q_1, .ref q_2, .ref q_3, .ref q_4, .ref q_5, .null, .null, .int 0, .int 0, .int 0, .int 0])), (q_1, .inl (cI, 4, .inl (fun _ => 0))), (q_2, .inl (cI, 4, .inl (fun _ => 0))), (q_3, .inl (cI, 4, .inl (fun _ => 0))), (q_4, .inl (cI, 4, .inl (fun _ => 0))), (q_5, .inl (cI, 4, .inl (fun _ => 0)))] H := hP
  have hD : va_D A [(mh, .inr (2, [.ref q_1, .ref q_2, .ref q_3, .ref q_4, .ref q_5, .null, .null, .int 0, .int 0, .int 0, .int 0])), (q_1, .inl (cI, 4, .inl (fun _ => 0))), (q_2, .inl (cI, 4, .inl (fun _ => 0))), (q_3, .inl (cI, 4, .inl (fun _ => 0))), (q_4, .inl (cI, 4, .inl (fun _ => 0))), (q_5, .inl (cI, 4, .inl (fun _ => 0)))] := hD
  refine lv_aload_n hx hb dX2_init_39 rfl (lv_at hl 0 rfl) ?_
  refine lv_iconst (v := 4) hx hb dX2_init_40 (by decide) ?_
  refine my_newa (atype := .int) (ty := .int) (N' := 4) (a0 := (4, .inl (fun _ => 0))) hx hb (hts (.arrayClass .int) (by decide +kernel)) rfl hK 0 rfl (fun _ h => h) hP hD hS hA (fun _ => rfl) (by decide) rfl (by decide) (Nat.le_of_ble_eq_true rfl) (Nat.le_of_ble_eq_true rfl) dX2_init_41 (fun q_6 H hP hD hS => ?_)
  have hP : va_P D vwCl [(mh, .inr (2, [.ref q_1, .ref q_2, .ref q_3, .ref q_4, .ref q_5, .null, .null, .int 0, .int 0, .int 0, .int 0])), (q_1, .inl (cI, 4, .inl (fun _ => 0))), (q_2, .inl (cI, 4, .inl (fun _ => 0))), (q_3, .inl (cI, 4, .inl (fun _ => 0))), (q_4, .inl (cI, 4, .inl (fun _ => 0))), (q_5, .inl (cI, 4, .inl (fun _ => 0))), (q_6, .inl (cI, 4, .inl (fun _ => 0)))] H := hP
  have hD : va_D A [(mh, .inr (2, [.ref q_1, .ref q_2, .ref q_3, .ref q_4, .ref q_5, .null, .null, .int 0, .int 0, .int 0, .int 0])), (q_1, .inl (cI, 4, .inl (fun _ => 0))), (q_2, .inl (cI, 4, .inl (fun _ => 0))), (q_3, .inl (cI, 4, .inl (fun _ => 0))), (q_4, .inl (cI, 4, .inl (fun _ => 0))), (q_5, .inl (cI, 4, .inl (fun _ => 0))), (q_6, .inl (cI, 4, .inl (fun _ => 0)))] := hD
  refine W.widen (k := 6) (n := 24) (by decide) (by decide) ?_
  refine va_putF (D := D) (ci := 2) (v := .ref q_6) (ty := .array .int) (C := RX2) (T := TX2) (N := 11) hx hb hts iwX2 tyX2 tyX2_ok nmX2 hown hK.1 hP hD hS 0 rfl rfl 5 (by decide) fk27 (fun _ h9 => h9) rfl hin rfl (by decide +kernel) rfl rfl (Nat.le_of_ble_eq_true rfl) dX2_init_43 (fun H locs hP hD hS => ?_)
  have hP : va_P D vwCl [(mh, .inr (2, [.ref q_1, .ref q_2, .ref q_3, .ref q_4, .ref q_5, .ref q_6, .null, .int 0, .int 0, .int 0, .int 0])), (q_1, .inl (cI, 4, .inl (fun _ => 0))), (q_2, .inl (cI, 4, .inl (fun _ => 0))), (q_3, .inl (cI, 4, .inl (fun _ => 0))), (q_4, .inl (cI, 4, .inl (fun _ => 0))), (q_5, .inl (cI, 4, .inl (fun _ => 0))), (q_6, .inl (cI, 4, .inl (fun _ => 0)))] H := hP
  have hD : va_D A [(mh, .inr (2, [.ref q_1, .ref q_2, .ref q_3, .ref q_4, .ref q_5, .ref q_6, .null, .int 0, .int 0, .int 0, .int 0])), (q_1, .inl (cI, 4, .inl (fun _ => 0))), (q_2, .inl (cI, 4, .inl (fun _ => 0))), (q_3, .inl (cI, 4, .inl (fun _ => 0))), (q_4, .inl (cI, 4, .inl (fun _ => 0))), (q_5, .inl (cI, 4, .inl (fun _ => 0))), (q_6, .inl (cI, 4, .inl (fun _ => 0)))] := hD
  refine lv_aload_n hx hb dX2_init_46 rfl (lv_at hl 0 rfl) ?_
  refine lv_iconst (v := 4) hx hb dX2_init_47 (by decide) ?_
  refine my_newa (atype := .int) (ty := .int) (N' := 4) (a0 := (4, .inl (fun _ => 0))) hx hb (hts (.arrayClass .int) (by decide +kernel)) rfl hK 0 rfl (fun _ h => h) hP hD hS hA (fun _ => rfl) (by decide) rfl (by decide) (Nat.le_of_ble_eq_true rfl) (Nat.le_of_ble_eq_true rfl) dX2_init_48 (fun q_7 H hP hD hS => ?_)
  have hP : va_P D vwCl [(mh, .inr (2, [.ref q_1, .ref q_2, .ref q_3, .ref q_4, .ref q_5, .ref q_6, .null, .int 0, .int 0, .int 0, .int 0])), (q_1, .inl (cI, 4, .inl (fun _ => 0))), (q_2, .inl (cI, 4, .inl (fun _ => 0))), (q_3, .inl (cI, 4, .inl (fun _ => 0))), (q_4, .inl (cI, 4, .inl (fun _ => 0))), (q_5, .inl (cI, 4, .inl (fun _ => 0))), (q_6, .inl (cI, 4, .inl (fun _ => 0))), (q_7, .inl (cI, 4, .inl (fun _ => 0)))] H := hP
  have hD : va_D A [(mh, .inr (2, [.ref q_1, .ref q_2, .ref q_3, .ref q_4, .ref q_5, .ref q_6, .null, .int 0, .int 0, .int 0, .int 0])), (q_1, .inl (cI, 4, .inl (fun _ => 0))), (q_2, .inl (cI, 4, .inl (fun _ => 0))), (q_3, .inl (cI, 4, .inl (fun _ => 0))), (q_4, .inl (cI, 4, .inl (fun _ => 0))), (q_5, .inl (cI, 4, .inl (fun _ => 0))), (q_6, .inl (cI, 4, .inl (fun _ => 0))), (q_7, .inl (cI, 4, .inl (fun _ => 0)))] := hD
  refine W.widen (k := 7) (n := 28) (by decide) (by decide) ?_
  refine va_putF (D := D) (ci := 2) (v := .ref q_7) (ty := .array .int) (C := RX2) (T := TX2) (N := 11) hx hb hts iwX2 tyX2 tyX2_ok nmX2 hown hK.1 hP hD hS 0 rfl rfl 6 (by decide) fk30 (fun _ h9 => h9) rfl hin rfl (by decide +kernel) rfl rfl (Nat.le_of_ble_eq_true rfl) dX2_init_50 (fun H locs hP hD hS => ?_)
  have hP : va_P D vwCl [(mh, .inr (2, [.ref q_1, .ref q_2, .ref q_3, .ref q_4, .ref q_5, .ref q_6, .ref q_7, .int 0, .int 0, .int 0, .int 0])), (q_1, .inl (cI, 4, .inl (fun _ => 0))), (q_2, .inl (cI, 4, .inl (fun _ => 0))), (q_3, .inl (cI, 4, .inl (fun _ => 0))), (q_4, .inl (cI, 4, .inl (fun _ => 0))), (q_5, .inl (cI, 4, .inl (fun _ => 0))), (q_6, .inl (cI, 4, .inl (fun _ => 0))), (q_7, .inl (cI, 4, .inl (fun _ => 0)))] H := hP
  have hD : va_D A [(mh, .inr (2, [.ref q_1, .ref q_2, .ref q_3, .ref q_4, .ref q_5, .ref q_6, .ref q_7, .int 0, .int 0, .int 0, .int 0])), (q_1, .inl (cI, 4, .inl (fun _ => 0))), (q_2, .inl (cI, 4, .inl (fun _ => 0))), (q_3, .inl (cI, 4, .inl (fun _ => 0))), (q_4, .inl (cI, 4, .inl (fun _ => 0))), (q_5, .inl (cI, 4, .inl (fun _ => 0))), (q_6, .inl (cI, 4, .inl (fun _ => 0))), (q_7, .inl (cI, 4, .inl (fun _ => 0)))] := hD
  refine lv_aload_n hx hb dX2_init_53 rfl (lv_at hl 0 rfl) ?_
  refine lv_iconst (v := 0) hx hb dX2_init_54 (by decide) ?_
  refine va_put (D := D) (ci := 2) (v := .int 0) (ty := .int) (C := RX2) (T := TX2) (N := 11) hx hb hts iwX2 tyX2 tyX2_ok nmX2 hown hK.1 hP hD hS 0 rfl rfl 7 (by decide) fk33 (fun _ h9 => h9) rfl (by decide +kernel) rfl rfl (Nat.le_of_ble_eq_true rfl) dX2_init_55 (fun H locs hP hD hS => ?_)
  have hP : va_P D vwCl [(mh, .inr (2, [.ref q_1, .ref q_2, .ref q_3, .ref q_4, .ref q_5, .ref q_6, .ref q_7, .int 0, .int 0, .int 0, .int 0])), (q_1, .inl (cI, 4, .inl (fun _ => 0))), (q_2, .inl (cI, 4, .inl (fun _ => 0))), (q_3, .inl (cI, 4, .inl (fun _ => 0))), (q_4, .inl (cI, 4, .inl (fun _ => 0))), (q_5, .inl (cI, 4, .inl (fun _ => 0))), (q_6, .inl (cI, 4, .inl (fun _ => 0))), (q_7, .inl (cI, 4, .inl (fun _ => 0)))] H := hP
  have hD : va_D A [(mh, .inr (2, [.ref q_1, .ref q_2, .ref q_3, .ref q_4, .ref q_5, .ref q_6, .ref q_7, .int 0, .int 0, .int 0, .int 0])), (q_1, .inl (cI, 4, .inl (fun _ => 0))), (q_2, .inl (cI, 4, .inl (fun _ => 0))), (q_3, .inl (cI, 4, .inl (fun _ => 0))), (q_4, .inl (cI, 4, .inl (fun _ => 0))), (q_5, .inl (cI, 4, .inl (fun _ => 0))), (q_6, .inl (cI, 4, .inl (fun _ => 0))), (q_7, .inl (cI, 4, .inl (fun _ => 0)))] := hD
  refine lv_aload_n hx hb dX2_init_58 rfl (lv_at hl 0 rfl) ?_
  refine lv_iconst (v := 0) hx hb dX2_init_59 (by decide) ?_
  refine va_put (D := D) (ci := 2) (v := .int 0) (ty := .int) (C := RX2) (T := TX2) (N := 11) hx hb hts iwX2 tyX2 tyX2_ok nmX2 hown hK.1 hP hD hS 0 rfl rfl 8 (by decide) fk37 (fun _ h9 => h9) rfl (by decide +kernel) rfl rfl (Nat.le_of_ble_eq_true rfl) dX2_init_60 (fun H locs hP hD hS => ?_)
  have hP : va_P D vwCl [(mh, .inr (2, [.ref q_1, .ref q_2, .ref q_3, .ref q_4, .ref q_5, .ref q_6, .ref q_7, .int 0, .int 0, .int 0, .int 0])), (q_1, .inl (cI, 4, .inl (fun _ => 0))), (q_2, .inl (cI, 4, .inl (fun _ => 0))), (q_3, .inl (cI, 4, .inl (fun _ => 0))), (q_4, .inl (cI, 4, .inl (fun _ => 0))), (q_5, .inl (cI, 4, .inl (fun _ => 0))), (q_6, .inl (cI, 4, .inl (fun _ => 0))), (q_7, .inl (cI, 4, .inl (fun _ => 0)))] H := hP
  have hD : va_D A [(mh, .inr (2, [.ref q_1, .ref q_2, .ref q_3, .ref q_4, .ref q_5, .ref q_6, .ref q_7, .int 0, .int 0, .int 0, .int 0])), (q_1, .inl (cI, 4, .inl (fun _ => 0))), (q_2, .inl (cI, 4, .inl (fun _ => 0))), (q_3, .inl (cI, 4, .inl (fun _ => 0))), (q_4, .inl (cI, 4, .inl (fun _ => 0))), (q_5, .inl (cI, 4, .inl (fun _ => 0))), (q_6, .inl (cI, 4, .inl (fun _ => 0))), (q_7, .inl (cI, 4, .inl (fun _ => 0)))] := hD
  refine lv_aload_n hx hb dX2_init_63 rfl (lv_at hl 0 rfl) ?_
  refine lv_iconst (v := 0) hx hb dX2_init_64 (by decide) ?_
  refine va_put (D := D) (ci := 2) (v := .int 0) (ty := .int) (C := RX2) (T := TX2) (N := 11) hx hb hts iwX2 tyX2 tyX2_ok nmX2 hown hK.1 hP hD hS 0 rfl rfl 9 (by decide) fk40 (fun _ h9 => h9) rfl (by decide +kernel) rfl rfl (Nat.le_of_ble_eq_true rfl) dX2_init_65 (fun H locs hP hD hS => ?_)
  have hP : va_P D vwCl [(mh, .inr (2, [.ref q_1, .ref q_2, .ref q_3, .ref q_4, .ref q_5, .ref q_6, .ref q_7, .int 0, .int 0, .int 0, .int 0])), (q_1, .inl (cI, 4, .inl (fun _ => 0))), (q_2, .inl (cI, 4, .inl (fun _ => 0))), (q_3, .inl (cI, 4, .inl (fun _ => 0))), (q_4, .inl (cI, 4, .inl (fun _ => 0))), (q_5, .inl (cI, 4, .inl (fun _ => 0))), (q_6, .inl (cI, 4, .inl (fun _ => 0))), (q_7, .inl (cI, 4, .inl (fun _ => 0)))] H := hP
  have hD : va_D A [(mh, .inr (2, [.ref q_1, .ref q_2, .ref q_3, .ref q_4, .ref q_5, .ref q_6, .ref q_7, .int 0, .int 0, .int 0, .int 0])), (q_1, .inl (cI, 4, .inl (fun _ => 0))), (q_2, .inl (cI, 4, .inl (fun _ => 0))), (q_3, .inl (cI, 4, .inl (fun _ => 0))), (q_4, .inl (cI, 4, .inl (fun _ => 0))), (q_5, .inl (cI, 4, .inl (fun _ => 0))), (q_6, .inl (cI, 4, .inl (fun _ => 0))), (q_7, .inl (cI, 4, .inl (fun _ => 0)))] := hD
  refine lv_aload_n hx hb dX2_init_68 rfl (lv_at hl 0 rfl) ?_
  refine lv_iconst (v := 0) hx hb dX2_init_69 (by decide) ?_
  refine va_put (D := D) (ci := 2) (v := .int 0) (ty := .int) (C := RX2) (T := TX2) (N := 11) hx hb hts iwX2 tyX2 tyX2_ok nmX2 hown hK.1 hP hD hS 0 rfl rfl 10 (by decide) fk43 (fun _ h9 => h9) rfl (by decide +kernel) rfl rfl (Nat.le_of_ble_eq_true rfl) dX2_init_70 (fun H locs hP hD hS => ?_)
  have hP : va_P D vwCl [(mh, .inr (2, [.ref q_1, .ref q_2, .ref q_3, .ref q_4, .ref q_5, .ref q_6, .ref q_7, .int 0, .int 0, .int 0, .int 0])), (q_1, .inl (cI, 4, .inl (fun _ => 0))), (q_2, .inl (cI, 4, .inl (fun _ => 0))), (q_3, .inl (cI, 4, .inl (fun _ => 0))), (q_4, .inl (cI, 4, .inl (fun _ => 0))), (q_5, .inl (cI, 4, .inl (fun _ => 0))), (q_6, .inl (cI, 4, .inl (fun _ => 0))), (q_7, .inl (cI, 4, .inl (fun _ => 0)))] H := hP
  have hD : va_D A [(mh, .inr (2, [.ref q_1, .ref q_2, .ref q_3, .ref q_4, .ref q_5, .ref q_6, .ref q_7, .int 0, .int 0, .int 0, .int 0])), (q_1, .inl (cI, 4, .inl (fun _ => 0))), (q_2, .inl (cI, 4, .inl (fun _ => 0))), (q_3, .inl (cI, 4, .inl (fun _ => 0))), (q_4, .inl (cI, 4, .inl (fun _ => 0))), (q_5, .inl (cI, 4, .inl (fun _ => 0))), (q_6, .inl (cI, 4, .inl (fun _ => 0))), (q_7, .inl (cI, 4, .inl (fun _ => 0)))] := hD
  exact retWv (u := fun i => ([q_1, q_2, q_3, q_4, q_5, q_6, q_7] : List Nat).getD i 0) hx hb hr hlocks trivial hP hD hS dX2_init_73
set_option maxHeartbeats 4000000 in
set_option maxRecDepth 100000 in
theorem c_X1_init (l : Launch) (D : va_G) (cB cC cI : ClassId) (lh : Nat) (sz : Nat) : Met l yX1_init wsX1_init ({ frames := 1, cells := 1, slots := 4, locals := 12 }) (gPw D cB cC cI [.ref lh] [(lh, .inr (1, [.null, .int 0, .int 0]))] sz) (va_Qv (fun (_ : Nat → Nat) => True) (gB D (va_A [(lh, .inr (1, [.null, .int 0, .int 0]))] sz) (fun u => [(lh, .inr (1, [.ref (u 0), .int 0, .int 0])), (u 0, .inl (cI, 4, .inl (fun _ => 0)))])) (va_A [(lh, .inr (1, [.null, .int 0, .int 0]))] sz)) 1 4 (va_A [(lh, .inr (1, [.null, .int 0, .int 0]))] sz) := by
  refine metW (cc := cX1_init) (maxL := 1) (ret := none) (mc := 1) (ms := 4) (QA := fun A => (va_Qv (fun (_ : Nat → Nat) => True) (gB D A (fun u => [(lh, .inr (1, [.ref (u 0), .int 0, .int 0])), (u 0, .inl (cI, 4, .inl (fun _ => 0)))])) A)) RX1 rfl (by decide) rfl (Nat.le_of_ble_eq_true rfl) ?_
  intro p e s m below meth c A hx hb hr hml hown hts hlocks hin hP hK hD hA hS ls hl
  have iwX1 : ∀ w ∈ wsX10, w ∈ wsX1_init := by decide +kernel
  have fk9 := hts (.fieldLink RX1 9 "BuyersWeights$Ledger" "times" "[I") (by decide +kernel)
  have fk15 := hts (.fieldLink RX1 15 "BuyersWeights$Ledger" "hands" "I") (by decide +kernel)
  have fk19 := hts (.fieldLink RX1 19 "BuyersWeights$Ledger" "lost" "I") (by decide +kernel)
  have hl : lv_has ls 1 [(0, .ref lh)] := hl
  refine lv_aload_n hx hb dX1_init_0 rfl (lv_at hl 0 rfl) ?_
  refine W.objInit hx hb hown (hts (.methodLink RX1 3 objectInit) (by decide +kernel)) (hts (.instanceMethod objectInit) (by decide +kernel)) (hts (.code objectInit ⟨#[0xb1]⟩ 1 none) (by decide +kernel)) rfl (by rw [hml]; exact hl.1) rfl dX1_init_1 (Nat.le_of_ble_eq_true rfl) (Nat.le_of_ble_eq_true rfl) ?_
  refine W.eq (g2 := F0 m 4 ls []) rfl ?_
  refine lv_aload_n hx hb dX1_init_4 rfl (lv_at hl 0 rfl) ?_
  refine lv_iconst (v := 4) hx hb dX1_init_5 (by decide) ?_
  refine my_newa (atype := .int) (ty := .int) (N' := 4) (a0 := (4, .inl (fun _ => 0))) hx hb (hts (.arrayClass .int) (by decide +kernel)) rfl hK 0 rfl (fun _ h => h) hP hD hS hA (fun _ => rfl) (by decide) rfl (by decide) (Nat.le_of_ble_eq_true rfl) (Nat.le_of_ble_eq_true rfl) dX1_init_6 (fun q_1 H hP hD hS => ?_)
  have hP : va_P D vwCl [(lh, .inr (1, [.null, .int 0, .int 0])), (q_1, .inl (cI, 4, .inl (fun _ => 0)))] H := hP
  have hD : va_D A [(lh, .inr (1, [.null, .int 0, .int 0])), (q_1, .inl (cI, 4, .inl (fun _ => 0)))] := hD
  refine W.widen (k := 1) (n := 4) (by decide) (by decide) ?_
  refine va_putF (D := D) (ci := 1) (v := .ref q_1) (ty := .array .int) (C := RX1) (T := TX1) (N := 3) hx hb hts iwX1 tyX1 tyX1_ok nmX1 hown hK.1 hP hD hS 0 rfl rfl 0 (by decide) fk9 (fun _ h9 => h9) rfl hin rfl (by decide +kernel) rfl rfl (Nat.le_of_ble_eq_true rfl) dX1_init_8 (fun H locs hP hD hS => ?_)
  have hP : va_P D vwCl [(lh, .inr (1, [.ref q_1, .int 0, .int 0])), (q_1, .inl (cI, 4, .inl (fun _ => 0)))] H := hP
  have hD : va_D A [(lh, .inr (1, [.ref q_1, .int 0, .int 0])), (q_1, .inl (cI, 4, .inl (fun _ => 0)))] := hD
  refine lv_aload_n hx hb dX1_init_11 rfl (lv_at hl 0 rfl) ?_
  refine lv_iconst (v := 0) hx hb dX1_init_12 (by decide) ?_
  refine va_put (D := D) (ci := 1) (v := .int 0) (ty := .int) (C := RX1) (T := TX1) (N := 3) hx hb hts iwX1 tyX1 tyX1_ok nmX1 hown hK.1 hP hD hS 0 rfl rfl 1 (by decide) fk15 (fun _ h9 => h9) rfl (by decide +kernel) rfl rfl (Nat.le_of_ble_eq_true rfl) dX1_init_13 (fun H locs hP hD hS => ?_)
  have hP : va_P D vwCl [(lh, .inr (1, [.ref q_1, .int 0, .int 0])), (q_1, .inl (cI, 4, .inl (fun _ => 0)))] H := hP
  have hD : va_D A [(lh, .inr (1, [.ref q_1, .int 0, .int 0])), (q_1, .inl (cI, 4, .inl (fun _ => 0)))] := hD
  refine lv_aload_n hx hb dX1_init_16 rfl (lv_at hl 0 rfl) ?_
  refine lv_iconst (v := 0) hx hb dX1_init_17 (by decide) ?_
  refine va_put (D := D) (ci := 1) (v := .int 0) (ty := .int) (C := RX1) (T := TX1) (N := 3) hx hb hts iwX1 tyX1 tyX1_ok nmX1 hown hK.1 hP hD hS 0 rfl rfl 2 (by decide) fk19 (fun _ h9 => h9) rfl (by decide +kernel) rfl rfl (Nat.le_of_ble_eq_true rfl) dX1_init_18 (fun H locs hP hD hS => ?_)
  have hP : va_P D vwCl [(lh, .inr (1, [.ref q_1, .int 0, .int 0])), (q_1, .inl (cI, 4, .inl (fun _ => 0)))] H := hP
  have hD : va_D A [(lh, .inr (1, [.ref q_1, .int 0, .int 0])), (q_1, .inl (cI, 4, .inl (fun _ => 0)))] := hD
  exact retWv (u := fun i => ([q_1] : List Nat).getD i 0) hx hb hr hlocks trivial hP hD hS dX1_init_21
set_option maxHeartbeats 4000000 in
set_option maxRecDepth 100000 in
theorem c_X4_init (l : Launch) (D : va_G) (cB cC cI : ClassId) (qh : Nat) (sz : Nat) : Met l yX4_init wsX4_init ({ frames := 1, cells := 3, slots := 10, locals := 12 }) (gPw D cB cC cI [.ref qh] [(qh, .inr (4, [.null, .null, .null, .int 0, .int 0, .int 0, .int 0]))] sz) (va_Qv (fun (_ : Nat → Nat) => True) (gB D (va_A [(qh, .inr (4, [.null, .null, .null, .int 0, .int 0, .int 0, .int 0]))] sz) (fun u => [(qh, .inr (4, [.ref (u 0), .ref (u 1), .ref (u 2), .int 0, .int 0, .int 0, .int 0])), (u 0, .inl (cI, 4, .inl (fun _ => 0))), (u 1, .inl (cI, 3, .inl (fun _ => 0))), (u 2, .inl (cI, 3, .inl (fun _ => 0)))])) (va_A [(qh, .inr (4, [.null, .null, .null, .int 0, .int 0, .int 0, .int 0]))] sz)) 3 10 (va_A [(qh, .inr (4, [.null, .null, .null, .int 0, .int 0, .int 0, .int 0]))] sz) := by
  refine metW (cc := cX4_init) (maxL := 1) (ret := none) (mc := 3) (ms := 10) (QA := fun A => (va_Qv (fun (_ : Nat → Nat) => True) (gB D A (fun u => [(qh, .inr (4, [.ref (u 0), .ref (u 1), .ref (u 2), .int 0, .int 0, .int 0, .int 0])), (u 0, .inl (cI, 4, .inl (fun _ => 0))), (u 1, .inl (cI, 3, .inl (fun _ => 0))), (u 2, .inl (cI, 3, .inl (fun _ => 0)))])) A)) RX4 rfl (by decide) rfl (Nat.le_of_ble_eq_true rfl) ?_
  intro p e s m below meth c A hx hb hr hml hown hts hlocks hin hP hK hD hA hS ls hl
  have iwX4 : ∀ w ∈ wsX40, w ∈ wsX4_init := by decide +kernel
  have fk9 := hts (.fieldLink RX4 9 "BuyersWeights$Planner" "stones" "[I") (by decide +kernel)
  have fk15 := hts (.fieldLink RX4 15 "BuyersWeights$Planner" "tried" "[I") (by decide +kernel)
  have fk18 := hts (.fieldLink RX4 18 "BuyersWeights$Planner" "best" "[I") (by decide +kernel)
  have fk21 := hts (.fieldLink RX4 21 "BuyersWeights$Planner" "bestSales" "I") (by decide +kernel)
  have fk25 := hts (.fieldLink RX4 25 "BuyersWeights$Planner" "bestPaid" "I") (by decide +kernel)
  have fk28 := hts (.fieldLink RX4 28 "BuyersWeights$Planner" "buyer" "I") (by decide +kernel)
  have fk31 := hts (.fieldLink RX4 31 "BuyersWeights$Planner" "wanted" "I") (by decide +kernel)
  have hl : lv_has ls 1 [(0, .ref qh)] := hl
  refine lv_aload_n hx hb dX4_init_0 rfl (lv_at hl 0 rfl) ?_
  refine W.objInit hx hb hown (hts (.methodLink RX4 3 objectInit) (by decide +kernel)) (hts (.instanceMethod objectInit) (by decide +kernel)) (hts (.code objectInit ⟨#[0xb1]⟩ 1 none) (by decide +kernel)) rfl (by rw [hml]; exact hl.1) rfl dX4_init_1 (Nat.le_of_ble_eq_true rfl) (Nat.le_of_ble_eq_true rfl) ?_
  refine W.eq (g2 := F0 m 4 ls []) rfl ?_
  refine lv_aload_n hx hb dX4_init_4 rfl (lv_at hl 0 rfl) ?_
  refine lv_iconst (v := 4) hx hb dX4_init_5 (by decide) ?_
  refine my_newa (atype := .int) (ty := .int) (N' := 4) (a0 := (4, .inl (fun _ => 0))) hx hb (hts (.arrayClass .int) (by decide +kernel)) rfl hK 0 rfl (fun _ h => h) hP hD hS hA (fun _ => rfl) (by decide) rfl (by decide) (Nat.le_of_ble_eq_true rfl) (Nat.le_of_ble_eq_true rfl) dX4_init_6 (fun q_1 H hP hD hS => ?_)
  have hP : va_P D vwCl [(qh, .inr (4, [.null, .null, .null, .int 0, .int 0, .int 0, .int 0])), (q_1, .inl (cI, 4, .inl (fun _ => 0)))] H := hP
  have hD : va_D A [(qh, .inr (4, [.null, .null, .null, .int 0, .int 0, .int 0, .int 0])), (q_1, .inl (cI, 4, .inl (fun _ => 0)))] := hD
  refine W.widen (k := 1) (n := 4) (by decide) (by decide) ?_
  refine va_putF (D := D) (ci := 4) (v := .ref q_1) (ty := .array .int) (C := RX4) (T := TX4) (N := 7) hx hb hts iwX4 tyX4 tyX4_ok nmX4 hown hK.1 hP hD hS 0 rfl rfl 0 (by decide) fk9 (fun _ h9 => h9) rfl hin rfl (by decide +kernel) rfl rfl (Nat.le_of_ble_eq_true rfl) dX4_init_8 (fun H locs hP hD hS => ?_)
  have hP : va_P D vwCl [(qh, .inr (4, [.ref q_1, .null, .null, .int 0, .int 0, .int 0, .int 0])), (q_1, .inl (cI, 4, .inl (fun _ => 0)))] H := hP
  have hD : va_D A [(qh, .inr (4, [.ref q_1, .null, .null, .int 0, .int 0, .int 0, .int 0])), (q_1, .inl (cI, 4, .inl (fun _ => 0)))] := hD
  refine lv_aload_n hx hb dX4_init_11 rfl (lv_at hl 0 rfl) ?_
  refine lv_iconst (v := 3) hx hb dX4_init_12 (by decide) ?_
  refine my_newa (atype := .int) (ty := .int) (N' := 3) (a0 := (3, .inl (fun _ => 0))) hx hb (hts (.arrayClass .int) (by decide +kernel)) rfl hK 0 rfl (fun _ h => h) hP hD hS hA (fun _ => rfl) (by decide) rfl (by decide) (Nat.le_of_ble_eq_true rfl) (Nat.le_of_ble_eq_true rfl) dX4_init_13 (fun q_2 H hP hD hS => ?_)
  have hP : va_P D vwCl [(qh, .inr (4, [.ref q_1, .null, .null, .int 0, .int 0, .int 0, .int 0])), (q_1, .inl (cI, 4, .inl (fun _ => 0))), (q_2, .inl (cI, 3, .inl (fun _ => 0)))] H := hP
  have hD : va_D A [(qh, .inr (4, [.ref q_1, .null, .null, .int 0, .int 0, .int 0, .int 0])), (q_1, .inl (cI, 4, .inl (fun _ => 0))), (q_2, .inl (cI, 3, .inl (fun _ => 0)))] := hD
  refine W.widen (k := 2) (n := 7) (by decide) (by decide) ?_
  refine va_putF (D := D) (ci := 4) (v := .ref q_2) (ty := .array .int) (C := RX4) (T := TX4) (N := 7) hx hb hts iwX4 tyX4 tyX4_ok nmX4 hown hK.1 hP hD hS 0 rfl rfl 1 (by decide) fk15 (fun _ h9 => h9) rfl hin rfl (by decide +kernel) rfl rfl (Nat.le_of_ble_eq_true rfl) dX4_init_15 (fun H locs hP hD hS => ?_)
  have hP : va_P D vwCl [(qh, .inr (4, [.ref q_1, .ref q_2, .null, .int 0, .int 0, .int 0, .int 0])), (q_1, .inl (cI, 4, .inl (fun _ => 0))), (q_2, .inl (cI, 3, .inl (fun _ => 0)))] H := hP
  have hD : va_D A [(qh, .inr (4, [.ref q_1, .ref q_2, .null, .int 0, .int 0, .int 0, .int 0])), (q_1, .inl (cI, 4, .inl (fun _ => 0))), (q_2, .inl (cI, 3, .inl (fun _ => 0)))] := hD
  refine lv_aload_n hx hb dX4_init_18 rfl (lv_at hl 0 rfl) ?_
  refine lv_iconst (v := 3) hx hb dX4_init_19 (by decide) ?_
  refine my_newa (atype := .int) (ty := .int) (N' := 3) (a0 := (3, .inl (fun _ => 0))) hx hb (hts (.arrayClass .int) (by decide +kernel)) rfl hK 0 rfl (fun _ h => h) hP hD hS hA (fun _ => rfl) (by decide) rfl (by decide) (Nat.le_of_ble_eq_true rfl) (Nat.le_of_ble_eq_true rfl) dX4_init_20 (fun q_3 H hP hD hS => ?_)
  have hP : va_P D vwCl [(qh, .inr (4, [.ref q_1, .ref q_2, .null, .int 0, .int 0, .int 0, .int 0])), (q_1, .inl (cI, 4, .inl (fun _ => 0))), (q_2, .inl (cI, 3, .inl (fun _ => 0))), (q_3, .inl (cI, 3, .inl (fun _ => 0)))] H := hP
  have hD : va_D A [(qh, .inr (4, [.ref q_1, .ref q_2, .null, .int 0, .int 0, .int 0, .int 0])), (q_1, .inl (cI, 4, .inl (fun _ => 0))), (q_2, .inl (cI, 3, .inl (fun _ => 0))), (q_3, .inl (cI, 3, .inl (fun _ => 0)))] := hD
  refine W.widen (k := 3) (n := 10) (by decide) (by decide) ?_
  refine va_putF (D := D) (ci := 4) (v := .ref q_3) (ty := .array .int) (C := RX4) (T := TX4) (N := 7) hx hb hts iwX4 tyX4 tyX4_ok nmX4 hown hK.1 hP hD hS 0 rfl rfl 2 (by decide) fk18 (fun _ h9 => h9) rfl hin rfl (by decide +kernel) rfl rfl (Nat.le_of_ble_eq_true rfl) dX4_init_22 (fun H locs hP hD hS => ?_)
  have hP : va_P D vwCl [(qh, .inr (4, [.ref q_1, .ref q_2, .ref q_3, .int 0, .int 0, .int 0, .int 0])), (q_1, .inl (cI, 4, .inl (fun _ => 0))), (q_2, .inl (cI, 3, .inl (fun _ => 0))), (q_3, .inl (cI, 3, .inl (fun _ => 0)))] H := hP
  have hD : va_D A [(qh, .inr (4, [.ref q_1, .ref q_2, .ref q_3, .int 0, .int 0, .int 0, .int 0])), (q_1, .inl (cI, 4, .inl (fun _ => 0))), (q_2, .inl (cI, 3, .inl (fun _ => 0))), (q_3, .inl (cI, 3, .inl (fun _ => 0)))] := hD
  refine lv_aload_n hx hb dX4_init_25 rfl (lv_at hl 0 rfl) ?_
  refine lv_iconst (v := 0) hx hb dX4_init_26 (by decide) ?_
  refine va_put (D := D) (ci := 4) (v := .int 0) (ty := .int) (C := RX4) (T := TX4) (N := 7) hx hb hts iwX4 tyX4 tyX4_ok nmX4 hown hK.1 hP hD hS 0 rfl rfl 3 (by decide) fk21 (fun _ h9 => h9) rfl (by decide +kernel) rfl rfl (Nat.le_of_ble_eq_true rfl) dX4_init_27 (fun H locs hP hD hS => ?_)
  have hP : va_P D vwCl [(qh, .inr (4, [.ref q_1, .ref q_2, .ref q_3, .int 0, .int 0, .int 0, .int 0])), (q_1, .inl (cI, 4, .inl (fun _ => 0))), (q_2, .inl (cI, 3, .inl (fun _ => 0))), (q_3, .inl (cI, 3, .inl (fun _ => 0)))] H := hP
  have hD : va_D A [(qh, .inr (4, [.ref q_1, .ref q_2, .ref q_3, .int 0, .int 0, .int 0, .int 0])), (q_1, .inl (cI, 4, .inl (fun _ => 0))), (q_2, .inl (cI, 3, .inl (fun _ => 0))), (q_3, .inl (cI, 3, .inl (fun _ => 0)))] := hD
  refine lv_aload_n hx hb dX4_init_30 rfl (lv_at hl 0 rfl) ?_
  refine lv_iconst (v := 0) hx hb dX4_init_31 (by decide) ?_
  refine va_put (D := D) (ci := 4) (v := .int 0) (ty := .int) (C := RX4) (T := TX4) (N := 7) hx hb hts iwX4 tyX4 tyX4_ok nmX4 hown hK.1 hP hD hS 0 rfl rfl 4 (by decide) fk25 (fun _ h9 => h9) rfl (by decide +kernel) rfl rfl (Nat.le_of_ble_eq_true rfl) dX4_init_32 (fun H locs hP hD hS => ?_)
  have hP : va_P D vwCl [(qh, .inr (4, [.ref q_1, .ref q_2, .ref q_3, .int 0, .int 0, .int 0, .int 0])), (q_1, .inl (cI, 4, .inl (fun _ => 0))), (q_2, .inl (cI, 3, .inl (fun _ => 0))), (q_3, .inl (cI, 3, .inl (fun _ => 0)))] H := hP
  have hD : va_D A [(qh, .inr (4, [.ref q_1, .ref q_2, .ref q_3, .int 0, .int 0, .int 0, .int 0])), (q_1, .inl (cI, 4, .inl (fun _ => 0))), (q_2, .inl (cI, 3, .inl (fun _ => 0))), (q_3, .inl (cI, 3, .inl (fun _ => 0)))] := hD
  refine lv_aload_n hx hb dX4_init_35 rfl (lv_at hl 0 rfl) ?_
  refine lv_iconst (v := 0) hx hb dX4_init_36 (by decide) ?_
  refine va_put (D := D) (ci := 4) (v := .int 0) (ty := .int) (C := RX4) (T := TX4) (N := 7) hx hb hts iwX4 tyX4 tyX4_ok nmX4 hown hK.1 hP hD hS 0 rfl rfl 5 (by decide) fk28 (fun _ h9 => h9) rfl (by decide +kernel) rfl rfl (Nat.le_of_ble_eq_true rfl) dX4_init_37 (fun H locs hP hD hS => ?_)
  have hP : va_P D vwCl [(qh, .inr (4, [.ref q_1, .ref q_2, .ref q_3, .int 0, .int 0, .int 0, .int 0])), (q_1, .inl (cI, 4, .inl (fun _ => 0))), (q_2, .inl (cI, 3, .inl (fun _ => 0))), (q_3, .inl (cI, 3, .inl (fun _ => 0)))] H := hP
  have hD : va_D A [(qh, .inr (4, [.ref q_1, .ref q_2, .ref q_3, .int 0, .int 0, .int 0, .int 0])), (q_1, .inl (cI, 4, .inl (fun _ => 0))), (q_2, .inl (cI, 3, .inl (fun _ => 0))), (q_3, .inl (cI, 3, .inl (fun _ => 0)))] := hD
  refine lv_aload_n hx hb dX4_init_40 rfl (lv_at hl 0 rfl) ?_
  refine lv_iconst (v := 0) hx hb dX4_init_41 (by decide) ?_
  refine va_put (D := D) (ci := 4) (v := .int 0) (ty := .int) (C := RX4) (T := TX4) (N := 7) hx hb hts iwX4 tyX4 tyX4_ok nmX4 hown hK.1 hP hD hS 0 rfl rfl 6 (by decide) fk31 (fun _ h9 => h9) rfl (by decide +kernel) rfl rfl (Nat.le_of_ble_eq_true rfl) dX4_init_42 (fun H locs hP hD hS => ?_)
  have hP : va_P D vwCl [(qh, .inr (4, [.ref q_1, .ref q_2, .ref q_3, .int 0, .int 0, .int 0, .int 0])), (q_1, .inl (cI, 4, .inl (fun _ => 0))), (q_2, .inl (cI, 3, .inl (fun _ => 0))), (q_3, .inl (cI, 3, .inl (fun _ => 0)))] H := hP
  have hD : va_D A [(qh, .inr (4, [.ref q_1, .ref q_2, .ref q_3, .int 0, .int 0, .int 0, .int 0])), (q_1, .inl (cI, 4, .inl (fun _ => 0))), (q_2, .inl (cI, 3, .inl (fun _ => 0))), (q_3, .inl (cI, 3, .inl (fun _ => 0)))] := hD
  exact retWv (u := fun i => ([q_1, q_2, q_3] : List Nat).getD i 0) hx hb hr hlocks trivial hP hD hS dX4_init_45
set_option maxHeartbeats 4000000 in
set_option maxRecDepth 100000 in
theorem c_X0_init (l : Launch) (D : va_G) (cB cC cI : ClassId) (dh : Nat) (sz : Nat) : Met l yX0_init wsX0_init ({ frames := 1, cells := 1, slots := 4, locals := 12 }) (gPw D cB cC cI [.ref dh] [(dh, .inr (0, [.null, .int 0, .int 0]))] sz) (va_Qv (fun (_ : Nat → Nat) => True) (gB D (va_A [(dh, .inr (0, [.null, .int 0, .int 0]))] sz) (fun u => [(dh, .inr (0, [.ref (u 0), .int 0, .int 0])), (u 0, .inl (cI, 4, .inl (fun _ => 0)))])) (va_A [(dh, .inr (0, [.null, .int 0, .int 0]))] sz)) 1 4 (va_A [(dh, .inr (0, [.null, .int 0, .int 0]))] sz) := by
  refine metW (cc := cX0_init) (maxL := 1) (ret := none) (mc := 1) (ms := 4) (QA := fun A => (va_Qv (fun (_ : Nat → Nat) => True) (gB D A (fun u => [(dh, .inr (0, [.ref (u 0), .int 0, .int 0])), (u 0, .inl (cI, 4, .inl (fun _ => 0)))])) A)) RX0 rfl (by decide) rfl (Nat.le_of_ble_eq_true rfl) ?_
  intro p e s m below meth c A hx hb hr hml hown hts hlocks hin hP hK hD hA hS ls hl
  have iwX0 : ∀ w ∈ wsX00, w ∈ wsX0_init := by decide +kernel
  have fk9 := hts (.fieldLink RX0 9 "BuyersWeights$DrawnSales" "stones" "[I") (by decide +kernel)
  have fk15 := hts (.fieldLink RX0 15 "BuyersWeights$DrawnSales" "seed" "I") (by decide +kernel)
  have fk19 := hts (.fieldLink RX0 19 "BuyersWeights$DrawnSales" "ouncesGot" "I") (by decide +kernel)
  have hl : lv_has ls 1 [(0, .ref dh)] := hl
  refine lv_aload_n hx hb dX0_init_0 rfl (lv_at hl 0 rfl) ?_
  refine W.objInit hx hb hown (hts (.methodLink RX0 3 objectInit) (by decide +kernel)) (hts (.instanceMethod objectInit) (by decide +kernel)) (hts (.code objectInit ⟨#[0xb1]⟩ 1 none) (by decide +kernel)) rfl (by rw [hml]; exact hl.1) rfl dX0_init_1 (Nat.le_of_ble_eq_true rfl) (Nat.le_of_ble_eq_true rfl) ?_
  refine W.eq (g2 := F0 m 4 ls []) rfl ?_
  refine lv_aload_n hx hb dX0_init_4 rfl (lv_at hl 0 rfl) ?_
  refine lv_iconst (v := 4) hx hb dX0_init_5 (by decide) ?_
  refine my_newa (atype := .int) (ty := .int) (N' := 4) (a0 := (4, .inl (fun _ => 0))) hx hb (hts (.arrayClass .int) (by decide +kernel)) rfl hK 0 rfl (fun _ h => h) hP hD hS hA (fun _ => rfl) (by decide) rfl (by decide) (Nat.le_of_ble_eq_true rfl) (Nat.le_of_ble_eq_true rfl) dX0_init_6 (fun q_1 H hP hD hS => ?_)
  have hP : va_P D vwCl [(dh, .inr (0, [.null, .int 0, .int 0])), (q_1, .inl (cI, 4, .inl (fun _ => 0)))] H := hP
  have hD : va_D A [(dh, .inr (0, [.null, .int 0, .int 0])), (q_1, .inl (cI, 4, .inl (fun _ => 0)))] := hD
  refine W.widen (k := 1) (n := 4) (by decide) (by decide) ?_
  refine va_putF (D := D) (ci := 0) (v := .ref q_1) (ty := .array .int) (C := RX0) (T := TX0) (N := 3) hx hb hts iwX0 tyX0 tyX0_ok nmX0 hown hK.1 hP hD hS 0 rfl rfl 0 (by decide) fk9 (fun _ h9 => h9) rfl hin rfl (by decide +kernel) rfl rfl (Nat.le_of_ble_eq_true rfl) dX0_init_8 (fun H locs hP hD hS => ?_)
  have hP : va_P D vwCl [(dh, .inr (0, [.ref q_1, .int 0, .int 0])), (q_1, .inl (cI, 4, .inl (fun _ => 0)))] H := hP
  have hD : va_D A [(dh, .inr (0, [.ref q_1, .int 0, .int 0])), (q_1, .inl (cI, 4, .inl (fun _ => 0)))] := hD
  refine lv_aload_n hx hb dX0_init_11 rfl (lv_at hl 0 rfl) ?_
  refine lv_iconst (v := 0) hx hb dX0_init_12 (by decide) ?_
  refine va_put (D := D) (ci := 0) (v := .int 0) (ty := .int) (C := RX0) (T := TX0) (N := 3) hx hb hts iwX0 tyX0 tyX0_ok nmX0 hown hK.1 hP hD hS 0 rfl rfl 1 (by decide) fk15 (fun _ h9 => h9) rfl (by decide +kernel) rfl rfl (Nat.le_of_ble_eq_true rfl) dX0_init_13 (fun H locs hP hD hS => ?_)
  have hP : va_P D vwCl [(dh, .inr (0, [.ref q_1, .int 0, .int 0])), (q_1, .inl (cI, 4, .inl (fun _ => 0)))] H := hP
  have hD : va_D A [(dh, .inr (0, [.ref q_1, .int 0, .int 0])), (q_1, .inl (cI, 4, .inl (fun _ => 0)))] := hD
  refine lv_aload_n hx hb dX0_init_16 rfl (lv_at hl 0 rfl) ?_
  refine lv_iconst (v := 0) hx hb dX0_init_17 (by decide) ?_
  refine va_put (D := D) (ci := 0) (v := .int 0) (ty := .int) (C := RX0) (T := TX0) (N := 3) hx hb hts iwX0 tyX0 tyX0_ok nmX0 hown hK.1 hP hD hS 0 rfl rfl 2 (by decide) fk19 (fun _ h9 => h9) rfl (by decide +kernel) rfl rfl (Nat.le_of_ble_eq_true rfl) dX0_init_18 (fun H locs hP hD hS => ?_)
  have hP : va_P D vwCl [(dh, .inr (0, [.ref q_1, .int 0, .int 0])), (q_1, .inl (cI, 4, .inl (fun _ => 0)))] H := hP
  have hD : va_D A [(dh, .inr (0, [.ref q_1, .int 0, .int 0])), (q_1, .inl (cI, 4, .inl (fun _ => 0)))] := hD
  exact retWv (u := fun i => ([q_1] : List Nat).getD i 0) hx hb hr hlocks trivial hP hD hS dX0_init_21
