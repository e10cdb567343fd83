/-- the next seed -/
def nxN (z : Nat) : Nat := (1103515245 * z + 12345) % 2147483648
theorem nxN_lt (z : Nat) : nxN z < 2147483648 := Nat.mod_lt _ (by decide)
theorem nx_draw {z : Nat} (hz : z < 2147483648) : ((1103515245 * (nI z).toInt64) + 12345 - (1103515245 * (nI z).toInt64 + 12345) / 2147483648 * 2147483648).toInt32 = nI (nxN z) := by
  rw [nI_l hz]
  have e : (1103515245 : Int64) * lN z + 12345 = lN (1103515245 * z + 12345) := by
    rw [← lN_add, ← lN_mul]; rfl
  rw [e]
  have h := pk_lRem (a := 1103515245 * z + 12345) (b := 2147483648) (by omega) (by decide) (by decide)
  rw [show (2147483648 : Int64) = lN 2147483648 from rfl, h, lN_i]
  rfl
theorem nx_of {x n : Nat} (hx : x < 2147483648) (h0 : 0 < n) (hn : n ≤ 4) : nI x / 65536 - nI x / 65536 / nI n * nI n = nI (x / 65536 % n) := by
  rw [show (65536 : Int32) = nI 65536 from rfl, pk_div hx (by decide) (by decide), pk_rem (by omega) h0 (by omega)]
set_option maxHeartbeats 4000000 in
set_option maxRecDepth 100000 in
theorem c_X0_draw (l : Launch) (D : va_G) (cB cC cI : ClassId) (dh : Nat) (d0 : Nat) (ds : Nat → Int32) (z : Nat) (og : Int32) (n : Nat) (sz : Nat) (hz : z < 2147483648) (h0 : 0 < n) (hn : n ≤ 4) : Met l yX0_draw wsX0_draw ({ frames := 0, cells := 0, slots := 0, locals := 0 }) (gPw D cB cC cI [.ref dh, .int (nI n)] [(dh, .inr (0, [.ref d0, .int (nI z), .int og])), (d0, .inl (cI, 4, .inl ds))] sz) (QWi D (nI (nxN z / 65536 % n)) [(dh, .inr (0, [.ref d0, .int (nI (nxN z)), .int og])), (d0, .inl (cI, 4, .inl ds))] (va_A [(dh, .inr (0, [.ref d0, .int (nI z), .int og])), (d0, .inl (cI, 4, .inl ds))] sz)) 0 0 (va_A [(dh, .inr (0, [.ref d0, .int (nI z), .int og])), (d0, .inl (cI, 4, .inl ds))] sz) := by
  refine metW (cc := cX0_draw) (maxL := 2) (ret := (some .int)) (QA := fun A => (QWi D (nI (nxN z / 65536 % n)) [(dh, .inr (0, [.ref d0, .int (nI (nxN z)), .int og])), (d0, .inl (cI, 4, .inl ds))] A)) RX0 rfl (by decide) rfl (Nat.le_of_ble_eq_true rfl) ?_
  intro p e s m below meth c A hx hb hr hml hown hts hlocks hin hP hK hD hA hS ls hl
  have iwX0 : ∀ w ∈ wsX00, w ∈ wsX0_draw := by decide +kernel
  have fk15 := hts (.fieldLink RX0 15 "BuyersWeights$DrawnSales" "seed" "I") (by decide +kernel)
  have hl : lv_has ls 2 [(0, .ref dh), (1, .int (nI n))] := hl
  refine lv_aload_n hx hb dX0_draw_0 rfl (lv_at hl 0 rfl) ?_
  refine lv_ldc2 (v := 1103515245) hx hb hown (hts (.constantLong RX0 50 (1103515245)) (by decide +kernel)) dX0_draw_1 ?_
  refine lv_aload_n hx hb dX0_draw_4 rfl (lv_at hl 0 rfl) ?_
  refine va_get (D := D) (ci := 0) (v := .int (nI z)) (C := RX0) (T := TX0) (N := 3) hx hb hts iwX0 hown hK.1 hP 0 rfl rfl 1 (by decide) fk15 (fun _ h9 => h9) rfl dX0_draw_5 ?_
  refine lv_i2l (v := (nI z).toInt64) hx hb dX0_draw_8 rfl ?_
  refine lv_lmul hx hb dX0_draw_9 ?_
  refine lv_ldc2 (v := 12345) hx hb hown (hts (.constantLong RX0 52 (12345)) (by decide +kernel)) dX0_draw_10 ?_
  refine lv_ladd hx hb dX0_draw_13 ?_
  refine lv_ldc2 (v := 2147483648) hx hb hown (hts (.constantLong RX0 54 (2147483648)) (by decide +kernel)) dX0_draw_14 ?_
  refine lv_lrem hx hb dX0_draw_17 (by decide) ?_
  refine lv_l2i (v := (((1103515245 * ((nI z).toInt64)) + 12345) - ((1103515245 * ((nI z).toInt64)) + 12345) / 2147483648 * 2147483648).toInt32) hx hb dX0_draw_18 rfl ?_
  refine my_top (y := nI (nxN z)) (nx_draw hz) ?_
  refine va_put (D := D) (ci := 0) (v := .int (nI (nxN z))) (ty := .int) (C := RX0) (T := TX0) (N := 3) hx hb hts iwX0 tyX0 tyX0_ok nmX0 hown hK.1 hP hD hS 0 rfl rfl 1 (by decide) fk15 (fun _ h9 => h9) rfl (by decide +kernel) rfl rfl (Nat.le_of_ble_eq_true rfl) dX0_draw_19 (fun H locs hP hD hS => ?_)
  have hP : va_P D vwCl [(dh, .inr (0, [.ref d0, .int (nI (nxN z)), .int og])), (d0, .inl (cI, 4, .inl ds))] H := hP
  have hD : va_D A [(dh, .inr (0, [.ref d0, .int (nI (nxN z)), .int og])), (d0, .inl (cI, 4, .inl ds))] := hD
  refine lv_iload_n hx hb dX0_draw_22 rfl (lv_at hl 1 rfl) ?_
  refine lv_if_le (tgt := 38) hx hb dX0_draw_23 (by decide) (fun c_1 => absurd c_1 (nI_nle h0 (by omega))) (fun c_1 => ?_)
  refine lv_aload_n hx hb dX0_draw_26 rfl (lv_at hl 0 rfl) ?_
  refine va_get (D := D) (ci := 0) (v := .int (nI (nxN z))) (C := RX0) (T := TX0) (N := 3) hx hb hts iwX0 hown hK.1 hP 0 rfl rfl 1 (by decide) fk15 (fun _ h9 => h9) rfl dX0_draw_27 ?_
  refine lv_ldc (v := 65536) hx hb hown (hts (.constant RX0 56 (65536)) (by decide +kernel)) dX0_draw_30 ?_
  refine lv_idiv hx hb dX0_draw_32 (by decide) ?_
  refine lv_iload_n hx hb dX0_draw_33 rfl (lv_at hl 1 rfl) ?_
  refine lv_irem hx hb dX0_draw_34 (nI_ne0 h0 (by omega)) ?_
  refine my_top (y := nI (nxN z / 65536 % n)) (nx_of (nxN_lt z) h0 hn) ?_
  refine lv_goto (tgt := 39) hx hb dX0_draw_35 (by decide) ?_
  exact retWi (u := ()) hx hb hr hlocks rfl hP hD hS dX0_draw_39
def f_X0_drawSale (ds : Nat → Int32) (z : Nat) (og : Int32) (kd : Nat → Int32) (n : Nat) (tl : Int32) (q : Int32) : Int32 × (Nat → Int32) := if (nI (nxN z / 65536 % n)) = (nI (nxN (nxN z) / 65536 % n)) then (og, ds) else (og + (f_X2_ounces kd tl (ds (nxN (nxN (nxN z)) / 65536 % n)) (nxN z / 65536 % n) q), upd ds (nxN (nxN (nxN z)) / 65536 % n) (f_X2_weightAfter kd (ds (nxN (nxN (nxN z)) / 65536 % n)) (nxN (nxN (nxN z)) / 65536 % n) (nxN (nxN z) / 65536 % n)))
set_option maxHeartbeats 4000000 in
set_option maxRecDepth 100000 in
theorem c_X0_drawSale (l : Launch) (D : va_G) (cB cC cI : ClassId) (dh : Nat) (d0 : Nat) (ds : Nat → Int32) (z : Nat) (og : Int32) (mh : Nat) (m0 : Nat) (m1 : Nat) (m2 : Nat) (m3 : Nat) (m4 : Nat) (m5 : Nat) (m6 : Nat) (kd : Nat → Int32) (st : Nat → Int32) (co : Nat → Int32) (gt : Nat → Int32) (pd : Nat → Int32) (de : Nat → Int32) (us : Nat → Int32) (n : Nat) (tl : Int32) (ho : Int32) (sl : Int32) (q : Int32) (sz : Nat) (hz : z < 2147483648) (h0 : 0 < n) (hn : n ≤ 4) : Met l yX0_drawSale wsX0_drawSale ({ frames := 2, cells := 0, slots := 0, locals := 38 }) (gPw D cB cC cI [.ref dh, .ref mh, .int q] [(dh, .inr (0, [.ref d0, .int (nI z), .int og])), (d0, .inl (cI, 4, .inl ds)), (mh, .inr (2, [.ref m0, .ref m1, .ref m2, .ref m3, .ref m4, .ref m5, .ref m6, .int (nI n), .int tl, .int ho, .int sl])), (m0, .inl (cI, 4, .inl kd)), (m1, .inl (cI, 4, .inl st)), (m2, .inl (cI, 4, .inl co)), (m3, .inl (cI, 4, .inl gt)), (m4, .inl (cI, 4, .inl pd)), (m5, .inl (cI, 4, .inl de)), (m6, .inl (cI, 4, .inl us))] sz) (QWv D [(dh, .inr (0, [.ref d0, .int (nI (nxN (nxN (nxN z)))), .int ((f_X0_drawSale ds z og kd n tl q).1)])), (d0, .inl (cI, 4, .inl ((f_X0_drawSale ds z og kd n tl q).2))), (mh, .inr (2, [.ref m0, .ref m1, .ref m2, .ref m3, .ref m4, .ref m5, .ref m6, .int (nI n), .int tl, .int ho, .int sl])), (m0, .inl (cI, 4, .inl kd)), (m1, .inl (cI, 4, .inl st)), (m2, .inl (cI, 4, .inl co)), (m3, .inl (cI, 4, .inl gt)), (m4, .inl (cI, 4, .inl pd)), (m5, .inl (cI, 4, .inl de)), (m6, .inl (cI, 4, .inl us))] (va_A [(dh, .inr (0, [.ref d0, .int (nI z), .int og])), (d0, .inl (cI, 4, .inl ds)), (mh, .inr (2, [.ref m0, .ref m1, .ref m2, .ref m3, .ref m4, .ref m5, .ref m6, .int (nI n), .int tl, .int ho, .int sl])), (m0, .inl (cI, 4, .inl kd)), (m1, .inl (cI, 4, .inl st)), (m2, .inl (cI, 4, .inl co)), (m3, .inl (cI, 4, .inl gt)), (m4, .inl (cI, 4, .inl pd)), (m5, .inl (cI, 4, .inl de)), (m6, .inl (cI, 4, .inl us))] sz)) 0 0 (va_A [(dh, .inr (0, [.ref d0, .int (nI z), .int og])), (d0, .inl (cI, 4, .inl ds)), (mh, .inr (2, [.ref m0, .ref m1, .ref m2, .ref m3, .ref m4, .ref m5, .ref m6, .int (nI n), .int tl, .int ho, .int sl])), (m0, .inl (cI, 4, .inl kd)), (m1, .inl (cI, 4, .inl st)), (m2, .inl (cI, 4, .inl co)), (m3, .inl (cI, 4, .inl gt)), (m4, .inl (cI, 4, .inl pd)), (m5, .inl (cI, 4, .inl de)), (m6, .inl (cI, 4, .inl us))] sz) := by
  refine metW (cc := cX0_drawSale) (maxL := 6) (ret := none) (QA := fun A => (QWv D [(dh, .inr (0, [.ref d0, .int (nI (nxN (nxN (nxN z)))), .int ((f_X0_drawSale ds z og kd n tl q).1)])), (d0, .inl (cI, 4, .inl ((f_X0_drawSale ds z og kd n tl q).2))), (mh, .inr (2, [.ref m0, .ref m1, .ref m2, .ref m3, .ref m4, .ref m5, .ref m6, .int (nI n), .int tl, .int ho, .int sl])), (m0, .inl (cI, 4, .inl kd)), (m1, .inl (cI, 4, .inl st)), (m2, .inl (cI, 4, .inl co)), (m3, .inl (cI, 4, .inl gt)), (m4, .inl (cI, 4, .inl pd)), (m5, .inl (cI, 4, .inl de)), (m6, .inl (cI, 4, .inl us))] A)) RX0 rfl (by decide) rfl (Nat.le_of_ble_eq_true rfl) ?_
  intro p e s m below meth c A hx hb hr hml hown hts hlocks hin hP hK hD hA hS ls hl
  have iwX2 : ∀ w ∈ wsX20, w ∈ wsX0_drawSale := by decide +kernel
  have iwX0 : ∀ w ∈ wsX00, w ∈ wsX0_drawSale := by decide +kernel
  have fk36 := hts (.fieldLink RX0 36 "BuyersWeights$Market" "houses" "I") (by decide +kernel)
  have fk19 := hts (.fieldLink RX0 19 "BuyersWeights$DrawnSales" "ouncesGot" "I") (by decide +kernel)
  have fk9 := hts (.fieldLink RX0 9 "BuyersWeights$DrawnSales" "stones" "[I") (by decide +kernel)
  have hl : lv_has ls 6 [(0, .ref dh), (1, .ref mh), (2, .int q)] := hl
  refine lv_aload_n hx hb dX0_drawSale_0 rfl (lv_at hl 0 rfl) ?_
  refine lv_aload_n hx hb dX0_drawSale_1 rfl (lv_at hl 1 rfl) ?_
  refine va_get (D := D) (ci := 2) (v := .int (nI n)) (C := RX2) (T := TX2) (N := 11) hx hb hts iwX2 hown hK.1 hP 2 rfl rfl 7 (by decide) fk36 (fun _ h9 => h9) rfl dX0_drawSale_2 ?_
  refine wcVi1 (As := [.int (nI n)]) (rest := []) (wr := [(mh, .inr (2, [.ref m0, .ref m1, .ref m2, .ref m3, .ref m4, .ref m5, .ref m6, .int (nI n), .int tl, .int ho, .int sl])), (m0, .inl (cI, 4, .inl kd)), (m1, .inl (cI, 4, .inl st)), (m2, .inl (cI, 4, .inl co)), (m3, .inl (cI, 4, .inl gt)), (m4, .inl (cI, 4, .inl pd)), (m5, .inl (cI, 4, .inl de)), (m6, .inl (cI, 4, .inl us))]) (w2 := [(dh, .inr (0, [.ref d0, .int (nI (nxN z)), .int og])), (d0, .inl (cI, 4, .inl ds)), (mh, .inr (2, [.ref m0, .ref m1, .ref m2, .ref m3, .ref m4, .ref m5, .ref m6, .int (nI n), .int tl, .int ho, .int sl])), (m0, .inl (cI, 4, .inl kd)), (m1, .inl (cI, 4, .inl st)), (m2, .inl (cI, 4, .inl co)), (m3, .inl (cI, 4, .inl gt)), (m4, .inl (cI, 4, .inl pd)), (m5, .inl (cI, 4, .inl de)), (m6, .inl (cI, 4, .inl us))]) ⟨hx, hb, hml, hown, hts⟩ (c_X0_draw l D cB cC cI dh d0 ds z og n _ hz h0 hn) (cwV 1 hts gX0_drawSale_X0_draw rfl rfl rfl (by decide +kernel) ⟨Nat.le_of_ble_eq_true rfl, Nat.le_of_ble_eq_true rfl⟩) hK hP hD hS hA [0, 1] [2, 3, 4, 5, 6, 7, 8, 9] [8, 9, 0, 1, 2, 3, 4, 5, 6, 7] (by decide) rfl rfl (by decide) (by decide) (by decide) rfl rfl 0 rfl rfl hl.1 rfl (Nat.le_of_ble_eq_true rfl) dX0_drawSale_5 ⟨Nat.zero_le _, Nat.zero_le _⟩ (fun H locs hP hD hS => ?_)
  refine lv_istore_n (lv' := [(3, .int (nI (nxN z / 65536 % n))), (0, .ref dh), (1, .ref mh), (2, .int q)]) hx hb dX0_drawSale_8 rfl hl (by decide) rfl (fun ls hl => ?_)
  refine lv_aload_n hx hb dX0_drawSale_9 rfl (lv_at hl 1 rfl) ?_
  refine lv_aload_n hx hb dX0_drawSale_10 rfl (lv_at hl 2 rfl) ?_
  refine va_get (D := D) (ci := 2) (v := .int (nI n)) (C := RX2) (T := TX2) (N := 11) hx hb hts iwX2 hown hK.1 hP 2 rfl rfl 7 (by decide) fk36 (fun _ h9 => h9) rfl dX0_drawSale_11 ?_
  refine wcVi1 (As := [.int (nI n)]) (rest := []) (wr := [(mh, .inr (2, [.ref m0, .ref m1, .ref m2, .ref m3, .ref m4, .ref m5, .ref m6, .int (nI n), .int tl, .int ho, .int sl])), (m0, .inl (cI, 4, .inl kd)), (m1, .inl (cI, 4, .inl st)), (m2, .inl (cI, 4, .inl co)), (m3, .inl (cI, 4, .inl gt)), (m4, .inl (cI, 4, .inl pd)), (m5, .inl (cI, 4, .inl de)), (m6, .inl (cI, 4, .inl us))]) (w2 := [(dh, .inr (0, [.ref d0, .int (nI (nxN (nxN z))), .int og])), (d0, .inl (cI, 4, .inl ds)), (mh, .inr (2, [.ref m0, .ref m1, .ref m2, .ref m3, .ref m4, .ref m5, .ref m6, .int (nI n), .int tl, .int ho, .int sl])), (m0, .inl (cI, 4, .inl kd)), (m1, .inl (cI, 4, .inl st)), (m2, .inl (cI, 4, .inl co)), (m3, .inl (cI, 4, .inl gt)), (m4, .inl (cI, 4, .inl pd)), (m5, .inl (cI, 4, .inl de)), (m6, .inl (cI, 4, .inl us))]) ⟨hx, hb, hml, hown, hts⟩ (c_X0_draw l D cB cC cI dh d0 ds (nxN z) og n _ (nxN_lt _) (by first | assumption | omega | decide) (by first | assumption | omega | decide)) (cwV 1 hts gX0_drawSale_X0_draw rfl rfl rfl (by decide +kernel) ⟨Nat.le_of_ble_eq_true rfl, Nat.le_of_ble_eq_true rfl⟩) hK hP hD hS hA [0, 1] [2, 3, 4, 5, 6, 7, 8, 9] [8, 9, 0, 1, 2, 3, 4, 5, 6, 7] (by decide) rfl rfl (by decide) (by decide) (by decide) rfl rfl 0 rfl rfl hl.1 rfl (Nat.le_of_ble_eq_true rfl) dX0_drawSale_14 ⟨Nat.zero_le _, Nat.zero_le _⟩ (fun H locs hP hD hS => ?_)
  refine lv_istore (lv' := [(4, .int (nI (nxN (nxN z) / 65536 % n))), (3, .int (nI (nxN z / 65536 % n))), (0, .ref dh), (1, .ref mh), (2, .int q)]) hx hb dX0_drawSale_17 hl (by decide) rfl (fun ls hl => ?_)
  refine lv_aload_n hx hb dX0_drawSale_19 rfl (lv_at hl 2 rfl) ?_
  refine lv_aload_n hx hb dX0_drawSale_20 rfl (lv_at hl 3 rfl) ?_
  refine va_get (D := D) (ci := 2) (v := .int (nI n)) (C := RX2) (T := TX2) (N := 11) hx hb hts iwX2 hown hK.1 hP 2 rfl rfl 7 (by decide) fk36 (fun _ h9 => h9) rfl dX0_drawSale_21 ?_
  refine wcVi1 (As := [.int (nI n)]) (rest := []) (wr := [(mh, .inr (2, [.ref m0, .ref m1, .ref m2, .ref m3, .ref m4, .ref m5, .ref m6, .int (nI n), .int tl, .int ho, .int sl])), (m0, .inl (cI, 4, .inl kd)), (m1, .inl (cI, 4, .inl st)), (m2, .inl (cI, 4, .inl co)), (m3, .inl (cI, 4, .inl gt)), (m4, .inl (cI, 4, .inl pd)), (m5, .inl (cI, 4, .inl de)), (m6, .inl (cI, 4, .inl us))]) (w2 := [(dh, .inr (0, [.ref d0, .int (nI (nxN (nxN (nxN z)))), .int og])), (d0, .inl (cI, 4, .inl ds)), (mh, .inr (2, [.ref m0, .ref m1, .ref m2, .ref m3, .ref m4, .ref m5, .ref m6, .int (nI n), .int tl, .int ho, .int sl])), (m0, .inl (cI, 4, .inl kd)), (m1, .inl (cI, 4, .inl st)), (m2, .inl (cI, 4, .inl co)), (m3, .inl (cI, 4, .inl gt)), (m4, .inl (cI, 4, .inl pd)), (m5, .inl (cI, 4, .inl de)), (m6, .inl (cI, 4, .inl us))]) ⟨hx, hb, hml, hown, hts⟩ (c_X0_draw l D cB cC cI dh d0 ds (nxN (nxN z)) og n _ (nxN_lt _) (by first | assumption | omega | decide) (by first | assumption | omega | decide)) (cwV 1 hts gX0_drawSale_X0_draw rfl rfl rfl (by decide +kernel) ⟨Nat.le_of_ble_eq_true rfl, Nat.le_of_ble_eq_true rfl⟩) hK hP hD hS hA [0, 1] [2, 3, 4, 5, 6, 7, 8, 9] [8, 9, 0, 1, 2, 3, 4, 5, 6, 7] (by decide) rfl rfl (by decide) (by decide) (by decide) rfl rfl 0 rfl rfl hl.1 rfl (Nat.le_of_ble_eq_true rfl) dX0_drawSale_24 ⟨Nat.zero_le _, Nat.zero_le _⟩ (fun H locs hP hD hS => ?_)
  refine lv_istore (lv' := [(5, .int (nI (nxN (nxN (nxN z)) / 65536 % n))), (4, .int (nI (nxN (nxN z) / 65536 % n))), (3, .int (nI (nxN z / 65536 % n))), (0, .ref dh), (1, .ref mh), (2, .int q)]) hx hb dX0_drawSale_27 hl (by decide) rfl (fun ls hl => ?_)
  refine lv_iload_n hx hb dX0_drawSale_29 rfl (lv_at hl 2 rfl) ?_
  refine lv_iload hx hb dX0_drawSale_30 (lv_at hl 1 rfl) ?_
  refine lv_icmp_eq (tgt := 79) hx hb dX0_drawSale_32 (by decide) (fun c_1 => ?_) (fun c_1 => ?_)
  · have eG : f_X0_drawSale ds z og kd n tl q = (og, ds) := if_pos c_1
    exact retWv (u := ()) hx hb hr hlocks trivial (by rw [eG]; exact hP) (by rw [eG]; exact hD) hS dX0_drawSale_79
  · refine lv_aload_n hx hb dX0_drawSale_35 rfl (lv_at hl 3 rfl) ?_
    refine lv_dup hx hb dX0_drawSale_36 rfl ?_
    refine va_get (D := D) (ci := 0) (v := .int og) (C := RX0) (T := TX0) (N := 3) hx hb hts iwX0 hown hK.1 hP 0 rfl rfl 2 (by decide) fk19 (fun _ h9 => h9) rfl dX0_drawSale_37 ?_
    refine lv_aload_n hx hb dX0_drawSale_40 rfl (lv_at hl 4 rfl) ?_
    refine lv_aload_n hx hb dX0_drawSale_41 rfl (lv_at hl 3 rfl) ?_
    refine va_get (D := D) (ci := 0) (v := .ref d0) (C := RX0) (T := TX0) (N := 3) hx hb hts iwX0 hown hK.1 hP 0 rfl rfl 0 (by decide) fk9 (fun _ h9 => h9) rfl dX0_drawSale_42 ?_
    refine lv_iload hx hb dX0_drawSale_45 (lv_at hl 0 rfl) ?_
    refine my_iald hx hb hK hP 1 rfl (j := (nxN (nxN (nxN z)) / 65536 % n)) (ix_nI (by have := Nat.mod_lt (nxN (nxN (nxN z)) / 65536) h0; omega) (by decide)) dX0_drawSale_47 ?_
    refine lv_iload_n hx hb dX0_drawSale_48 rfl (lv_at hl 2 rfl) ?_
    refine lv_iload_n hx hb dX0_drawSale_49 rfl (lv_at hl 5 rfl) ?_
    refine rcVi (As := [.int (ds (nxN (nxN (nxN z)) / 65536 % n)), .int (nI (nxN z / 65536 % n)), .int q]) (rest := [.int og, .ref dh]) ⟨hx, hb, hml, hown, hts⟩ (c_X2_ounces l D cB cC cI mh m0 m1 m2 m3 m4 m5 m6 kd st co gt pd de us n tl ho sl (ds (nxN (nxN (nxN z)) / 65536 % n)) (nI (nxN z / 65536 % n)) (nxN z / 65536 % n) q (ix_nI (by have := Nat.mod_lt (nxN z / 65536) h0; omega) (by decide))) (cwV 3 hts gX0_drawSale_X2_ounces rfl rfl rfl (by decide +kernel) ⟨Nat.le_of_ble_eq_true rfl, Nat.le_of_ble_eq_true rfl⟩) hK hP [2, 3, 4, 5, 6, 7, 8, 9] rfl rfl 2 rfl rfl hl.1 rfl (Nat.le_of_ble_eq_true rfl) dX0_drawSale_50 ⟨Nat.zero_le _, Nat.zero_le _⟩ ?_
    refine lv_iadd hx hb dX0_drawSale_53 ?_
    refine va_put (D := D) (ci := 0) (v := .int (og + (f_X2_ounces kd tl (ds (nxN (nxN (nxN z)) / 65536 % n)) (nxN z / 65536 % n) q))) (ty := .int) (C := RX0) (T := TX0) (N := 3) hx hb hts iwX0 tyX0 tyX0_ok nmX0 hown hK.1 hP hD hS 0 rfl rfl 2 (by decide) fk19 (fun _ h9 => h9) rfl (by decide +kernel) rfl rfl (Nat.le_of_ble_eq_true rfl) dX0_drawSale_54 (fun H locs hP hD hS => ?_)
    have hP : va_P D vwCl [(dh, .inr (0, [.ref d0, .int (nI (nxN (nxN (nxN z)))), .int (og + (f_X2_ounces kd tl (ds (nxN (nxN (nxN z)) / 65536 % n)) (nxN z / 65536 % n) q))])), (d0, .inl (cI, 4, .inl ds)), (mh, .inr (2, [.ref m0, .ref m1, .ref m2, .ref m3, .ref m4, .ref m5, .ref m6, .int (nI n), .int tl, .int ho, .int sl])), (m0, .inl (cI, 4, .inl kd)), (m1, .inl (cI, 4, .inl st)), (m2, .inl (cI, 4, .inl co)), (m3, .inl (cI, 4, .inl gt)), (m4, .inl (cI, 4, .inl pd)), (m5, .inl (cI, 4, .inl de)), (m6, .inl (cI, 4, .inl us))] H := hP
    have hD : va_D A [(dh, .inr (0, [.ref d0, .int (nI (nxN (nxN (nxN z)))), .int (og + (f_X2_ounces kd tl (ds (nxN (nxN (nxN z)) / 65536 % n)) (nxN z / 65536 % n) q))])), (d0, .inl (cI, 4, .inl ds)), (mh, .inr (2, [.ref m0, .ref m1, .ref m2, .ref m3, .ref m4, .ref m5, .ref m6, .int (nI n), .int tl, .int ho, .int sl])), (m0, .inl (cI, 4, .inl kd)), (m1, .inl (cI, 4, .inl st)), (m2, .inl (cI, 4, .inl co)), (m3, .inl (cI, 4, .inl gt)), (m4, .inl (cI, 4, .inl pd)), (m5, .inl (cI, 4, .inl de)), (m6, .inl (cI, 4, .inl us))] := hD
    refine lv_aload_n hx hb dX0_drawSale_57 rfl (lv_at hl 3 rfl) ?_
    refine va_get (D := D) (ci := 0) (v := .ref d0) (C := RX0) (T := TX0) (N := 3) hx hb hts iwX0 hown hK.1 hP 0 rfl rfl 0 (by decide) fk9 (fun _ h9 => h9) rfl dX0_drawSale_58 ?_
    refine lv_iload hx hb dX0_drawSale_61 (lv_at hl 0 rfl) ?_
    refine lv_aload_n hx hb dX0_drawSale_63 rfl (lv_at hl 4 rfl) ?_
    refine lv_aload_n hx hb dX0_drawSale_64 rfl (lv_at hl 3 rfl) ?_
    refine va_get (D := D) (ci := 0) (v := .ref d0) (C := RX0) (T := TX0) (N := 3) hx hb hts iwX0 hown hK.1 hP 0 rfl rfl 0 (by decide) fk9 (fun _ h9 => h9) rfl dX0_drawSale_65 ?_
    refine lv_iload hx hb dX0_drawSale_68 (lv_at hl 0 rfl) ?_
    refine my_iald hx hb hK hP 1 rfl (j := (nxN (nxN (nxN z)) / 65536 % n)) (ix_nI (by have := Nat.mod_lt (nxN (nxN (nxN z)) / 65536) h0; omega) (by decide)) dX0_drawSale_70 ?_
    refine lv_iload hx hb dX0_drawSale_71 (lv_at hl 0 rfl) ?_
    refine lv_iload hx hb dX0_drawSale_73 (lv_at hl 1 rfl) ?_
    refine rcVi (As := [.int (ds (nxN (nxN (nxN z)) / 65536 % n)), .int (nI (nxN (nxN (nxN z)) / 65536 % n)), .int (nI (nxN (nxN z) / 65536 % n))]) (rest := [.int (nI (nxN (nxN (nxN z)) / 65536 % n)), .ref d0]) ⟨hx, hb, hml, hown, hts⟩ (c_X2_weightAfter l D cB cC cI mh m0 m1 m2 m3 m4 m5 m6 kd st co gt pd de us n tl ho sl (ds (nxN (nxN (nxN z)) / 65536 % n)) (nI (nxN (nxN (nxN z)) / 65536 % n)) (nxN (nxN (nxN z)) / 65536 % n) (nI (nxN (nxN z) / 65536 % n)) (nxN (nxN z) / 65536 % n) (ix_nI (by have := Nat.mod_lt (nxN (nxN (nxN z)) / 65536) h0; omega) (by decide)) (ix_nI (by have := Nat.mod_lt (nxN (nxN z) / 65536) h0; omega) (by decide))) (cwV 3 hts gX0_drawSale_X2_weightAfter rfl rfl rfl (by decide +kernel) ⟨Nat.le_of_ble_eq_true rfl, Nat.le_of_ble_eq_true rfl⟩) hK hP [2, 3, 4, 5, 6, 7, 8, 9] rfl rfl 2 rfl rfl hl.1 rfl (Nat.le_of_ble_eq_true rfl) dX0_drawSale_75 ⟨Nat.zero_le _, Nat.zero_le _⟩ ?_
    refine my_iast hx hb hK hP hD hS 1 rfl (j := (nxN (nxN (nxN z)) / 65536 % n)) (ix_nI (by have := Nat.mod_lt (nxN (nxN (nxN z)) / 65536) h0; omega) (by decide)) dX0_drawSale_78 (fun H locs hP hD hS => ?_)
    have hP : va_P D vwCl [(dh, .inr (0, [.ref d0, .int (nI (nxN (nxN (nxN z)))), .int (og + (f_X2_ounces kd tl (ds (nxN (nxN (nxN z)) / 65536 % n)) (nxN z / 65536 % n) q))])), (d0, .inl (cI, 4, .inl (upd ds (nxN (nxN (nxN z)) / 65536 % n) (f_X2_weightAfter kd (ds (nxN (nxN (nxN z)) / 65536 % n)) (nxN (nxN (nxN z)) / 65536 % n) (nxN (nxN z) / 65536 % n))))), (mh, .inr (2, [.ref m0, .ref m1, .ref m2, .ref m3, .ref m4, .ref m5, .ref m6, .int (nI n), .int tl, .int ho, .int sl])), (m0, .inl (cI, 4, .inl kd)), (m1, .inl (cI, 4, .inl st)), (m2, .inl (cI, 4, .inl co)), (m3, .inl (cI, 4, .inl gt)), (m4, .inl (cI, 4, .inl pd)), (m5, .inl (cI, 4, .inl de)), (m6, .inl (cI, 4, .inl us))] H := hP
    have hD : va_D A [(dh, .inr (0, [.ref d0, .int (nI (nxN (nxN (nxN z)))), .int (og + (f_X2_ounces kd tl (ds (nxN (nxN (nxN z)) / 65536 % n)) (nxN z / 65536 % n) q))])), (d0, .inl (cI, 4, .inl (upd ds (nxN (nxN (nxN z)) / 65536 % n) (f_X2_weightAfter kd (ds (nxN (nxN (nxN z)) / 65536 % n)) (nxN (nxN (nxN z)) / 65536 % n) (nxN (nxN z) / 65536 % n))))), (mh, .inr (2, [.ref m0, .ref m1, .ref m2, .ref m3, .ref m4, .ref m5, .ref m6, .int (nI n), .int tl, .int ho, .int sl])), (m0, .inl (cI, 4, .inl kd)), (m1, .inl (cI, 4, .inl st)), (m2, .inl (cI, 4, .inl co)), (m3, .inl (cI, 4, .inl gt)), (m4, .inl (cI, 4, .inl pd)), (m5, .inl (cI, 4, .inl de)), (m6, .inl (cI, 4, .inl us))] := hD
    have eG : f_X0_drawSale ds z og kd n tl q = (og + (f_X2_ounces kd tl (ds (nxN (nxN (nxN z)) / 65536 % n)) (nxN z / 65536 % n) q), upd ds (nxN (nxN (nxN z)) / 65536 % n) (f_X2_weightAfter kd (ds (nxN (nxN (nxN z)) / 65536 % n)) (nxN (nxN (nxN z)) / 65536 % n) (nxN (nxN z) / 65536 % n))) := if_neg c_1
    exact retWv (u := ()) hx hb hr hlocks trivial (by rw [eG]; exact hP) (by rw [eG]; exact hD) hS dX0_drawSale_79
