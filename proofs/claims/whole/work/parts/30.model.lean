def f_X6_within (a : Int32) (b : Int32) (d : Int32) : Int32 := if a < b then 0 else if d < a then 0 else 1
set_option maxHeartbeats 4000000 in
set_option maxRecDepth 100000 in
theorem c_X6_within (l : Launch) (D : va_G) (cB cC cI : ClassId) (a : Int32) (b : Int32) (d : Int32)  : Met l yX6_within wsX6_within ({ frames := 0, cells := 0, slots := 0, locals := 0 }) (gPr D cB cC cI [.int a, .int b, .int d] []) (vp_Si (fun r => r = (f_X6_within a b d))) 0 0 (fun _ => False) := by
  refine metR (cc := cX6_within) (maxL := 3) (ret := (some .boolean)) RX6 rfl (by decide) rfl (Nat.le_of_ble_eq_true rfl) ?_
  intro p e s m below meth c hx hb hr hml hown hts hlocks hP hK ls hl
  have hl : lv_has ls 3 [(0, .int a), (1, .int b), (2, .int d)] := hl
  refine lv_iload_n hx hb dX6_within_0 rfl (lv_at hl 0 rfl) ?_
  refine lv_iload_n hx hb dX6_within_1 rfl (lv_at hl 1 rfl) ?_
  refine lv_icmp_lt (tgt := 14) hx hb dX6_within_2 (by decide) (fun c_1 => ?_) (fun c_1 => ?_)
  · refine lv_iconst (v := 0) hx hb dX6_within_14 (by decide) ?_
    have eG : f_X6_within a b d = 0 := if_pos c_1
    exact retRz hx hb hr hlocks rfl eG.symm dX6_within_15
  · refine lv_iload_n hx hb dX6_within_5 rfl (lv_at hl 0 rfl) ?_
    refine lv_iload_n hx hb dX6_within_6 rfl (lv_at hl 2 rfl) ?_
    refine lv_icmp_gt (tgt := 14) hx hb dX6_within_7 (by decide) (fun c_2 => ?_) (fun c_2 => ?_)
    · refine lv_iconst (v := 0) hx hb dX6_within_14 (by decide) ?_
      have eG : f_X6_within a b d = 0 := (if_neg c_1).trans (if_pos c_2)
      exact retRz hx hb hr hlocks rfl eG.symm dX6_within_15
    · refine lv_iconst (v := 1) hx hb dX6_within_10 (by decide) ?_
      refine lv_goto (tgt := 15) hx hb dX6_within_11 (by decide) ?_
      have eG : f_X6_within a b d = 1 := (if_neg c_1).trans (if_neg c_2)
      exact retRz hx hb hr hlocks rfl eG.symm dX6_within_15
def f_X6_isIn (a : Int32) (b : Int32) : Int32 := if ((a >>> (b &&& 31)) &&& 1) = 1 then 1 else 0
set_option maxHeartbeats 4000000 in
set_option maxRecDepth 100000 in
theorem c_X6_isIn (l : Launch) (D : va_G) (cB cC cI : ClassId) (a : Int32) (b : Int32)  : Met l yX6_isIn wsX6_isIn ({ frames := 0, cells := 0, slots := 0, locals := 0 }) (gPr D cB cC cI [.int a, .int b] []) (vp_Si (fun r => r = (f_X6_isIn a b))) 0 0 (fun _ => False) := by
  refine metR (cc := cX6_isIn) (maxL := 2) (ret := (some .boolean)) RX6 rfl (by decide) rfl (Nat.le_of_ble_eq_true rfl) ?_
  intro p e s m below meth c hx hb hr hml hown hts hlocks hP hK ls hl
  have hl : lv_has ls 2 [(0, .int a), (1, .int b)] := hl
  refine lv_iload_n hx hb dX6_isIn_0 rfl (lv_at hl 0 rfl) ?_
  refine lv_iload_n hx hb dX6_isIn_1 rfl (lv_at hl 1 rfl) ?_
  refine lv_ishr hx hb dX6_isIn_2 ?_
  refine lv_iconst (v := 1) hx hb dX6_isIn_3 (by decide) ?_
  refine lv_iand hx hb dX6_isIn_4 ?_
  refine lv_iconst (v := 1) hx hb dX6_isIn_5 (by decide) ?_
  refine lv_icmp_ne (tgt := 13) hx hb dX6_isIn_6 (by decide) (fun c_1 => ?_) (fun c_1 => ?_)
  · refine lv_iconst (v := 0) hx hb dX6_isIn_13 (by decide) ?_
    have eG : f_X6_isIn a b = 0 := if_neg c_1
    exact retRz hx hb hr hlocks rfl eG.symm dX6_isIn_14
  · refine lv_iconst (v := 1) hx hb dX6_isIn_9 (by decide) ?_
    refine lv_goto (tgt := 14) hx hb dX6_isIn_10 (by decide) ?_
    have eG : f_X6_isIn a b = 1 := if_pos c_1
    exact retRz hx hb hr hlocks rfl eG.symm dX6_isIn_14
def f_X6_kindBy (ch : Int32) : Int32 := if ch = 104 then 0 else if ch = 109 then 4 else if ch = 111 then 2 else if ch = 114 then 1 else if ch = 119 then 3 else (-1)
set_option maxHeartbeats 4000000 in
set_option maxRecDepth 100000 in
theorem c_X6_kindBy (l : Launch) (D : va_G) (cB cC cI : ClassId) (ch : Int32)  : Met l yX6_kindBy wsX6_kindBy ({ frames := 0, cells := 0, slots := 0, locals := 0 }) (gPr D cB cC cI [.int ch] []) (vp_Si (fun r => r = (f_X6_kindBy ch))) 0 0 (fun _ => False) := by
  refine metR (cc := cX6_kindBy) (maxL := 1) (ret := (some .int)) RX6 rfl (by decide) rfl (Nat.le_of_ble_eq_true rfl) ?_
  intro p e s m below meth c hx hb hr hml hown hts hlocks hP hK ls hl
  have hl : lv_has ls 1 [(0, .int ch)] := hl
  refine lv_iload_n hx hb dX6_kindBy_0 rfl (lv_at hl 0 rfl) ?_
  by_cases k_1 : ch = 104
  · refine lv_lookup (off := 51) (tgt := 52) hx hb dX6_kindBy_1 (by decide +kernel) (by rw [k_1]; decide +kernel) (by decide) ?_
    refine lv_iconst (v := 0) hx hb dX6_kindBy_52 (by decide) ?_
    have eG : f_X6_kindBy ch = 0 := if_pos k_1
    exact retRi hx hb hr hlocks eG.symm dX6_kindBy_53
  · by_cases k_2 : ch = 109
    · refine lv_lookup (off := 59) (tgt := 60) hx hb dX6_kindBy_1 (by decide +kernel) (by rw [k_2]; decide +kernel) (by decide) ?_
      refine lv_iconst (v := 4) hx hb dX6_kindBy_60 (by decide) ?_
      have eG : f_X6_kindBy ch = 4 := (if_neg k_1).trans (if_pos k_2)
      exact retRi hx hb hr hlocks eG.symm dX6_kindBy_61
    · by_cases k_3 : ch = 111
      · refine lv_lookup (off := 55) (tgt := 56) hx hb dX6_kindBy_1 (by decide +kernel) (by rw [k_3]; decide +kernel) (by decide) ?_
        refine lv_iconst (v := 2) hx hb dX6_kindBy_56 (by decide) ?_
        have eG : f_X6_kindBy ch = 2 := (if_neg k_1).trans ((if_neg k_2).trans (if_pos k_3))
        exact retRi hx hb hr hlocks eG.symm dX6_kindBy_57
      · by_cases k_4 : ch = 114
        · refine lv_lookup (off := 53) (tgt := 54) hx hb dX6_kindBy_1 (by decide +kernel) (by rw [k_4]; decide +kernel) (by decide) ?_
          refine lv_iconst (v := 1) hx hb dX6_kindBy_54 (by decide) ?_
          have eG : f_X6_kindBy ch = 1 := (if_neg k_1).trans ((if_neg k_2).trans ((if_neg k_3).trans (if_pos k_4)))
          exact retRi hx hb hr hlocks eG.symm dX6_kindBy_55
        · by_cases k_5 : ch = 119
          · refine lv_lookup (off := 57) (tgt := 58) hx hb dX6_kindBy_1 (by decide +kernel) (by rw [k_5]; decide +kernel) (by decide) ?_
            refine lv_iconst (v := 3) hx hb dX6_kindBy_58 (by decide) ?_
            have eG : f_X6_kindBy ch = 3 := (if_neg k_1).trans ((if_neg k_2).trans ((if_neg k_3).trans ((if_neg k_4).trans (if_pos k_5))))
            exact retRi hx hb hr hlocks eG.symm dX6_kindBy_59
          · refine lv_lookup (off := 61) (tgt := 62) hx hb dX6_kindBy_1 (by decide +kernel) (by rw [lv_osw k_1 (by decide)]; rw [lv_osw k_2 (by decide)]; rw [lv_osw k_3 (by decide)]; rw [lv_osw k_4 (by decide)]; rw [lv_osw k_5 (by decide)]; rfl) (by decide) ?_
            refine lv_iconst (v := (-1)) hx hb dX6_kindBy_62 (by decide) ?_
            have eG : f_X6_kindBy ch = (-1) := (if_neg k_1).trans ((if_neg k_2).trans ((if_neg k_3).trans ((if_neg k_4).trans (if_neg k_5))))
            exact retRi hx hb hr hlocks eG.symm dX6_kindBy_63
theorem nbW (a b d : Int32) : narrow .boolean (.int (f_X6_within a b d)) = .int (f_X6_within a b d) := nb01 (by unfold f_X6_within; split; exact Or.inl rfl; split; exact Or.inl rfl; exact Or.inr rfl)
def f_X6_letter (lt : Nat → Int32) (k : Nat) (b : Int32) : Int32 × Int32 × (Nat → Int32) := if (f_X6_within b 32 126) = 0 then ((-102), nI k, lt) else if (nI k) = 18 then ((-104), nI k, lt) else (nI (k + 1), nI (k + 1), upd lt k (vp_nar .byte b.toInt8.toInt32))
set_option maxHeartbeats 4000000 in
set_option maxRecDepth 100000 in
theorem c_X6_letter (l : Launch) (D : va_G) (cB cC cI : ClassId) (vh : Nat) (v0 : Nat) (v1 : Nat) (v2 : Nat) (v3 : Nat) (v4 : Nat) (v5 : Nat) (v6 : Nat) (v7 : Nat) (v8 : Nat) (v9 : Nat) (v10 : Nat) (kd : Nat → Int32) (st : Nat → Int32) (co : Nat → Int32) (gt : Nat → Int32) (pd : Nat → Int32) (de : Nat → Int32) (us : Nat → Int32) (tm : Nat → Int32) (lt : Nat → Int32) (sv : Nat → Int32) (ke : Nat → Int32) (mm : Int32) (n : Nat) (tl : Int32) (ho : Int32) (sl : Int32) (hd : Int32) (lo : Int32) (ak : Int32) (k : Nat) (isw : Int32) (nw : Int32) (sn : Int64) (ek : Int32) (em : Int32) (eh : Int32) (es : Int32) (ed : Int32) (el : Int32) (hs : Int64) (b : Int32) (sz : Nat) (hk : k ≤ 18) : Met l yX6_letter wsX6_letter ({ frames := 1, cells := 0, slots := 0, locals := 22 }) (gPw D cB cC cI [.ref vh, .int b] [(vh, .inr (6, [.int mm, .int (nI n), .int tl, .int ho, .ref v0, .ref v1, .ref v2, .ref v3, .ref v4, .ref v5, .ref v6, .int sl, .int hd, .ref v7, .int lo, .int ak, .int (nI k), .ref v8, .int isw, .int nw, .ref v9, .long sn, .int ek, .int em, .int eh, .int es, .int ed, .int el, .ref v10, .long hs])), (v0, .inl (cI, 4, .inl kd)), (v1, .inl (cI, 4, .inl st)), (v2, .inl (cI, 4, .inl co)), (v3, .inl (cI, 4, .inl gt)), (v4, .inl (cI, 4, .inl pd)), (v5, .inl (cI, 4, .inl de)), (v6, .inl (cI, 4, .inl us)), (v7, .inl (cI, 4, .inl tm)), (v8, .inl (cB, 18, .inl lt)), (v9, .inl (cI, 4, .inl sv)), (v10, .inl (cI, 24, .inl ke))] sz) (QWi D ((f_X6_letter lt k b).1) [(vh, .inr (6, [.int mm, .int (nI n), .int tl, .int ho, .ref v0, .ref v1, .ref v2, .ref v3, .ref v4, .ref v5, .ref v6, .int sl, .int hd, .ref v7, .int lo, .int ak, .int ((f_X6_letter lt k b).2.1), .ref v8, .int isw, .int nw, .ref v9, .long sn, .int ek, .int em, .int eh, .int es, .int ed, .int el, .ref v10, .long hs])), (v0, .inl (cI, 4, .inl kd)), (v1, .inl (cI, 4, .inl st)), (v2, .inl (cI, 4, .inl co)), (v3, .inl (cI, 4, .inl gt)), (v4, .inl (cI, 4, .inl pd)), (v5, .inl (cI, 4, .inl de)), (v6, .inl (cI, 4, .inl us)), (v7, .inl (cI, 4, .inl tm)), (v8, .inl (cB, 18, .inl ((f_X6_letter lt k b).2.2))), (v9, .inl (cI, 4, .inl sv)), (v10, .inl (cI, 24, .inl ke))] (va_A [(vh, .inr (6, [.int mm, .int (nI n), .int tl, .int ho, .ref v0, .ref v1, .ref v2, .ref v3, .ref v4, .ref v5, .ref v6, .int sl, .int hd, .ref v7, .int lo, .int ak, .int (nI k), .ref v8, .int isw, .int nw, .ref v9, .long sn, .int ek, .int em, .int eh, .int es, .int ed, .int el, .ref v10, .long hs])), (v0, .inl (cI, 4, .inl kd)), (v1, .inl (cI, 4, .inl st)), (v2, .inl (cI, 4, .inl co)), (v3, .inl (cI, 4, .inl gt)), (v4, .inl (cI, 4, .inl pd)), (v5, .inl (cI, 4, .inl de)), (v6, .inl (cI, 4, .inl us)), (v7, .inl (cI, 4, .inl tm)), (v8, .inl (cB, 18, .inl lt)), (v9, .inl (cI, 4, .inl sv)), (v10, .inl (cI, 24, .inl ke))] sz)) 0 0 (va_A [(vh, .inr (6, [.int mm, .int (nI n), .int tl, .int ho, .ref v0, .ref v1, .ref v2, .ref v3, .ref v4, .ref v5, .ref v6, .int sl, .int hd, .ref v7, .int lo, .int ak, .int (nI k), .ref v8, .int isw, .int nw, .ref v9, .long sn, .int ek, .int em, .int eh, .int es, .int ed, .int el, .ref v10, .long hs])), (v0, .inl (cI, 4, .inl kd)), (v1, .inl (cI, 4, .inl st)), (v2, .inl (cI, 4, .inl co)), (v3, .inl (cI, 4, .inl gt)), (v4, .inl (cI, 4, .inl pd)), (v5, .inl (cI, 4, .inl de)), (v6, .inl (cI, 4, .inl us)), (v7, .inl (cI, 4, .inl tm)), (v8, .inl (cB, 18, .inl lt)), (v9, .inl (cI, 4, .inl sv)), (v10, .inl (cI, 24, .inl ke))] sz) := by
  refine metW (cc := cX6_letter) (maxL := 2) (ret := (some .int)) (QA := fun A => (QWi D ((f_X6_letter lt k b).1) [(vh, .inr (6, [.int mm, .int (nI n), .int tl, .int ho, .ref v0, .ref v1, .ref v2, .ref v3, .ref v4, .ref v5, .ref v6, .int sl, .int hd, .ref v7, .int lo, .int ak, .int ((f_X6_letter lt k b).2.1), .ref v8, .int isw, .int nw, .ref v9, .long sn, .int ek, .int em, .int eh, .int es, .int ed, .int el, .ref v10, .long hs])), (v0, .inl (cI, 4, .inl kd)), (v1, .inl (cI, 4, .inl st)), (v2, .inl (cI, 4, .inl co)), (v3, .inl (cI, 4, .inl gt)), (v4, .inl (cI, 4, .inl pd)), (v5, .inl (cI, 4, .inl de)), (v6, .inl (cI, 4, .inl us)), (v7, .inl (cI, 4, .inl tm)), (v8, .inl (cB, 18, .inl ((f_X6_letter lt k b).2.2))), (v9, .inl (cI, 4, .inl sv)), (v10, .inl (cI, 24, .inl ke))] A)) RX6 rfl (by decide) rfl (Nat.le_of_ble_eq_true rfl) ?_
  intro p e s m below meth c A hx hb hr hml hown hts hlocks hin hP hK hD hA hS ls hl
  have iwX6 : ∀ w ∈ wsX60, w ∈ wsX6_letter := by decide +kernel
  have fk48 := hts (.fieldLink RX6 48 "BuyersWeightsModel" "pageLength" "I") (by decide +kernel)
  have fk34 := hts (.fieldLink RX6 34 "BuyersWeightsModel" "page" "[B") (by decide +kernel)
  have hl : lv_has ls 2 [(0, .ref vh), (1, .int b)] := hl
  refine lv_iload_n hx hb dX6_letter_0 rfl (lv_at hl 1 rfl) ?_
  refine lv_bipush (v := 32) hx hb dX6_letter_1 (by decide) ?_
  refine lv_bipush (v := 126) hx hb dX6_letter_3 (by decide) ?_
  refine rcSi (As := [.int b, .int 32, .int 126]) (rest := []) ⟨hx, hb, hml, hown, hts⟩ (c_X6_within l D cB cC cI b 32 126) (va_cwS 3 hts gX6_letter_X6_within rfl rfl rfl (by decide +kernel) ⟨Nat.le_of_ble_eq_true rfl, Nat.le_of_ble_eq_true rfl⟩) hK hP [] rfl rfl hl.1 rfl (Nat.le_of_ble_eq_true rfl) dX6_letter_5 ⟨Nat.zero_le _, Nat.zero_le _⟩ ?_
  refine lv_if_ne (tgt := 14) hx hb dX6_letter_8 (by decide) (fun c_1 => ?_) (fun c_1 => ?_)
  · refine lv_aload_n hx hb dX6_letter_14 rfl (lv_at hl 0 rfl) ?_
    refine va_get (D := D) (ci := 6) (v := .int (nI k)) (C := RX6) (T := TX6) (N := 30) hx hb hts iwX6 hown hK.1 hP 0 rfl rfl 16 (by decide) fk48 (fun _ h9 => h9) rfl dX6_letter_15 ?_
    refine lv_bipush (v := 18) hx hb dX6_letter_18 (by decide) ?_
    refine lv_icmp_ne (tgt := 26) hx hb dX6_letter_20 (by decide) (fun c_2 => ?_) (fun c_2 => ?_)
    · have hk1 : k < 18 := Nat.lt_of_le_of_ne hk (fun z => c_2 (by rw [z]; rfl))
      refine lv_aload_n hx hb dX6_letter_26 rfl (lv_at hl 0 rfl) ?_
      refine va_get (D := D) (ci := 6) (v := .ref v8) (C := RX6) (T := TX6) (N := 30) hx hb hts iwX6 hown hK.1 hP 0 rfl rfl 17 (by decide) fk34 (fun _ h9 => h9) rfl dX6_letter_27 ?_
      refine lv_aload_n hx hb dX6_letter_30 rfl (lv_at hl 0 rfl) ?_
      refine va_get (D := D) (ci := 6) (v := .int (nI k)) (C := RX6) (T := TX6) (N := 30) hx hb hts iwX6 hown hK.1 hP 0 rfl rfl 16 (by decide) fk48 (fun _ h9 => h9) rfl dX6_letter_31 ?_
      refine lv_iload_n hx hb dX6_letter_34 rfl (lv_at hl 1 rfl) ?_
      refine lv_i2b (v := b.toInt8.toInt32) hx hb dX6_letter_35 rfl ?_
      refine my_bast hx hb hK hP hD hS 9 rfl (j := k) (ix_nI hk1 (by decide)) dX6_letter_36 (fun H locs hP hD hS => ?_)
      have hP : va_P D vwCl [(vh, .inr (6, [.int mm, .int (nI n), .int tl, .int ho, .ref v0, .ref v1, .ref v2, .ref v3, .ref v4, .ref v5, .ref v6, .int sl, .int hd, .ref v7, .int lo, .int ak, .int (nI k), .ref v8, .int isw, .int nw, .ref v9, .long sn, .int ek, .int em, .int eh, .int es, .int ed, .int el, .ref v10, .long hs])), (v0, .inl (cI, 4, .inl kd)), (v1, .inl (cI, 4, .inl st)), (v2, .inl (cI, 4, .inl co)), (v3, .inl (cI, 4, .inl gt)), (v4, .inl (cI, 4, .inl pd)), (v5, .inl (cI, 4, .inl de)), (v6, .inl (cI, 4, .inl us)), (v7, .inl (cI, 4, .inl tm)), (v8, .inl (cB, 18, .inl (upd lt k (vp_nar .byte b.toInt8.toInt32)))), (v9, .inl (cI, 4, .inl sv)), (v10, .inl (cI, 24, .inl ke))] H := hP
      have hD : va_D A [(vh, .inr (6, [.int mm, .int (nI n), .int tl, .int ho, .ref v0, .ref v1, .ref v2, .ref v3, .ref v4, .ref v5, .ref v6, .int sl, .int hd, .ref v7, .int lo, .int ak, .int (nI k), .ref v8, .int isw, .int nw, .ref v9, .long sn, .int ek, .int em, .int eh, .int es, .int ed, .int el, .ref v10, .long hs])), (v0, .inl (cI, 4, .inl kd)), (v1, .inl (cI, 4, .inl st)), (v2, .inl (cI, 4, .inl co)), (v3, .inl (cI, 4, .inl gt)), (v4, .inl (cI, 4, .inl pd)), (v5, .inl (cI, 4, .inl de)), (v6, .inl (cI, 4, .inl us)), (v7, .inl (cI, 4, .inl tm)), (v8, .inl (cB, 18, .inl (upd lt k (vp_nar .byte b.toInt8.toInt32)))), (v9, .inl (cI, 4, .inl sv)), (v10, .inl (cI, 24, .inl ke))] := hD
      refine lv_aload_n hx hb dX6_letter_37 rfl (lv_at hl 0 rfl) ?_
      refine lv_dup hx hb dX6_letter_38 rfl ?_
      refine va_get (D := D) (ci := 6) (v := .int (nI k)) (C := RX6) (T := TX6) (N := 30) hx hb hts iwX6 hown hK.1 hP 0 rfl rfl 16 (by decide) fk48 (fun _ h9 => h9) rfl dX6_letter_39 ?_
      refine lv_iconst (v := 1) hx hb dX6_letter_42 (by decide) ?_
      refine lv_iadd hx hb dX6_letter_43 ?_
      refine my_top (y := nI (k + 1)) (nI_1 k) ?_
      refine va_put (D := D) (ci := 6) (v := .int (nI (k + 1))) (ty := .int) (C := RX6) (T := TX6) (N := 30) hx hb hts iwX6 tyX6 tyX6_ok nmX6 hown hK.1 hP hD hS 0 rfl rfl 16 (by decide) fk48 (fun _ h9 => h9) rfl (by decide +kernel) rfl rfl (Nat.le_of_ble_eq_true rfl) dX6_letter_44 (fun H locs hP hD hS => ?_)
      have hP : va_P D vwCl [(vh, .inr (6, [.int mm, .int (nI n), .int tl, .int ho, .ref v0, .ref v1, .ref v2, .ref v3, .ref v4, .ref v5, .ref v6, .int sl, .int hd, .ref v7, .int lo, .int ak, .int (nI (k + 1)), .ref v8, .int isw, .int nw, .ref v9, .long sn, .int ek, .int em, .int eh, .int es, .int ed, .int el, .ref v10, .long hs])), (v0, .inl (cI, 4, .inl kd)), (v1, .inl (cI, 4, .inl st)), (v2, .inl (cI, 4, .inl co)), (v3, .inl (cI, 4, .inl gt)), (v4, .inl (cI, 4, .inl pd)), (v5, .inl (cI, 4, .inl de)), (v6, .inl (cI, 4, .inl us)), (v7, .inl (cI, 4, .inl tm)), (v8, .inl (cB, 18, .inl (upd lt k (vp_nar .byte b.toInt8.toInt32)))), (v9, .inl (cI, 4, .inl sv)), (v10, .inl (cI, 24, .inl ke))] H := hP
      have hD : va_D A [(vh, .inr (6, [.int mm, .int (nI n), .int tl, .int ho, .ref v0, .ref v1, .ref v2, .ref v3, .ref v4, .ref v5, .ref v6, .int sl, .int hd, .ref v7, .int lo, .int ak, .int (nI (k + 1)), .ref v8, .int isw, .int nw, .ref v9, .long sn, .int ek, .int em, .int eh, .int es, .int ed, .int el, .ref v10, .long hs])), (v0, .inl (cI, 4, .inl kd)), (v1, .inl (cI, 4, .inl st)), (v2, .inl (cI, 4, .inl co)), (v3, .inl (cI, 4, .inl gt)), (v4, .inl (cI, 4, .inl pd)), (v5, .inl (cI, 4, .inl de)), (v6, .inl (cI, 4, .inl us)), (v7, .inl (cI, 4, .inl tm)), (v8, .inl (cB, 18, .inl (upd lt k (vp_nar .byte b.toInt8.toInt32)))), (v9, .inl (cI, 4, .inl sv)), (v10, .inl (cI, 24, .inl ke))] := hD
      refine lv_aload_n hx hb dX6_letter_47 rfl (lv_at hl 0 rfl) ?_
      refine va_get (D := D) (ci := 6) (v := .int (nI (k + 1))) (C := RX6) (T := TX6) (N := 30) hx hb hts iwX6 hown hK.1 hP 0 rfl rfl 16 (by decide) fk48 (fun _ h9 => h9) rfl dX6_letter_48 ?_
      have eG : f_X6_letter lt k b = (nI (k + 1), nI (k + 1), upd lt k (vp_nar .byte b.toInt8.toInt32)) := (if_neg c_1).trans (if_neg c_2)
      exact retWi (u := ()) hx hb hr hlocks (by rw [eG]) (by rw [eG]; exact hP) (by rw [eG]; exact hD) hS dX6_letter_51
    · refine lv_bipush (v := (-104)) hx hb dX6_letter_23 (by decide) ?_
      have eG : f_X6_letter lt k b = ((-104), nI k, lt) := (if_neg c_1).trans (if_pos c_2)
      exact retWi (u := ()) hx hb hr hlocks (by rw [eG]) (by rw [eG]; exact hP) (by rw [eG]; exact hD) hS dX6_letter_25
  · refine lv_bipush (v := (-102)) hx hb dX6_letter_11 (by decide) ?_
    have eG : f_X6_letter lt k b = ((-102), nI k, lt) := if_pos c_1
    exact retWi (u := ()) hx hb hr hlocks (by rw [eG]) (by rw [eG]; exact hP) (by rw [eG]; exact hD) hS dX6_letter_13
set_option maxHeartbeats 4000000 in
set_option maxRecDepth 100000 in
theorem c_X6_blank (l : Launch) (D : va_G) (cB cC cI : ClassId) (vh : Nat) (v0 : Nat) (v1 : Nat) (v2 : Nat) (v3 : Nat) (v4 : Nat) (v5 : Nat) (v6 : Nat) (v7 : Nat) (v8 : Nat) (v9 : Nat) (v10 : Nat) (kd : Nat → Int32) (st : Nat → Int32) (co : Nat → Int32) (gt : Nat → Int32) (pd : Nat → Int32) (de : Nat → Int32) (us : Nat → Int32) (tm : Nat → Int32) (lt : Nat → Int32) (sv : Nat → Int32) (ke : Nat → Int32) (mm : Int32) (n : Nat) (tl : Int32) (ho : Int32) (sl : Int32) (hd : Int32) (lo : Int32) (ak : Int32) (k : Nat) (isw : Int32) (nw : Int32) (sn : Int64) (ek : Int32) (em : Int32) (eh : Int32) (es : Int32) (ed : Int32) (el : Int32) (hs : Int64) (sz : Nat)  : Met l yX6_blank wsX6_blank ({ frames := 0, cells := 0, slots := 0, locals := 0 }) (gPw D cB cC cI [.ref vh] [(vh, .inr (6, [.int mm, .int (nI n), .int tl, .int ho, .ref v0, .ref v1, .ref v2, .ref v3, .ref v4, .ref v5, .ref v6, .int sl, .int hd, .ref v7, .int lo, .int ak, .int (nI k), .ref v8, .int isw, .int nw, .ref v9, .long sn, .int ek, .int em, .int eh, .int es, .int ed, .int el, .ref v10, .long hs])), (v0, .inl (cI, 4, .inl kd)), (v1, .inl (cI, 4, .inl st)), (v2, .inl (cI, 4, .inl co)), (v3, .inl (cI, 4, .inl gt)), (v4, .inl (cI, 4, .inl pd)), (v5, .inl (cI, 4, .inl de)), (v6, .inl (cI, 4, .inl us)), (v7, .inl (cI, 4, .inl tm)), (v8, .inl (cB, 18, .inl lt)), (v9, .inl (cI, 4, .inl sv)), (v10, .inl (cI, 24, .inl ke))] sz) (QWi D (nI k) [(vh, .inr (6, [.int mm, .int (nI n), .int tl, .int ho, .ref v0, .ref v1, .ref v2, .ref v3, .ref v4, .ref v5, .ref v6, .int sl, .int hd, .ref v7, .int lo, .int ak, .int 0, .ref v8, .int isw, .int nw, .ref v9, .long sn, .int ek, .int em, .int eh, .int es, .int ed, .int el, .ref v10, .long hs])), (v0, .inl (cI, 4, .inl kd)), (v1, .inl (cI, 4, .inl st)), (v2, .inl (cI, 4, .inl co)), (v3, .inl (cI, 4, .inl gt)), (v4, .inl (cI, 4, .inl pd)), (v5, .inl (cI, 4, .inl de)), (v6, .inl (cI, 4, .inl us)), (v7, .inl (cI, 4, .inl tm)), (v8, .inl (cB, 18, .inl lt)), (v9, .inl (cI, 4, .inl sv)), (v10, .inl (cI, 24, .inl ke))] (va_A [(vh, .inr (6, [.int mm, .int (nI n), .int tl, .int ho, .ref v0, .ref v1, .ref v2, .ref v3, .ref v4, .ref v5, .ref v6, .int sl, .int hd, .ref v7, .int lo, .int ak, .int (nI k), .ref v8, .int isw, .int nw, .ref v9, .long sn, .int ek, .int em, .int eh, .int es, .int ed, .int el, .ref v10, .long hs])), (v0, .inl (cI, 4, .inl kd)), (v1, .inl (cI, 4, .inl st)), (v2, .inl (cI, 4, .inl co)), (v3, .inl (cI, 4, .inl gt)), (v4, .inl (cI, 4, .inl pd)), (v5, .inl (cI, 4, .inl de)), (v6, .inl (cI, 4, .inl us)), (v7, .inl (cI, 4, .inl tm)), (v8, .inl (cB, 18, .inl lt)), (v9, .inl (cI, 4, .inl sv)), (v10, .inl (cI, 24, .inl ke))] sz)) 0 0 (va_A [(vh, .inr (6, [.int mm, .int (nI n), .int tl, .int ho, .ref v0, .ref v1, .ref v2, .ref v3, .ref v4, .ref v5, .ref v6, .int sl, .int hd, .ref v7, .int lo, .int ak, .int (nI k), .ref v8, .int isw, .int nw, .ref v9, .long sn, .int ek, .int em, .int eh, .int es, .int ed, .int el, .ref v10, .long hs])), (v0, .inl (cI, 4, .inl kd)), (v1, .inl (cI, 4, .inl st)), (v2, .inl (cI, 4, .inl co)), (v3, .inl (cI, 4, .inl gt)), (v4, .inl (cI, 4, .inl pd)), (v5, .inl (cI, 4, .inl de)), (v6, .inl (cI, 4, .inl us)), (v7, .inl (cI, 4, .inl tm)), (v8, .inl (cB, 18, .inl lt)), (v9, .inl (cI, 4, .inl sv)), (v10, .inl (cI, 24, .inl ke))] sz) := by
  refine metW (cc := cX6_blank) (maxL := 2) (ret := (some .int)) (QA := fun A => (QWi D (nI k) [(vh, .inr (6, [.int mm, .int (nI n), .int tl, .int ho, .ref v0, .ref v1, .ref v2, .ref v3, .ref v4, .ref v5, .ref v6, .int sl, .int hd, .ref v7, .int lo, .int ak, .int 0, .ref v8, .int isw, .int nw, .ref v9, .long sn, .int ek, .int em, .int eh, .int es, .int ed, .int el, .ref v10, .long hs])), (v0, .inl (cI, 4, .inl kd)), (v1, .inl (cI, 4, .inl st)), (v2, .inl (cI, 4, .inl co)), (v3, .inl (cI, 4, .inl gt)), (v4, .inl (cI, 4, .inl pd)), (v5, .inl (cI, 4, .inl de)), (v6, .inl (cI, 4, .inl us)), (v7, .inl (cI, 4, .inl tm)), (v8, .inl (cB, 18, .inl lt)), (v9, .inl (cI, 4, .inl sv)), (v10, .inl (cI, 24, .inl ke))] A)) RX6 rfl (by decide) rfl (Nat.le_of_ble_eq_true rfl) ?_
  intro p e s m below meth c A hx hb hr hml hown hts hlocks hin hP hK hD hA hS ls hl
  have iwX6 : ∀ w ∈ wsX60, w ∈ wsX6_blank := by decide +kernel
  have fk48 := hts (.fieldLink RX6 48 "BuyersWeightsModel" "pageLength" "I") (by decide +kernel)
  have hl : lv_has ls 2 [(0, .ref vh)] := hl
  refine lv_aload_n hx hb dX6_blank_0 rfl (lv_at hl 0 rfl) ?_
  refine va_get (D := D) (ci := 6) (v := .int (nI k)) (C := RX6) (T := TX6) (N := 30) hx hb hts iwX6 hown hK.1 hP 0 rfl rfl 16 (by decide) fk48 (fun _ h9 => h9) rfl dX6_blank_1 ?_
  refine lv_istore_n (lv' := [(1, .int (nI k)), (0, .ref vh)]) hx hb dX6_blank_4 rfl hl (by decide) rfl (fun ls hl => ?_)
  refine lv_aload_n hx hb dX6_blank_5 rfl (lv_at hl 1 rfl) ?_
  refine lv_iconst (v := 0) hx hb dX6_blank_6 (by decide) ?_
  refine va_put (D := D) (ci := 6) (v := .int 0) (ty := .int) (C := RX6) (T := TX6) (N := 30) hx hb hts iwX6 tyX6 tyX6_ok nmX6 hown hK.1 hP hD hS 0 rfl rfl 16 (by decide) fk48 (fun _ h9 => h9) rfl (by decide +kernel) rfl rfl (Nat.le_of_ble_eq_true rfl) dX6_blank_7 (fun H locs hP hD hS => ?_)
  have hP : va_P D vwCl [(vh, .inr (6, [.int mm, .int (nI n), .int tl, .int ho, .ref v0, .ref v1, .ref v2, .ref v3, .ref v4, .ref v5, .ref v6, .int sl, .int hd, .ref v7, .int lo, .int ak, .int 0, .ref v8, .int isw, .int nw, .ref v9, .long sn, .int ek, .int em, .int eh, .int es, .int ed, .int el, .ref v10, .long hs])), (v0, .inl (cI, 4, .inl kd)), (v1, .inl (cI, 4, .inl st)), (v2, .inl (cI, 4, .inl co)), (v3, .inl (cI, 4, .inl gt)), (v4, .inl (cI, 4, .inl pd)), (v5, .inl (cI, 4, .inl de)), (v6, .inl (cI, 4, .inl us)), (v7, .inl (cI, 4, .inl tm)), (v8, .inl (cB, 18, .inl lt)), (v9, .inl (cI, 4, .inl sv)), (v10, .inl (cI, 24, .inl ke))] H := hP
  have hD : va_D A [(vh, .inr (6, [.int mm, .int (nI n), .int tl, .int ho, .ref v0, .ref v1, .ref v2, .ref v3, .ref v4, .ref v5, .ref v6, .int sl, .int hd, .ref v7, .int lo, .int ak, .int 0, .ref v8, .int isw, .int nw, .ref v9, .long sn, .int ek, .int em, .int eh, .int es, .int ed, .int el, .ref v10, .long hs])), (v0, .inl (cI, 4, .inl kd)), (v1, .inl (cI, 4, .inl st)), (v2, .inl (cI, 4, .inl co)), (v3, .inl (cI, 4, .inl gt)), (v4, .inl (cI, 4, .inl pd)), (v5, .inl (cI, 4, .inl de)), (v6, .inl (cI, 4, .inl us)), (v7, .inl (cI, 4, .inl tm)), (v8, .inl (cB, 18, .inl lt)), (v9, .inl (cI, 4, .inl sv)), (v10, .inl (cI, 24, .inl ke))] := hD
  refine lv_iload_n hx hb dX6_blank_10 rfl (lv_at hl 0 rfl) ?_
  exact retWi (u := ()) hx hb hr hlocks rfl hP hD hS dX6_blank_11
def f_X6_isFigure (lt : Nat → Int32) (k : Nat) (q : Nat) (a : Int32) (b : Int32) : Int32 := if (nI k) ≤ (nI q) then 0 else if (f_X6_within ((lt q) - 48) a b) = 0 then 0 else 1
set_option maxHeartbeats 4000000 in
set_option maxRecDepth 100000 in
theorem c_X6_isFigure (l : Launch) (D : va_G) (cB cC cI : ClassId) (vh : Nat) (v0 : Nat) (v1 : Nat) (v2 : Nat) (v3 : Nat) (v4 : Nat) (v5 : Nat) (v6 : Nat) (v7 : Nat) (v8 : Nat) (v9 : Nat) (v10 : Nat) (kd : Nat → Int32) (st : Nat → Int32) (co : Nat → Int32) (gt : Nat → Int32) (pd : Nat → Int32) (de : Nat → Int32) (us : Nat → Int32) (tm : Nat → Int32) (lt : Nat → Int32) (sv : Nat → Int32) (ke : Nat → Int32) (mm : Int32) (n : Nat) (tl : Int32) (ho : Int32) (sl : Int32) (hd : Int32) (lo : Int32) (ak : Int32) (k : Nat) (isw : Int32) (nw : Int32) (sn : Int64) (ek : Int32) (em : Int32) (eh : Int32) (es : Int32) (ed : Int32) (el : Int32) (hs : Int64) (q : Nat) (a : Int32) (b : Int32) (hk : k ≤ 18) (hq : q ≤ 21) : Met l yX6_isFigure wsX6_isFigure ({ frames := 1, cells := 0, slots := 0, locals := 22 }) (gPr D cB cC cI [.ref vh, .int (nI q), .int a, .int b] [(vh, .inr (6, [.int mm, .int (nI n), .int tl, .int ho, .ref v0, .ref v1, .ref v2, .ref v3, .ref v4, .ref v5, .ref v6, .int sl, .int hd, .ref v7, .int lo, .int ak, .int (nI k), .ref v8, .int isw, .int nw, .ref v9, .long sn, .int ek, .int em, .int eh, .int es, .int ed, .int el, .ref v10, .long hs])), (v0, .inl (cI, 4, .inl kd)), (v1, .inl (cI, 4, .inl st)), (v2, .inl (cI, 4, .inl co)), (v3, .inl (cI, 4, .inl gt)), (v4, .inl (cI, 4, .inl pd)), (v5, .inl (cI, 4, .inl de)), (v6, .inl (cI, 4, .inl us)), (v7, .inl (cI, 4, .inl tm)), (v8, .inl (cB, 18, .inl lt)), (v9, .inl (cI, 4, .inl sv)), (v10, .inl (cI, 24, .inl ke))]) (vp_Si (fun r => r = (f_X6_isFigure lt k q a b))) 0 0 (fun _ => False) := by
  refine metR (cc := cX6_isFigure) (maxL := 4) (ret := (some .boolean)) RX6 rfl (by decide) rfl (Nat.le_of_ble_eq_true rfl) ?_
  intro p e s m below meth c hx hb hr hml hown hts hlocks hP hK ls hl
  have iwX6 : ∀ w ∈ wsX60, w ∈ wsX6_isFigure := by decide +kernel
  have fk48 := hts (.fieldLink RX6 48 "BuyersWeightsModel" "pageLength" "I") (by decide +kernel)
  have fk34 := hts (.fieldLink RX6 34 "BuyersWeightsModel" "page" "[B") (by decide +kernel)
  have hl : lv_has ls 4 [(0, .ref vh), (1, .int (nI q)), (2, .int a), (3, .int b)] := hl
  refine lv_iload_n hx hb dX6_isFigure_0 rfl (lv_at hl 1 rfl) ?_
  refine lv_aload_n hx hb dX6_isFigure_1 rfl (lv_at hl 0 rfl) ?_
  refine va_get (D := D) (ci := 6) (v := .int (nI k)) (C := RX6) (T := TX6) (N := 30) hx hb hts iwX6 hown hK.1 hP 0 rfl rfl 16 (by decide) fk48 (fun _ h9 => h9) rfl dX6_isFigure_2 ?_
  refine lv_icmp_ge (tgt := 29) hx hb dX6_isFigure_5 (by decide) (fun c_1 => ?_) (fun c_1 => ?_)
  · refine lv_iconst (v := 0) hx hb dX6_isFigure_29 (by decide) ?_
    have eG : f_X6_isFigure lt k q a b = 0 := if_pos c_1
    exact retRz hx hb hr hlocks rfl eG.symm dX6_isFigure_30
  · have hlt : q < k := Nat.lt_of_not_le fun z => c_1 ((nI_leI (by omega) (by omega)).mpr z)
    refine lv_aload_n hx hb dX6_isFigure_8 rfl (lv_at hl 0 rfl) ?_
    refine va_get (D := D) (ci := 6) (v := .ref v8) (C := RX6) (T := TX6) (N := 30) hx hb hts iwX6 hown hK.1 hP 0 rfl rfl 17 (by decide) fk34 (fun _ h9 => h9) rfl dX6_isFigure_9 ?_
    refine lv_iload_n hx hb dX6_isFigure_12 rfl (lv_at hl 1 rfl) ?_
    refine my_bald hx hb hK hP 9 rfl (j := q) (ix_nI (by omega) (by decide)) dX6_isFigure_13 ?_
    refine lv_bipush (v := 48) hx hb dX6_isFigure_14 (by decide) ?_
    refine lv_isub hx hb dX6_isFigure_16 ?_
    refine lv_iload_n hx hb dX6_isFigure_17 rfl (lv_at hl 2 rfl) ?_
    refine lv_iload_n hx hb dX6_isFigure_18 rfl (lv_at hl 3 rfl) ?_
    refine rcSi (As := [.int ((lt q) - 48), .int a, .int b]) (rest := []) ⟨hx, hb, hml, hown, hts⟩ (c_X6_within l D cB cC cI ((lt q) - 48) a b) (va_cwS 3 hts gX6_isFigure_X6_within rfl rfl rfl (by decide +kernel) ⟨Nat.le_of_ble_eq_true rfl, Nat.le_of_ble_eq_true rfl⟩) hK hP [] rfl rfl hl.1 rfl (Nat.le_of_ble_eq_true rfl) dX6_isFigure_19 ⟨Nat.zero_le _, Nat.zero_le _⟩ ?_
    refine lv_if_eq (tgt := 29) hx hb dX6_isFigure_22 (by decide) (fun c_2 => ?_) (fun c_2 => ?_)
    · refine lv_iconst (v := 0) hx hb dX6_isFigure_29 (by decide) ?_
      have eG : f_X6_isFigure lt k q a b = 0 := (if_neg c_1).trans (if_pos c_2)
      exact retRz hx hb hr hlocks rfl eG.symm dX6_isFigure_30
    · refine lv_iconst (v := 1) hx hb dX6_isFigure_25 (by decide) ?_
      refine lv_goto (tgt := 30) hx hb dX6_isFigure_26 (by decide) ?_
      have eG : f_X6_isFigure lt k q a b = 1 := (if_neg c_1).trans (if_neg c_2)
      exact retRz hx hb hr hlocks rfl eG.symm dX6_isFigure_30
def f_X6_readOne (lt : Nat → Int32) (k : Nat) (q : Nat) : Int32 := if (nI q) = (nI k) then nI q else if (f_X6_kindBy (lt q)) = (-1) then nI q else if (f_X6_isFigure lt k (q + 1) 0 9) = 0 then nI (q + 1) else if (f_X6_isFigure lt k (q + 2) 1 9) = 0 then nI (q + 2) else (nI q) + 3
set_option maxHeartbeats 4000000 in
set_option maxRecDepth 100000 in
theorem c_X6_readOne (l : Launch) (D : va_G) (cB cC cI : ClassId) (vh : Nat) (v0 : Nat) (v1 : Nat) (v2 : Nat) (v3 : Nat) (v4 : Nat) (v5 : Nat) (v6 : Nat) (v7 : Nat) (v8 : Nat) (v9 : Nat) (v10 : Nat) (kd : Nat → Int32) (st : Nat → Int32) (co : Nat → Int32) (gt : Nat → Int32) (pd : Nat → Int32) (de : Nat → Int32) (us : Nat → Int32) (tm : Nat → Int32) (lt : Nat → Int32) (sv : Nat → Int32) (ke : Nat → Int32) (mm : Int32) (n : Nat) (tl : Int32) (ho : Int32) (sl : Int32) (hd : Int32) (lo : Int32) (ak : Int32) (k : Nat) (isw : Int32) (nw : Int32) (sn : Int64) (ek : Int32) (em : Int32) (eh : Int32) (es : Int32) (ed : Int32) (el : Int32) (hs : Int64) (q : Nat) (hk : k ≤ 18) (hq : q ≤ k) : Met l yX6_readOne wsX6_readOne ({ frames := 2, cells := 0, slots := 0, locals := 45 }) (gPr D cB cC cI [.ref vh, .int (nI q)] [(vh, .inr (6, [.int mm, .int (nI n), .int tl, .int ho, .ref v0, .ref v1, .ref v2, .ref v3, .ref v4, .ref v5, .ref v6, .int sl, .int hd, .ref v7, .int lo, .int ak, .int (nI k), .ref v8, .int isw, .int nw, .ref v9, .long sn, .int ek, .int em, .int eh, .int es, .int ed, .int el, .ref v10, .long hs])), (v0, .inl (cI, 4, .inl kd)), (v1, .inl (cI, 4, .inl st)), (v2, .inl (cI, 4, .inl co)), (v3, .inl (cI, 4, .inl gt)), (v4, .inl (cI, 4, .inl pd)), (v5, .inl (cI, 4, .inl de)), (v6, .inl (cI, 4, .inl us)), (v7, .inl (cI, 4, .inl tm)), (v8, .inl (cB, 18, .inl lt)), (v9, .inl (cI, 4, .inl sv)), (v10, .inl (cI, 24, .inl ke))]) (vp_Si (fun r => r = (f_X6_readOne lt k q))) 0 0 (fun _ => False) := by
  refine metR (cc := cX6_readOne) (maxL := 2) (ret := (some .int)) RX6 rfl (by decide) rfl (Nat.le_of_ble_eq_true rfl) ?_
  intro p e s m below meth c hx hb hr hml hown hts hlocks hP hK ls hl
  have iwX6 : ∀ w ∈ wsX60, w ∈ wsX6_readOne := by decide +kernel
  have fk48 := hts (.fieldLink RX6 48 "BuyersWeightsModel" "pageLength" "I") (by decide +kernel)
  have fk34 := hts (.fieldLink RX6 34 "BuyersWeightsModel" "page" "[B") (by decide +kernel)
  have hl : lv_has ls 2 [(0, .ref vh), (1, .int (nI q))] := hl
  refine lv_iload_n hx hb dX6_readOne_0 rfl (lv_at hl 1 rfl) ?_
  refine lv_aload_n hx hb dX6_readOne_1 rfl (lv_at hl 0 rfl) ?_
  refine va_get (D := D) (ci := 6) (v := .int (nI k)) (C := RX6) (T := TX6) (N := 30) hx hb hts iwX6 hown hK.1 hP 0 rfl rfl 16 (by decide) fk48 (fun _ h9 => h9) rfl dX6_readOne_2 ?_
  refine lv_icmp_eq (tgt := 21) hx hb dX6_readOne_5 (by decide) (fun c_1 => ?_) (fun c_1 => ?_)
  · refine lv_iload_n hx hb dX6_readOne_21 rfl (lv_at hl 1 rfl) ?_
    have eG : f_X6_readOne lt k q = nI q := if_pos c_1
    exact retRi hx hb hr hlocks eG.symm dX6_readOne_22
  · have hlt : q < k := Nat.lt_of_le_of_ne hq (fun z => c_1 (by rw [z]))
    refine lv_aload_n hx hb dX6_readOne_8 rfl (lv_at hl 0 rfl) ?_
    refine va_get (D := D) (ci := 6) (v := .ref v8) (C := RX6) (T := TX6) (N := 30) hx hb hts iwX6 hown hK.1 hP 0 rfl rfl 17 (by decide) fk34 (fun _ h9 => h9) rfl dX6_readOne_9 ?_
    refine lv_iload_n hx hb dX6_readOne_12 rfl (lv_at hl 1 rfl) ?_
    refine my_bald hx hb hK hP 9 rfl (j := q) (ix_nI (by omega) (by decide)) dX6_readOne_13 ?_
    refine rcSi (As := [.int (lt q)]) (rest := []) ⟨hx, hb, hml, hown, hts⟩ (c_X6_kindBy l D cB cC cI (lt q)) (va_cwS 1 hts gX6_readOne_X6_kindBy rfl rfl rfl (by decide +kernel) ⟨Nat.le_of_ble_eq_true rfl, Nat.le_of_ble_eq_true rfl⟩) hK hP [] rfl rfl hl.1 rfl (Nat.le_of_ble_eq_true rfl) dX6_readOne_14 ⟨Nat.zero_le _, Nat.zero_le _⟩ ?_
    refine lv_iconst (v := (-1)) hx hb dX6_readOne_17 (by decide) ?_
    refine lv_icmp_ne (tgt := 23) hx hb dX6_readOne_18 (by decide) (fun c_2 => ?_) (fun c_2 => ?_)
    · refine lv_aload_n hx hb dX6_readOne_23 rfl (lv_at hl 0 rfl) ?_
      refine lv_iload_n hx hb dX6_readOne_24 rfl (lv_at hl 1 rfl) ?_
      refine lv_iconst (v := 1) hx hb dX6_readOne_25 (by decide) ?_
      refine lv_iadd hx hb dX6_readOne_26 ?_
      refine my_top (y := nI (q + 1)) (nI_1 q) ?_
      refine lv_iconst (v := 0) hx hb dX6_readOne_27 (by decide) ?_
      refine lv_bipush (v := 9) hx hb dX6_readOne_28 (by decide) ?_
      refine rcVi (As := [.int (nI (q + 1)), .int 0, .int 9]) (rest := []) ⟨hx, hb, hml, hown, hts⟩ (c_X6_isFigure l D cB cC cI vh v0 v1 v2 v3 v4 v5 v6 v7 v8 v9 v10 kd st co gt pd de us tm lt sv ke mm n tl ho sl hd lo ak k isw nw sn ek em eh es ed el hs (q + 1) 0 9 (by first | assumption | omega | decide) (by first | assumption | omega | decide)) (cwV 3 hts gX6_readOne_X6_isFigure rfl rfl rfl (by decide +kernel) ⟨Nat.le_of_ble_eq_true rfl, Nat.le_of_ble_eq_true rfl⟩) hK hP [0, 1, 2, 3, 4, 5, 6, 7, 8, 9, 10, 11] rfl rfl 0 rfl rfl hl.1 rfl (Nat.le_of_ble_eq_true rfl) dX6_readOne_30 ⟨Nat.zero_le _, Nat.zero_le _⟩ ?_
      refine lv_if_ne (tgt := 42) hx hb dX6_readOne_33 (by decide) (fun c_3 => ?_) (fun c_3 => ?_)
      · refine lv_aload_n hx hb dX6_readOne_42 rfl (lv_at hl 0 rfl) ?_
        refine lv_iload_n hx hb dX6_readOne_43 rfl (lv_at hl 1 rfl) ?_
        refine lv_iconst (v := 2) hx hb dX6_readOne_44 (by decide) ?_
        refine lv_iadd hx hb dX6_readOne_45 ?_
        refine my_top (y := nI (q + 2)) (nI_add q 2) ?_
        refine lv_iconst (v := 1) hx hb dX6_readOne_46 (by decide) ?_
        refine lv_bipush (v := 9) hx hb dX6_readOne_47 (by decide) ?_
        refine rcVi (As := [.int (nI (q + 2)), .int 1, .int 9]) (rest := []) ⟨hx, hb, hml, hown, hts⟩ (c_X6_isFigure l D cB cC cI vh v0 v1 v2 v3 v4 v5 v6 v7 v8 v9 v10 kd st co gt pd de us tm lt sv ke mm n tl ho sl hd lo ak k isw nw sn ek em eh es ed el hs (q + 2) 1 9 (by first | assumption | omega | decide) (by first | assumption | omega | decide)) (cwV 3 hts gX6_readOne_X6_isFigure rfl rfl rfl (by decide +kernel) ⟨Nat.le_of_ble_eq_true rfl, Nat.le_of_ble_eq_true rfl⟩) hK hP [0, 1, 2, 3, 4, 5, 6, 7, 8, 9, 10, 11] rfl rfl 0 rfl rfl hl.1 rfl (Nat.le_of_ble_eq_true rfl) dX6_readOne_49 ⟨Nat.zero_le _, Nat.zero_le _⟩ ?_
        refine lv_if_ne (tgt := 61) hx hb dX6_readOne_52 (by decide) (fun c_4 => ?_) (fun c_4 => ?_)
        · refine lv_iload_n hx hb dX6_readOne_61 rfl (lv_at hl 1 rfl) ?_
          refine lv_iconst (v := 3) hx hb dX6_readOne_62 (by decide) ?_
          refine lv_iadd hx hb dX6_readOne_63 ?_
          have eG : f_X6_readOne lt k q = (nI q) + 3 := (if_neg c_1).trans ((if_neg c_2).trans ((if_neg c_3).trans (if_neg c_4)))
          exact retRi hx hb hr hlocks eG.symm dX6_readOne_64
        · refine lv_iload_n hx hb dX6_readOne_55 rfl (lv_at hl 1 rfl) ?_
          refine lv_iconst (v := 2) hx hb dX6_readOne_56 (by decide) ?_
          refine lv_iadd hx hb dX6_readOne_57 ?_
          refine my_top (y := nI (q + 2)) (nI_add q 2) ?_
          refine lv_goto (tgt := 64) hx hb dX6_readOne_58 (by decide) ?_
          have eG : f_X6_readOne lt k q = nI (q + 2) := (if_neg c_1).trans ((if_neg c_2).trans ((if_neg c_3).trans (if_pos c_4)))
          exact retRi hx hb hr hlocks eG.symm dX6_readOne_64
      · refine lv_iload_n hx hb dX6_readOne_36 rfl (lv_at hl 1 rfl) ?_
        refine lv_iconst (v := 1) hx hb dX6_readOne_37 (by decide) ?_
        refine lv_iadd hx hb dX6_readOne_38 ?_
        refine my_top (y := nI (q + 1)) (nI_1 q) ?_
        refine lv_goto (tgt := 64) hx hb dX6_readOne_39 (by decide) ?_
        have eG : f_X6_readOne lt k q = nI (q + 1) := (if_neg c_1).trans ((if_neg c_2).trans (if_pos c_3))
        exact retRi hx hb hr hlocks eG.symm dX6_readOne_64
    · refine lv_iload_n hx hb dX6_readOne_21 rfl (lv_at hl 1 rfl) ?_
      have eG : f_X6_readOne lt k q = nI q := (if_neg c_1).trans (if_pos c_2)
      exact retRi hx hb hr hlocks eG.symm dX6_readOne_22
set_option maxHeartbeats 4000000 in
set_option maxRecDepth 100000 in
theorem c_X6_isHouse (l : Launch) (D : va_G) (cB cC cI : ClassId) (vh : Nat) (v0 : Nat) (v1 : Nat) (v2 : Nat) (v3 : Nat) (v4 : Nat) (v5 : Nat) (v6 : Nat) (v7 : Nat) (v8 : Nat) (v9 : Nat) (v10 : Nat) (kd : Nat → Int32) (st : Nat → Int32) (co : Nat → Int32) (gt : Nat → Int32) (pd : Nat → Int32) (de : Nat → Int32) (us : Nat → Int32) (tm : Nat → Int32) (lt : Nat → Int32) (sv : Nat → Int32) (ke : Nat → Int32) (mm : Int32) (n : Nat) (tl : Int32) (ho : Int32) (sl : Int32) (hd : Int32) (lo : Int32) (ak : Int32) (k : Nat) (isw : Int32) (nw : Int32) (sn : Int64) (ek : Int32) (em : Int32) (eh : Int32) (es : Int32) (ed : Int32) (el : Int32) (hs : Int64) (b : Int32)  : Met l yX6_isHouse wsX6_isHouse ({ frames := 1, cells := 0, slots := 0, locals := 22 }) (gPr D cB cC cI [.ref vh, .int b] [(vh, .inr (6, [.int mm, .int (nI n), .int tl, .int ho, .ref v0, .ref v1, .ref v2, .ref v3, .ref v4, .ref v5, .ref v6, .int sl, .int hd, .ref v7, .int lo, .int ak, .int (nI k), .ref v8, .int isw, .int nw, .ref v9, .long sn, .int ek, .int em, .int eh, .int es, .int ed, .int el, .ref v10, .long hs])), (v0, .inl (cI, 4, .inl kd)), (v1, .inl (cI, 4, .inl st)), (v2, .inl (cI, 4, .inl co)), (v3, .inl (cI, 4, .inl gt)), (v4, .inl (cI, 4, .inl pd)), (v5, .inl (cI, 4, .inl de)), (v6, .inl (cI, 4, .inl us)), (v7, .inl (cI, 4, .inl tm)), (v8, .inl (cB, 18, .inl lt)), (v9, .inl (cI, 4, .inl sv)), (v10, .inl (cI, 24, .inl ke))]) (vp_Si (fun r => r = (f_X6_within b 0 ((nI n) - 1)))) 0 0 (fun _ => False) := by
  refine metR (cc := cX6_isHouse) (maxL := 2) (ret := (some .boolean)) RX6 rfl (by decide) rfl (Nat.le_of_ble_eq_true rfl) ?_
  intro p e s m below meth c hx hb hr hml hown hts hlocks hP hK ls hl
  have iwX6 : ∀ w ∈ wsX60, w ∈ wsX6_isHouse := by decide +kernel
  have fk73 := hts (.fieldLink RX6 73 "BuyersWeightsModel" "houses" "I") (by decide +kernel)
  have hl : lv_has ls 2 [(0, .ref vh), (1, .int b)] := hl
  refine lv_iload_n hx hb dX6_isHouse_0 rfl (lv_at hl 1 rfl) ?_
  refine lv_iconst (v := 0) hx hb dX6_isHouse_1 (by decide) ?_
  refine lv_aload_n hx hb dX6_isHouse_2 rfl (lv_at hl 0 rfl) ?_
  refine va_get (D := D) (ci := 6) (v := .int (nI n)) (C := RX6) (T := TX6) (N := 30) hx hb hts iwX6 hown hK.1 hP 0 rfl rfl 1 (by decide) fk73 (fun _ h9 => h9) rfl dX6_isHouse_3 ?_
  refine lv_iconst (v := 1) hx hb dX6_isHouse_6 (by decide) ?_
  refine lv_isub hx hb dX6_isHouse_7 ?_
  refine rcSi (As := [.int b, .int 0, .int ((nI n) - 1)]) (rest := []) ⟨hx, hb, hml, hown, hts⟩ (c_X6_within l D cB cC cI b 0 ((nI n) - 1)) (va_cwS 3 hts gX6_isHouse_X6_within rfl rfl rfl (by decide +kernel) ⟨Nat.le_of_ble_eq_true rfl, Nat.le_of_ble_eq_true rfl⟩) hK hP [] rfl rfl hl.1 rfl (Nat.le_of_ble_eq_true rfl) dX6_isHouse_8 ⟨Nat.zero_le _, Nat.zero_le _⟩ ?_
  exact retRz hx hb hr hlocks (nbW _ _ _) rfl dX6_isHouse_11
theorem isH_ix {n : Nat} {b : Int32} (hn : n ≤ 4) (h : ¬ f_X6_within b 0 (nI n - 1) = 0) : ix b b.toNatClampNeg n := by
  by_cases g1 : b < 0
  · exact absurd (if_pos g1) h
  by_cases g2 : nI n - 1 < b
  · exact absurd ((if_neg g1).trans (if_pos g2)) h
  have h1 := Int32.not_lt.mp g1
  have h2 := Int32.not_lt.mp g2
  have e1 := Int32.le_iff_toInt_le.mp h1
  have e2 := Int32.le_iff_toInt_le.mp h2
  have e3 : (nI n - nI 1).toInt = (n : Int) - 1 := pk_sub_toInt (by omega) (by decide)
  rw [show (1 : Int32) = nI 1 from rfl, e3] at e2
  refine ix_var (vp_in_iff.mpr ⟨?_, ?_⟩)
  · simpa using e1
  · omega
def f_X6_houseNow (kd : Nat → Int32) (st : Nat → Int32) (co : Nat → Int32) (gt : Nat → Int32) (pd : Nat → Int32) (de : Nat → Int32) (us : Nat → Int32) (j : Nat) (w : Int32) : Int32 := if w = 0 then kd j else if w = 1 then st j else if w = 2 then co j else if w = 3 then gt j else if w = 4 then pd j else if w = 5 then de j else us j
set_option maxHeartbeats 4000000 in
set_option maxRecDepth 100000 in
theorem c_X6_houseNow (l : Launch) (D : va_G) (cB cC cI : ClassId) (vh : Nat) (v0 : Nat) (v1 : Nat) (v2 : Nat) (v3 : Nat) (v4 : Nat) (v5 : Nat) (v6 : Nat) (v7 : Nat) (v8 : Nat) (v9 : Nat) (v10 : Nat) (kd : Nat → Int32) (st : Nat → Int32) (co : Nat → Int32) (gt : Nat → Int32) (pd : Nat → Int32) (de : Nat → Int32) (us : Nat → Int32) (tm : Nat → Int32) (lt : Nat → Int32) (sv : Nat → Int32) (ke : Nat → Int32) (mm : Int32) (n : Nat) (tl : Int32) (ho : Int32) (sl : Int32) (hd : Int32) (lo : Int32) (ak : Int32) (k : Nat) (isw : Int32) (nw : Int32) (sn : Int64) (ek : Int32) (em : Int32) (eh : Int32) (es : Int32) (ed : Int32) (el : Int32) (hs : Int64) (b : Int32) (j : Nat) (w : Int32) (hb4 : ix b j 4) : Met l yX6_houseNow wsX6_houseNow ({ frames := 0, cells := 0, slots := 0, locals := 0 }) (gPr D cB cC cI [.ref vh, .int b, .int w] [(vh, .inr (6, [.int mm, .int (nI n), .int tl, .int ho, .ref v0, .ref v1, .ref v2, .ref v3, .ref v4, .ref v5, .ref v6, .int sl, .int hd, .ref v7, .int lo, .int ak, .int (nI k), .ref v8, .int isw, .int nw, .ref v9, .long sn, .int ek, .int em, .int eh, .int es, .int ed, .int el, .ref v10, .long hs])), (v0, .inl (cI, 4, .inl kd)), (v1, .inl (cI, 4, .inl st)), (v2, .inl (cI, 4, .inl co)), (v3, .inl (cI, 4, .inl gt)), (v4, .inl (cI, 4, .inl pd)), (v5, .inl (cI, 4, .inl de)), (v6, .inl (cI, 4, .inl us)), (v7, .inl (cI, 4, .inl tm)), (v8, .inl (cB, 18, .inl lt)), (v9, .inl (cI, 4, .inl sv)), (v10, .inl (cI, 24, .inl ke))]) (vp_Si (fun r => r = (f_X6_houseNow kd st co gt pd de us j w))) 0 0 (fun _ => False) := by
  refine metR (cc := cX6_houseNow) (maxL := 3) (ret := (some .int)) RX6 rfl (by decide) rfl (Nat.le_of_ble_eq_true rfl) ?_
  intro p e s m below meth c hx hb hr hml hown hts hlocks hP hK ls hl
  have iwX6 : ∀ w ∈ wsX60, w ∈ wsX6_houseNow := by decide +kernel
  have fk7 := hts (.fieldLink RX6 7 "BuyersWeightsModel" "kindOf" "[I") (by decide +kernel)
  have fk13 := hts (.fieldLink RX6 13 "BuyersWeightsModel" "weighsOf" "[I") (by decide +kernel)
  have fk16 := hts (.fieldLink RX6 16 "BuyersWeightsModel" "coinOf" "[I") (by decide +kernel)
  have fk19 := hts (.fieldLink RX6 19 "BuyersWeightsModel" "gotOf" "[I") (by decide +kernel)
  have fk22 := hts (.fieldLink RX6 22 "BuyersWeightsModel" "paidOf" "[I") (by decide +kernel)
  have fk25 := hts (.fieldLink RX6 25 "BuyersWeightsModel" "dealtOf" "[I") (by decide +kernel)
  have fk28 := hts (.fieldLink RX6 28 "BuyersWeightsModel" "usedOf" "[I") (by decide +kernel)
  have hl : lv_has ls 3 [(0, .ref vh), (1, .int b), (2, .int w)] := hl
  refine lv_iload_n hx hb dX6_houseNow_0 rfl (lv_at hl 2 rfl) ?_
  by_cases k_1 : w = 0
  · refine lv_tableIn (off := 39) (tgt := 40) hx hb dX6_houseNow_1 (by rw [k_1]; decide) (by rw [k_1]; decide) (by rw [k_1]; decide +kernel) (by decide) ?_
    refine lv_aload_n hx hb dX6_houseNow_40 rfl (lv_at hl 0 rfl) ?_
    refine va_get (D := D) (ci := 6) (v := .ref v0) (C := RX6) (T := TX6) (N := 30) hx hb hts iwX6 hown hK.1 hP 0 rfl rfl 4 (by decide) fk7 (fun _ h9 => h9) rfl dX6_houseNow_41 ?_
    refine lv_iload_n hx hb dX6_houseNow_44 rfl (lv_at hl 1 rfl) ?_
    refine my_iald hx hb hK hP 1 rfl (j := j) hb4 dX6_houseNow_45 ?_
    have eG : f_X6_houseNow kd st co gt pd de us j w = kd j := if_pos k_1
    exact retRi hx hb hr hlocks eG.symm dX6_houseNow_46
  · by_cases k_2 : w = 1
    · refine lv_tableIn (off := 46) (tgt := 47) hx hb dX6_houseNow_1 (by rw [k_2]; decide) (by rw [k_2]; decide) (by rw [k_2]; decide +kernel) (by decide) ?_
      refine lv_aload_n hx hb dX6_houseNow_47 rfl (lv_at hl 0 rfl) ?_
      refine va_get (D := D) (ci := 6) (v := .ref v1) (C := RX6) (T := TX6) (N := 30) hx hb hts iwX6 hown hK.1 hP 0 rfl rfl 5 (by decide) fk13 (fun _ h9 => h9) rfl dX6_houseNow_48 ?_
      refine lv_iload_n hx hb dX6_houseNow_51 rfl (lv_at hl 1 rfl) ?_
      refine my_iald hx hb hK hP 2 rfl (j := j) hb4 dX6_houseNow_52 ?_
      have eG : f_X6_houseNow kd st co gt pd de us j w = st j := (if_neg k_1).trans (if_pos k_2)
      exact retRi hx hb hr hlocks eG.symm dX6_houseNow_53
    · by_cases k_3 : w = 2
      · refine lv_tableIn (off := 53) (tgt := 54) hx hb dX6_houseNow_1 (by rw [k_3]; decide) (by rw [k_3]; decide) (by rw [k_3]; decide +kernel) (by decide) ?_
        refine lv_aload_n hx hb dX6_houseNow_54 rfl (lv_at hl 0 rfl) ?_
        refine va_get (D := D) (ci := 6) (v := .ref v2) (C := RX6) (T := TX6) (N := 30) hx hb hts iwX6 hown hK.1 hP 0 rfl rfl 6 (by decide) fk16 (fun _ h9 => h9) rfl dX6_houseNow_55 ?_
        refine lv_iload_n hx hb dX6_houseNow_58 rfl (lv_at hl 1 rfl) ?_
        refine my_iald hx hb hK hP 3 rfl (j := j) hb4 dX6_houseNow_59 ?_
        have eG : f_X6_houseNow kd st co gt pd de us j w = co j := (if_neg k_1).trans ((if_neg k_2).trans (if_pos k_3))
        exact retRi hx hb hr hlocks eG.symm dX6_houseNow_60
      · by_cases k_4 : w = 3
        · refine lv_tableIn (off := 60) (tgt := 61) hx hb dX6_houseNow_1 (by rw [k_4]; decide) (by rw [k_4]; decide) (by rw [k_4]; decide +kernel) (by decide) ?_
          refine lv_aload_n hx hb dX6_houseNow_61 rfl (lv_at hl 0 rfl) ?_
          refine va_get (D := D) (ci := 6) (v := .ref v3) (C := RX6) (T := TX6) (N := 30) hx hb hts iwX6 hown hK.1 hP 0 rfl rfl 7 (by decide) fk19 (fun _ h9 => h9) rfl dX6_houseNow_62 ?_
          refine lv_iload_n hx hb dX6_houseNow_65 rfl (lv_at hl 1 rfl) ?_
          refine my_iald hx hb hK hP 4 rfl (j := j) hb4 dX6_houseNow_66 ?_
          have eG : f_X6_houseNow kd st co gt pd de us j w = gt j := (if_neg k_1).trans ((if_neg k_2).trans ((if_neg k_3).trans (if_pos k_4)))
          exact retRi hx hb hr hlocks eG.symm dX6_houseNow_67
        · by_cases k_5 : w = 4
          · refine lv_tableIn (off := 67) (tgt := 68) hx hb dX6_houseNow_1 (by rw [k_5]; decide) (by rw [k_5]; decide) (by rw [k_5]; decide +kernel) (by decide) ?_
            refine lv_aload_n hx hb dX6_houseNow_68 rfl (lv_at hl 0 rfl) ?_
            refine va_get (D := D) (ci := 6) (v := .ref v4) (C := RX6) (T := TX6) (N := 30) hx hb hts iwX6 hown hK.1 hP 0 rfl rfl 8 (by decide) fk22 (fun _ h9 => h9) rfl dX6_houseNow_69 ?_
            refine lv_iload_n hx hb dX6_houseNow_72 rfl (lv_at hl 1 rfl) ?_
            refine my_iald hx hb hK hP 5 rfl (j := j) hb4 dX6_houseNow_73 ?_
            have eG : f_X6_houseNow kd st co gt pd de us j w = pd j := (if_neg k_1).trans ((if_neg k_2).trans ((if_neg k_3).trans ((if_neg k_4).trans (if_pos k_5))))
            exact retRi hx hb hr hlocks eG.symm dX6_houseNow_74
          · by_cases k_6 : w = 5
            · refine lv_tableIn (off := 74) (tgt := 75) hx hb dX6_houseNow_1 (by rw [k_6]; decide) (by rw [k_6]; decide) (by rw [k_6]; decide +kernel) (by decide) ?_
              refine lv_aload_n hx hb dX6_houseNow_75 rfl (lv_at hl 0 rfl) ?_
              refine va_get (D := D) (ci := 6) (v := .ref v5) (C := RX6) (T := TX6) (N := 30) hx hb hts iwX6 hown hK.1 hP 0 rfl rfl 9 (by decide) fk25 (fun _ h9 => h9) rfl dX6_houseNow_76 ?_
              refine lv_iload_n hx hb dX6_houseNow_79 rfl (lv_at hl 1 rfl) ?_
              refine my_iald hx hb hK hP 6 rfl (j := j) hb4 dX6_houseNow_80 ?_
              have eG : f_X6_houseNow kd st co gt pd de us j w = de j := (if_neg k_1).trans ((if_neg k_2).trans ((if_neg k_3).trans ((if_neg k_4).trans ((if_neg k_5).trans (if_pos k_6)))))
              exact retRi hx hb hr hlocks eG.symm dX6_houseNow_81
            · have hout : w.toInt < 0 ∨ 5 < w.toInt := by
                have q0 := lv_neT (a := 0) k_1 (by decide)
                have q1 := lv_neT (a := 1) k_2 (by decide)
                have q2 := lv_neT (a := 2) k_3 (by decide)
                have q3 := lv_neT (a := 3) k_4 (by decide)
                have q4 := lv_neT (a := 4) k_5 (by decide)
                have q5 := lv_neT (a := 5) k_6 (by decide)
                omega
              refine lv_tableOut (tgt := 82) hx hb dX6_houseNow_1 hout (by decide) ?_
              refine lv_aload_n hx hb dX6_houseNow_82 rfl (lv_at hl 0 rfl) ?_
              refine va_get (D := D) (ci := 6) (v := .ref v6) (C := RX6) (T := TX6) (N := 30) hx hb hts iwX6 hown hK.1 hP 0 rfl rfl 10 (by decide) fk28 (fun _ h9 => h9) rfl dX6_houseNow_83 ?_
              refine lv_iload_n hx hb dX6_houseNow_86 rfl (lv_at hl 1 rfl) ?_
              refine my_iald hx hb hK hP 7 rfl (j := j) hb4 dX6_houseNow_87 ?_
              have eG : f_X6_houseNow kd st co gt pd de us j w = us j := (if_neg k_1).trans ((if_neg k_2).trans ((if_neg k_3).trans ((if_neg k_4).trans ((if_neg k_5).trans (if_neg k_6)))))
              exact retRi hx hb hr hlocks eG.symm dX6_houseNow_88
def f_X6_about (kd : Nat → Int32) (st : Nat → Int32) (co : Nat → Int32) (gt : Nat → Int32) (pd : Nat → Int32) (de : Nat → Int32) (us : Nat → Int32) (n : Nat) (b : Int32) (w : Int32) : Int32 := if (f_X6_within b 0 ((nI n) - 1)) = 0 then (-101) else if (f_X6_within w 0 6) = 0 then (-102) else (f_X6_houseNow kd st co gt pd de us b.toNatClampNeg w)
set_option maxHeartbeats 4000000 in
set_option maxRecDepth 100000 in
theorem c_X6_about (l : Launch) (D : va_G) (cB cC cI : ClassId) (vh : Nat) (v0 : Nat) (v1 : Nat) (v2 : Nat) (v3 : Nat) (v4 : Nat) (v5 : Nat) (v6 : Nat) (v7 : Nat) (v8 : Nat) (v9 : Nat) (v10 : Nat) (kd : Nat → Int32) (st : Nat → Int32) (co : Nat → Int32) (gt : Nat → Int32) (pd : Nat → Int32) (de : Nat → Int32) (us : Nat → Int32) (tm : Nat → Int32) (lt : Nat → Int32) (sv : Nat → Int32) (ke : Nat → Int32) (mm : Int32) (n : Nat) (tl : Int32) (ho : Int32) (sl : Int32) (hd : Int32) (lo : Int32) (ak : Int32) (k : Nat) (isw : Int32) (nw : Int32) (sn : Int64) (ek : Int32) (em : Int32) (eh : Int32) (es : Int32) (ed : Int32) (el : Int32) (hs : Int64) (b : Int32) (w : Int32) (hn : n ≤ 4) : Met l yX6_about wsX6_about ({ frames := 2, cells := 0, slots := 0, locals := 43 }) (gPr D cB cC cI [.ref vh, .int b, .int w] [(vh, .inr (6, [.int mm, .int (nI n), .int tl, .int ho, .ref v0, .ref v1, .ref v2, .ref v3, .ref v4, .ref v5, .ref v6, .int sl, .int hd, .ref v7, .int lo, .int ak, .int (nI k), .ref v8, .int isw, .int nw, .ref v9, .long sn, .int ek, .int em, .int eh, .int es, .int ed, .int el, .ref v10, .long hs])), (v0, .inl (cI, 4, .inl kd)), (v1, .inl (cI, 4, .inl st)), (v2, .inl (cI, 4, .inl co)), (v3, .inl (cI, 4, .inl gt)), (v4, .inl (cI, 4, .inl pd)), (v5, .inl (cI, 4, .inl de)), (v6, .inl (cI, 4, .inl us)), (v7, .inl (cI, 4, .inl tm)), (v8, .inl (cB, 18, .inl lt)), (v9, .inl (cI, 4, .inl sv)), (v10, .inl (cI, 24, .inl ke))]) (vp_Si (fun r => r = (f_X6_about kd st co gt pd de us n b w))) 0 0 (fun _ => False) := by
  refine metR (cc := cX6_about) (maxL := 3) (ret := (some .int)) RX6 rfl (by decide) rfl (Nat.le_of_ble_eq_true rfl) ?_
  intro p e s m below meth c hx hb hr hml hown hts hlocks hP hK ls hl
  have hl : lv_has ls 3 [(0, .ref vh), (1, .int b), (2, .int w)] := hl
  refine lv_aload_n hx hb dX6_about_0 rfl (lv_at hl 0 rfl) ?_
  refine lv_iload_n hx hb dX6_about_1 rfl (lv_at hl 1 rfl) ?_
  refine rcVi (As := [.int b]) (rest := []) ⟨hx, hb, hml, hown, hts⟩ (c_X6_isHouse l D cB cC cI vh v0 v1 v2 v3 v4 v5 v6 v7 v8 v9 v10 kd st co gt pd de us tm lt sv ke mm n tl ho sl hd lo ak k isw nw sn ek em eh es ed el hs b) (cwV 1 hts gX6_about_X6_isHouse rfl rfl rfl (by decide +kernel) ⟨Nat.le_of_ble_eq_true rfl, Nat.le_of_ble_eq_true rfl⟩) hK hP [0, 1, 2, 3, 4, 5, 6, 7, 8, 9, 10, 11] rfl rfl 0 rfl rfl hl.1 rfl (Nat.le_of_ble_eq_true rfl) dX6_about_2 ⟨Nat.zero_le _, Nat.zero_le _⟩ ?_
  refine lv_if_ne (tgt := 13) hx hb dX6_about_5 (by decide) (fun c_1 => ?_) (fun c_1 => ?_)
  · have hi := (isH_ix hn c_1).up hn
    refine lv_iload_n hx hb dX6_about_13 rfl (lv_at hl 2 rfl) ?_
    refine lv_iconst (v := 0) hx hb dX6_about_14 (by decide) ?_
    refine lv_bipush (v := 6) hx hb dX6_about_15 (by decide) ?_
    refine rcSi (As := [.int w, .int 0, .int 6]) (rest := []) ⟨hx, hb, hml, hown, hts⟩ (c_X6_within l D cB cC cI w 0 6) (va_cwS 3 hts gX6_about_X6_within rfl rfl rfl (by decide +kernel) ⟨Nat.le_of_ble_eq_true rfl, Nat.le_of_ble_eq_true rfl⟩) hK hP [] rfl rfl hl.1 rfl (Nat.le_of_ble_eq_true rfl) dX6_about_17 ⟨Nat.zero_le _, Nat.zero_le _⟩ ?_
    refine lv_if_eq (tgt := 32) hx hb dX6_about_20 (by decide) (fun c_2 => ?_) (fun c_2 => ?_)
    · refine lv_bipush (v := (-102)) hx hb dX6_about_32 (by decide) ?_
      have eG : f_X6_about kd st co gt pd de us n b w = (-102) := (if_neg c_1).trans (if_pos c_2)
      exact retRi hx hb hr hlocks eG.symm dX6_about_34
    · refine lv_aload_n hx hb dX6_about_23 rfl (lv_at hl 0 rfl) ?_
      refine lv_iload_n hx hb dX6_about_24 rfl (lv_at hl 1 rfl) ?_
      refine lv_iload_n hx hb dX6_about_25 rfl (lv_at hl 2 rfl) ?_
      refine rcVi (As := [.int b, .int w]) (rest := []) ⟨hx, hb, hml, hown, hts⟩ (c_X6_houseNow l D cB cC cI vh v0 v1 v2 v3 v4 v5 v6 v7 v8 v9 v10 kd st co gt pd de us tm lt sv ke mm n tl ho sl hd lo ak k isw nw sn ek em eh es ed el hs b b.toNatClampNeg w hi) (cwV 2 hts gX6_about_X6_houseNow rfl rfl rfl (by decide +kernel) ⟨Nat.le_of_ble_eq_true rfl, Nat.le_of_ble_eq_true rfl⟩) hK hP [0, 1, 2, 3, 4, 5, 6, 7, 8, 9, 10, 11] rfl rfl 0 rfl rfl hl.1 rfl (Nat.le_of_ble_eq_true rfl) dX6_about_26 ⟨Nat.zero_le _, Nat.zero_le _⟩ ?_
      refine lv_goto (tgt := 34) hx hb dX6_about_29 (by decide) ?_
      have eG : f_X6_about kd st co gt pd de us n b w = (f_X6_houseNow kd st co gt pd de us b.toNatClampNeg w) := (if_neg c_1).trans (if_neg c_2)
      exact retRi hx hb hr hlocks eG.symm dX6_about_34
  · refine lv_bipush (v := (-101)) hx hb dX6_about_8 (by decide) ?_
    refine lv_goto (tgt := 34) hx hb dX6_about_10 (by decide) ?_
    have eG : f_X6_about kd st co gt pd de us n b w = (-101) := if_pos c_1
    exact retRi hx hb hr hlocks eG.symm dX6_about_34
def f_X6_as (kd : Nat → Int32) (n : Nat) (b : Int32) (w : Int32) : Int32 := if (f_X6_within b 0 ((nI n) - 1)) = 0 then (-101) else if (f_X6_within w 0 4) = 0 then (-102) else if w = 0 then b else if (kd b.toNatClampNeg) = w then b else if w = 1 then (if (kd b.toNatClampNeg) = 4 then b else (-1)) else (-1)
set_option maxHeartbeats 4000000 in
set_option maxRecDepth 100000 in
theorem c_X6_as (l : Launch) (D : va_G) (cB cC cI : ClassId) (vh : Nat) (v0 : Nat) (v1 : Nat) (v2 : Nat) (v3 : Nat) (v4 : Nat) (v5 : Nat) (v6 : Nat) (v7 : Nat) (v8 : Nat) (v9 : Nat) (v10 : Nat) (kd : Nat → Int32) (st : Nat → Int32) (co : Nat → Int32) (gt : Nat → Int32) (pd : Nat → Int32) (de : Nat → Int32) (us : Nat → Int32) (tm : Nat → Int32) (lt : Nat → Int32) (sv : Nat → Int32) (ke : Nat → Int32) (mm : Int32) (n : Nat) (tl : Int32) (ho : Int32) (sl : Int32) (hd : Int32) (lo : Int32) (ak : Int32) (k : Nat) (isw : Int32) (nw : Int32) (sn : Int64) (ek : Int32) (em : Int32) (eh : Int32) (es : Int32) (ed : Int32) (el : Int32) (hs : Int64) (b : Int32) (w : Int32) (hn : n ≤ 4) : Met l yX6_as wsX6_as ({ frames := 2, cells := 0, slots := 0, locals := 43 }) (gPr D cB cC cI [.ref vh, .int b, .int w] [(vh, .inr (6, [.int mm, .int (nI n), .int tl, .int ho, .ref v0, .ref v1, .ref v2, .ref v3, .ref v4, .ref v5, .ref v6, .int sl, .int hd, .ref v7, .int lo, .int ak, .int (nI k), .ref v8, .int isw, .int nw, .ref v9, .long sn, .int ek, .int em, .int eh, .int es, .int ed, .int el, .ref v10, .long hs])), (v0, .inl (cI, 4, .inl kd)), (v1, .inl (cI, 4, .inl st)), (v2, .inl (cI, 4, .inl co)), (v3, .inl (cI, 4, .inl gt)), (v4, .inl (cI, 4, .inl pd)), (v5, .inl (cI, 4, .inl de)), (v6, .inl (cI, 4, .inl us)), (v7, .inl (cI, 4, .inl tm)), (v8, .inl (cB, 18, .inl lt)), (v9, .inl (cI, 4, .inl sv)), (v10, .inl (cI, 24, .inl ke))]) (vp_Si (fun r => r = (f_X6_as kd n b w))) 0 0 (fun _ => False) := by
  refine metR (cc := cX6_as) (maxL := 4) (ret := (some .int)) RX6 rfl (by decide) rfl (Nat.le_of_ble_eq_true rfl) ?_
  intro p e s m below meth c hx hb hr hml hown hts hlocks hP hK ls hl
  have iwX6 : ∀ w ∈ wsX60, w ∈ wsX6_as := by decide +kernel
  have fk7 := hts (.fieldLink RX6 7 "BuyersWeightsModel" "kindOf" "[I") (by decide +kernel)
  have hl : lv_has ls 4 [(0, .ref vh), (1, .int b), (2, .int w)] := hl
  refine lv_aload_n hx hb dX6_as_0 rfl (lv_at hl 0 rfl) ?_
  refine lv_iload_n hx hb dX6_as_1 rfl (lv_at hl 1 rfl) ?_
  refine rcVi (As := [.int b]) (rest := []) ⟨hx, hb, hml, hown, hts⟩ (c_X6_isHouse l D cB cC cI vh v0 v1 v2 v3 v4 v5 v6 v7 v8 v9 v10 kd st co gt pd de us tm lt sv ke mm n tl ho sl hd lo ak k isw nw sn ek em eh es ed el hs b) (cwV 1 hts gX6_as_X6_isHouse rfl rfl rfl (by decide +kernel) ⟨Nat.le_of_ble_eq_true rfl, Nat.le_of_ble_eq_true rfl⟩) hK hP [0, 1, 2, 3, 4, 5, 6, 7, 8, 9, 10, 11] rfl rfl 0 rfl rfl hl.1 rfl (Nat.le_of_ble_eq_true rfl) dX6_as_2 ⟨Nat.zero_le _, Nat.zero_le _⟩ ?_
  refine lv_if_ne (tgt := 11) hx hb dX6_as_5 (by decide) (fun c_1 => ?_) (fun c_1 => ?_)
  · have hi := (isH_ix hn c_1).up hn
    refine lv_iload_n hx hb dX6_as_11 rfl (lv_at hl 2 rfl) ?_
    refine lv_iconst (v := 0) hx hb dX6_as_12 (by decide) ?_
    refine lv_iconst (v := 4) hx hb dX6_as_13 (by decide) ?_
    refine rcSi (As := [.int w, .int 0, .int 4]) (rest := []) ⟨hx, hb, hml, hown, hts⟩ (c_X6_within l D cB cC cI w 0 4) (va_cwS 3 hts gX6_as_X6_within rfl rfl rfl (by decide +kernel) ⟨Nat.le_of_ble_eq_true rfl, Nat.le_of_ble_eq_true rfl⟩) hK hP [] rfl rfl hl.1 rfl (Nat.le_of_ble_eq_true rfl) dX6_as_14 ⟨Nat.zero_le _, Nat.zero_le _⟩ ?_
    refine lv_if_ne (tgt := 23) hx hb dX6_as_17 (by decide) (fun c_2 => ?_) (fun c_2 => ?_)
    · refine lv_aload_n hx hb dX6_as_23 rfl (lv_at hl 0 rfl) ?_
      refine va_get (D := D) (ci := 6) (v := .ref v0) (C := RX6) (T := TX6) (N := 30) hx hb hts iwX6 hown hK.1 hP 0 rfl rfl 4 (by decide) fk7 (fun _ h9 => h9) rfl dX6_as_24 ?_
      refine lv_iload_n hx hb dX6_as_27 rfl (lv_at hl 1 rfl) ?_
      refine my_iald hx hb hK hP 1 rfl (j := b.toNatClampNeg) hi dX6_as_28 ?_
      refine lv_istore_n (lv' := [(3, .int (kd b.toNatClampNeg)), (0, .ref vh), (1, .int b), (2, .int w)]) hx hb dX6_as_29 rfl hl (by decide) rfl (fun ls hl => ?_)
      refine lv_iload_n hx hb dX6_as_30 rfl (lv_at hl 3 rfl) ?_
      refine lv_if_eq (tgt := 49) hx hb dX6_as_31 (by decide) (fun c_3 => ?_) (fun c_3 => ?_)
      · refine lv_iload_n hx hb dX6_as_49 rfl (lv_at hl 2 rfl) ?_
        refine lv_goto (tgt := 54) hx hb dX6_as_50 (by decide) ?_
        have eG : f_X6_as kd n b w = b := (if_neg c_1).trans ((if_neg c_2).trans (if_pos c_3))
        exact retRi hx hb hr hlocks eG.symm dX6_as_54
      · refine lv_iload_n hx hb dX6_as_34 rfl (lv_at hl 0 rfl) ?_
        refine lv_iload_n hx hb dX6_as_35 rfl (lv_at hl 3 rfl) ?_
        refine lv_icmp_eq (tgt := 49) hx hb dX6_as_36 (by decide) (fun c_4 => ?_) (fun c_4 => ?_)
        · refine lv_iload_n hx hb dX6_as_49 rfl (lv_at hl 2 rfl) ?_
          refine lv_goto (tgt := 54) hx hb dX6_as_50 (by decide) ?_
          have eG : f_X6_as kd n b w = b := (if_neg c_1).trans ((if_neg c_2).trans ((if_neg c_3).trans (if_pos c_4)))
          exact retRi hx hb hr hlocks eG.symm dX6_as_54
        · refine lv_iload_n hx hb dX6_as_39 rfl (lv_at hl 3 rfl) ?_
          refine lv_iconst (v := 1) hx hb dX6_as_40 (by decide) ?_
          refine lv_icmp_ne (tgt := 53) hx hb dX6_as_41 (by decide) (fun c_5 => ?_) (fun c_5 => ?_)
          · refine lv_iconst (v := (-1)) hx hb dX6_as_53 (by decide) ?_
            have eG : f_X6_as kd n b w = (-1) := (if_neg c_1).trans ((if_neg c_2).trans ((if_neg c_3).trans ((if_neg c_4).trans (if_neg c_5))))
            exact retRi hx hb hr hlocks eG.symm dX6_as_54
          · refine lv_iload_n hx hb dX6_as_44 rfl (lv_at hl 0 rfl) ?_
            refine lv_iconst (v := 4) hx hb dX6_as_45 (by decide) ?_
            refine lv_icmp_ne (tgt := 53) hx hb dX6_as_46 (by decide) (fun c_6 => ?_) (fun c_6 => ?_)
            · refine lv_iconst (v := (-1)) hx hb dX6_as_53 (by decide) ?_
              have eG : f_X6_as kd n b w = (-1) := (if_neg c_1).trans ((if_neg c_2).trans ((if_neg c_3).trans ((if_neg c_4).trans ((if_pos c_5).trans (if_neg c_6)))))
              exact retRi hx hb hr hlocks eG.symm dX6_as_54
            · refine lv_iload_n hx hb dX6_as_49 rfl (lv_at hl 2 rfl) ?_
              refine lv_goto (tgt := 54) hx hb dX6_as_50 (by decide) ?_
              have eG : f_X6_as kd n b w = b := (if_neg c_1).trans ((if_neg c_2).trans ((if_neg c_3).trans ((if_neg c_4).trans ((if_pos c_5).trans (if_pos c_6)))))
              exact retRi hx hb hr hlocks eG.symm dX6_as_54
    · refine lv_bipush (v := (-102)) hx hb dX6_as_20 (by decide) ?_
      have eG : f_X6_as kd n b w = (-102) := (if_neg c_1).trans (if_pos c_2)
      exact retRi hx hb hr hlocks eG.symm dX6_as_22
  · refine lv_bipush (v := (-101)) hx hb dX6_as_8 (by decide) ?_
    have eG : f_X6_as kd n b w = (-101) := if_pos c_1
    exact retRi hx hb hr hlocks eG.symm dX6_as_10
def f_X6_ounces (kd : Nat → Int32) (st : Nat → Int32) (tl : Int32) (j : Nat) (jt : Nat) (q : Int32) : Int32 := if (q - q / 2 * 2) = 1 then (if (kd j) = 3 then (if 0 ≤ (((st jt) + tl) + 1) then ((st jt) + tl) + 1 else 0) else if 0 ≤ (((st jt) + tl) + 0) then ((st jt) + tl) + 0 else 0) else if (kd j) = 3 then (if 0 ≤ (((st jt) + (-tl)) + 1) then ((st jt) + (-tl)) + 1 else 0) else if 0 ≤ (((st jt) + (-tl)) + 0) then ((st jt) + (-tl)) + 0 else 0
set_option maxHeartbeats 4000000 in
set_option maxRecDepth 100000 in
theorem c_X6_ounces (l : Launch) (D : va_G) (cB cC cI : ClassId) (vh : Nat) (v0 : Nat) (v1 : Nat) (v2 : Nat) (v3 : Nat) (v4 : Nat) (v5 : Nat) (v6 : Nat) (v7 : Nat) (v8 : Nat) (v9 : Nat) (v10 : Nat) (kd : Nat → Int32) (st : Nat → Int32) (co : Nat → Int32) (gt : Nat → Int32) (pd : Nat → Int32) (de : Nat → Int32) (us : Nat → Int32) (tm : Nat → Int32) (lt : Nat → Int32) (sv : Nat → Int32) (ke : Nat → Int32) (mm : Int32) (n : Nat) (tl : Int32) (ho : Int32) (sl : Int32) (hd : Int32) (lo : Int32) (ak : Int32) (k : Nat) (isw : Int32) (nw : Int32) (sn : Int64) (ek : Int32) (em : Int32) (eh : Int32) (es : Int32) (ed : Int32) (el : Int32) (hs : Int64) (b : Int32) (j : Nat) (t : Int32) (jt : Nat) (q : Int32) (hb4 : ix b j 4) (ht4 : ix t jt 4) : Met l yX6_ounces wsX6_ounces ({ frames := 0, cells := 0, slots := 0, locals := 0 }) (gPr D cB cC cI [.ref vh, .int b, .int t, .int q] [(vh, .inr (6, [.int mm, .int (nI n), .int tl, .int ho, .ref v0, .ref v1, .ref v2, .ref v3, .ref v4, .ref v5, .ref v6, .int sl, .int hd, .ref v7, .int lo, .int ak, .int (nI k), .ref v8, .int isw, .int nw, .ref v9, .long sn, .int ek, .int em, .int eh, .int es, .int ed, .int el, .ref v10, .long hs])), (v0, .inl (cI, 4, .inl kd)), (v1, .inl (cI, 4, .inl st)), (v2, .inl (cI, 4, .inl co)), (v3, .inl (cI, 4, .inl gt)), (v4, .inl (cI, 4, .inl pd)), (v5, .inl (cI, 4, .inl de)), (v6, .inl (cI, 4, .inl us)), (v7, .inl (cI, 4, .inl tm)), (v8, .inl (cB, 18, .inl lt)), (v9, .inl (cI, 4, .inl sv)), (v10, .inl (cI, 24, .inl ke))]) (vp_Si (fun r => r = (f_X6_ounces kd st tl j jt q))) 0 0 (fun _ => False) := by
  refine metR (cc := cX6_ounces) (maxL := 5) (ret := (some .int)) RX6 rfl (by decide) rfl (Nat.le_of_ble_eq_true rfl) ?_
  intro p e s m below meth c hx hb hr hml hown hts hlocks hP hK ls hl
  have iwX6 : ∀ w ∈ wsX60, w ∈ wsX6_ounces := by decide +kernel
  have fk13 := hts (.fieldLink RX6 13 "BuyersWeightsModel" "weighsOf" "[I") (by decide +kernel)
  have fk76 := hts (.fieldLink RX6 76 "BuyersWeightsModel" "tilt" "I") (by decide +kernel)
  have fk7 := hts (.fieldLink RX6 7 "BuyersWeightsModel" "kindOf" "[I") (by decide +kernel)
  have hl : lv_has ls 5 [(0, .ref vh), (1, .int b), (2, .int t), (3, .int q)] := hl
  refine lv_aload_n hx hb dX6_ounces_0 rfl (lv_at hl 0 rfl) ?_
  refine va_get (D := D) (ci := 6) (v := .ref v1) (C := RX6) (T := TX6) (N := 30) hx hb hts iwX6 hown hK.1 hP 0 rfl rfl 5 (by decide) fk13 (fun _ h9 => h9) rfl dX6_ounces_1 ?_
  refine lv_iload_n hx hb dX6_ounces_4 rfl (lv_at hl 2 rfl) ?_
  refine my_iald hx hb hK hP 2 rfl (j := jt) ht4 dX6_ounces_5 ?_
  refine lv_iload_n hx hb dX6_ounces_6 rfl (lv_at hl 3 rfl) ?_
  refine lv_iconst (v := 2) hx hb dX6_ounces_7 (by decide) ?_
  refine lv_irem hx hb dX6_ounces_8 (by decide) ?_
  refine lv_iconst (v := 1) hx hb dX6_ounces_9 (by decide) ?_
  refine lv_icmp_ne (tgt := 20) hx hb dX6_ounces_10 (by decide) (fun c_1 => ?_) (fun c_1 => ?_)
  · refine lv_aload_n hx hb dX6_ounces_20 rfl (lv_at hl 0 rfl) ?_
    refine va_get (D := D) (ci := 6) (v := .int tl) (C := RX6) (T := TX6) (N := 30) hx hb hts iwX6 hown hK.1 hP 0 rfl rfl 2 (by decide) fk76 (fun _ h9 => h9) rfl dX6_ounces_21 ?_
    refine lv_ineg hx hb dX6_ounces_24 ?_
    refine lv_iadd hx hb dX6_ounces_25 ?_
    refine lv_aload_n hx hb dX6_ounces_26 rfl (lv_at hl 0 rfl) ?_
    refine va_get (D := D) (ci := 6) (v := .ref v0) (C := RX6) (T := TX6) (N := 30) hx hb hts iwX6 hown hK.1 hP 0 rfl rfl 4 (by decide) fk7 (fun _ h9 => h9) rfl dX6_ounces_27 ?_
    refine lv_iload_n hx hb dX6_ounces_30 rfl (lv_at hl 1 rfl) ?_
    refine my_iald hx hb hK hP 1 rfl (j := j) hb4 dX6_ounces_31 ?_
    refine lv_iconst (v := 3) hx hb dX6_ounces_32 (by decide) ?_
    refine lv_icmp_ne (tgt := 40) hx hb dX6_ounces_33 (by decide) (fun c_2 => ?_) (fun c_2 => ?_)
    · refine lv_iconst (v := 0) hx hb dX6_ounces_40 (by decide) ?_
      refine lv_iadd hx hb dX6_ounces_41 ?_
      refine lv_istore (lv' := [(4, .int (((st jt) + (-tl)) + 0)), (0, .ref vh), (1, .int b), (2, .int t), (3, .int q)]) hx hb dX6_ounces_42 hl (by decide) rfl (fun ls hl => ?_)
      refine lv_iload hx hb dX6_ounces_44 (lv_at hl 0 rfl) ?_
      refine lv_if_ge (tgt := 53) hx hb dX6_ounces_46 (by decide) (fun c_3 => ?_) (fun c_3 => ?_)
      · refine lv_iload hx hb dX6_ounces_53 (lv_at hl 0 rfl) ?_
        have eG : f_X6_ounces kd st tl j jt q = ((st jt) + (-tl)) + 0 := (if_neg c_1).trans ((if_neg c_2).trans (if_pos c_3))
        exact retRi hx hb hr hlocks eG.symm dX6_ounces_55
      · refine lv_iconst (v := 0) hx hb dX6_ounces_49 (by decide) ?_
        refine lv_goto (tgt := 55) hx hb dX6_ounces_50 (by decide) ?_
        have eG : f_X6_ounces kd st tl j jt q = 0 := (if_neg c_1).trans ((if_neg c_2).trans (if_neg c_3))
        exact retRi hx hb hr hlocks eG.symm dX6_ounces_55
    · refine lv_iconst (v := 1) hx hb dX6_ounces_36 (by decide) ?_
      refine lv_goto (tgt := 41) hx hb dX6_ounces_37 (by decide) ?_
      refine lv_iadd hx hb dX6_ounces_41 ?_
      refine lv_istore (lv' := [(4, .int (((st jt) + (-tl)) + 1)), (0, .ref vh), (1, .int b), (2, .int t), (3, .int q)]) hx hb dX6_ounces_42 hl (by decide) rfl (fun ls hl => ?_)
      refine lv_iload hx hb dX6_ounces_44 (lv_at hl 0 rfl) ?_
      refine lv_if_ge (tgt := 53) hx hb dX6_ounces_46 (by decide) (fun c_4 => ?_) (fun c_4 => ?_)
      · refine lv_iload hx hb dX6_ounces_53 (lv_at hl 0 rfl) ?_
        have eG : f_X6_ounces kd st tl j jt q = ((st jt) + (-tl)) + 1 := (if_neg c_1).trans ((if_pos c_2).trans (if_pos c_4))
        exact retRi hx hb hr hlocks eG.symm dX6_ounces_55
      · refine lv_iconst (v := 0) hx hb dX6_ounces_49 (by decide) ?_
        refine lv_goto (tgt := 55) hx hb dX6_ounces_50 (by decide) ?_
        have eG : f_X6_ounces kd st tl j jt q = 0 := (if_neg c_1).trans ((if_pos c_2).trans (if_neg c_4))
        exact retRi hx hb hr hlocks eG.symm dX6_ounces_55
  · refine lv_aload_n hx hb dX6_ounces_13 rfl (lv_at hl 0 rfl) ?_
    refine va_get (D := D) (ci := 6) (v := .int tl) (C := RX6) (T := TX6) (N := 30) hx hb hts iwX6 hown hK.1 hP 0 rfl rfl 2 (by decide) fk76 (fun _ h9 => h9) rfl dX6_ounces_14 ?_
    refine lv_goto (tgt := 25) hx hb dX6_ounces_17 (by decide) ?_
    refine lv_iadd hx hb dX6_ounces_25 ?_
    refine lv_aload_n hx hb dX6_ounces_26 rfl (lv_at hl 0 rfl) ?_
    refine va_get (D := D) (ci := 6) (v := .ref v0) (C := RX6) (T := TX6) (N := 30) hx hb hts iwX6 hown hK.1 hP 0 rfl rfl 4 (by decide) fk7 (fun _ h9 => h9) rfl dX6_ounces_27 ?_
    refine lv_iload_n hx hb dX6_ounces_30 rfl (lv_at hl 1 rfl) ?_
    refine my_iald hx hb hK hP 1 rfl (j := j) hb4 dX6_ounces_31 ?_
    refine lv_iconst (v := 3) hx hb dX6_ounces_32 (by decide) ?_
    refine lv_icmp_ne (tgt := 40) hx hb dX6_ounces_33 (by decide) (fun c_5 => ?_) (fun c_5 => ?_)
    · refine lv_iconst (v := 0) hx hb dX6_ounces_40 (by decide) ?_
      refine lv_iadd hx hb dX6_ounces_41 ?_
      refine lv_istore (lv' := [(4, .int (((st jt) + tl) + 0)), (0, .ref vh), (1, .int b), (2, .int t), (3, .int q)]) hx hb dX6_ounces_42 hl (by decide) rfl (fun ls hl => ?_)
      refine lv_iload hx hb dX6_ounces_44 (lv_at hl 0 rfl) ?_
      refine lv_if_ge (tgt := 53) hx hb dX6_ounces_46 (by decide) (fun c_6 => ?_) (fun c_6 => ?_)
      · refine lv_iload hx hb dX6_ounces_53 (lv_at hl 0 rfl) ?_
        have eG : f_X6_ounces kd st tl j jt q = ((st jt) + tl) + 0 := (if_pos c_1).trans ((if_neg c_5).trans (if_pos c_6))
        exact retRi hx hb hr hlocks eG.symm dX6_ounces_55
      · refine lv_iconst (v := 0) hx hb dX6_ounces_49 (by decide) ?_
        refine lv_goto (tgt := 55) hx hb dX6_ounces_50 (by decide) ?_
        have eG : f_X6_ounces kd st tl j jt q = 0 := (if_pos c_1).trans ((if_neg c_5).trans (if_neg c_6))
        exact retRi hx hb hr hlocks eG.symm dX6_ounces_55
    · refine lv_iconst (v := 1) hx hb dX6_ounces_36 (by decide) ?_
      refine lv_goto (tgt := 41) hx hb dX6_ounces_37 (by decide) ?_
      refine lv_iadd hx hb dX6_ounces_41 ?_
      refine lv_istore (lv' := [(4, .int (((st jt) + tl) + 1)), (0, .ref vh), (1, .int b), (2, .int t), (3, .int q)]) hx hb dX6_ounces_42 hl (by decide) rfl (fun ls hl => ?_)
      refine lv_iload hx hb dX6_ounces_44 (lv_at hl 0 rfl) ?_
      refine lv_if_ge (tgt := 53) hx hb dX6_ounces_46 (by decide) (fun c_7 => ?_) (fun c_7 => ?_)
      · refine lv_iload hx hb dX6_ounces_53 (lv_at hl 0 rfl) ?_
        have eG : f_X6_ounces kd st tl j jt q = ((st jt) + tl) + 1 := (if_pos c_1).trans ((if_pos c_5).trans (if_pos c_7))
        exact retRi hx hb hr hlocks eG.symm dX6_ounces_55
      · refine lv_iconst (v := 0) hx hb dX6_ounces_49 (by decide) ?_
        refine lv_goto (tgt := 55) hx hb dX6_ounces_50 (by decide) ?_
        have eG : f_X6_ounces kd st tl j jt q = 0 := (if_pos c_1).trans ((if_pos c_5).trans (if_neg c_7))
        exact retRi hx hb hr hlocks eG.symm dX6_ounces_55
def f_X6_wear (kd : Nat → Int32) (st : Nat → Int32) (jd : Nat) (jt : Nat) : (Nat → Int32) := if (kd jt) = 2 then (if (kd jd) = 1 then (if 1 ≤ ((st jt) - 2) then upd st jt ((st jt) - 2) else upd st jt 1) else if (kd jd) = 4 then (if 1 ≤ ((st jt) - 3) then upd st jt ((st jt) - 3) else upd st jt 1) else if 1 ≤ ((st jt) - 1) then upd st jt ((st jt) - 1) else upd st jt 1) else if (kd jd) = 1 then (if 1 ≤ ((st jt) - 1) then upd st jt ((st jt) - 1) else upd st jt 1) else if (kd jd) = 4 then (if 1 ≤ ((st jt) - 2) then upd st jt ((st jt) - 2) else upd st jt 1) else if 1 ≤ ((st jt) - 0) then upd st jt ((st jt) - 0) else upd st jt 1
set_option maxHeartbeats 4000000 in
set_option maxRecDepth 100000 in
theorem c_X6_wear (l : Launch) (D : va_G) (cB cC cI : ClassId) (vh : Nat) (v0 : Nat) (v1 : Nat) (v2 : Nat) (v3 : Nat) (v4 : Nat) (v5 : Nat) (v6 : Nat) (v7 : Nat) (v8 : Nat) (v9 : Nat) (v10 : Nat) (kd : Nat → Int32) (st : Nat → Int32) (co : Nat → Int32) (gt : Nat → Int32) (pd : Nat → Int32) (de : Nat → Int32) (us : Nat → Int32) (tm : Nat → Int32) (lt : Nat → Int32) (sv : Nat → Int32) (ke : Nat → Int32) (mm : Int32) (n : Nat) (tl : Int32) (ho : Int32) (sl : Int32) (hd : Int32) (lo : Int32) (ak : Int32) (k : Nat) (isw : Int32) (nw : Int32) (sn : Int64) (ek : Int32) (em : Int32) (eh : Int32) (es : Int32) (ed : Int32) (el : Int32) (hs : Int64) (d : Int32) (jd : Nat) (t : Int32) (jt : Nat) (sz : Nat) (hd4 : ix d jd 4) (ht4 : ix t jt 4) : Met l yX6_wear wsX6_wear ({ frames := 0, cells := 0, slots := 0, locals := 0 }) (gPw D cB cC cI [.ref vh, .int d, .int t] [(vh, .inr (6, [.int mm, .int (nI n), .int tl, .int ho, .ref v0, .ref v1, .ref v2, .ref v3, .ref v4, .ref v5, .ref v6, .int sl, .int hd, .ref v7, .int lo, .int ak, .int (nI k), .ref v8, .int isw, .int nw, .ref v9, .long sn, .int ek, .int em, .int eh, .int es, .int ed, .int el, .ref v10, .long hs])), (v0, .inl (cI, 4, .inl kd)), (v1, .inl (cI, 4, .inl st)), (v2, .inl (cI, 4, .inl co)), (v3, .inl (cI, 4, .inl gt)), (v4, .inl (cI, 4, .inl pd)), (v5, .inl (cI, 4, .inl de)), (v6, .inl (cI, 4, .inl us)), (v7, .inl (cI, 4, .inl tm)), (v8, .inl (cB, 18, .inl lt)), (v9, .inl (cI, 4, .inl sv)), (v10, .inl (cI, 24, .inl ke))] sz) (QWv D [(vh, .inr (6, [.int mm, .int (nI n), .int tl, .int ho, .ref v0, .ref v1, .ref v2, .ref v3, .ref v4, .ref v5, .ref v6, .int sl, .int hd, .ref v7, .int lo, .int ak, .int (nI k), .ref v8, .int isw, .int nw, .ref v9, .long sn, .int ek, .int em, .int eh, .int es, .int ed, .int el, .ref v10, .long hs])), (v0, .inl (cI, 4, .inl kd)), (v1, .inl (cI, 4, .inl (f_X6_wear kd st jd jt))), (v2, .inl (cI, 4, .inl co)), (v3, .inl (cI, 4, .inl gt)), (v4, .inl (cI, 4, .inl pd)), (v5, .inl (cI, 4, .inl de)), (v6, .inl (cI, 4, .inl us)), (v7, .inl (cI, 4, .inl tm)), (v8, .inl (cB, 18, .inl lt)), (v9, .inl (cI, 4, .inl sv)), (v10, .inl (cI, 24, .inl ke))] (va_A [(vh, .inr (6, [.int mm, .int (nI n), .int tl, .int ho, .ref v0, .ref v1, .ref v2, .ref v3, .ref v4, .ref v5, .ref v6, .int sl, .int hd, .ref v7, .int lo, .int ak, .int (nI k), .ref v8, .int isw, .int nw, .ref v9, .long sn, .int ek, .int em, .int eh, .int es, .int ed, .int el, .ref v10, .long hs])), (v0, .inl (cI, 4, .inl kd)), (v1, .inl (cI, 4, .inl st)), (v2, .inl (cI, 4, .inl co)), (v3, .inl (cI, 4, .inl gt)), (v4, .inl (cI, 4, .inl pd)), (v5, .inl (cI, 4, .inl de)), (v6, .inl (cI, 4, .inl us)), (v7, .inl (cI, 4, .inl tm)), (v8, .inl (cB, 18, .inl lt)), (v9, .inl (cI, 4, .inl sv)), (v10, .inl (cI, 24, .inl ke))] sz)) 0 0 (va_A [(vh, .inr (6, [.int mm, .int (nI n), .int tl, .int ho, .ref v0, .ref v1, .ref v2, .ref v3, .ref v4, .ref v5, .ref v6, .int sl, .int hd, .ref v7, .int lo, .int ak, .int (nI k), .ref v8, .int isw, .int nw, .ref v9, .long sn, .int ek, .int em, .int eh, .int es, .int ed, .int el, .ref v10, .long hs])), (v0, .inl (cI, 4, .inl kd)), (v1, .inl (cI, 4, .inl st)), (v2, .inl (cI, 4, .inl co)), (v3, .inl (cI, 4, .inl gt)), (v4, .inl (cI, 4, .inl pd)), (v5, .inl (cI, 4, .inl de)), (v6, .inl (cI, 4, .inl us)), (v7, .inl (cI, 4, .inl tm)), (v8, .inl (cB, 18, .inl lt)), (v9, .inl (cI, 4, .inl sv)), (v10, .inl (cI, 24, .inl ke))] sz) := by
  refine metW (cc := cX6_wear) (maxL := 4) (ret := none) (QA := fun A => (QWv D [(vh, .inr (6, [.int mm, .int (nI n), .int tl, .int ho, .ref v0, .ref v1, .ref v2, .ref v3, .ref v4, .ref v5, .ref v6, .int sl, .int hd, .ref v7, .int lo, .int ak, .int (nI k), .ref v8, .int isw, .int nw, .ref v9, .long sn, .int ek, .int em, .int eh, .int es, .int ed, .int el, .ref v10, .long hs])), (v0, .inl (cI, 4, .inl kd)), (v1, .inl (cI, 4, .inl (f_X6_wear kd st jd jt))), (v2, .inl (cI, 4, .inl co)), (v3, .inl (cI, 4, .inl gt)), (v4, .inl (cI, 4, .inl pd)), (v5, .inl (cI, 4, .inl de)), (v6, .inl (cI, 4, .inl us)), (v7, .inl (cI, 4, .inl tm)), (v8, .inl (cB, 18, .inl lt)), (v9, .inl (cI, 4, .inl sv)), (v10, .inl (cI, 24, .inl ke))] A)) RX6 rfl (by decide) rfl (Nat.le_of_ble_eq_true rfl) ?_
  intro p e s m below meth c A hx hb hr hml hown hts hlocks hin hP hK hD hA hS ls hl
  have iwX6 : ∀ w ∈ wsX60, w ∈ wsX6_wear := by decide +kernel
  have fk7 := hts (.fieldLink RX6 7 "BuyersWeightsModel" "kindOf" "[I") (by decide +kernel)
  have fk13 := hts (.fieldLink RX6 13 "BuyersWeightsModel" "weighsOf" "[I") (by decide +kernel)
  have hl : lv_has ls 4 [(0, .ref vh), (1, .int d), (2, .int t)] := hl
  refine lv_aload_n hx hb dX6_wear_0 rfl (lv_at hl 0 rfl) ?_
  refine va_get (D := D) (ci := 6) (v := .ref v0) (C := RX6) (T := TX6) (N := 30) hx hb hts iwX6 hown hK.1 hP 0 rfl rfl 4 (by decide) fk7 (fun _ h9 => h9) rfl dX6_wear_1 ?_
  refine lv_iload_n hx hb dX6_wear_4 rfl (lv_at hl 2 rfl) ?_
  refine my_iald hx hb hK hP 1 rfl (j := jt) ht4 dX6_wear_5 ?_
  refine lv_iconst (v := 2) hx hb dX6_wear_6 (by decide) ?_
  refine lv_icmp_ne (tgt := 14) hx hb dX6_wear_7 (by decide) (fun c_1 => ?_) (fun c_1 => ?_)
  · refine lv_iconst (v := 0) hx hb dX6_wear_14 (by decide) ?_
    refine lv_aload_n hx hb dX6_wear_15 rfl (lv_at hl 0 rfl) ?_
    refine va_get (D := D) (ci := 6) (v := .ref v0) (C := RX6) (T := TX6) (N := 30) hx hb hts iwX6 hown hK.1 hP 0 rfl rfl 4 (by decide) fk7 (fun _ h9 => h9) rfl dX6_wear_16 ?_
    refine lv_iload_n hx hb dX6_wear_19 rfl (lv_at hl 1 rfl) ?_
    refine my_iald hx hb hK hP 1 rfl (j := jd) hd4 dX6_wear_20 ?_
    refine lv_iconst (v := 1) hx hb dX6_wear_21 (by decide) ?_
    refine lv_icmp_ne (tgt := 29) hx hb dX6_wear_22 (by decide) (fun c_2 => ?_) (fun c_2 => ?_)
    · refine lv_aload_n hx hb dX6_wear_29 rfl (lv_at hl 0 rfl) ?_
      refine va_get (D := D) (ci := 6) (v := .ref v0) (C := RX6) (T := TX6) (N := 30) hx hb hts iwX6 hown hK.1 hP 0 rfl rfl 4 (by decide) fk7 (fun _ h9 => h9) rfl dX6_wear_30 ?_
      refine lv_iload_n hx hb dX6_wear_33 rfl (lv_at hl 1 rfl) ?_
      refine my_iald hx hb hK hP 1 rfl (j := jd) hd4 dX6_wear_34 ?_
      refine lv_iconst (v := 4) hx hb dX6_wear_35 (by decide) ?_
      refine lv_icmp_ne (tgt := 43) hx hb dX6_wear_36 (by decide) (fun c_3 => ?_) (fun c_3 => ?_)
      · refine lv_iconst (v := 0) hx hb dX6_wear_43 (by decide) ?_
        refine lv_iadd hx hb dX6_wear_44 ?_
        refine my_top (y := 0) (by decide) ?_
        refine lv_istore_n (lv' := [(3, .int 0), (0, .ref vh), (1, .int d), (2, .int t)]) hx hb dX6_wear_45 rfl hl (by decide) rfl (fun ls hl => ?_)
        refine lv_aload_n hx hb dX6_wear_46 rfl (lv_at hl 1 rfl) ?_
        refine va_get (D := D) (ci := 6) (v := .ref v1) (C := RX6) (T := TX6) (N := 30) hx hb hts iwX6 hown hK.1 hP 0 rfl rfl 5 (by decide) fk13 (fun _ h9 => h9) rfl dX6_wear_47 ?_
        refine lv_iload_n hx hb dX6_wear_50 rfl (lv_at hl 3 rfl) ?_
        refine lv_aload_n hx hb dX6_wear_51 rfl (lv_at hl 1 rfl) ?_
        refine va_get (D := D) (ci := 6) (v := .ref v1) (C := RX6) (T := TX6) (N := 30) hx hb hts iwX6 hown hK.1 hP 0 rfl rfl 5 (by decide) fk13 (fun _ h9 => h9) rfl dX6_wear_52 ?_
        refine lv_iload_n hx hb dX6_wear_55 rfl (lv_at hl 3 rfl) ?_
        refine my_iald hx hb hK hP 2 rfl (j := jt) ht4 dX6_wear_56 ?_
        refine lv_iload_n hx hb dX6_wear_57 rfl (lv_at hl 0 rfl) ?_
        refine lv_isub hx hb dX6_wear_58 ?_
        refine lv_iconst (v := 1) hx hb dX6_wear_59 (by decide) ?_
        refine lv_icmp_ge (tgt := 67) hx hb dX6_wear_60 (by decide) (fun c_4 => ?_) (fun c_4 => ?_)
        · refine lv_aload_n hx hb dX6_wear_67 rfl (lv_at hl 1 rfl) ?_
          refine va_get (D := D) (ci := 6) (v := .ref v1) (C := RX6) (T := TX6) (N := 30) hx hb hts iwX6 hown hK.1 hP 0 rfl rfl 5 (by decide) fk13 (fun _ h9 => h9) rfl dX6_wear_68 ?_
          refine lv_iload_n hx hb dX6_wear_71 rfl (lv_at hl 3 rfl) ?_
          refine my_iald hx hb hK hP 2 rfl (j := jt) ht4 dX6_wear_72 ?_
          refine lv_iload_n hx hb dX6_wear_73 rfl (lv_at hl 0 rfl) ?_
          refine lv_isub hx hb dX6_wear_74 ?_
          refine my_iast hx hb hK hP hD hS 2 rfl (j := jt) ht4 dX6_wear_75 (fun H locs hP hD hS => ?_)
          have hP : va_P D vwCl [(vh, .inr (6, [.int mm, .int (nI n), .int tl, .int ho, .ref v0, .ref v1, .ref v2, .ref v3, .ref v4, .ref v5, .ref v6, .int sl, .int hd, .ref v7, .int lo, .int ak, .int (nI k), .ref v8, .int isw, .int nw, .ref v9, .long sn, .int ek, .int em, .int eh, .int es, .int ed, .int el, .ref v10, .long hs])), (v0, .inl (cI, 4, .inl kd)), (v1, .inl (cI, 4, .inl (upd st jt ((st jt) - 0)))), (v2, .inl (cI, 4, .inl co)), (v3, .inl (cI, 4, .inl gt)), (v4, .inl (cI, 4, .inl pd)), (v5, .inl (cI, 4, .inl de)), (v6, .inl (cI, 4, .inl us)), (v7, .inl (cI, 4, .inl tm)), (v8, .inl (cB, 18, .inl lt)), (v9, .inl (cI, 4, .inl sv)), (v10, .inl (cI, 24, .inl ke))] H := hP
          have hD : va_D A [(vh, .inr (6, [.int mm, .int (nI n), .int tl, .int ho, .ref v0, .ref v1, .ref v2, .ref v3, .ref v4, .ref v5, .ref v6, .int sl, .int hd, .ref v7, .int lo, .int ak, .int (nI k), .ref v8, .int isw, .int nw, .ref v9, .long sn, .int ek, .int em, .int eh, .int es, .int ed, .int el, .ref v10, .long hs])), (v0, .inl (cI, 4, .inl kd)), (v1, .inl (cI, 4, .inl (upd st jt ((st jt) - 0)))), (v2, .inl (cI, 4, .inl co)), (v3, .inl (cI, 4, .inl gt)), (v4, .inl (cI, 4, .inl pd)), (v5, .inl (cI, 4, .inl de)), (v6, .inl (cI, 4, .inl us)), (v7, .inl (cI, 4, .inl tm)), (v8, .inl (cB, 18, .inl lt)), (v9, .inl (cI, 4, .inl sv)), (v10, .inl (cI, 24, .inl ke))] := hD
          have eG : f_X6_wear kd st jd jt = upd st jt ((st jt) - 0) := (if_neg c_1).trans ((if_neg c_2).trans ((if_neg c_3).trans (if_pos c_4)))
          exact retWv (u := ()) hx hb hr hlocks trivial (by rw [eG]; exact hP) (by rw [eG]; exact hD) hS dX6_wear_76
        · refine lv_iconst (v := 1) hx hb dX6_wear_63 (by decide) ?_
          refine lv_goto (tgt := 75) hx hb dX6_wear_64 (by decide) ?_
          refine my_iast hx hb hK hP hD hS 2 rfl (j := jt) ht4 dX6_wear_75 (fun H locs hP hD hS => ?_)
          have hP : va_P D vwCl [(vh, .inr (6, [.int mm, .int (nI n), .int tl, .int ho, .ref v0, .ref v1, .ref v2, .ref v3, .ref v4, .ref v5, .ref v6, .int sl, .int hd, .ref v7, .int lo, .int ak, .int (nI k), .ref v8, .int isw, .int nw, .ref v9, .long sn, .int ek, .int em, .int eh, .int es, .int ed, .int el, .ref v10, .long hs])), (v0, .inl (cI, 4, .inl kd)), (v1, .inl (cI, 4, .inl (upd st jt 1))), (v2, .inl (cI, 4, .inl co)), (v3, .inl (cI, 4, .inl gt)), (v4, .inl (cI, 4, .inl pd)), (v5, .inl (cI, 4, .inl de)), (v6, .inl (cI, 4, .inl us)), (v7, .inl (cI, 4, .inl tm)), (v8, .inl (cB, 18, .inl lt)), (v9, .inl (cI, 4, .inl sv)), (v10, .inl (cI, 24, .inl ke))] H := hP
          have hD : va_D A [(vh, .inr (6, [.int mm, .int (nI n), .int tl, .int ho, .ref v0, .ref v1, .ref v2, .ref v3, .ref v4, .ref v5, .ref v6, .int sl, .int hd, .ref v7, .int lo, .int ak, .int (nI k), .ref v8, .int isw, .int nw, .ref v9, .long sn, .int ek, .int em, .int eh, .int es, .int ed, .int el, .ref v10, .long hs])), (v0, .inl (cI, 4, .inl kd)), (v1, .inl (cI, 4, .inl (upd st jt 1))), (v2, .inl (cI, 4, .inl co)), (v3, .inl (cI, 4, .inl gt)), (v4, .inl (cI, 4, .inl pd)), (v5, .inl (cI, 4, .inl de)), (v6, .inl (cI, 4, .inl us)), (v7, .inl (cI, 4, .inl tm)), (v8, .inl (cB, 18, .inl lt)), (v9, .inl (cI, 4, .inl sv)), (v10, .inl (cI, 24, .inl ke))] := hD
          have eG : f_X6_wear kd st jd jt = upd st jt 1 := (if_neg c_1).trans ((if_neg c_2).trans ((if_neg c_3).trans (if_neg c_4)))
          exact retWv (u := ()) hx hb hr hlocks trivial (by rw [eG]; exact hP) (by rw [eG]; exact hD) hS dX6_wear_76
      · refine lv_iconst (v := 2) hx hb dX6_wear_39 (by decide) ?_
        refine lv_goto (tgt := 44) hx hb dX6_wear_40 (by decide) ?_
        refine lv_iadd hx hb dX6_wear_44 ?_
        refine my_top (y := 2) (by decide) ?_
        refine lv_istore_n (lv' := [(3, .int 2), (0, .ref vh), (1, .int d), (2, .int t)]) hx hb dX6_wear_45 rfl hl (by decide) rfl (fun ls hl => ?_)
        refine lv_aload_n hx hb dX6_wear_46 rfl (lv_at hl 1 rfl) ?_
        refine va_get (D := D) (ci := 6) (v := .ref v1) (C := RX6) (T := TX6) (N := 30) hx hb hts iwX6 hown hK.1 hP 0 rfl rfl 5 (by decide) fk13 (fun _ h9 => h9) rfl dX6_wear_47 ?_
        refine lv_iload_n hx hb dX6_wear_50 rfl (lv_at hl 3 rfl) ?_
        refine lv_aload_n hx hb dX6_wear_51 rfl (lv_at hl 1 rfl) ?_
        refine va_get (D := D) (ci := 6) (v := .ref v1) (C := RX6) (T := TX6) (N := 30) hx hb hts iwX6 hown hK.1 hP 0 rfl rfl 5 (by decide) fk13 (fun _ h9 => h9) rfl dX6_wear_52 ?_
        refine lv_iload_n hx hb dX6_wear_55 rfl (lv_at hl 3 rfl) ?_
        refine my_iald hx hb hK hP 2 rfl (j := jt) ht4 dX6_wear_56 ?_
        refine lv_iload_n hx hb dX6_wear_57 rfl (lv_at hl 0 rfl) ?_
        refine lv_isub hx hb dX6_wear_58 ?_
        refine lv_iconst (v := 1) hx hb dX6_wear_59 (by decide) ?_
        refine lv_icmp_ge (tgt := 67) hx hb dX6_wear_60 (by decide) (fun c_5 => ?_) (fun c_5 => ?_)
        · refine lv_aload_n hx hb dX6_wear_67 rfl (lv_at hl 1 rfl) ?_
          refine va_get (D := D) (ci := 6) (v := .ref v1) (C := RX6) (T := TX6) (N := 30) hx hb hts iwX6 hown hK.1 hP 0 rfl rfl 5 (by decide) fk13 (fun _ h9 => h9) rfl dX6_wear_68 ?_
          refine lv_iload_n hx hb dX6_wear_71 rfl (lv_at hl 3 rfl) ?_
          refine my_iald hx hb hK hP 2 rfl (j := jt) ht4 dX6_wear_72 ?_
          refine lv_iload_n hx hb dX6_wear_73 rfl (lv_at hl 0 rfl) ?_
          refine lv_isub hx hb dX6_wear_74 ?_
          refine my_iast hx hb hK hP hD hS 2 rfl (j := jt) ht4 dX6_wear_75 (fun H locs hP hD hS => ?_)
          have hP : va_P D vwCl [(vh, .inr (6, [.int mm, .int (nI n), .int tl, .int ho, .ref v0, .ref v1, .ref v2, .ref v3, .ref v4, .ref v5, .ref v6, .int sl, .int hd, .ref v7, .int lo, .int ak, .int (nI k), .ref v8, .int isw, .int nw, .ref v9, .long sn, .int ek, .int em, .int eh, .int es, .int ed, .int el, .ref v10, .long hs])), (v0, .inl (cI, 4, .inl kd)), (v1, .inl (cI, 4, .inl (upd st jt ((st jt) - 2)))), (v2, .inl (cI, 4, .inl co)), (v3, .inl (cI, 4, .inl gt)), (v4, .inl (cI, 4, .inl pd)), (v5, .inl (cI, 4, .inl de)), (v6, .inl (cI, 4, .inl us)), (v7, .inl (cI, 4, .inl tm)), (v8, .inl (cB, 18, .inl lt)), (v9, .inl (cI, 4, .inl sv)), (v10, .inl (cI, 24, .inl ke))] H := hP
          have hD : va_D A [(vh, .inr (6, [.int mm, .int (nI n), .int tl, .int ho, .ref v0, .ref v1, .ref v2, .ref v3, .ref v4, .ref v5, .ref v6, .int sl, .int hd, .ref v7, .int lo, .int ak, .int (nI k), .ref v8, .int isw, .int nw, .ref v9, .long sn, .int ek, .int em, .int eh, .int es, .int ed, .int el, .ref v10, .long hs])), (v0, .inl (cI, 4, .inl kd)), (v1, .inl (cI, 4, .inl (upd st jt ((st jt) - 2)))), (v2, .inl (cI, 4, .inl co)), (v3, .inl (cI, 4, .inl gt)), (v4, .inl (cI, 4, .inl pd)), (v5, .inl (cI, 4, .inl de)), (v6, .inl (cI, 4, .inl us)), (v7, .inl (cI, 4, .inl tm)), (v8, .inl (cB, 18, .inl lt)), (v9, .inl (cI, 4, .inl sv)), (v10, .inl (cI, 24, .inl ke))] := hD
          have eG : f_X6_wear kd st jd jt = upd st jt ((st jt) - 2) := (if_neg c_1).trans ((if_neg c_2).trans ((if_pos c_3).trans (if_pos c_5)))
          exact retWv (u := ()) hx hb hr hlocks trivial (by rw [eG]; exact hP) (by rw [eG]; exact hD) hS dX6_wear_76
        · refine lv_iconst (v := 1) hx hb dX6_wear_63 (by decide) ?_
          refine lv_goto (tgt := 75) hx hb dX6_wear_64 (by decide) ?_
          refine my_iast hx hb hK hP hD hS 2 rfl (j := jt) ht4 dX6_wear_75 (fun H locs hP hD hS => ?_)
          have hP : va_P D vwCl [(vh, .inr (6, [.int mm, .int (nI n), .int tl, .int ho, .ref v0, .ref v1, .ref v2, .ref v3, .ref v4, .ref v5, .ref v6, .int sl, .int hd, .ref v7, .int lo, .int ak, .int (nI k), .ref v8, .int isw, .int nw, .ref v9, .long sn, .int ek, .int em, .int eh, .int es, .int ed, .int el, .ref v10, .long hs])), (v0, .inl (cI, 4, .inl kd)), (v1, .inl (cI, 4, .inl (upd st jt 1))), (v2, .inl (cI, 4, .inl co)), (v3, .inl (cI, 4, .inl gt)), (v4, .inl (cI, 4, .inl pd)), (v5, .inl (cI, 4, .inl de)), (v6, .inl (cI, 4, .inl us)), (v7, .inl (cI, 4, .inl tm)), (v8, .inl (cB, 18, .inl lt)), (v9, .inl (cI, 4, .inl sv)), (v10, .inl (cI, 24, .inl ke))] H := hP
          have hD : va_D A [(vh, .inr (6, [.int mm, .int (nI n), .int tl, .int ho, .ref v0, .ref v1, .ref v2, .ref v3, .ref v4, .ref v5, .ref v6, .int sl, .int hd, .ref v7, .int lo, .int ak, .int (nI k), .ref v8, .int isw, .int nw, .ref v9, .long sn, .int ek, .int em, .int eh, .int es, .int ed, .int el, .ref v10, .long hs])), (v0, .inl (cI, 4, .inl kd)), (v1, .inl (cI, 4, .inl (upd st jt 1))), (v2, .inl (cI, 4, .inl co)), (v3, .inl (cI, 4, .inl gt)), (v4, .inl (cI, 4, .inl pd)), (v5, .inl (cI, 4, .inl de)), (v6, .inl (cI, 4, .inl us)), (v7, .inl (cI, 4, .inl tm)), (v8, .inl (cB, 18, .inl lt)), (v9, .inl (cI, 4, .inl sv)), (v10, .inl (cI, 24, .inl ke))] := hD
          have eG : f_X6_wear kd st jd jt = upd st jt 1 := (if_neg c_1).trans ((if_neg c_2).trans ((if_pos c_3).trans (if_neg c_5)))
          exact retWv (u := ()) hx hb hr hlocks trivial (by rw [eG]; exact hP) (by rw [eG]; exact hD) hS dX6_wear_76
    · refine lv_iconst (v := 1) hx hb dX6_wear_25 (by decide) ?_
      refine lv_goto (tgt := 44) hx hb dX6_wear_26 (by decide) ?_
      refine lv_iadd hx hb dX6_wear_44 ?_
      refine my_top (y := 1) (by decide) ?_
      refine lv_istore_n (lv' := [(3, .int 1), (0, .ref vh), (1, .int d), (2, .int t)]) hx hb dX6_wear_45 rfl hl (by decide) rfl (fun ls hl => ?_)
      refine lv_aload_n hx hb dX6_wear_46 rfl (lv_at hl 1 rfl) ?_
      refine va_get (D := D) (ci := 6) (v := .ref v1) (C := RX6) (T := TX6) (N := 30) hx hb hts iwX6 hown hK.1 hP 0 rfl rfl 5 (by decide) fk13 (fun _ h9 => h9) rfl dX6_wear_47 ?_
      refine lv_iload_n hx hb dX6_wear_50 rfl (lv_at hl 3 rfl) ?_
      refine lv_aload_n hx hb dX6_wear_51 rfl (lv_at hl 1 rfl) ?_
      refine va_get (D := D) (ci := 6) (v := .ref v1) (C := RX6) (T := TX6) (N := 30) hx hb hts iwX6 hown hK.1 hP 0 rfl rfl 5 (by decide) fk13 (fun _ h9 => h9) rfl dX6_wear_52 ?_
      refine lv_iload_n hx hb dX6_wear_55 rfl (lv_at hl 3 rfl) ?_
      refine my_iald hx hb hK hP 2 rfl (j := jt) ht4 dX6_wear_56 ?_
      refine lv_iload_n hx hb dX6_wear_57 rfl (lv_at hl 0 rfl) ?_
      refine lv_isub hx hb dX6_wear_58 ?_
      refine lv_iconst (v := 1) hx hb dX6_wear_59 (by decide) ?_
      refine lv_icmp_ge (tgt := 67) hx hb dX6_wear_60 (by decide) (fun c_6 => ?_) (fun c_6 => ?_)
      · refine lv_aload_n hx hb dX6_wear_67 rfl (lv_at hl 1 rfl) ?_
        refine va_get (D := D) (ci := 6) (v := .ref v1) (C := RX6) (T := TX6) (N := 30) hx hb hts iwX6 hown hK.1 hP 0 rfl rfl 5 (by decide) fk13 (fun _ h9 => h9) rfl dX6_wear_68 ?_
        refine lv_iload_n hx hb dX6_wear_71 rfl (lv_at hl 3 rfl) ?_
        refine my_iald hx hb hK hP 2 rfl (j := jt) ht4 dX6_wear_72 ?_
        refine lv_iload_n hx hb dX6_wear_73 rfl (lv_at hl 0 rfl) ?_
        refine lv_isub hx hb dX6_wear_74 ?_
        refine my_iast hx hb hK hP hD hS 2 rfl (j := jt) ht4 dX6_wear_75 (fun H locs hP hD hS => ?_)
        have hP : va_P D vwCl [(vh, .inr (6, [.int mm, .int (nI n), .int tl, .int ho, .ref v0, .ref v1, .ref v2, .ref v3, .ref v4, .ref v5, .ref v6, .int sl, .int hd, .ref v7, .int lo, .int ak, .int (nI k), .ref v8, .int isw, .int nw, .ref v9, .long sn, .int ek, .int em, .int eh, .int es, .int ed, .int el, .ref v10, .long hs])), (v0, .inl (cI, 4, .inl kd)), (v1, .inl (cI, 4, .inl (upd st jt ((st jt) - 1)))), (v2, .inl (cI, 4, .inl co)), (v3, .inl (cI, 4, .inl gt)), (v4, .inl (cI, 4, .inl pd)), (v5, .inl (cI, 4, .inl de)), (v6, .inl (cI, 4, .inl us)), (v7, .inl (cI, 4, .inl tm)), (v8, .inl (cB, 18, .inl lt)), (v9, .inl (cI, 4, .inl sv)), (v10, .inl (cI, 24, .inl ke))] H := hP
        have hD : va_D A [(vh, .inr (6, [.int mm, .int (nI n), .int tl, .int ho, .ref v0, .ref v1, .ref v2, .ref v3, .ref v4, .ref v5, .ref v6, .int sl, .int hd, .ref v7, .int lo, .int ak, .int (nI k), .ref v8, .int isw, .int nw, .ref v9, .long sn, .int ek, .int em, .int eh, .int es, .int ed, .int el, .ref v10, .long hs])), (v0, .inl (cI, 4, .inl kd)), (v1, .inl (cI, 4, .inl (upd st jt ((st jt) - 1)))), (v2, .inl (cI, 4, .inl co)), (v3, .inl (cI, 4, .inl gt)), (v4, .inl (cI, 4, .inl pd)), (v5, .inl (cI, 4, .inl de)), (v6, .inl (cI, 4, .inl us)), (v7, .inl (cI, 4, .inl tm)), (v8, .inl (cB, 18, .inl lt)), (v9, .inl (cI, 4, .inl sv)), (v10, .inl (cI, 24, .inl ke))] := hD
        have eG : f_X6_wear kd st jd jt = upd st jt ((st jt) - 1) := (if_neg c_1).trans ((if_pos c_2).trans (if_pos c_6))
        exact retWv (u := ()) hx hb hr hlocks trivial (by rw [eG]; exact hP) (by rw [eG]; exact hD) hS dX6_wear_76
      · refine lv_iconst (v := 1) hx hb dX6_wear_63 (by decide) ?_
        refine lv_goto (tgt := 75) hx hb dX6_wear_64 (by decide) ?_
        refine my_iast hx hb hK hP hD hS 2 rfl (j := jt) ht4 dX6_wear_75 (fun H locs hP hD hS => ?_)
        have hP : va_P D vwCl [(vh, .inr (6, [.int mm, .int (nI n), .int tl, .int ho, .ref v0, .ref v1, .ref v2, .ref v3, .ref v4, .ref v5, .ref v6, .int sl, .int hd, .ref v7, .int lo, .int ak, .int (nI k), .ref v8, .int isw, .int nw, .ref v9, .long sn, .int ek, .int em, .int eh, .int es, .int ed, .int el, .ref v10, .long hs])), (v0, .inl (cI, 4, .inl kd)), (v1, .inl (cI, 4, .inl (upd st jt 1))), (v2, .inl (cI, 4, .inl co)), (v3, .inl (cI, 4, .inl gt)), (v4, .inl (cI, 4, .inl pd)), (v5, .inl (cI, 4, .inl de)), (v6, .inl (cI, 4, .inl us)), (v7, .inl (cI, 4, .inl tm)), (v8, .inl (cB, 18, .inl lt)), (v9, .inl (cI, 4, .inl sv)), (v10, .inl (cI, 24, .inl ke))] H := hP
        have hD : va_D A [(vh, .inr (6, [.int mm, .int (nI n), .int tl, .int ho, .ref v0, .ref v1, .ref v2, .ref v3, .ref v4, .ref v5, .ref v6, .int sl, .int hd, .ref v7, .int lo, .int ak, .int (nI k), .ref v8, .int isw, .int nw, .ref v9, .long sn, .int ek, .int em, .int eh, .int es, .int ed, .int el, .ref v10, .long hs])), (v0, .inl (cI, 4, .inl kd)), (v1, .inl (cI, 4, .inl (upd st jt 1))), (v2, .inl (cI, 4, .inl co)), (v3, .inl (cI, 4, .inl gt)), (v4, .inl (cI, 4, .inl pd)), (v5, .inl (cI, 4, .inl de)), (v6, .inl (cI, 4, .inl us)), (v7, .inl (cI, 4, .inl tm)), (v8, .inl (cB, 18, .inl lt)), (v9, .inl (cI, 4, .inl sv)), (v10, .inl (cI, 24, .inl ke))] := hD
        have eG : f_X6_wear kd st jd jt = upd st jt 1 := (if_neg c_1).trans ((if_pos c_2).trans (if_neg c_6))
        exact retWv (u := ()) hx hb hr hlocks trivial (by rw [eG]; exact hP) (by rw [eG]; exact hD) hS dX6_wear_76
  · refine lv_iconst (v := 1) hx hb dX6_wear_10 (by decide) ?_
    refine lv_goto (tgt := 15) hx hb dX6_wear_11 (by decide) ?_
    refine lv_aload_n hx hb dX6_wear_15 rfl (lv_at hl 0 rfl) ?_
    refine va_get (D := D) (ci := 6) (v := .ref v0) (C := RX6) (T := TX6) (N := 30) hx hb hts iwX6 hown hK.1 hP 0 rfl rfl 4 (by decide) fk7 (fun _ h9 => h9) rfl dX6_wear_16 ?_
    refine lv_iload_n hx hb dX6_wear_19 rfl (lv_at hl 1 rfl) ?_
    refine my_iald hx hb hK hP 1 rfl (j := jd) hd4 dX6_wear_20 ?_
    refine lv_iconst (v := 1) hx hb dX6_wear_21 (by decide) ?_
    refine lv_icmp_ne (tgt := 29) hx hb dX6_wear_22 (by decide) (fun c_7 => ?_) (fun c_7 => ?_)
    · refine lv_aload_n hx hb dX6_wear_29 rfl (lv_at hl 0 rfl) ?_
      refine va_get (D := D) (ci := 6) (v := .ref v0) (C := RX6) (T := TX6) (N := 30) hx hb hts iwX6 hown hK.1 hP 0 rfl rfl 4 (by decide) fk7 (fun _ h9 => h9) rfl dX6_wear_30 ?_
      refine lv_iload_n hx hb dX6_wear_33 rfl (lv_at hl 1 rfl) ?_
      refine my_iald hx hb hK hP 1 rfl (j := jd) hd4 dX6_wear_34 ?_
      refine lv_iconst (v := 4) hx hb dX6_wear_35 (by decide) ?_
      refine lv_icmp_ne (tgt := 43) hx hb dX6_wear_36 (by decide) (fun c_8 => ?_) (fun c_8 => ?_)
      · refine lv_iconst (v := 0) hx hb dX6_wear_43 (by decide) ?_
        refine lv_iadd hx hb dX6_wear_44 ?_
        refine my_top (y := 1) (by decide) ?_
        refine lv_istore_n (lv' := [(3, .int 1), (0, .ref vh), (1, .int d), (2, .int t)]) hx hb dX6_wear_45 rfl hl (by decide) rfl (fun ls hl => ?_)
        refine lv_aload_n hx hb dX6_wear_46 rfl (lv_at hl 1 rfl) ?_
        refine va_get (D := D) (ci := 6) (v := .ref v1) (C := RX6) (T := TX6) (N := 30) hx hb hts iwX6 hown hK.1 hP 0 rfl rfl 5 (by decide) fk13 (fun _ h9 => h9) rfl dX6_wear_47 ?_
        refine lv_iload_n hx hb dX6_wear_50 rfl (lv_at hl 3 rfl) ?_
        refine lv_aload_n hx hb dX6_wear_51 rfl (lv_at hl 1 rfl) ?_
        refine va_get (D := D) (ci := 6) (v := .ref v1) (C := RX6) (T := TX6) (N := 30) hx hb hts iwX6 hown hK.1 hP 0 rfl rfl 5 (by decide) fk13 (fun _ h9 => h9) rfl dX6_wear_52 ?_
        refine lv_iload_n hx hb dX6_wear_55 rfl (lv_at hl 3 rfl) ?_
        refine my_iald hx hb hK hP 2 rfl (j := jt) ht4 dX6_wear_56 ?_
        refine lv_iload_n hx hb dX6_wear_57 rfl (lv_at hl 0 rfl) ?_
        refine lv_isub hx hb dX6_wear_58 ?_
        refine lv_iconst (v := 1) hx hb dX6_wear_59 (by decide) ?_
        refine lv_icmp_ge (tgt := 67) hx hb dX6_wear_60 (by decide) (fun c_9 => ?_) (fun c_9 => ?_)
        · refine lv_aload_n hx hb dX6_wear_67 rfl (lv_at hl 1 rfl) ?_
          refine va_get (D := D) (ci := 6) (v := .ref v1) (C := RX6) (T := TX6) (N := 30) hx hb hts iwX6 hown hK.1 hP 0 rfl rfl 5 (by decide) fk13 (fun _ h9 => h9) rfl dX6_wear_68 ?_
          refine lv_iload_n hx hb dX6_wear_71 rfl (lv_at hl 3 rfl) ?_
          refine my_iald hx hb hK hP 2 rfl (j := jt) ht4 dX6_wear_72 ?_
          refine lv_iload_n hx hb dX6_wear_73 rfl (lv_at hl 0 rfl) ?_
          refine lv_isub hx hb dX6_wear_74 ?_
          refine my_iast hx hb hK hP hD hS 2 rfl (j := jt) ht4 dX6_wear_75 (fun H locs hP hD hS => ?_)
          have hP : va_P D vwCl [(vh, .inr (6, [.int mm, .int (nI n), .int tl, .int ho, .ref v0, .ref v1, .ref v2, .ref v3, .ref v4, .ref v5, .ref v6, .int sl, .int hd, .ref v7, .int lo, .int ak, .int (nI k), .ref v8, .int isw, .int nw, .ref v9, .long sn, .int ek, .int em, .int eh, .int es, .int ed, .int el, .ref v10, .long hs])), (v0, .inl (cI, 4, .inl kd)), (v1, .inl (cI, 4, .inl (upd st jt ((st jt) - 1)))), (v2, .inl (cI, 4, .inl co)), (v3, .inl (cI, 4, .inl gt)), (v4, .inl (cI, 4, .inl pd)), (v5, .inl (cI, 4, .inl de)), (v6, .inl (cI, 4, .inl us)), (v7, .inl (cI, 4, .inl tm)), (v8, .inl (cB, 18, .inl lt)), (v9, .inl (cI, 4, .inl sv)), (v10, .inl (cI, 24, .inl ke))] H := hP
          have hD : va_D A [(vh, .inr (6, [.int mm, .int (nI n), .int tl, .int ho, .ref v0, .ref v1, .ref v2, .ref v3, .ref v4, .ref v5, .ref v6, .int sl, .int hd, .ref v7, .int lo, .int ak, .int (nI k), .ref v8, .int isw, .int nw, .ref v9, .long sn, .int ek, .int em, .int eh, .int es, .int ed, .int el, .ref v10, .long hs])), (v0, .inl (cI, 4, .inl kd)), (v1, .inl (cI, 4, .inl (upd st jt ((st jt) - 1)))), (v2, .inl (cI, 4, .inl co)), (v3, .inl (cI, 4, .inl gt)), (v4, .inl (cI, 4, .inl pd)), (v5, .inl (cI, 4, .inl de)), (v6, .inl (cI, 4, .inl us)), (v7, .inl (cI, 4, .inl tm)), (v8, .inl (cB, 18, .inl lt)), (v9, .inl (cI, 4, .inl sv)), (v10, .inl (cI, 24, .inl ke))] := hD
          have eG : f_X6_wear kd st jd jt = upd st jt ((st jt) - 1) := (if_pos c_1).trans ((if_neg c_7).trans ((if_neg c_8).trans (if_pos c_9)))
          exact retWv (u := ()) hx hb hr hlocks trivial (by rw [eG]; exact hP) (by rw [eG]; exact hD) hS dX6_wear_76
        · refine lv_iconst (v := 1) hx hb dX6_wear_63 (by decide) ?_
          refine lv_goto (tgt := 75) hx hb dX6_wear_64 (by decide) ?_
          refine my_iast hx hb hK hP hD hS 2 rfl (j := jt) ht4 dX6_wear_75 (fun H locs hP hD hS => ?_)
          have hP : va_P D vwCl [(vh, .inr (6, [.int mm, .int (nI n), .int tl, .int ho, .ref v0, .ref v1, .ref v2, .ref v3, .ref v4, .ref v5, .ref v6, .int sl, .int hd, .ref v7, .int lo, .int ak, .int (nI k), .ref v8, .int isw, .int nw, .ref v9, .long sn, .int ek, .int em, .int eh, .int es, .int ed, .int el, .ref v10, .long hs])), (v0, .inl (cI, 4, .inl kd)), (v1, .inl (cI, 4, .inl (upd st jt 1))), (v2, .inl (cI, 4, .inl co)), (v3, .inl (cI, 4, .inl gt)), (v4, .inl (cI, 4, .inl pd)), (v5, .inl (cI, 4, .inl de)), (v6, .inl (cI, 4, .inl us)), (v7, .inl (cI, 4, .inl tm)), (v8, .inl (cB, 18, .inl lt)), (v9, .inl (cI, 4, .inl sv)), (v10, .inl (cI, 24, .inl ke))] H := hP
          have hD : va_D A [(vh, .inr (6, [.int mm, .int (nI n), .int tl, .int ho, .ref v0, .ref v1, .ref v2, .ref v3, .ref v4, .ref v5, .ref v6, .int sl, .int hd, .ref v7, .int lo, .int ak, .int (nI k), .ref v8, .int isw, .int nw, .ref v9, .long sn, .int ek, .int em, .int eh, .int es, .int ed, .int el, .ref v10, .long hs])), (v0, .inl (cI, 4, .inl kd)), (v1, .inl (cI, 4, .inl (upd st jt 1))), (v2, .inl (cI, 4, .inl co)), (v3, .inl (cI, 4, .inl gt)), (v4, .inl (cI, 4, .inl pd)), (v5, .inl (cI, 4, .inl de)), (v6, .inl (cI, 4, .inl us)), (v7, .inl (cI, 4, .inl tm)), (v8, .inl (cB, 18, .inl lt)), (v9, .inl (cI, 4, .inl sv)), (v10, .inl (cI, 24, .inl ke))] := hD
          have eG : f_X6_wear kd st jd jt = upd st jt 1 := (if_pos c_1).trans ((if_neg c_7).trans ((if_neg c_8).trans (if_neg c_9)))
          exact retWv (u := ()) hx hb hr hlocks trivial (by rw [eG]; exact hP) (by rw [eG]; exact hD) hS dX6_wear_76
      · refine lv_iconst (v := 2) hx hb dX6_wear_39 (by decide) ?_
        refine lv_goto (tgt := 44) hx hb dX6_wear_40 (by decide) ?_
        refine lv_iadd hx hb dX6_wear_44 ?_
        refine my_top (y := 3) (by decide) ?_
        refine lv_istore_n (lv' := [(3, .int 3), (0, .ref vh), (1, .int d), (2, .int t)]) hx hb dX6_wear_45 rfl hl (by decide) rfl (fun ls hl => ?_)
        refine lv_aload_n hx hb dX6_wear_46 rfl (lv_at hl 1 rfl) ?_
        refine va_get (D := D) (ci := 6) (v := .ref v1) (C := RX6) (T := TX6) (N := 30) hx hb hts iwX6 hown hK.1 hP 0 rfl rfl 5 (by decide) fk13 (fun _ h9 => h9) rfl dX6_wear_47 ?_
        refine lv_iload_n hx hb dX6_wear_50 rfl (lv_at hl 3 rfl) ?_
        refine lv_aload_n hx hb dX6_wear_51 rfl (lv_at hl 1 rfl) ?_
        refine va_get (D := D) (ci := 6) (v := .ref v1) (C := RX6) (T := TX6) (N := 30) hx hb hts iwX6 hown hK.1 hP 0 rfl rfl 5 (by decide) fk13 (fun _ h9 => h9) rfl dX6_wear_52 ?_
        refine lv_iload_n hx hb dX6_wear_55 rfl (lv_at hl 3 rfl) ?_
        refine my_iald hx hb hK hP 2 rfl (j := jt) ht4 dX6_wear_56 ?_
        refine lv_iload_n hx hb dX6_wear_57 rfl (lv_at hl 0 rfl) ?_
        refine lv_isub hx hb dX6_wear_58 ?_
        refine lv_iconst (v := 1) hx hb dX6_wear_59 (by decide) ?_
        refine lv_icmp_ge (tgt := 67) hx hb dX6_wear_60 (by decide) (fun c_10 => ?_) (fun c_10 => ?_)
        · refine lv_aload_n hx hb dX6_wear_67 rfl (lv_at hl 1 rfl) ?_
          refine va_get (D := D) (ci := 6) (v := .ref v1) (C := RX6) (T := TX6) (N := 30) hx hb hts iwX6 hown hK.1 hP 0 rfl rfl 5 (by decide) fk13 (fun _ h9 => h9) rfl dX6_wear_68 ?_
          refine lv_iload_n hx hb dX6_wear_71 rfl (lv_at hl 3 rfl) ?_
          refine my_iald hx hb hK hP 2 rfl (j := jt) ht4 dX6_wear_72 ?_
          refine lv_iload_n hx hb dX6_wear_73 rfl (lv_at hl 0 rfl) ?_
          refine lv_isub hx hb dX6_wear_74 ?_
          refine my_iast hx hb hK hP hD hS 2 rfl (j := jt) ht4 dX6_wear_75 (fun H locs hP hD hS => ?_)
          have hP : va_P D vwCl [(vh, .inr (6, [.int mm, .int (nI n), .int tl, .int ho, .ref v0, .ref v1, .ref v2, .ref v3, .ref v4, .ref v5, .ref v6, .int sl, .int hd, .ref v7, .int lo, .int ak, .int (nI k), .ref v8, .int isw, .int nw, .ref v9, .long sn, .int ek, .int em, .int eh, .int es, .int ed, .int el, .ref v10, .long hs])), (v0, .inl (cI, 4, .inl kd)), (v1, .inl (cI, 4, .inl (upd st jt ((st jt) - 3)))), (v2, .inl (cI, 4, .inl co)), (v3, .inl (cI, 4, .inl gt)), (v4, .inl (cI, 4, .inl pd)), (v5, .inl (cI, 4, .inl de)), (v6, .inl (cI, 4, .inl us)), (v7, .inl (cI, 4, .inl tm)), (v8, .inl (cB, 18, .inl lt)), (v9, .inl (cI, 4, .inl sv)), (v10, .inl (cI, 24, .inl ke))] H := hP
          have hD : va_D A [(vh, .inr (6, [.int mm, .int (nI n), .int tl, .int ho, .ref v0, .ref v1, .ref v2, .ref v3, .ref v4, .ref v5, .ref v6, .int sl, .int hd, .ref v7, .int lo, .int ak, .int (nI k), .ref v8, .int isw, .int nw, .ref v9, .long sn, .int ek, .int em, .int eh, .int es, .int ed, .int el, .ref v10, .long hs])), (v0, .inl (cI, 4, .inl kd)), (v1, .inl (cI, 4, .inl (upd st jt ((st jt) - 3)))), (v2, .inl (cI, 4, .inl co)), (v3, .inl (cI, 4, .inl gt)), (v4, .inl (cI, 4, .inl pd)), (v5, .inl (cI, 4, .inl de)), (v6, .inl (cI, 4, .inl us)), (v7, .inl (cI, 4, .inl tm)), (v8, .inl (cB, 18, .inl lt)), (v9, .inl (cI, 4, .inl sv)), (v10, .inl (cI, 24, .inl ke))] := hD
          have eG : f_X6_wear kd st jd jt = upd st jt ((st jt) - 3) := (if_pos c_1).trans ((if_neg c_7).trans ((if_pos c_8).trans (if_pos c_10)))
          exact retWv (u := ()) hx hb hr hlocks trivial (by rw [eG]; exact hP) (by rw [eG]; exact hD) hS dX6_wear_76
        · refine lv_iconst (v := 1) hx hb dX6_wear_63 (by decide) ?_
          refine lv_goto (tgt := 75) hx hb dX6_wear_64 (by decide) ?_
          refine my_iast hx hb hK hP hD hS 2 rfl (j := jt) ht4 dX6_wear_75 (fun H locs hP hD hS => ?_)
          have hP : va_P D vwCl [(vh, .inr (6, [.int mm, .int (nI n), .int tl, .int ho, .ref v0, .ref v1, .ref v2, .ref v3, .ref v4, .ref v5, .ref v6, .int sl, .int hd, .ref v7, .int lo, .int ak, .int (nI k), .ref v8, .int isw, .int nw, .ref v9, .long sn, .int ek, .int em, .int eh, .int es, .int ed, .int el, .ref v10, .long hs])), (v0, .inl (cI, 4, .inl kd)), (v1, .inl (cI, 4, .inl (upd st jt 1))), (v2, .inl (cI, 4, .inl co)), (v3, .inl (cI, 4, .inl gt)), (v4, .inl (cI, 4, .inl pd)), (v5, .inl (cI, 4, .inl de)), (v6, .inl (cI, 4, .inl us)), (v7, .inl (cI, 4, .inl tm)), (v8, .inl (cB, 18, .inl lt)), (v9, .inl (cI, 4, .inl sv)), (v10, .inl (cI, 24, .inl ke))] H := hP
          have hD : va_D A [(vh, .inr (6, [.int mm, .int (nI n), .int tl, .int ho, .ref v0, .ref v1, .ref v2, .ref v3, .ref v4, .ref v5, .ref v6, .int sl, .int hd, .ref v7, .int lo, .int ak, .int (nI k), .ref v8, .int isw, .int nw, .ref v9, .long sn, .int ek, .int em, .int eh, .int es, .int ed, .int el, .ref v10, .long hs])), (v0, .inl (cI, 4, .inl kd)), (v1, .inl (cI, 4, .inl (upd st jt 1))), (v2, .inl (cI, 4, .inl co)), (v3, .inl (cI, 4, .inl gt)), (v4, .inl (cI, 4, .inl pd)), (v5, .inl (cI, 4, .inl de)), (v6, .inl (cI, 4, .inl us)), (v7, .inl (cI, 4, .inl tm)), (v8, .inl (cB, 18, .inl lt)), (v9, .inl (cI, 4, .inl sv)), (v10, .inl (cI, 24, .inl ke))] := hD
          have eG : f_X6_wear kd st jd jt = upd st jt 1 := (if_pos c_1).trans ((if_neg c_7).trans ((if_pos c_8).trans (if_neg c_10)))
          exact retWv (u := ()) hx hb hr hlocks trivial (by rw [eG]; exact hP) (by rw [eG]; exact hD) hS dX6_wear_76
    · refine lv_iconst (v := 1) hx hb dX6_wear_25 (by decide) ?_
      refine lv_goto (tgt := 44) hx hb dX6_wear_26 (by decide) ?_
      refine lv_iadd hx hb dX6_wear_44 ?_
      refine my_top (y := 2) (by decide) ?_
      refine lv_istore_n (lv' := [(3, .int 2), (0, .ref vh), (1, .int d), (2, .int t)]) hx hb dX6_wear_45 rfl hl (by decide) rfl (fun ls hl => ?_)
      refine lv_aload_n hx hb dX6_wear_46 rfl (lv_at hl 1 rfl) ?_
      refine va_get (D := D) (ci := 6) (v := .ref v1) (C := RX6) (T := TX6) (N := 30) hx hb hts iwX6 hown hK.1 hP 0 rfl rfl 5 (by decide) fk13 (fun _ h9 => h9) rfl dX6_wear_47 ?_
      refine lv_iload_n hx hb dX6_wear_50 rfl (lv_at hl 3 rfl) ?_
      refine lv_aload_n hx hb dX6_wear_51 rfl (lv_at hl 1 rfl) ?_
      refine va_get (D := D) (ci := 6) (v := .ref v1) (C := RX6) (T := TX6) (N := 30) hx hb hts iwX6 hown hK.1 hP 0 rfl rfl 5 (by decide) fk13 (fun _ h9 => h9) rfl dX6_wear_52 ?_
      refine lv_iload_n hx hb dX6_wear_55 rfl (lv_at hl 3 rfl) ?_
      refine my_iald hx hb hK hP 2 rfl (j := jt) ht4 dX6_wear_56 ?_
      refine lv_iload_n hx hb dX6_wear_57 rfl (lv_at hl 0 rfl) ?_
      refine lv_isub hx hb dX6_wear_58 ?_
      refine lv_iconst (v := 1) hx hb dX6_wear_59 (by decide) ?_
      refine lv_icmp_ge (tgt := 67) hx hb dX6_wear_60 (by decide) (fun c_11 => ?_) (fun c_11 => ?_)
      · refine lv_aload_n hx hb dX6_wear_67 rfl (lv_at hl 1 rfl) ?_
        refine va_get (D := D) (ci := 6) (v := .ref v1) (C := RX6) (T := TX6) (N := 30) hx hb hts iwX6 hown hK.1 hP 0 rfl rfl 5 (by decide) fk13 (fun _ h9 => h9) rfl dX6_wear_68 ?_
        refine lv_iload_n hx hb dX6_wear_71 rfl (lv_at hl 3 rfl) ?_
        refine my_iald hx hb hK hP 2 rfl (j := jt) ht4 dX6_wear_72 ?_
        refine lv_iload_n hx hb dX6_wear_73 rfl (lv_at hl 0 rfl) ?_
        refine lv_isub hx hb dX6_wear_74 ?_
        refine my_iast hx hb hK hP hD hS 2 rfl (j := jt) ht4 dX6_wear_75 (fun H locs hP hD hS => ?_)
        have hP : va_P D vwCl [(vh, .inr (6, [.int mm, .int (nI n), .int tl, .int ho, .ref v0, .ref v1, .ref v2, .ref v3, .ref v4, .ref v5, .ref v6, .int sl, .int hd, .ref v7, .int lo, .int ak, .int (nI k), .ref v8, .int isw, .int nw, .ref v9, .long sn, .int ek, .int em, .int eh, .int es, .int ed, .int el, .ref v10, .long hs])), (v0, .inl (cI, 4, .inl kd)), (v1, .inl (cI, 4, .inl (upd st jt ((st jt) - 2)))), (v2, .inl (cI, 4, .inl co)), (v3, .inl (cI, 4, .inl gt)), (v4, .inl (cI, 4, .inl pd)), (v5, .inl (cI, 4, .inl de)), (v6, .inl (cI, 4, .inl us)), (v7, .inl (cI, 4, .inl tm)), (v8, .inl (cB, 18, .inl lt)), (v9, .inl (cI, 4, .inl sv)), (v10, .inl (cI, 24, .inl ke))] H := hP
        have hD : va_D A [(vh, .inr (6, [.int mm, .int (nI n), .int tl, .int ho, .ref v0, .ref v1, .ref v2, .ref v3, .ref v4, .ref v5, .ref v6, .int sl, .int hd, .ref v7, .int lo, .int ak, .int (nI k), .ref v8, .int isw, .int nw, .ref v9, .long sn, .int ek, .int em, .int eh, .int es, .int ed, .int el, .ref v10, .long hs])), (v0, .inl (cI, 4, .inl kd)), (v1, .inl (cI, 4, .inl (upd st jt ((st jt) - 2)))), (v2, .inl (cI, 4, .inl co)), (v3, .inl (cI, 4, .inl gt)), (v4, .inl (cI, 4, .inl pd)), (v5, .inl (cI, 4, .inl de)), (v6, .inl (cI, 4, .inl us)), (v7, .inl (cI, 4, .inl tm)), (v8, .inl (cB, 18, .inl lt)), (v9, .inl (cI, 4, .inl sv)), (v10, .inl (cI, 24, .inl ke))] := hD
        have eG : f_X6_wear kd st jd jt = upd st jt ((st jt) - 2) := (if_pos c_1).trans ((if_pos c_7).trans (if_pos c_11))
        exact retWv (u := ()) hx hb hr hlocks trivial (by rw [eG]; exact hP) (by rw [eG]; exact hD) hS dX6_wear_76
      · refine lv_iconst (v := 1) hx hb dX6_wear_63 (by decide) ?_
        refine lv_goto (tgt := 75) hx hb dX6_wear_64 (by decide) ?_
        refine my_iast hx hb hK hP hD hS 2 rfl (j := jt) ht4 dX6_wear_75 (fun H locs hP hD hS => ?_)
        have hP : va_P D vwCl [(vh, .inr (6, [.int mm, .int (nI n), .int tl, .int ho, .ref v0, .ref v1, .ref v2, .ref v3, .ref v4, .ref v5, .ref v6, .int sl, .int hd, .ref v7, .int lo, .int ak, .int (nI k), .ref v8, .int isw, .int nw, .ref v9, .long sn, .int ek, .int em, .int eh, .int es, .int ed, .int el, .ref v10, .long hs])), (v0, .inl (cI, 4, .inl kd)), (v1, .inl (cI, 4, .inl (upd st jt 1))), (v2, .inl (cI, 4, .inl co)), (v3, .inl (cI, 4, .inl gt)), (v4, .inl (cI, 4, .inl pd)), (v5, .inl (cI, 4, .inl de)), (v6, .inl (cI, 4, .inl us)), (v7, .inl (cI, 4, .inl tm)), (v8, .inl (cB, 18, .inl lt)), (v9, .inl (cI, 4, .inl sv)), (v10, .inl (cI, 24, .inl ke))] H := hP
        have hD : va_D A [(vh, .inr (6, [.int mm, .int (nI n), .int tl, .int ho, .ref v0, .ref v1, .ref v2, .ref v3, .ref v4, .ref v5, .ref v6, .int sl, .int hd, .ref v7, .int lo, .int ak, .int (nI k), .ref v8, .int isw, .int nw, .ref v9, .long sn, .int ek, .int em, .int eh, .int es, .int ed, .int el, .ref v10, .long hs])), (v0, .inl (cI, 4, .inl kd)), (v1, .inl (cI, 4, .inl (upd st jt 1))), (v2, .inl (cI, 4, .inl co)), (v3, .inl (cI, 4, .inl gt)), (v4, .inl (cI, 4, .inl pd)), (v5, .inl (cI, 4, .inl de)), (v6, .inl (cI, 4, .inl us)), (v7, .inl (cI, 4, .inl tm)), (v8, .inl (cB, 18, .inl lt)), (v9, .inl (cI, 4, .inl sv)), (v10, .inl (cI, 24, .inl ke))] := hD
        have eG : f_X6_wear kd st jd jt = upd st jt 1 := (if_pos c_1).trans ((if_pos c_7).trans (if_neg c_11))
        exact retWv (u := ()) hx hb hr hlocks trivial (by rw [eG]; exact hP) (by rw [eG]; exact hD) hS dX6_wear_76
def f_X6_isSale (n : Nat) (b : Int32) (d : Int32) (t : Int32) : Int32 := if (f_X6_within b 0 ((nI n) - 1)) = 0 then 0 else if (f_X6_within d 0 ((nI n) - 1)) = 0 then 0 else if (f_X6_within t 0 ((nI n) - 1)) = 0 then 0 else if b = d then 0 else 1
set_option maxHeartbeats 4000000 in
set_option maxRecDepth 100000 in
theorem c_X6_isSale (l : Launch) (D : va_G) (cB cC cI : ClassId) (vh : Nat) (v0 : Nat) (v1 : Nat) (v2 : Nat) (v3 : Nat) (v4 : Nat) (v5 : Nat) (v6 : Nat) (v7 : Nat) (v8 : Nat) (v9 : Nat) (v10 : Nat) (kd : Nat → Int32) (st : Nat → Int32) (co : Nat → Int32) (gt : Nat → Int32) (pd : Nat → Int32) (de : Nat → Int32) (us : Nat → Int32) (tm : Nat → Int32) (lt : Nat → Int32) (sv : Nat → Int32) (ke : Nat → Int32) (mm : Int32) (n : Nat) (tl : Int32) (ho : Int32) (sl : Int32) (hd : Int32) (lo : Int32) (ak : Int32) (k : Nat) (isw : Int32) (nw : Int32) (sn : Int64) (ek : Int32) (em : Int32) (eh : Int32) (es : Int32) (ed : Int32) (el : Int32) (hs : Int64) (b : Int32) (d : Int32) (t : Int32) (hn : n ≤ 4) : Met l yX6_isSale wsX6_isSale ({ frames := 2, cells := 0, slots := 0, locals := 43 }) (gPr D cB cC cI [.ref vh, .int b, .int d, .int t] [(vh, .inr (6, [.int mm, .int (nI n), .int tl, .int ho, .ref v0, .ref v1, .ref v2, .ref v3, .ref v4, .ref v5, .ref v6, .int sl, .int hd, .ref v7, .int lo, .int ak, .int (nI k), .ref v8, .int isw, .int nw, .ref v9, .long sn, .int ek, .int em, .int eh, .int es, .int ed, .int el, .ref v10, .long hs])), (v0, .inl (cI, 4, .inl kd)), (v1, .inl (cI, 4, .inl st)), (v2, .inl (cI, 4, .inl co)), (v3, .inl (cI, 4, .inl gt)), (v4, .inl (cI, 4, .inl pd)), (v5, .inl (cI, 4, .inl de)), (v6, .inl (cI, 4, .inl us)), (v7, .inl (cI, 4, .inl tm)), (v8, .inl (cB, 18, .inl lt)), (v9, .inl (cI, 4, .inl sv)), (v10, .inl (cI, 24, .inl ke))]) (vp_Si (fun r => r = (f_X6_isSale n b d t))) 0 0 (fun _ => False) := by
  refine metR (cc := cX6_isSale) (maxL := 4) (ret := (some .boolean)) RX6 rfl (by decide) rfl (Nat.le_of_ble_eq_true rfl) ?_
  intro p e s m below meth c hx hb hr hml hown hts hlocks hP hK ls hl
  have hl : lv_has ls 4 [(0, .ref vh), (1, .int b), (2, .int d), (3, .int t)] := hl
  refine lv_aload_n hx hb dX6_isSale_0 rfl (lv_at hl 0 rfl) ?_
  refine lv_iload_n hx hb dX6_isSale_1 rfl (lv_at hl 1 rfl) ?_
  refine rcVi (As := [.int b]) (rest := []) ⟨hx, hb, hml, hown, hts⟩ (c_X6_isHouse l D cB cC cI vh v0 v1 v2 v3 v4 v5 v6 v7 v8 v9 v10 kd st co gt pd de us tm lt sv ke mm n tl ho sl hd lo ak k isw nw sn ek em eh es ed el hs b) (cwV 1 hts gX6_isSale_X6_isHouse rfl rfl rfl (by decide +kernel) ⟨Nat.le_of_ble_eq_true rfl, Nat.le_of_ble_eq_true rfl⟩) hK hP [0, 1, 2, 3, 4, 5, 6, 7, 8, 9, 10, 11] rfl rfl 0 rfl rfl hl.1 rfl (Nat.le_of_ble_eq_true rfl) dX6_isSale_2 ⟨Nat.zero_le _, Nat.zero_le _⟩ ?_
  refine lv_if_eq (tgt := 33) hx hb dX6_isSale_5 (by decide) (fun c_1 => ?_) (fun c_1 => ?_)
  · refine lv_iconst (v := 0) hx hb dX6_isSale_33 (by decide) ?_
    have eG : f_X6_isSale n b d t = 0 := if_pos c_1
    exact retRz hx hb hr hlocks rfl eG.symm dX6_isSale_34
  · refine lv_aload_n hx hb dX6_isSale_8 rfl (lv_at hl 0 rfl) ?_
    refine lv_iload_n hx hb dX6_isSale_9 rfl (lv_at hl 2 rfl) ?_
    refine rcVi (As := [.int d]) (rest := []) ⟨hx, hb, hml, hown, hts⟩ (c_X6_isHouse l D cB cC cI vh v0 v1 v2 v3 v4 v5 v6 v7 v8 v9 v10 kd st co gt pd de us tm lt sv ke mm n tl ho sl hd lo ak k isw nw sn ek em eh es ed el hs d) (cwV 1 hts gX6_isSale_X6_isHouse rfl rfl rfl (by decide +kernel) ⟨Nat.le_of_ble_eq_true rfl, Nat.le_of_ble_eq_true rfl⟩) hK hP [0, 1, 2, 3, 4, 5, 6, 7, 8, 9, 10, 11] rfl rfl 0 rfl rfl hl.1 rfl (Nat.le_of_ble_eq_true rfl) dX6_isSale_10 ⟨Nat.zero_le _, Nat.zero_le _⟩ ?_
    refine lv_if_eq (tgt := 33) hx hb dX6_isSale_13 (by decide) (fun c_2 => ?_) (fun c_2 => ?_)
    · refine lv_iconst (v := 0) hx hb dX6_isSale_33 (by decide) ?_
      have eG : f_X6_isSale n b d t = 0 := (if_neg c_1).trans (if_pos c_2)
      exact retRz hx hb hr hlocks rfl eG.symm dX6_isSale_34
    · refine lv_aload_n hx hb dX6_isSale_16 rfl (lv_at hl 0 rfl) ?_
      refine lv_iload_n hx hb dX6_isSale_17 rfl (lv_at hl 3 rfl) ?_
      refine rcVi (As := [.int t]) (rest := []) ⟨hx, hb, hml, hown, hts⟩ (c_X6_isHouse l D cB cC cI vh v0 v1 v2 v3 v4 v5 v6 v7 v8 v9 v10 kd st co gt pd de us tm lt sv ke mm n tl ho sl hd lo ak k isw nw sn ek em eh es ed el hs t) (cwV 1 hts gX6_isSale_X6_isHouse rfl rfl rfl (by decide +kernel) ⟨Nat.le_of_ble_eq_true rfl, Nat.le_of_ble_eq_true rfl⟩) hK hP [0, 1, 2, 3, 4, 5, 6, 7, 8, 9, 10, 11] rfl rfl 0 rfl rfl hl.1 rfl (Nat.le_of_ble_eq_true rfl) dX6_isSale_18 ⟨Nat.zero_le _, Nat.zero_le _⟩ ?_
      refine lv_if_eq (tgt := 33) hx hb dX6_isSale_21 (by decide) (fun c_3 => ?_) (fun c_3 => ?_)
      · refine lv_iconst (v := 0) hx hb dX6_isSale_33 (by decide) ?_
        have eG : f_X6_isSale n b d t = 0 := (if_neg c_1).trans ((if_neg c_2).trans (if_pos c_3))
        exact retRz hx hb hr hlocks rfl eG.symm dX6_isSale_34
      · refine lv_iload_n hx hb dX6_isSale_24 rfl (lv_at hl 1 rfl) ?_
        refine lv_iload_n hx hb dX6_isSale_25 rfl (lv_at hl 2 rfl) ?_
        refine lv_icmp_eq (tgt := 33) hx hb dX6_isSale_26 (by decide) (fun c_4 => ?_) (fun c_4 => ?_)
        · refine lv_iconst (v := 0) hx hb dX6_isSale_33 (by decide) ?_
          have eG : f_X6_isSale n b d t = 0 := (if_neg c_1).trans ((if_neg c_2).trans ((if_neg c_3).trans (if_pos c_4)))
          exact retRz hx hb hr hlocks rfl eG.symm dX6_isSale_34
        · refine lv_iconst (v := 1) hx hb dX6_isSale_29 (by decide) ?_
          refine lv_goto (tgt := 34) hx hb dX6_isSale_30 (by decide) ?_
          have eG : f_X6_isSale n b d t = 1 := (if_neg c_1).trans ((if_neg c_2).trans ((if_neg c_3).trans (if_neg c_4)))
          exact retRz hx hb hr hlocks rfl eG.symm dX6_isSale_34
theorem isS_ix {n : Nat} {b d t : Int32} (hn : n ≤ 4) (h : ¬ f_X6_isSale n b d t = 0) : ix b b.toNatClampNeg n ∧ ix d d.toNatClampNeg n ∧ ix t t.toNatClampNeg n ∧ ¬ b = d := by
  by_cases h1 : f_X6_within b 0 (nI n - 1) = 0
  · exact absurd (if_pos h1) h
  by_cases h2 : f_X6_within d 0 (nI n - 1) = 0
  · exact absurd ((if_neg h1).trans (if_pos h2)) h
  by_cases h3 : f_X6_within t 0 (nI n - 1) = 0
  · exact absurd ((if_neg h1).trans ((if_neg h2).trans (if_pos h3))) h
  by_cases h4 : b = d
  · exact absurd ((if_neg h1).trans ((if_neg h2).trans ((if_neg h3).trans (if_pos h4)))) h
  exact ⟨isH_ix hn h1, isH_ix hn h2, isH_ix hn h3, h4⟩
def f_X6_measure (kd : Nat → Int32) (st : Nat → Int32) (n : Nat) (tl : Int32) (ho : Int32) (b : Int32) (d : Int32) (t : Int32) : Int32 := if (f_X6_isSale n b d t) = 0 then (-101) else (f_X6_ounces kd st tl b.toNatClampNeg t.toNatClampNeg ho)
set_option maxHeartbeats 4000000 in
set_option maxRecDepth 100000 in
theorem c_X6_measure (l : Launch) (D : va_G) (cB cC cI : ClassId) (vh : Nat) (v0 : Nat) (v1 : Nat) (v2 : Nat) (v3 : Nat) (v4 : Nat) (v5 : Nat) (v6 : Nat) (v7 : Nat) (v8 : Nat) (v9 : Nat) (v10 : Nat) (kd : Nat → Int32) (st : Nat → Int32) (co : Nat → Int32) (gt : Nat → Int32) (pd : Nat → Int32) (de : Nat → Int32) (us : Nat → Int32) (tm : Nat → Int32) (lt : Nat → Int32) (sv : Nat → Int32) (ke : Nat → Int32) (mm : Int32) (n : Nat) (tl : Int32) (ho : Int32) (sl : Int32) (hd : Int32) (lo : Int32) (ak : Int32) (k : Nat) (isw : Int32) (nw : Int32) (sn : Int64) (ek : Int32) (em : Int32) (eh : Int32) (es : Int32) (ed : Int32) (el : Int32) (hs : Int64) (b : Int32) (d : Int32) (t : Int32) (hn : n ≤ 4) : Met l yX6_measure wsX6_measure ({ frames := 3, cells := 0, slots := 0, locals := 66 }) (gPr D cB cC cI [.ref vh, .int b, .int d, .int t] [(vh, .inr (6, [.int mm, .int (nI n), .int tl, .int ho, .ref v0, .ref v1, .ref v2, .ref v3, .ref v4, .ref v5, .ref v6, .int sl, .int hd, .ref v7, .int lo, .int ak, .int (nI k), .ref v8, .int isw, .int nw, .ref v9, .long sn, .int ek, .int em, .int eh, .int es, .int ed, .int el, .ref v10, .long hs])), (v0, .inl (cI, 4, .inl kd)), (v1, .inl (cI, 4, .inl st)), (v2, .inl (cI, 4, .inl co)), (v3, .inl (cI, 4, .inl gt)), (v4, .inl (cI, 4, .inl pd)), (v5, .inl (cI, 4, .inl de)), (v6, .inl (cI, 4, .inl us)), (v7, .inl (cI, 4, .inl tm)), (v8, .inl (cB, 18, .inl lt)), (v9, .inl (cI, 4, .inl sv)), (v10, .inl (cI, 24, .inl ke))]) (vp_Si (fun r => r = (f_X6_measure kd st n tl ho b d t))) 0 0 (fun _ => False) := by
  refine metR (cc := cX6_measure) (maxL := 4) (ret := (some .int)) RX6 rfl (by decide) rfl (Nat.le_of_ble_eq_true rfl) ?_
  intro p e s m below meth c hx hb hr hml hown hts hlocks hP hK ls hl
  have iwX6 : ∀ w ∈ wsX60, w ∈ wsX6_measure := by decide +kernel
  have fk82 := hts (.fieldLink RX6 82 "BuyersWeightsModel" "hour" "I") (by decide +kernel)
  have hl : lv_has ls 4 [(0, .ref vh), (1, .int b), (2, .int d), (3, .int t)] := hl
  refine lv_aload_n hx hb dX6_measure_0 rfl (lv_at hl 0 rfl) ?_
  refine lv_iload_n hx hb dX6_measure_1 rfl (lv_at hl 1 rfl) ?_
  refine lv_iload_n hx hb dX6_measure_2 rfl (lv_at hl 2 rfl) ?_
  refine lv_iload_n hx hb dX6_measure_3 rfl (lv_at hl 3 rfl) ?_
  refine rcVi (As := [.int b, .int d, .int t]) (rest := []) ⟨hx, hb, hml, hown, hts⟩ (c_X6_isSale l D cB cC cI vh v0 v1 v2 v3 v4 v5 v6 v7 v8 v9 v10 kd st co gt pd de us tm lt sv ke mm n tl ho sl hd lo ak k isw nw sn ek em eh es ed el hs b d t (by first | assumption | omega | decide)) (cwV 3 hts gX6_measure_X6_isSale rfl rfl rfl (by decide +kernel) ⟨Nat.le_of_ble_eq_true rfl, Nat.le_of_ble_eq_true rfl⟩) hK hP [0, 1, 2, 3, 4, 5, 6, 7, 8, 9, 10, 11] rfl rfl 0 rfl rfl hl.1 rfl (Nat.le_of_ble_eq_true rfl) dX6_measure_4 ⟨Nat.zero_le _, Nat.zero_le _⟩ ?_
  refine lv_if_eq (tgt := 23) hx hb dX6_measure_7 (by decide) (fun c_1 => ?_) (fun c_1 => ?_)
  · refine lv_bipush (v := (-101)) hx hb dX6_measure_23 (by decide) ?_
    have eG : f_X6_measure kd st n tl ho b d t = (-101) := if_pos c_1
    exact retRi hx hb hr hlocks eG.symm dX6_measure_25
  · have hss := isS_ix hn c_1
    have hib := hss.1.up hn
    have hid := hss.2.1.up hn
    have hit := hss.2.2.1.up hn
    refine lv_aload_n hx hb dX6_measure_10 rfl (lv_at hl 0 rfl) ?_
    refine lv_iload_n hx hb dX6_measure_11 rfl (lv_at hl 1 rfl) ?_
    refine lv_iload_n hx hb dX6_measure_12 rfl (lv_at hl 3 rfl) ?_
    refine lv_aload_n hx hb dX6_measure_13 rfl (lv_at hl 0 rfl) ?_
    refine va_get (D := D) (ci := 6) (v := .int ho) (C := RX6) (T := TX6) (N := 30) hx hb hts iwX6 hown hK.1 hP 0 rfl rfl 3 (by decide) fk82 (fun _ h9 => h9) rfl dX6_measure_14 ?_
    refine rcVi (As := [.int b, .int t, .int ho]) (rest := []) ⟨hx, hb, hml, hown, hts⟩ (c_X6_ounces l D cB cC cI vh v0 v1 v2 v3 v4 v5 v6 v7 v8 v9 v10 kd st co gt pd de us tm lt sv ke mm n tl ho sl hd lo ak k isw nw sn ek em eh es ed el hs b b.toNatClampNeg t t.toNatClampNeg ho hib hit) (cwV 3 hts gX6_measure_X6_ounces rfl rfl rfl (by decide +kernel) ⟨Nat.le_of_ble_eq_true rfl, Nat.le_of_ble_eq_true rfl⟩) hK hP [0, 1, 2, 3, 4, 5, 6, 7, 8, 9, 10, 11] rfl rfl 0 rfl rfl hl.1 rfl (Nat.le_of_ble_eq_true rfl) dX6_measure_17 ⟨Nat.zero_le _, Nat.zero_le _⟩ ?_
    refine lv_goto (tgt := 25) hx hb dX6_measure_20 (by decide) ?_
    have eG : f_X6_measure kd st n tl ho b d t = (f_X6_ounces kd st tl b.toNatClampNeg t.toNatClampNeg ho) := if_neg c_1
    exact retRi hx hb hr hlocks eG.symm dX6_measure_25
def f_X6_buy (kd : Nat → Int32) (st : Nat → Int32) (co : Nat → Int32) (gt : Nat → Int32) (pd : Nat → Int32) (de : Nat → Int32) (us : Nat → Int32) (n : Nat) (tl : Int32) (ho : Int32) (sl : Int32) (b : Int32) (d : Int32) (t : Int32) : Int32 × Int32 × (Nat → Int32) × (Nat → Int32) × (Nat → Int32) × (Nat → Int32) × (Nat → Int32) := if (f_X6_isSale n b d t) = 0 then ((-101), sl, st, gt, pd, de, us) else if sl = 100 then ((-104), sl, st, gt, pd, de, us) else ((f_X6_ounces kd st tl b.toNatClampNeg t.toNatClampNeg ho), sl + 1, (f_X6_wear kd st d.toNatClampNeg t.toNatClampNeg), (upd gt b.toNatClampNeg ((gt b.toNatClampNeg) + (f_X6_ounces kd st tl b.toNatClampNeg t.toNatClampNeg ho))), (upd pd b.toNatClampNeg ((pd b.toNatClampNeg) + (co d.toNatClampNeg))), (upd de d.toNatClampNeg ((de d.toNatClampNeg) + 1)), (upd us t.toNatClampNeg ((us t.toNatClampNeg) + 1)))
set_option maxHeartbeats 4000000 in
set_option maxRecDepth 100000 in
theorem c_X6_buy (l : Launch) (D : va_G) (cB cC cI : ClassId) (vh : Nat) (v0 : Nat) (v1 : Nat) (v2 : Nat) (v3 : Nat) (v4 : Nat) (v5 : Nat) (v6 : Nat) (v7 : Nat) (v8 : Nat) (v9 : Nat) (v10 : Nat) (kd : Nat → Int32) (st : Nat → Int32) (co : Nat → Int32) (gt : Nat → Int32) (pd : Nat → Int32) (de : Nat → Int32) (us : Nat → Int32) (tm : Nat → Int32) (lt : Nat → Int32) (sv : Nat → Int32) (ke : Nat → Int32) (mm : Int32) (n : Nat) (tl : Int32) (ho : Int32) (sl : Int32) (hd : Int32) (lo : Int32) (ak : Int32) (k : Nat) (isw : Int32) (nw : Int32) (sn : Int64) (ek : Int32) (em : Int32) (eh : Int32) (es : Int32) (ed : Int32) (el : Int32) (hs : Int64) (b : Int32) (d : Int32) (t : Int32) (sz : Nat) (hn : n ≤ 4) : Met l yX6_buy wsX6_buy ({ frames := 3, cells := 0, slots := 0, locals := 66 }) (gPw D cB cC cI [.ref vh, .int b, .int d, .int t] [(vh, .inr (6, [.int mm, .int (nI n), .int tl, .int ho, .ref v0, .ref v1, .ref v2, .ref v3, .ref v4, .ref v5, .ref v6, .int sl, .int hd, .ref v7, .int lo, .int ak, .int (nI k), .ref v8, .int isw, .int nw, .ref v9, .long sn, .int ek, .int em, .int eh, .int es, .int ed, .int el, .ref v10, .long hs])), (v0, .inl (cI, 4, .inl kd)), (v1, .inl (cI, 4, .inl st)), (v2, .inl (cI, 4, .inl co)), (v3, .inl (cI, 4, .inl gt)), (v4, .inl (cI, 4, .inl pd)), (v5, .inl (cI, 4, .inl de)), (v6, .inl (cI, 4, .inl us)), (v7, .inl (cI, 4, .inl tm)), (v8, .inl (cB, 18, .inl lt)), (v9, .inl (cI, 4, .inl sv)), (v10, .inl (cI, 24, .inl ke))] sz) (QWi D ((f_X6_buy kd st co gt pd de us n tl ho sl b d t).1) [(vh, .inr (6, [.int mm, .int (nI n), .int tl, .int ho, .ref v0, .ref v1, .ref v2, .ref v3, .ref v4, .ref v5, .ref v6, .int ((f_X6_buy kd st co gt pd de us n tl ho sl b d t).2.1), .int hd, .ref v7, .int lo, .int ak, .int (nI k), .ref v8, .int isw, .int nw, .ref v9, .long sn, .int ek, .int em, .int eh, .int es, .int ed, .int el, .ref v10, .long hs])), (v0, .inl (cI, 4, .inl kd)), (v1, .inl (cI, 4, .inl ((f_X6_buy kd st co gt pd de us n tl ho sl b d t).2.2.1))), (v2, .inl (cI, 4, .inl co)), (v3, .inl (cI, 4, .inl ((f_X6_buy kd st co gt pd de us n tl ho sl b d t).2.2.2.1))), (v4, .inl (cI, 4, .inl ((f_X6_buy kd st co gt pd de us n tl ho sl b d t).2.2.2.2.1))), (v5, .inl (cI, 4, .inl ((f_X6_buy kd st co gt pd de us n tl ho sl b d t).2.2.2.2.2.1))), (v6, .inl (cI, 4, .inl ((f_X6_buy kd st co gt pd de us n tl ho sl b d t).2.2.2.2.2.2))), (v7, .inl (cI, 4, .inl tm)), (v8, .inl (cB, 18, .inl lt)), (v9, .inl (cI, 4, .inl sv)), (v10, .inl (cI, 24, .inl ke))] (va_A [(vh, .inr (6, [.int mm, .int (nI n), .int tl, .int ho, .ref v0, .ref v1, .ref v2, .ref v3, .ref v4, .ref v5, .ref v6, .int sl, .int hd, .ref v7, .int lo, .int ak, .int (nI k), .ref v8, .int isw, .int nw, .ref v9, .long sn, .int ek, .int em, .int eh, .int es, .int ed, .int el, .ref v10, .long hs])), (v0, .inl (cI, 4, .inl kd)), (v1, .inl (cI, 4, .inl st)), (v2, .inl (cI, 4, .inl co)), (v3, .inl (cI, 4, .inl gt)), (v4, .inl (cI, 4, .inl pd)), (v5, .inl (cI, 4, .inl de)), (v6, .inl (cI, 4, .inl us)), (v7, .inl (cI, 4, .inl tm)), (v8, .inl (cB, 18, .inl lt)), (v9, .inl (cI, 4, .inl sv)), (v10, .inl (cI, 24, .inl ke))] sz)) 0 0 (va_A [(vh, .inr (6, [.int mm, .int (nI n), .int tl, .int ho, .ref v0, .ref v1, .ref v2, .ref v3, .ref v4, .ref v5, .ref v6, .int sl, .int hd, .ref v7, .int lo, .int ak, .int (nI k), .ref v8, .int isw, .int nw, .ref v9, .long sn, .int ek, .int em, .int eh, .int es, .int ed, .int el, .ref v10, .long hs])), (v0, .inl (cI, 4, .inl kd)), (v1, .inl (cI, 4, .inl st)), (v2, .inl (cI, 4, .inl co)), (v3, .inl (cI, 4, .inl gt)), (v4, .inl (cI, 4, .inl pd)), (v5, .inl (cI, 4, .inl de)), (v6, .inl (cI, 4, .inl us)), (v7, .inl (cI, 4, .inl tm)), (v8, .inl (cB, 18, .inl lt)), (v9, .inl (cI, 4, .inl sv)), (v10, .inl (cI, 24, .inl ke))] sz) := by
  refine metW (cc := cX6_buy) (maxL := 5) (ret := (some .int)) (QA := fun A => (QWi D ((f_X6_buy kd st co gt pd de us n tl ho sl b d t).1) [(vh, .inr (6, [.int mm, .int (nI n), .int tl, .int ho, .ref v0, .ref v1, .ref v2, .ref v3, .ref v4, .ref v5, .ref v6, .int ((f_X6_buy kd st co gt pd de us n tl ho sl b d t).2.1), .int hd, .ref v7, .int lo, .int ak, .int (nI k), .ref v8, .int isw, .int nw, .ref v9, .long sn, .int ek, .int em, .int eh, .int es, .int ed, .int el, .ref v10, .long hs])), (v0, .inl (cI, 4, .inl kd)), (v1, .inl (cI, 4, .inl ((f_X6_buy kd st co gt pd de us n tl ho sl b d t).2.2.1))), (v2, .inl (cI, 4, .inl co)), (v3, .inl (cI, 4, .inl ((f_X6_buy kd st co gt pd de us n tl ho sl b d t).2.2.2.1))), (v4, .inl (cI, 4, .inl ((f_X6_buy kd st co gt pd de us n tl ho sl b d t).2.2.2.2.1))), (v5, .inl (cI, 4, .inl ((f_X6_buy kd st co gt pd de us n tl ho sl b d t).2.2.2.2.2.1))), (v6, .inl (cI, 4, .inl ((f_X6_buy kd st co gt pd de us n tl ho sl b d t).2.2.2.2.2.2))), (v7, .inl (cI, 4, .inl tm)), (v8, .inl (cB, 18, .inl lt)), (v9, .inl (cI, 4, .inl sv)), (v10, .inl (cI, 24, .inl ke))] A)) RX6 rfl (by decide) rfl (Nat.le_of_ble_eq_true rfl) ?_
  intro p e s m below meth c A hx hb hr hml hown hts hlocks hin hP hK hD hA hS ls hl
  have iwX6 : ∀ w ∈ wsX60, w ∈ wsX6_buy := by decide +kernel
  have fk85 := hts (.fieldLink RX6 85 "BuyersWeightsModel" "sales" "I") (by decide +kernel)
  have fk82 := hts (.fieldLink RX6 82 "BuyersWeightsModel" "hour" "I") (by decide +kernel)
  have fk19 := hts (.fieldLink RX6 19 "BuyersWeightsModel" "gotOf" "[I") (by decide +kernel)
  have fk22 := hts (.fieldLink RX6 22 "BuyersWeightsModel" "paidOf" "[I") (by decide +kernel)
  have fk16 := hts (.fieldLink RX6 16 "BuyersWeightsModel" "coinOf" "[I") (by decide +kernel)
  have fk25 := hts (.fieldLink RX6 25 "BuyersWeightsModel" "dealtOf" "[I") (by decide +kernel)
  have fk28 := hts (.fieldLink RX6 28 "BuyersWeightsModel" "usedOf" "[I") (by decide +kernel)
  have hl : lv_has ls 5 [(0, .ref vh), (1, .int b), (2, .int d), (3, .int t)] := hl
  refine lv_aload_n hx hb dX6_buy_0 rfl (lv_at hl 0 rfl) ?_
  refine lv_iload_n hx hb dX6_buy_1 rfl (lv_at hl 1 rfl) ?_
  refine lv_iload_n hx hb dX6_buy_2 rfl (lv_at hl 2 rfl) ?_
  refine lv_iload_n hx hb dX6_buy_3 rfl (lv_at hl 3 rfl) ?_
  refine rcVi (As := [.int b, .int d, .int t]) (rest := []) ⟨hx, hb, hml, hown, hts⟩ (c_X6_isSale l D cB cC cI vh v0 v1 v2 v3 v4 v5 v6 v7 v8 v9 v10 kd st co gt pd de us tm lt sv ke mm n tl ho sl hd lo ak k isw nw sn ek em eh es ed el hs b d t (by first | assumption | omega | decide)) (cwV 3 hts gX6_buy_X6_isSale rfl rfl rfl (by decide +kernel) ⟨Nat.le_of_ble_eq_true rfl, Nat.le_of_ble_eq_true rfl⟩) hK hP [0, 1, 2, 3, 4, 5, 6, 7, 8, 9, 10, 11] rfl rfl 0 rfl rfl hl.1 rfl (Nat.le_of_ble_eq_true rfl) dX6_buy_4 ⟨Nat.zero_le _, Nat.zero_le _⟩ ?_
  refine lv_if_ne (tgt := 13) hx hb dX6_buy_7 (by decide) (fun c_1 => ?_) (fun c_1 => ?_)
  · have hss := isS_ix hn c_1
    have hib := hss.1.up hn
    have hid := hss.2.1.up hn
    have hit := hss.2.2.1.up hn
    refine lv_aload_n hx hb dX6_buy_13 rfl (lv_at hl 0 rfl) ?_
    refine va_get (D := D) (ci := 6) (v := .int sl) (C := RX6) (T := TX6) (N := 30) hx hb hts iwX6 hown hK.1 hP 0 rfl rfl 11 (by decide) fk85 (fun _ h9 => h9) rfl dX6_buy_14 ?_
    refine lv_bipush (v := 100) hx hb dX6_buy_17 (by decide) ?_
    refine lv_icmp_ne (tgt := 25) hx hb dX6_buy_19 (by decide) (fun c_2 => ?_) (fun c_2 => ?_)
    · refine lv_aload_n hx hb dX6_buy_25 rfl (lv_at hl 0 rfl) ?_
      refine lv_iload_n hx hb dX6_buy_26 rfl (lv_at hl 1 rfl) ?_
      refine lv_iload_n hx hb dX6_buy_27 rfl (lv_at hl 3 rfl) ?_
      refine lv_aload_n hx hb dX6_buy_28 rfl (lv_at hl 0 rfl) ?_
      refine va_get (D := D) (ci := 6) (v := .int ho) (C := RX6) (T := TX6) (N := 30) hx hb hts iwX6 hown hK.1 hP 0 rfl rfl 3 (by decide) fk82 (fun _ h9 => h9) rfl dX6_buy_29 ?_
      refine rcVi (As := [.int b, .int t, .int ho]) (rest := []) ⟨hx, hb, hml, hown, hts⟩ (c_X6_ounces l D cB cC cI vh v0 v1 v2 v3 v4 v5 v6 v7 v8 v9 v10 kd st co gt pd de us tm lt sv ke mm n tl ho sl hd lo ak k isw nw sn ek em eh es ed el hs b b.toNatClampNeg t t.toNatClampNeg ho hib hit) (cwV 3 hts gX6_buy_X6_ounces rfl rfl rfl (by decide +kernel) ⟨Nat.le_of_ble_eq_true rfl, Nat.le_of_ble_eq_true rfl⟩) hK hP [0, 1, 2, 3, 4, 5, 6, 7, 8, 9, 10, 11] rfl rfl 0 rfl rfl hl.1 rfl (Nat.le_of_ble_eq_true rfl) dX6_buy_32 ⟨Nat.zero_le _, Nat.zero_le _⟩ ?_
      refine lv_istore (lv' := [(4, .int (f_X6_ounces kd st tl b.toNatClampNeg t.toNatClampNeg ho)), (0, .ref vh), (1, .int b), (2, .int d), (3, .int t)]) hx hb dX6_buy_35 hl (by decide) rfl (fun ls hl => ?_)
      refine lv_aload_n hx hb dX6_buy_37 rfl (lv_at hl 1 rfl) ?_
      refine va_get (D := D) (ci := 6) (v := .ref v3) (C := RX6) (T := TX6) (N := 30) hx hb hts iwX6 hown hK.1 hP 0 rfl rfl 7 (by decide) fk19 (fun _ h9 => h9) rfl dX6_buy_38 ?_
      refine lv_iload_n hx hb dX6_buy_41 rfl (lv_at hl 2 rfl) ?_
      refine lv_dup2_11 hx hb dX6_buy_42 rfl rfl ?_
      refine my_iald hx hb hK hP 4 rfl (j := b.toNatClampNeg) hib dX6_buy_43 ?_
      refine lv_iload hx hb dX6_buy_44 (lv_at hl 0 rfl) ?_
      refine lv_iadd hx hb dX6_buy_46 ?_
      refine my_iast hx hb hK hP hD hS 4 rfl (j := b.toNatClampNeg) hib dX6_buy_47 (fun H locs hP hD hS => ?_)
      have hP : va_P D vwCl [(vh, .inr (6, [.int mm, .int (nI n), .int tl, .int ho, .ref v0, .ref v1, .ref v2, .ref v3, .ref v4, .ref v5, .ref v6, .int sl, .int hd, .ref v7, .int lo, .int ak, .int (nI k), .ref v8, .int isw, .int nw, .ref v9, .long sn, .int ek, .int em, .int eh, .int es, .int ed, .int el, .ref v10, .long hs])), (v0, .inl (cI, 4, .inl kd)), (v1, .inl (cI, 4, .inl st)), (v2, .inl (cI, 4, .inl co)), (v3, .inl (cI, 4, .inl (upd gt b.toNatClampNeg ((gt b.toNatClampNeg) + (f_X6_ounces kd st tl b.toNatClampNeg t.toNatClampNeg ho))))), (v4, .inl (cI, 4, .inl pd)), (v5, .inl (cI, 4, .inl de)), (v6, .inl (cI, 4, .inl us)), (v7, .inl (cI, 4, .inl tm)), (v8, .inl (cB, 18, .inl lt)), (v9, .inl (cI, 4, .inl sv)), (v10, .inl (cI, 24, .inl ke))] H := hP
      have hD : va_D A [(vh, .inr (6, [.int mm, .int (nI n), .int tl, .int ho, .ref v0, .ref v1, .ref v2, .ref v3, .ref v4, .ref v5, .ref v6, .int sl, .int hd, .ref v7, .int lo, .int ak, .int (nI k), .ref v8, .int isw, .int nw, .ref v9, .long sn, .int ek, .int em, .int eh, .int es, .int ed, .int el, .ref v10, .long hs])), (v0, .inl (cI, 4, .inl kd)), (v1, .inl (cI, 4, .inl st)), (v2, .inl (cI, 4, .inl co)), (v3, .inl (cI, 4, .inl (upd gt b.toNatClampNeg ((gt b.toNatClampNeg) + (f_X6_ounces kd st tl b.toNatClampNeg t.toNatClampNeg ho))))), (v4, .inl (cI, 4, .inl pd)), (v5, .inl (cI, 4, .inl de)), (v6, .inl (cI, 4, .inl us)), (v7, .inl (cI, 4, .inl tm)), (v8, .inl (cB, 18, .inl lt)), (v9, .inl (cI, 4, .inl sv)), (v10, .inl (cI, 24, .inl ke))] := hD
      refine lv_aload_n hx hb dX6_buy_48 rfl (lv_at hl 1 rfl) ?_
      refine va_get (D := D) (ci := 6) (v := .ref v4) (C := RX6) (T := TX6) (N := 30) hx hb hts iwX6 hown hK.1 hP 0 rfl rfl 8 (by decide) fk22 (fun _ h9 => h9) rfl dX6_buy_49 ?_
      refine lv_iload_n hx hb dX6_buy_52 rfl (lv_at hl 2 rfl) ?_
      refine lv_dup2_11 hx hb dX6_buy_53 rfl rfl ?_
      refine my_iald hx hb hK hP 5 rfl (j := b.toNatClampNeg) hib dX6_buy_54 ?_
      refine lv_aload_n hx hb dX6_buy_55 rfl (lv_at hl 1 rfl) ?_
      refine va_get (D := D) (ci := 6) (v := .ref v2) (C := RX6) (T := TX6) (N := 30) hx hb hts iwX6 hown hK.1 hP 0 rfl rfl 6 (by decide) fk16 (fun _ h9 => h9) rfl dX6_buy_56 ?_
      refine lv_iload_n hx hb dX6_buy_59 rfl (lv_at hl 3 rfl) ?_
      refine my_iald hx hb hK hP 3 rfl (j := d.toNatClampNeg) hid dX6_buy_60 ?_
      refine lv_iadd hx hb dX6_buy_61 ?_
      refine my_iast hx hb hK hP hD hS 5 rfl (j := b.toNatClampNeg) hib dX6_buy_62 (fun H locs hP hD hS => ?_)
      have hP : va_P D vwCl [(vh, .inr (6, [.int mm, .int (nI n), .int tl, .int ho, .ref v0, .ref v1, .ref v2, .ref v3, .ref v4, .ref v5, .ref v6, .int sl, .int hd, .ref v7, .int lo, .int ak, .int (nI k), .ref v8, .int isw, .int nw, .ref v9, .long sn, .int ek, .int em, .int eh, .int es, .int ed, .int el, .ref v10, .long hs])), (v0, .inl (cI, 4, .inl kd)), (v1, .inl (cI, 4, .inl st)), (v2, .inl (cI, 4, .inl co)), (v3, .inl (cI, 4, .inl (upd gt b.toNatClampNeg ((gt b.toNatClampNeg) + (f_X6_ounces kd st tl b.toNatClampNeg t.toNatClampNeg ho))))), (v4, .inl (cI, 4, .inl (upd pd b.toNatClampNeg ((pd b.toNatClampNeg) + (co d.toNatClampNeg))))), (v5, .inl (cI, 4, .inl de)), (v6, .inl (cI, 4, .inl us)), (v7, .inl (cI, 4, .inl tm)), (v8, .inl (cB, 18, .inl lt)), (v9, .inl (cI, 4, .inl sv)), (v10, .inl (cI, 24, .inl ke))] H := hP
      have hD : va_D A [(vh, .inr (6, [.int mm, .int (nI n), .int tl, .int ho, .ref v0, .ref v1, .ref v2, .ref v3, .ref v4, .ref v5, .ref v6, .int sl, .int hd, .ref v7, .int lo, .int ak, .int (nI k), .ref v8, .int isw, .int nw, .ref v9, .long sn, .int ek, .int em, .int eh, .int es, .int ed, .int el, .ref v10, .long hs])), (v0, .inl (cI, 4, .inl kd)), (v1, .inl (cI, 4, .inl st)), (v2, .inl (cI, 4, .inl co)), (v3, .inl (cI, 4, .inl (upd gt b.toNatClampNeg ((gt b.toNatClampNeg) + (f_X6_ounces kd st tl b.toNatClampNeg t.toNatClampNeg ho))))), (v4, .inl (cI, 4, .inl (upd pd b.toNatClampNeg ((pd b.toNatClampNeg) + (co d.toNatClampNeg))))), (v5, .inl (cI, 4, .inl de)), (v6, .inl (cI, 4, .inl us)), (v7, .inl (cI, 4, .inl tm)), (v8, .inl (cB, 18, .inl lt)), (v9, .inl (cI, 4, .inl sv)), (v10, .inl (cI, 24, .inl ke))] := hD
      refine lv_aload_n hx hb dX6_buy_63 rfl (lv_at hl 1 rfl) ?_
      refine va_get (D := D) (ci := 6) (v := .ref v5) (C := RX6) (T := TX6) (N := 30) hx hb hts iwX6 hown hK.1 hP 0 rfl rfl 9 (by decide) fk25 (fun _ h9 => h9) rfl dX6_buy_64 ?_
      refine lv_iload_n hx hb dX6_buy_67 rfl (lv_at hl 3 rfl) ?_
      refine lv_dup2_11 hx hb dX6_buy_68 rfl rfl ?_
      refine my_iald hx hb hK hP 6 rfl (j := d.toNatClampNeg) hid dX6_buy_69 ?_
      refine lv_iconst (v := 1) hx hb dX6_buy_70 (by decide) ?_
      refine lv_iadd hx hb dX6_buy_71 ?_
      refine my_iast hx hb hK hP hD hS 6 rfl (j := d.toNatClampNeg) hid dX6_buy_72 (fun H locs hP hD hS => ?_)
      have hP : va_P D vwCl [(vh, .inr (6, [.int mm, .int (nI n), .int tl, .int ho, .ref v0, .ref v1, .ref v2, .ref v3, .ref v4, .ref v5, .ref v6, .int sl, .int hd, .ref v7, .int lo, .int ak, .int (nI k), .ref v8, .int isw, .int nw, .ref v9, .long sn, .int ek, .int em, .int eh, .int es, .int ed, .int el, .ref v10, .long hs])), (v0, .inl (cI, 4, .inl kd)), (v1, .inl (cI, 4, .inl st)), (v2, .inl (cI, 4, .inl co)), (v3, .inl (cI, 4, .inl (upd gt b.toNatClampNeg ((gt b.toNatClampNeg) + (f_X6_ounces kd st tl b.toNatClampNeg t.toNatClampNeg ho))))), (v4, .inl (cI, 4, .inl (upd pd b.toNatClampNeg ((pd b.toNatClampNeg) + (co d.toNatClampNeg))))), (v5, .inl (cI, 4, .inl (upd de d.toNatClampNeg ((de d.toNatClampNeg) + 1)))), (v6, .inl (cI, 4, .inl us)), (v7, .inl (cI, 4, .inl tm)), (v8, .inl (cB, 18, .inl lt)), (v9, .inl (cI, 4, .inl sv)), (v10, .inl (cI, 24, .inl ke))] H := hP
      have hD : va_D A [(vh, .inr (6, [.int mm, .int (nI n), .int tl, .int ho, .ref v0, .ref v1, .ref v2, .ref v3, .ref v4, .ref v5, .ref v6, .int sl, .int hd, .ref v7, .int lo, .int ak, .int (nI k), .ref v8, .int isw, .int nw, .ref v9, .long sn, .int ek, .int em, .int eh, .int es, .int ed, .int el, .ref v10, .long hs])), (v0, .inl (cI, 4, .inl kd)), (v1, .inl (cI, 4, .inl st)), (v2, .inl (cI, 4, .inl co)), (v3, .inl (cI, 4, .inl (upd gt b.toNatClampNeg ((gt b.toNatClampNeg) + (f_X6_ounces kd st tl b.toNatClampNeg t.toNatClampNeg ho))))), (v4, .inl (cI, 4, .inl (upd pd b.toNatClampNeg ((pd b.toNatClampNeg) + (co d.toNatClampNeg))))), (v5, .inl (cI, 4, .inl (upd de d.toNatClampNeg ((de d.toNatClampNeg) + 1)))), (v6, .inl (cI, 4, .inl us)), (v7, .inl (cI, 4, .inl tm)), (v8, .inl (cB, 18, .inl lt)), (v9, .inl (cI, 4, .inl sv)), (v10, .inl (cI, 24, .inl ke))] := hD
      refine lv_aload_n hx hb dX6_buy_73 rfl (lv_at hl 1 rfl) ?_
      refine va_get (D := D) (ci := 6) (v := .ref v6) (C := RX6) (T := TX6) (N := 30) hx hb hts iwX6 hown hK.1 hP 0 rfl rfl 10 (by decide) fk28 (fun _ h9 => h9) rfl dX6_buy_74 ?_
      refine lv_iload_n hx hb dX6_buy_77 rfl (lv_at hl 4 rfl) ?_
      refine lv_dup2_11 hx hb dX6_buy_78 rfl rfl ?_
      refine my_iald hx hb hK hP 7 rfl (j := t.toNatClampNeg) hit dX6_buy_79 ?_
      refine lv_iconst (v := 1) hx hb dX6_buy_80 (by decide) ?_
      refine lv_iadd hx hb dX6_buy_81 ?_
      refine my_iast hx hb hK hP hD hS 7 rfl (j := t.toNatClampNeg) hit dX6_buy_82 (fun H locs hP hD hS => ?_)
      have hP : va_P D vwCl [(vh, .inr (6, [.int mm, .int (nI n), .int tl, .int ho, .ref v0, .ref v1, .ref v2, .ref v3, .ref v4, .ref v5, .ref v6, .int sl, .int hd, .ref v7, .int lo, .int ak, .int (nI k), .ref v8, .int isw, .int nw, .ref v9, .long sn, .int ek, .int em, .int eh, .int es, .int ed, .int el, .ref v10, .long hs])), (v0, .inl (cI, 4, .inl kd)), (v1, .inl (cI, 4, .inl st)), (v2, .inl (cI, 4, .inl co)), (v3, .inl (cI, 4, .inl (upd gt b.toNatClampNeg ((gt b.toNatClampNeg) + (f_X6_ounces kd st tl b.toNatClampNeg t.toNatClampNeg ho))))), (v4, .inl (cI, 4, .inl (upd pd b.toNatClampNeg ((pd b.toNatClampNeg) + (co d.toNatClampNeg))))), (v5, .inl (cI, 4, .inl (upd de d.toNatClampNeg ((de d.toNatClampNeg) + 1)))), (v6, .inl (cI, 4, .inl (upd us t.toNatClampNeg ((us t.toNatClampNeg) + 1)))), (v7, .inl (cI, 4, .inl tm)), (v8, .inl (cB, 18, .inl lt)), (v9, .inl (cI, 4, .inl sv)), (v10, .inl (cI, 24, .inl ke))] H := hP
      have hD : va_D A [(vh, .inr (6, [.int mm, .int (nI n), .int tl, .int ho, .ref v0, .ref v1, .ref v2, .ref v3, .ref v4, .ref v5, .ref v6, .int sl, .int hd, .ref v7, .int lo, .int ak, .int (nI k), .ref v8, .int isw, .int nw, .ref v9, .long sn, .int ek, .int em, .int eh, .int es, .int ed, .int el, .ref v10, .long hs])), (v0, .inl (cI, 4, .inl kd)), (v1, .inl (cI, 4, .inl st)), (v2, .inl (cI, 4, .inl co)), (v3, .inl (cI, 4, .inl (upd gt b.toNatClampNeg ((gt b.toNatClampNeg) + (f_X6_ounces kd st tl b.toNatClampNeg t.toNatClampNeg ho))))), (v4, .inl (cI, 4, .inl (upd pd b.toNatClampNeg ((pd b.toNatClampNeg) + (co d.toNatClampNeg))))), (v5, .inl (cI, 4, .inl (upd de d.toNatClampNeg ((de d.toNatClampNeg) + 1)))), (v6, .inl (cI, 4, .inl (upd us t.toNatClampNeg ((us t.toNatClampNeg) + 1)))), (v7, .inl (cI, 4, .inl tm)), (v8, .inl (cB, 18, .inl lt)), (v9, .inl (cI, 4, .inl sv)), (v10, .inl (cI, 24, .inl ke))] := hD
      refine lv_aload_n hx hb dX6_buy_83 rfl (lv_at hl 1 rfl) ?_
      refine lv_iload_n hx hb dX6_buy_84 rfl (lv_at hl 3 rfl) ?_
      refine lv_iload_n hx hb dX6_buy_85 rfl (lv_at hl 4 rfl) ?_
      refine wcVv1 (As := [.int d, .int t]) (rest := []) (wr := []) (w2 := [(vh, .inr (6, [.int mm, .int (nI n), .int tl, .int ho, .ref v0, .ref v1, .ref v2, .ref v3, .ref v4, .ref v5, .ref v6, .int sl, .int hd, .ref v7, .int lo, .int ak, .int (nI k), .ref v8, .int isw, .int nw, .ref v9, .long sn, .int ek, .int em, .int eh, .int es, .int ed, .int el, .ref v10, .long hs])), (v0, .inl (cI, 4, .inl kd)), (v1, .inl (cI, 4, .inl (f_X6_wear kd st d.toNatClampNeg t.toNatClampNeg))), (v2, .inl (cI, 4, .inl co)), (v3, .inl (cI, 4, .inl (upd gt b.toNatClampNeg ((gt b.toNatClampNeg) + (f_X6_ounces kd st tl b.toNatClampNeg t.toNatClampNeg ho))))), (v4, .inl (cI, 4, .inl (upd pd b.toNatClampNeg ((pd b.toNatClampNeg) + (co d.toNatClampNeg))))), (v5, .inl (cI, 4, .inl (upd de d.toNatClampNeg ((de d.toNatClampNeg) + 1)))), (v6, .inl (cI, 4, .inl (upd us t.toNatClampNeg ((us t.toNatClampNeg) + 1)))), (v7, .inl (cI, 4, .inl tm)), (v8, .inl (cB, 18, .inl lt)), (v9, .inl (cI, 4, .inl sv)), (v10, .inl (cI, 24, .inl ke))]) ⟨hx, hb, hml, hown, hts⟩ (c_X6_wear l D cB cC cI vh v0 v1 v2 v3 v4 v5 v6 v7 v8 v9 v10 kd st co (upd gt b.toNatClampNeg ((gt b.toNatClampNeg) + (f_X6_ounces kd st tl b.toNatClampNeg t.toNatClampNeg ho))) (upd pd b.toNatClampNeg ((pd b.toNatClampNeg) + (co d.toNatClampNeg))) (upd de d.toNatClampNeg ((de d.toNatClampNeg) + 1)) (upd us t.toNatClampNeg ((us t.toNatClampNeg) + 1)) tm lt sv ke mm n tl ho sl hd lo ak k isw nw sn ek em eh es ed el hs d d.toNatClampNeg t t.toNatClampNeg _ hid hit) (cwV 2 hts gX6_buy_X6_wear rfl rfl rfl (by decide +kernel) ⟨Nat.le_of_ble_eq_true rfl, Nat.le_of_ble_eq_true rfl⟩) hK hP hD hS hA [0, 1, 2, 3, 4, 5, 6, 7, 8, 9, 10, 11] [] [0, 1, 2, 3, 4, 5, 6, 7, 8, 9, 10, 11] (by decide) rfl rfl (by decide) (by decide) (by decide) rfl rfl 0 rfl rfl hl.1 rfl (Nat.le_of_ble_eq_true rfl) dX6_buy_86 ⟨Nat.zero_le _, Nat.zero_le _⟩ (fun H locs hP hD hS => ?_)
      refine lv_aload_n hx hb dX6_buy_89 rfl (lv_at hl 1 rfl) ?_
      refine lv_dup hx hb dX6_buy_90 rfl ?_
      refine va_get (D := D) (ci := 6) (v := .int sl) (C := RX6) (T := TX6) (N := 30) hx hb hts iwX6 hown hK.1 hP 0 rfl rfl 11 (by decide) fk85 (fun _ h9 => h9) rfl dX6_buy_91 ?_
      refine lv_iconst (v := 1) hx hb dX6_buy_94 (by decide) ?_
      refine lv_iadd hx hb dX6_buy_95 ?_
      refine va_put (D := D) (ci := 6) (v := .int (sl + 1)) (ty := .int) (C := RX6) (T := TX6) (N := 30) hx hb hts iwX6 tyX6 tyX6_ok nmX6 hown hK.1 hP hD hS 0 rfl rfl 11 (by decide) fk85 (fun _ h9 => h9) rfl (by decide +kernel) rfl rfl (Nat.le_of_ble_eq_true rfl) dX6_buy_96 (fun H locs hP hD hS => ?_)
      have hP : va_P D vwCl [(vh, .inr (6, [.int mm, .int (nI n), .int tl, .int ho, .ref v0, .ref v1, .ref v2, .ref v3, .ref v4, .ref v5, .ref v6, .int (sl + 1), .int hd, .ref v7, .int lo, .int ak, .int (nI k), .ref v8, .int isw, .int nw, .ref v9, .long sn, .int ek, .int em, .int eh, .int es, .int ed, .int el, .ref v10, .long hs])), (v0, .inl (cI, 4, .inl kd)), (v1, .inl (cI, 4, .inl (f_X6_wear kd st d.toNatClampNeg t.toNatClampNeg))), (v2, .inl (cI, 4, .inl co)), (v3, .inl (cI, 4, .inl (upd gt b.toNatClampNeg ((gt b.toNatClampNeg) + (f_X6_ounces kd st tl b.toNatClampNeg t.toNatClampNeg ho))))), (v4, .inl (cI, 4, .inl (upd pd b.toNatClampNeg ((pd b.toNatClampNeg) + (co d.toNatClampNeg))))), (v5, .inl (cI, 4, .inl (upd de d.toNatClampNeg ((de d.toNatClampNeg) + 1)))), (v6, .inl (cI, 4, .inl (upd us t.toNatClampNeg ((us t.toNatClampNeg) + 1)))), (v7, .inl (cI, 4, .inl tm)), (v8, .inl (cB, 18, .inl lt)), (v9, .inl (cI, 4, .inl sv)), (v10, .inl (cI, 24, .inl ke))] H := hP
      have hD : va_D A [(vh, .inr (6, [.int mm, .int (nI n), .int tl, .int ho, .ref v0, .ref v1, .ref v2, .ref v3, .ref v4, .ref v5, .ref v6, .int (sl + 1), .int hd, .ref v7, .int lo, .int ak, .int (nI k), .ref v8, .int isw, .int nw, .ref v9, .long sn, .int ek, .int em, .int eh, .int es, .int ed, .int el, .ref v10, .long hs])), (v0, .inl (cI, 4, .inl kd)), (v1, .inl (cI, 4, .inl (f_X6_wear kd st d.toNatClampNeg t.toNatClampNeg))), (v2, .inl (cI, 4, .inl co)), (v3, .inl (cI, 4, .inl (upd gt b.toNatClampNeg ((gt b.toNatClampNeg) + (f_X6_ounces kd st tl b.toNatClampNeg t.toNatClampNeg ho))))), (v4, .inl (cI, 4, .inl (upd pd b.toNatClampNeg ((pd b.toNatClampNeg) + (co d.toNatClampNeg))))), (v5, .inl (cI, 4, .inl (upd de d.toNatClampNeg ((de d.toNatClampNeg) + 1)))), (v6, .inl (cI, 4, .inl (upd us t.toNatClampNeg ((us t.toNatClampNeg) + 1)))), (v7, .inl (cI, 4, .inl tm)), (v8, .inl (cB, 18, .inl lt)), (v9, .inl (cI, 4, .inl sv)), (v10, .inl (cI, 24, .inl ke))] := hD
      refine lv_iload hx hb dX6_buy_99 (lv_at hl 0 rfl) ?_
      have eG : f_X6_buy kd st co gt pd de us n tl ho sl b d t = ((f_X6_ounces kd st tl b.toNatClampNeg t.toNatClampNeg ho), sl + 1, (f_X6_wear kd st d.toNatClampNeg t.toNatClampNeg), (upd gt b.toNatClampNeg ((gt b.toNatClampNeg) + (f_X6_ounces kd st tl b.toNatClampNeg t.toNatClampNeg ho))), (upd pd b.toNatClampNeg ((pd b.toNatClampNeg) + (co d.toNatClampNeg))), (upd de d.toNatClampNeg ((de d.toNatClampNeg) + 1)), (upd us t.toNatClampNeg ((us t.toNatClampNeg) + 1))) := (if_neg c_1).trans (if_neg c_2)
      exact retWi (u := ()) hx hb hr hlocks (by rw [eG]) (by rw [eG]; exact hP) (by rw [eG]; exact hD) hS dX6_buy_101
    · refine lv_bipush (v := (-104)) hx hb dX6_buy_22 (by decide) ?_
      have eG : f_X6_buy kd st co gt pd de us n tl ho sl b d t = ((-104), sl, st, gt, pd, de, us) := (if_neg c_1).trans (if_pos c_2)
      exact retWi (u := ()) hx hb hr hlocks (by rw [eG]) (by rw [eG]; exact hP) (by rw [eG]; exact hD) hS dX6_buy_24
  · refine lv_bipush (v := (-101)) hx hb dX6_buy_10 (by decide) ?_
    have eG : f_X6_buy kd st co gt pd de us n tl ho sl b d t = ((-101), sl, st, gt, pd, de, us) := if_pos c_1
    exact retWi (u := ()) hx hb hr hlocks (by rw [eG]) (by rw [eG]; exact hP) (by rw [eG]; exact hD) hS dX6_buy_12
def f_X6_hour (n : Nat) (ho : Int32) : Int32 × Int32 := if (nI n) = 0 then ((-103), ho) else (ho + 1, ho + 1)
set_option maxHeartbeats 4000000 in
set_option maxRecDepth 100000 in
theorem c_X6_hour (l : Launch) (D : va_G) (cB cC cI : ClassId) (vh : Nat) (v0 : Nat) (v1 : Nat) (v2 : Nat) (v3 : Nat) (v4 : Nat) (v5 : Nat) (v6 : Nat) (v7 : Nat) (v8 : Nat) (v9 : Nat) (v10 : Nat) (kd : Nat → Int32) (st : Nat → Int32) (co : Nat → Int32) (gt : Nat → Int32) (pd : Nat → Int32) (de : Nat → Int32) (us : Nat → Int32) (tm : Nat → Int32) (lt : Nat → Int32) (sv : Nat → Int32) (ke : Nat → Int32) (mm : Int32) (n : Nat) (tl : Int32) (ho : Int32) (sl : Int32) (hd : Int32) (lo : Int32) (ak : Int32) (k : Nat) (isw : Int32) (nw : Int32) (sn : Int64) (ek : Int32) (em : Int32) (eh : Int32) (es : Int32) (ed : Int32) (el : Int32) (hs : Int64) (sz : Nat)  : Met l yX6_hour wsX6_hour ({ frames := 0, cells := 0, slots := 0, locals := 0 }) (gPw D cB cC cI [.ref vh] [(vh, .inr (6, [.int mm, .int (nI n), .int tl, .int ho, .ref v0, .ref v1, .ref v2, .ref v3, .ref v4, .ref v5, .ref v6, .int sl, .int hd, .ref v7, .int lo, .int ak, .int (nI k), .ref v8, .int isw, .int nw, .ref v9, .long sn, .int ek, .int em, .int eh, .int es, .int ed, .int el, .ref v10, .long hs])), (v0, .inl (cI, 4, .inl kd)), (v1, .inl (cI, 4, .inl st)), (v2, .inl (cI, 4, .inl co)), (v3, .inl (cI, 4, .inl gt)), (v4, .inl (cI, 4, .inl pd)), (v5, .inl (cI, 4, .inl de)), (v6, .inl (cI, 4, .inl us)), (v7, .inl (cI, 4, .inl tm)), (v8, .inl (cB, 18, .inl lt)), (v9, .inl (cI, 4, .inl sv)), (v10, .inl (cI, 24, .inl ke))] sz) (QWi D ((f_X6_hour n ho).1) [(vh, .inr (6, [.int mm, .int (nI n), .int tl, .int ((f_X6_hour n ho).2), .ref v0, .ref v1, .ref v2, .ref v3, .ref v4, .ref v5, .ref v6, .int sl, .int hd, .ref v7, .int lo, .int ak, .int (nI k), .ref v8, .int isw, .int nw, .ref v9, .long sn, .int ek, .int em, .int eh, .int es, .int ed, .int el, .ref v10, .long hs])), (v0, .inl (cI, 4, .inl kd)), (v1, .inl (cI, 4, .inl st)), (v2, .inl (cI, 4, .inl co)), (v3, .inl (cI, 4, .inl gt)), (v4, .inl (cI, 4, .inl pd)), (v5, .inl (cI, 4, .inl de)), (v6, .inl (cI, 4, .inl us)), (v7, .inl (cI, 4, .inl tm)), (v8, .inl (cB, 18, .inl lt)), (v9, .inl (cI, 4, .inl sv)), (v10, .inl (cI, 24, .inl ke))] (va_A [(vh, .inr (6, [.int mm, .int (nI n), .int tl, .int ho, .ref v0, .ref v1, .ref v2, .ref v3, .ref v4, .ref v5, .ref v6, .int sl, .int hd, .ref v7, .int lo, .int ak, .int (nI k), .ref v8, .int isw, .int nw, .ref v9, .long sn, .int ek, .int em, .int eh, .int es, .int ed, .int el, .ref v10, .long hs])), (v0, .inl (cI, 4, .inl kd)), (v1, .inl (cI, 4, .inl st)), (v2, .inl (cI, 4, .inl co)), (v3, .inl (cI, 4, .inl gt)), (v4, .inl (cI, 4, .inl pd)), (v5, .inl (cI, 4, .inl de)), (v6, .inl (cI, 4, .inl us)), (v7, .inl (cI, 4, .inl tm)), (v8, .inl (cB, 18, .inl lt)), (v9, .inl (cI, 4, .inl sv)), (v10, .inl (cI, 24, .inl ke))] sz)) 0 0 (va_A [(vh, .inr (6, [.int mm, .int (nI n), .int tl, .int ho, .ref v0, .ref v1, .ref v2, .ref v3, .ref v4, .ref v5, .ref v6, .int sl, .int hd, .ref v7, .int lo, .int ak, .int (nI k), .ref v8, .int isw, .int nw, .ref v9, .long sn, .int ek, .int em, .int eh, .int es, .int ed, .int el, .ref v10, .long hs])), (v0, .inl (cI, 4, .inl kd)), (v1, .inl (cI, 4, .inl st)), (v2, .inl (cI, 4, .inl co)), (v3, .inl (cI, 4, .inl gt)), (v4, .inl (cI, 4, .inl pd)), (v5, .inl (cI, 4, .inl de)), (v6, .inl (cI, 4, .inl us)), (v7, .inl (cI, 4, .inl tm)), (v8, .inl (cB, 18, .inl lt)), (v9, .inl (cI, 4, .inl sv)), (v10, .inl (cI, 24, .inl ke))] sz) := by
  refine metW (cc := cX6_hour) (maxL := 1) (ret := (some .int)) (QA := fun A => (QWi D ((f_X6_hour n ho).1) [(vh, .inr (6, [.int mm, .int (nI n), .int tl, .int ((f_X6_hour n ho).2), .ref v0, .ref v1, .ref v2, .ref v3, .ref v4, .ref v5, .ref v6, .int sl, .int hd, .ref v7, .int lo, .int ak, .int (nI k), .ref v8, .int isw, .int nw, .ref v9, .long sn, .int ek, .int em, .int eh, .int es, .int ed, .int el, .ref v10, .long hs])), (v0, .inl (cI, 4, .inl kd)), (v1, .inl (cI, 4, .inl st)), (v2, .inl (cI, 4, .inl co)), (v3, .inl (cI, 4, .inl gt)), (v4, .inl (cI, 4, .inl pd)), (v5, .inl (cI, 4, .inl de)), (v6, .inl (cI, 4, .inl us)), (v7, .inl (cI, 4, .inl tm)), (v8, .inl (cB, 18, .inl lt)), (v9, .inl (cI, 4, .inl sv)), (v10, .inl (cI, 24, .inl ke))] A)) RX6 rfl (by decide) rfl (Nat.le_of_ble_eq_true rfl) ?_
  intro p e s m below meth c A hx hb hr hml hown hts hlocks hin hP hK hD hA hS ls hl
  have iwX6 : ∀ w ∈ wsX60, w ∈ wsX6_hour := by decide +kernel
  have fk73 := hts (.fieldLink RX6 73 "BuyersWeightsModel" "houses" "I") (by decide +kernel)
  have fk82 := hts (.fieldLink RX6 82 "BuyersWeightsModel" "hour" "I") (by decide +kernel)
  have hl : lv_has ls 1 [(0, .ref vh)] := hl
  refine lv_aload_n hx hb dX6_hour_0 rfl (lv_at hl 0 rfl) ?_
  refine va_get (D := D) (ci := 6) (v := .int (nI n)) (C := RX6) (T := TX6) (N := 30) hx hb hts iwX6 hown hK.1 hP 0 rfl rfl 1 (by decide) fk73 (fun _ h9 => h9) rfl dX6_hour_1 ?_
  refine lv_if_ne (tgt := 10) hx hb dX6_hour_4 (by decide) (fun c_1 => ?_) (fun c_1 => ?_)
  · refine lv_aload_n hx hb dX6_hour_10 rfl (lv_at hl 0 rfl) ?_
    refine lv_dup hx hb dX6_hour_11 rfl ?_
    refine va_get (D := D) (ci := 6) (v := .int ho) (C := RX6) (T := TX6) (N := 30) hx hb hts iwX6 hown hK.1 hP 0 rfl rfl 3 (by decide) fk82 (fun _ h9 => h9) rfl dX6_hour_12 ?_
    refine lv_iconst (v := 1) hx hb dX6_hour_15 (by decide) ?_
    refine lv_iadd hx hb dX6_hour_16 ?_
    refine va_put (D := D) (ci := 6) (v := .int (ho + 1)) (ty := .int) (C := RX6) (T := TX6) (N := 30) hx hb hts iwX6 tyX6 tyX6_ok nmX6 hown hK.1 hP hD hS 0 rfl rfl 3 (by decide) fk82 (fun _ h9 => h9) rfl (by decide +kernel) rfl rfl (Nat.le_of_ble_eq_true rfl) dX6_hour_17 (fun H locs hP hD hS => ?_)
    have hP : va_P D vwCl [(vh, .inr (6, [.int mm, .int (nI n), .int tl, .int (ho + 1), .ref v0, .ref v1, .ref v2, .ref v3, .ref v4, .ref v5, .ref v6, .int sl, .int hd, .ref v7, .int lo, .int ak, .int (nI k), .ref v8, .int isw, .int nw, .ref v9, .long sn, .int ek, .int em, .int eh, .int es, .int ed, .int el, .ref v10, .long hs])), (v0, .inl (cI, 4, .inl kd)), (v1, .inl (cI, 4, .inl st)), (v2, .inl (cI, 4, .inl co)), (v3, .inl (cI, 4, .inl gt)), (v4, .inl (cI, 4, .inl pd)), (v5, .inl (cI, 4, .inl de)), (v6, .inl (cI, 4, .inl us)), (v7, .inl (cI, 4, .inl tm)), (v8, .inl (cB, 18, .inl lt)), (v9, .inl (cI, 4, .inl sv)), (v10, .inl (cI, 24, .inl ke))] H := hP
    have hD : va_D A [(vh, .inr (6, [.int mm, .int (nI n), .int tl, .int (ho + 1), .ref v0, .ref v1, .ref v2, .ref v3, .ref v4, .ref v5, .ref v6, .int sl, .int hd, .ref v7, .int lo, .int ak, .int (nI k), .ref v8, .int isw, .int nw, .ref v9, .long sn, .int ek, .int em, .int eh, .int es, .int ed, .int el, .ref v10, .long hs])), (v0, .inl (cI, 4, .inl kd)), (v1, .inl (cI, 4, .inl st)), (v2, .inl (cI, 4, .inl co)), (v3, .inl (cI, 4, .inl gt)), (v4, .inl (cI, 4, .inl pd)), (v5, .inl (cI, 4, .inl de)), (v6, .inl (cI, 4, .inl us)), (v7, .inl (cI, 4, .inl tm)), (v8, .inl (cB, 18, .inl lt)), (v9, .inl (cI, 4, .inl sv)), (v10, .inl (cI, 24, .inl ke))] := hD
    refine lv_aload_n hx hb dX6_hour_20 rfl (lv_at hl 0 rfl) ?_
    refine va_get (D := D) (ci := 6) (v := .int (ho + 1)) (C := RX6) (T := TX6) (N := 30) hx hb hts iwX6 hown hK.1 hP 0 rfl rfl 3 (by decide) fk82 (fun _ h9 => h9) rfl dX6_hour_21 ?_
    have eG : f_X6_hour n ho = (ho + 1, ho + 1) := if_neg c_1
    exact retWi (u := ()) hx hb hr hlocks (by rw [eG]) (by rw [eG]; exact hP) (by rw [eG]; exact hD) hS dX6_hour_24
  · refine lv_bipush (v := (-103)) hx hb dX6_hour_7 (by decide) ?_
    have eG : f_X6_hour n ho = ((-103), ho) := if_pos c_1
    exact retWi (u := ()) hx hb hr hlocks (by rw [eG]) (by rw [eG]; exact hP) (by rw [eG]; exact hD) hS dX6_hour_9
set_option maxHeartbeats 4000000 in
set_option maxRecDepth 100000 in
theorem c_X6_save (l : Launch) (D : va_G) (cB cC cI : ClassId) (vh : Nat) (v0 : Nat) (v1 : Nat) (v2 : Nat) (v3 : Nat) (v4 : Nat) (v5 : Nat) (v6 : Nat) (v7 : Nat) (v8 : Nat) (v9 : Nat) (v10 : Nat) (kd : Nat → Int32) (st : Nat → Int32) (co : Nat → Int32) (gt : Nat → Int32) (pd : Nat → Int32) (de : Nat → Int32) (us : Nat → Int32) (tm : Nat → Int32) (lt : Nat → Int32) (sv : Nat → Int32) (ke : Nat → Int32) (mm : Int32) (n : Nat) (tl : Int32) (ho : Int32) (sl : Int32) (hd : Int32) (lo : Int32) (ak : Int32) (k : Nat) (isw : Int32) (nw : Int32) (sn : Int64) (ek : Int32) (em : Int32) (eh : Int32) (es : Int32) (ed : Int32) (el : Int32) (hs : Int64) (sz : Nat)  : Met l yX6_save wsX6_save ({ frames := 0, cells := 0, slots := 0, locals := 0 }) (gPw D cB cC cI [.ref vh] [(vh, .inr (6, [.int mm, .int (nI n), .int tl, .int ho, .ref v0, .ref v1, .ref v2, .ref v3, .ref v4, .ref v5, .ref v6, .int sl, .int hd, .ref v7, .int lo, .int ak, .int (nI k), .ref v8, .int isw, .int nw, .ref v9, .long sn, .int ek, .int em, .int eh, .int es, .int ed, .int el, .ref v10, .long hs])), (v0, .inl (cI, 4, .inl kd)), (v1, .inl (cI, 4, .inl st)), (v2, .inl (cI, 4, .inl co)), (v3, .inl (cI, 4, .inl gt)), (v4, .inl (cI, 4, .inl pd)), (v5, .inl (cI, 4, .inl de)), (v6, .inl (cI, 4, .inl us)), (v7, .inl (cI, 4, .inl tm)), (v8, .inl (cB, 18, .inl lt)), (v9, .inl (cI, 4, .inl sv)), (v10, .inl (cI, 24, .inl ke))] sz) (QWv D [(vh, .inr (6, [.int mm, .int (nI n), .int tl, .int ho, .ref v0, .ref v1, .ref v2, .ref v3, .ref v4, .ref v5, .ref v6, .int sl, .int hd, .ref v7, .int lo, .int ak, .int (nI k), .ref v8, .int isw, .int nw, .ref v9, .long sn, .int ek, .int em, .int eh, .int es, .int ed, .int el, .ref v10, .long hs])), (v0, .inl (cI, 4, .inl kd)), (v1, .inl (cI, 4, .inl st)), (v2, .inl (cI, 4, .inl co)), (v3, .inl (cI, 4, .inl gt)), (v4, .inl (cI, 4, .inl pd)), (v5, .inl (cI, 4, .inl de)), (v6, .inl (cI, 4, .inl us)), (v7, .inl (cI, 4, .inl tm)), (v8, .inl (cB, 18, .inl lt)), (v9, .inl (cI, 4, .inl st)), (v10, .inl (cI, 24, .inl ke))] (va_A [(vh, .inr (6, [.int mm, .int (nI n), .int tl, .int ho, .ref v0, .ref v1, .ref v2, .ref v3, .ref v4, .ref v5, .ref v6, .int sl, .int hd, .ref v7, .int lo, .int ak, .int (nI k), .ref v8, .int isw, .int nw, .ref v9, .long sn, .int ek, .int em, .int eh, .int es, .int ed, .int el, .ref v10, .long hs])), (v0, .inl (cI, 4, .inl kd)), (v1, .inl (cI, 4, .inl st)), (v2, .inl (cI, 4, .inl co)), (v3, .inl (cI, 4, .inl gt)), (v4, .inl (cI, 4, .inl pd)), (v5, .inl (cI, 4, .inl de)), (v6, .inl (cI, 4, .inl us)), (v7, .inl (cI, 4, .inl tm)), (v8, .inl (cB, 18, .inl lt)), (v9, .inl (cI, 4, .inl sv)), (v10, .inl (cI, 24, .inl ke))] sz)) 0 0 (va_A [(vh, .inr (6, [.int mm, .int (nI n), .int tl, .int ho, .ref v0, .ref v1, .ref v2, .ref v3, .ref v4, .ref v5, .ref v6, .int sl, .int hd, .ref v7, .int lo, .int ak, .int (nI k), .ref v8, .int isw, .int nw, .ref v9, .long sn, .int ek, .int em, .int eh, .int es, .int ed, .int el, .ref v10, .long hs])), (v0, .inl (cI, 4, .inl kd)), (v1, .inl (cI, 4, .inl st)), (v2, .inl (cI, 4, .inl co)), (v3, .inl (cI, 4, .inl gt)), (v4, .inl (cI, 4, .inl pd)), (v5, .inl (cI, 4, .inl de)), (v6, .inl (cI, 4, .inl us)), (v7, .inl (cI, 4, .inl tm)), (v8, .inl (cB, 18, .inl lt)), (v9, .inl (cI, 4, .inl sv)), (v10, .inl (cI, 24, .inl ke))] sz) := by
  refine metW (cc := cX6_save) (maxL := 2) (ret := none) (QA := fun A => (QWv D [(vh, .inr (6, [.int mm, .int (nI n), .int tl, .int ho, .ref v0, .ref v1, .ref v2, .ref v3, .ref v4, .ref v5, .ref v6, .int sl, .int hd, .ref v7, .int lo, .int ak, .int (nI k), .ref v8, .int isw, .int nw, .ref v9, .long sn, .int ek, .int em, .int eh, .int es, .int ed, .int el, .ref v10, .long hs])), (v0, .inl (cI, 4, .inl kd)), (v1, .inl (cI, 4, .inl st)), (v2, .inl (cI, 4, .inl co)), (v3, .inl (cI, 4, .inl gt)), (v4, .inl (cI, 4, .inl pd)), (v5, .inl (cI, 4, .inl de)), (v6, .inl (cI, 4, .inl us)), (v7, .inl (cI, 4, .inl tm)), (v8, .inl (cB, 18, .inl lt)), (v9, .inl (cI, 4, .inl st)), (v10, .inl (cI, 24, .inl ke))] A)) RX6 rfl (by decide) rfl (Nat.le_of_ble_eq_true rfl) ?_
  intro p e s m below meth c A hx hb hr hml hown hts hlocks hin hP hK hD hA hS ls hl
  have iwX6 : ∀ w ∈ wsX60, w ∈ wsX6_save := by decide +kernel
  have fk38 := hts (.fieldLink RX6 38 "BuyersWeightsModel" "saved" "[I") (by decide +kernel)
  have fk13 := hts (.fieldLink RX6 13 "BuyersWeightsModel" "weighsOf" "[I") (by decide +kernel)
  have hl : lv_has ls 2 [(0, .ref vh)] := hl
  refine lv_iconst (v := 0) hx hb dX6_save_0 (by decide) ?_
  refine lv_istore_n (lv' := [(1, .int 0), (0, .ref vh)]) hx hb dX6_save_1 rfl hl (by decide) rfl (fun ls hl => ?_)
  refine lv_iload_n hx hb dX6_save_2 rfl (lv_at hl 0 rfl) ?_
  refine lv_iconst (v := 4) hx hb dX6_save_3 (by decide) ?_
  refine lv_icmp_ge (tgt := 25) hx hb dX6_save_4 (by decide) (fun c_1 => absurd c_1 (by decide)) (fun c_1 => ?_)
  refine lv_aload_n hx hb dX6_save_7 rfl (lv_at hl 1 rfl) ?_
  refine va_get (D := D) (ci := 6) (v := .ref v9) (C := RX6) (T := TX6) (N := 30) hx hb hts iwX6 hown hK.1 hP 0 rfl rfl 20 (by decide) fk38 (fun _ h9 => h9) rfl dX6_save_8 ?_
  refine lv_iload_n hx hb dX6_save_11 rfl (lv_at hl 0 rfl) ?_
  refine lv_aload_n hx hb dX6_save_12 rfl (lv_at hl 1 rfl) ?_
  refine va_get (D := D) (ci := 6) (v := .ref v1) (C := RX6) (T := TX6) (N := 30) hx hb hts iwX6 hown hK.1 hP 0 rfl rfl 5 (by decide) fk13 (fun _ h9 => h9) rfl dX6_save_13 ?_
  refine lv_iload_n hx hb dX6_save_16 rfl (lv_at hl 0 rfl) ?_
  refine my_iald hx hb hK hP 2 rfl (j := 0) (ix_nI (j := 0) (by decide) (by decide)) dX6_save_17 ?_
  refine my_iast hx hb hK hP hD hS 10 rfl (j := 0) (ix_nI (j := 0) (by decide) (by decide)) dX6_save_18 (fun H locs hP hD hS => ?_)
  have hP : va_P D vwCl [(vh, .inr (6, [.int mm, .int (nI n), .int tl, .int ho, .ref v0, .ref v1, .ref v2, .ref v3, .ref v4, .ref v5, .ref v6, .int sl, .int hd, .ref v7, .int lo, .int ak, .int (nI k), .ref v8, .int isw, .int nw, .ref v9, .long sn, .int ek, .int em, .int eh, .int es, .int ed, .int el, .ref v10, .long hs])), (v0, .inl (cI, 4, .inl kd)), (v1, .inl (cI, 4, .inl st)), (v2, .inl (cI, 4, .inl co)), (v3, .inl (cI, 4, .inl gt)), (v4, .inl (cI, 4, .inl pd)), (v5, .inl (cI, 4, .inl de)), (v6, .inl (cI, 4, .inl us)), (v7, .inl (cI, 4, .inl tm)), (v8, .inl (cB, 18, .inl lt)), (v9, .inl (cI, 4, .inl (upd sv 0 (st 0)))), (v10, .inl (cI, 24, .inl ke))] H := hP
  have hD : va_D A [(vh, .inr (6, [.int mm, .int (nI n), .int tl, .int ho, .ref v0, .ref v1, .ref v2, .ref v3, .ref v4, .ref v5, .ref v6, .int sl, .int hd, .ref v7, .int lo, .int ak, .int (nI k), .ref v8, .int isw, .int nw, .ref v9, .long sn, .int ek, .int em, .int eh, .int es, .int ed, .int el, .ref v10, .long hs])), (v0, .inl (cI, 4, .inl kd)), (v1, .inl (cI, 4, .inl st)), (v2, .inl (cI, 4, .inl co)), (v3, .inl (cI, 4, .inl gt)), (v4, .inl (cI, 4, .inl pd)), (v5, .inl (cI, 4, .inl de)), (v6, .inl (cI, 4, .inl us)), (v7, .inl (cI, 4, .inl tm)), (v8, .inl (cB, 18, .inl lt)), (v9, .inl (cI, 4, .inl (upd sv 0 (st 0)))), (v10, .inl (cI, 24, .inl ke))] := hD
  refine lv_iinc (v := 1) (lv' := [(1, .int 1), (0, .ref vh)]) hx hb dX6_save_19 hl (k := 0) rfl (by decide) (by decide) rfl (fun ls hl => ?_)
  refine lv_goto (tgt := 2) hx hb dX6_save_22 (by decide) ?_
  refine lv_iload_n hx hb dX6_save_2 rfl (lv_at hl 0 rfl) ?_
  refine lv_iconst (v := 4) hx hb dX6_save_3 (by decide) ?_
  refine lv_icmp_ge (tgt := 25) hx hb dX6_save_4 (by decide) (fun c_2 => absurd c_2 (by decide)) (fun c_2 => ?_)
  refine lv_aload_n hx hb dX6_save_7 rfl (lv_at hl 1 rfl) ?_
  refine va_get (D := D) (ci := 6) (v := .ref v9) (C := RX6) (T := TX6) (N := 30) hx hb hts iwX6 hown hK.1 hP 0 rfl rfl 20 (by decide) fk38 (fun _ h9 => h9) rfl dX6_save_8 ?_
  refine lv_iload_n hx hb dX6_save_11 rfl (lv_at hl 0 rfl) ?_
  refine lv_aload_n hx hb dX6_save_12 rfl (lv_at hl 1 rfl) ?_
  refine va_get (D := D) (ci := 6) (v := .ref v1) (C := RX6) (T := TX6) (N := 30) hx hb hts iwX6 hown hK.1 hP 0 rfl rfl 5 (by decide) fk13 (fun _ h9 => h9) rfl dX6_save_13 ?_
  refine lv_iload_n hx hb dX6_save_16 rfl (lv_at hl 0 rfl) ?_
  refine my_iald hx hb hK hP 2 rfl (j := 1) (ix_nI (j := 1) (by decide) (by decide)) dX6_save_17 ?_
  refine my_iast hx hb hK hP hD hS 10 rfl (j := 1) (ix_nI (j := 1) (by decide) (by decide)) dX6_save_18 (fun H locs hP hD hS => ?_)
  have hP : va_P D vwCl [(vh, .inr (6, [.int mm, .int (nI n), .int tl, .int ho, .ref v0, .ref v1, .ref v2, .ref v3, .ref v4, .ref v5, .ref v6, .int sl, .int hd, .ref v7, .int lo, .int ak, .int (nI k), .ref v8, .int isw, .int nw, .ref v9, .long sn, .int ek, .int em, .int eh, .int es, .int ed, .int el, .ref v10, .long hs])), (v0, .inl (cI, 4, .inl kd)), (v1, .inl (cI, 4, .inl st)), (v2, .inl (cI, 4, .inl co)), (v3, .inl (cI, 4, .inl gt)), (v4, .inl (cI, 4, .inl pd)), (v5, .inl (cI, 4, .inl de)), (v6, .inl (cI, 4, .inl us)), (v7, .inl (cI, 4, .inl tm)), (v8, .inl (cB, 18, .inl lt)), (v9, .inl (cI, 4, .inl (upd (upd sv 0 (st 0)) 1 (st 1)))), (v10, .inl (cI, 24, .inl ke))] H := hP
  have hD : va_D A [(vh, .inr (6, [.int mm, .int (nI n), .int tl, .int ho, .ref v0, .ref v1, .ref v2, .ref v3, .ref v4, .ref v5, .ref v6, .int sl, .int hd, .ref v7, .int lo, .int ak, .int (nI k), .ref v8, .int isw, .int nw, .ref v9, .long sn, .int ek, .int em, .int eh, .int es, .int ed, .int el, .ref v10, .long hs])), (v0, .inl (cI, 4, .inl kd)), (v1, .inl (cI, 4, .inl st)), (v2, .inl (cI, 4, .inl co)), (v3, .inl (cI, 4, .inl gt)), (v4, .inl (cI, 4, .inl pd)), (v5, .inl (cI, 4, .inl de)), (v6, .inl (cI, 4, .inl us)), (v7, .inl (cI, 4, .inl tm)), (v8, .inl (cB, 18, .inl lt)), (v9, .inl (cI, 4, .inl (upd (upd sv 0 (st 0)) 1 (st 1)))), (v10, .inl (cI, 24, .inl ke))] := hD
  refine lv_iinc (v := 2) (lv' := [(1, .int 2), (0, .ref vh)]) hx hb dX6_save_19 hl (k := 0) rfl (by decide) (by decide) rfl (fun ls hl => ?_)
  refine lv_goto (tgt := 2) hx hb dX6_save_22 (by decide) ?_
  refine lv_iload_n hx hb dX6_save_2 rfl (lv_at hl 0 rfl) ?_
  refine lv_iconst (v := 4) hx hb dX6_save_3 (by decide) ?_
  refine lv_icmp_ge (tgt := 25) hx hb dX6_save_4 (by decide) (fun c_3 => absurd c_3 (by decide)) (fun c_3 => ?_)
  refine lv_aload_n hx hb dX6_save_7 rfl (lv_at hl 1 rfl) ?_
  refine va_get (D := D) (ci := 6) (v := .ref v9) (C := RX6) (T := TX6) (N := 30) hx hb hts iwX6 hown hK.1 hP 0 rfl rfl 20 (by decide) fk38 (fun _ h9 => h9) rfl dX6_save_8 ?_
  refine lv_iload_n hx hb dX6_save_11 rfl (lv_at hl 0 rfl) ?_
  refine lv_aload_n hx hb dX6_save_12 rfl (lv_at hl 1 rfl) ?_
  refine va_get (D := D) (ci := 6) (v := .ref v1) (C := RX6) (T := TX6) (N := 30) hx hb hts iwX6 hown hK.1 hP 0 rfl rfl 5 (by decide) fk13 (fun _ h9 => h9) rfl dX6_save_13 ?_
  refine lv_iload_n hx hb dX6_save_16 rfl (lv_at hl 0 rfl) ?_
  refine my_iald hx hb hK hP 2 rfl (j := 2) (ix_nI (j := 2) (by decide) (by decide)) dX6_save_17 ?_
  refine my_iast hx hb hK hP hD hS 10 rfl (j := 2) (ix_nI (j := 2) (by decide) (by decide)) dX6_save_18 (fun H locs hP hD hS => ?_)
  have hP : va_P D vwCl [(vh, .inr (6, [.int mm, .int (nI n), .int tl, .int ho, .ref v0, .ref v1, .ref v2, .ref v3, .ref v4, .ref v5, .ref v6, .int sl, .int hd, .ref v7, .int lo, .int ak, .int (nI k), .ref v8, .int isw, .int nw, .ref v9, .long sn, .int ek, .int em, .int eh, .int es, .int ed, .int el, .ref v10, .long hs])), (v0, .inl (cI, 4, .inl kd)), (v1, .inl (cI, 4, .inl st)), (v2, .inl (cI, 4, .inl co)), (v3, .inl (cI, 4, .inl gt)), (v4, .inl (cI, 4, .inl pd)), (v5, .inl (cI, 4, .inl de)), (v6, .inl (cI, 4, .inl us)), (v7, .inl (cI, 4, .inl tm)), (v8, .inl (cB, 18, .inl lt)), (v9, .inl (cI, 4, .inl (upd (upd (upd sv 0 (st 0)) 1 (st 1)) 2 (st 2)))), (v10, .inl (cI, 24, .inl ke))] H := hP
  have hD : va_D A [(vh, .inr (6, [.int mm, .int (nI n), .int tl, .int ho, .ref v0, .ref v1, .ref v2, .ref v3, .ref v4, .ref v5, .ref v6, .int sl, .int hd, .ref v7, .int lo, .int ak, .int (nI k), .ref v8, .int isw, .int nw, .ref v9, .long sn, .int ek, .int em, .int eh, .int es, .int ed, .int el, .ref v10, .long hs])), (v0, .inl (cI, 4, .inl kd)), (v1, .inl (cI, 4, .inl st)), (v2, .inl (cI, 4, .inl co)), (v3, .inl (cI, 4, .inl gt)), (v4, .inl (cI, 4, .inl pd)), (v5, .inl (cI, 4, .inl de)), (v6, .inl (cI, 4, .inl us)), (v7, .inl (cI, 4, .inl tm)), (v8, .inl (cB, 18, .inl lt)), (v9, .inl (cI, 4, .inl (upd (upd (upd sv 0 (st 0)) 1 (st 1)) 2 (st 2)))), (v10, .inl (cI, 24, .inl ke))] := hD
  refine lv_iinc (v := 3) (lv' := [(1, .int 3), (0, .ref vh)]) hx hb dX6_save_19 hl (k := 0) rfl (by decide) (by decide) rfl (fun ls hl => ?_)
  refine lv_goto (tgt := 2) hx hb dX6_save_22 (by decide) ?_
  refine lv_iload_n hx hb dX6_save_2 rfl (lv_at hl 0 rfl) ?_
  refine lv_iconst (v := 4) hx hb dX6_save_3 (by decide) ?_
  refine lv_icmp_ge (tgt := 25) hx hb dX6_save_4 (by decide) (fun c_4 => absurd c_4 (by decide)) (fun c_4 => ?_)
  refine lv_aload_n hx hb dX6_save_7 rfl (lv_at hl 1 rfl) ?_
  refine va_get (D := D) (ci := 6) (v := .ref v9) (C := RX6) (T := TX6) (N := 30) hx hb hts iwX6 hown hK.1 hP 0 rfl rfl 20 (by decide) fk38 (fun _ h9 => h9) rfl dX6_save_8 ?_
  refine lv_iload_n hx hb dX6_save_11 rfl (lv_at hl 0 rfl) ?_
  refine lv_aload_n hx hb dX6_save_12 rfl (lv_at hl 1 rfl) ?_
  refine va_get (D := D) (ci := 6) (v := .ref v1) (C := RX6) (T := TX6) (N := 30) hx hb hts iwX6 hown hK.1 hP 0 rfl rfl 5 (by decide) fk13 (fun _ h9 => h9) rfl dX6_save_13 ?_
  refine lv_iload_n hx hb dX6_save_16 rfl (lv_at hl 0 rfl) ?_
  refine my_iald hx hb hK hP 2 rfl (j := 3) (ix_nI (j := 3) (by decide) (by decide)) dX6_save_17 ?_
  refine my_iast hx hb hK hP hD hS 10 rfl (j := 3) (ix_nI (j := 3) (by decide) (by decide)) dX6_save_18 (fun H locs hP hD hS => ?_)
  have hP : va_P D vwCl [(vh, .inr (6, [.int mm, .int (nI n), .int tl, .int ho, .ref v0, .ref v1, .ref v2, .ref v3, .ref v4, .ref v5, .ref v6, .int sl, .int hd, .ref v7, .int lo, .int ak, .int (nI k), .ref v8, .int isw, .int nw, .ref v9, .long sn, .int ek, .int em, .int eh, .int es, .int ed, .int el, .ref v10, .long hs])), (v0, .inl (cI, 4, .inl kd)), (v1, .inl (cI, 4, .inl st)), (v2, .inl (cI, 4, .inl co)), (v3, .inl (cI, 4, .inl gt)), (v4, .inl (cI, 4, .inl pd)), (v5, .inl (cI, 4, .inl de)), (v6, .inl (cI, 4, .inl us)), (v7, .inl (cI, 4, .inl tm)), (v8, .inl (cB, 18, .inl lt)), (v9, .inl (cI, 4, .inl (upd (upd (upd (upd sv 0 (st 0)) 1 (st 1)) 2 (st 2)) 3 (st 3)))), (v10, .inl (cI, 24, .inl ke))] H := hP
  have hD : va_D A [(vh, .inr (6, [.int mm, .int (nI n), .int tl, .int ho, .ref v0, .ref v1, .ref v2, .ref v3, .ref v4, .ref v5, .ref v6, .int sl, .int hd, .ref v7, .int lo, .int ak, .int (nI k), .ref v8, .int isw, .int nw, .ref v9, .long sn, .int ek, .int em, .int eh, .int es, .int ed, .int el, .ref v10, .long hs])), (v0, .inl (cI, 4, .inl kd)), (v1, .inl (cI, 4, .inl st)), (v2, .inl (cI, 4, .inl co)), (v3, .inl (cI, 4, .inl gt)), (v4, .inl (cI, 4, .inl pd)), (v5, .inl (cI, 4, .inl de)), (v6, .inl (cI, 4, .inl us)), (v7, .inl (cI, 4, .inl tm)), (v8, .inl (cB, 18, .inl lt)), (v9, .inl (cI, 4, .inl (upd (upd (upd (upd sv 0 (st 0)) 1 (st 1)) 2 (st 2)) 3 (st 3)))), (v10, .inl (cI, 24, .inl ke))] := hD
  refine lv_iinc (v := 4) (lv' := [(1, .int 4), (0, .ref vh)]) hx hb dX6_save_19 hl (k := 0) rfl (by decide) (by decide) rfl (fun ls hl => ?_)
  refine lv_goto (tgt := 2) hx hb dX6_save_22 (by decide) ?_
  refine lv_iload_n hx hb dX6_save_2 rfl (lv_at hl 0 rfl) ?_
  refine lv_iconst (v := 4) hx hb dX6_save_3 (by decide) ?_
  refine lv_icmp_ge (tgt := 25) hx hb dX6_save_4 (by decide) (fun c_5 => ?_) (fun c_5 => absurd c_5 (by decide))
  have hP := va_P.arr (g := st) hP 10 rfl (fun j hj => co_4 (P := fun j => (upd (upd (upd (upd sv 0 (st 0)) 1 (st 1)) 2 (st 2)) 3 (st 3)) j = st j) rfl rfl rfl rfl hj)
  have hD := va_D.set (p := 10) (e := .inl (cI, 4, .inl st)) hD rfl
  have hP : va_P D vwCl [(vh, .inr (6, [.int mm, .int (nI n), .int tl, .int ho, .ref v0, .ref v1, .ref v2, .ref v3, .ref v4, .ref v5, .ref v6, .int sl, .int hd, .ref v7, .int lo, .int ak, .int (nI k), .ref v8, .int isw, .int nw, .ref v9, .long sn, .int ek, .int em, .int eh, .int es, .int ed, .int el, .ref v10, .long hs])), (v0, .inl (cI, 4, .inl kd)), (v1, .inl (cI, 4, .inl st)), (v2, .inl (cI, 4, .inl co)), (v3, .inl (cI, 4, .inl gt)), (v4, .inl (cI, 4, .inl pd)), (v5, .inl (cI, 4, .inl de)), (v6, .inl (cI, 4, .inl us)), (v7, .inl (cI, 4, .inl tm)), (v8, .inl (cB, 18, .inl lt)), (v9, .inl (cI, 4, .inl st)), (v10, .inl (cI, 24, .inl ke))] H := hP
  have hD : va_D A [(vh, .inr (6, [.int mm, .int (nI n), .int tl, .int ho, .ref v0, .ref v1, .ref v2, .ref v3, .ref v4, .ref v5, .ref v6, .int sl, .int hd, .ref v7, .int lo, .int ak, .int (nI k), .ref v8, .int isw, .int nw, .ref v9, .long sn, .int ek, .int em, .int eh, .int es, .int ed, .int el, .ref v10, .long hs])), (v0, .inl (cI, 4, .inl kd)), (v1, .inl (cI, 4, .inl st)), (v2, .inl (cI, 4, .inl co)), (v3, .inl (cI, 4, .inl gt)), (v4, .inl (cI, 4, .inl pd)), (v5, .inl (cI, 4, .inl de)), (v6, .inl (cI, 4, .inl us)), (v7, .inl (cI, 4, .inl tm)), (v8, .inl (cB, 18, .inl lt)), (v9, .inl (cI, 4, .inl st)), (v10, .inl (cI, 24, .inl ke))] := hD
  exact retWv (u := ()) hx hb hr hlocks trivial hP hD hS dX6_save_25
set_option maxHeartbeats 4000000 in
set_option maxRecDepth 100000 in
theorem c_X6_load (l : Launch) (D : va_G) (cB cC cI : ClassId) (vh : Nat) (v0 : Nat) (v1 : Nat) (v2 : Nat) (v3 : Nat) (v4 : Nat) (v5 : Nat) (v6 : Nat) (v7 : Nat) (v8 : Nat) (v9 : Nat) (v10 : Nat) (kd : Nat → Int32) (st : Nat → Int32) (co : Nat → Int32) (gt : Nat → Int32) (pd : Nat → Int32) (de : Nat → Int32) (us : Nat → Int32) (tm : Nat → Int32) (lt : Nat → Int32) (sv : Nat → Int32) (ke : Nat → Int32) (mm : Int32) (n : Nat) (tl : Int32) (ho : Int32) (sl : Int32) (hd : Int32) (lo : Int32) (ak : Int32) (k : Nat) (isw : Int32) (nw : Int32) (sn : Int64) (ek : Int32) (em : Int32) (eh : Int32) (es : Int32) (ed : Int32) (el : Int32) (hs : Int64) (sz : Nat)  : Met l yX6_load wsX6_load ({ frames := 0, cells := 0, slots := 0, locals := 0 }) (gPw D cB cC cI [.ref vh] [(vh, .inr (6, [.int mm, .int (nI n), .int tl, .int ho, .ref v0, .ref v1, .ref v2, .ref v3, .ref v4, .ref v5, .ref v6, .int sl, .int hd, .ref v7, .int lo, .int ak, .int (nI k), .ref v8, .int isw, .int nw, .ref v9, .long sn, .int ek, .int em, .int eh, .int es, .int ed, .int el, .ref v10, .long hs])), (v0, .inl (cI, 4, .inl kd)), (v1, .inl (cI, 4, .inl st)), (v2, .inl (cI, 4, .inl co)), (v3, .inl (cI, 4, .inl gt)), (v4, .inl (cI, 4, .inl pd)), (v5, .inl (cI, 4, .inl de)), (v6, .inl (cI, 4, .inl us)), (v7, .inl (cI, 4, .inl tm)), (v8, .inl (cB, 18, .inl lt)), (v9, .inl (cI, 4, .inl sv)), (v10, .inl (cI, 24, .inl ke))] sz) (QWv D [(vh, .inr (6, [.int mm, .int (nI n), .int tl, .int ho, .ref v0, .ref v1, .ref v2, .ref v3, .ref v4, .ref v5, .ref v6, .int sl, .int hd, .ref v7, .int lo, .int ak, .int (nI k), .ref v8, .int isw, .int nw, .ref v9, .long sn, .int ek, .int em, .int eh, .int es, .int ed, .int el, .ref v10, .long hs])), (v0, .inl (cI, 4, .inl kd)), (v1, .inl (cI, 4, .inl sv)), (v2, .inl (cI, 4, .inl co)), (v3, .inl (cI, 4, .inl gt)), (v4, .inl (cI, 4, .inl pd)), (v5, .inl (cI, 4, .inl de)), (v6, .inl (cI, 4, .inl us)), (v7, .inl (cI, 4, .inl tm)), (v8, .inl (cB, 18, .inl lt)), (v9, .inl (cI, 4, .inl sv)), (v10, .inl (cI, 24, .inl ke))] (va_A [(vh, .inr (6, [.int mm, .int (nI n), .int tl, .int ho, .ref v0, .ref v1, .ref v2, .ref v3, .ref v4, .ref v5, .ref v6, .int sl, .int hd, .ref v7, .int lo, .int ak, .int (nI k), .ref v8, .int isw, .int nw, .ref v9, .long sn, .int ek, .int em, .int eh, .int es, .int ed, .int el, .ref v10, .long hs])), (v0, .inl (cI, 4, .inl kd)), (v1, .inl (cI, 4, .inl st)), (v2, .inl (cI, 4, .inl co)), (v3, .inl (cI, 4, .inl gt)), (v4, .inl (cI, 4, .inl pd)), (v5, .inl (cI, 4, .inl de)), (v6, .inl (cI, 4, .inl us)), (v7, .inl (cI, 4, .inl tm)), (v8, .inl (cB, 18, .inl lt)), (v9, .inl (cI, 4, .inl sv)), (v10, .inl (cI, 24, .inl ke))] sz)) 0 0 (va_A [(vh, .inr (6, [.int mm, .int (nI n), .int tl, .int ho, .ref v0, .ref v1, .ref v2, .ref v3, .ref v4, .ref v5, .ref v6, .int sl, .int hd, .ref v7, .int lo, .int ak, .int (nI k), .ref v8, .int isw, .int nw, .ref v9, .long sn, .int ek, .int em, .int eh, .int es, .int ed, .int el, .ref v10, .long hs])), (v0, .inl (cI, 4, .inl kd)), (v1, .inl (cI, 4, .inl st)), (v2, .inl (cI, 4, .inl co)), (v3, .inl (cI, 4, .inl gt)), (v4, .inl (cI, 4, .inl pd)), (v5, .inl (cI, 4, .inl de)), (v6, .inl (cI, 4, .inl us)), (v7, .inl (cI, 4, .inl tm)), (v8, .inl (cB, 18, .inl lt)), (v9, .inl (cI, 4, .inl sv)), (v10, .inl (cI, 24, .inl ke))] sz) := by
  refine metW (cc := cX6_load) (maxL := 2) (ret := none) (QA := fun A => (QWv D [(vh, .inr (6, [.int mm, .int (nI n), .int tl, .int ho, .ref v0, .ref v1, .ref v2, .ref v3, .ref v4, .ref v5, .ref v6, .int sl, .int hd, .ref v7, .int lo, .int ak, .int (nI k), .ref v8, .int isw, .int nw, .ref v9, .long sn, .int ek, .int em, .int eh, .int es, .int ed, .int el, .ref v10, .long hs])), (v0, .inl (cI, 4, .inl kd)), (v1, .inl (cI, 4, .inl sv)), (v2, .inl (cI, 4, .inl co)), (v3, .inl (cI, 4, .inl gt)), (v4, .inl (cI, 4, .inl pd)), (v5, .inl (cI, 4, .inl de)), (v6, .inl (cI, 4, .inl us)), (v7, .inl (cI, 4, .inl tm)), (v8, .inl (cB, 18, .inl lt)), (v9, .inl (cI, 4, .inl sv)), (v10, .inl (cI, 24, .inl ke))] A)) RX6 rfl (by decide) rfl (Nat.le_of_ble_eq_true rfl) ?_
  intro p e s m below meth c A hx hb hr hml hown hts hlocks hin hP hK hD hA hS ls hl
  have iwX6 : ∀ w ∈ wsX60, w ∈ wsX6_load := by decide +kernel
  have fk13 := hts (.fieldLink RX6 13 "BuyersWeightsModel" "weighsOf" "[I") (by decide +kernel)
  have fk38 := hts (.fieldLink RX6 38 "BuyersWeightsModel" "saved" "[I") (by decide +kernel)
  have hl : lv_has ls 2 [(0, .ref vh)] := hl
  refine lv_iconst (v := 0) hx hb dX6_load_0 (by decide) ?_
  refine lv_istore_n (lv' := [(1, .int 0), (0, .ref vh)]) hx hb dX6_load_1 rfl hl (by decide) rfl (fun ls hl => ?_)
  refine lv_iload_n hx hb dX6_load_2 rfl (lv_at hl 0 rfl) ?_
  refine lv_iconst (v := 4) hx hb dX6_load_3 (by decide) ?_
  refine lv_icmp_ge (tgt := 25) hx hb dX6_load_4 (by decide) (fun c_1 => absurd c_1 (by decide)) (fun c_1 => ?_)
  refine lv_aload_n hx hb dX6_load_7 rfl (lv_at hl 1 rfl) ?_
  refine va_get (D := D) (ci := 6) (v := .ref v1) (C := RX6) (T := TX6) (N := 30) hx hb hts iwX6 hown hK.1 hP 0 rfl rfl 5 (by decide) fk13 (fun _ h9 => h9) rfl dX6_load_8 ?_
  refine lv_iload_n hx hb dX6_load_11 rfl (lv_at hl 0 rfl) ?_
  refine lv_aload_n hx hb dX6_load_12 rfl (lv_at hl 1 rfl) ?_
  refine va_get (D := D) (ci := 6) (v := .ref v9) (C := RX6) (T := TX6) (N := 30) hx hb hts iwX6 hown hK.1 hP 0 rfl rfl 20 (by decide) fk38 (fun _ h9 => h9) rfl dX6_load_13 ?_
  refine lv_iload_n hx hb dX6_load_16 rfl (lv_at hl 0 rfl) ?_
  refine my_iald hx hb hK hP 10 rfl (j := 0) (ix_nI (j := 0) (by decide) (by decide)) dX6_load_17 ?_
  refine my_iast hx hb hK hP hD hS 2 rfl (j := 0) (ix_nI (j := 0) (by decide) (by decide)) dX6_load_18 (fun H locs hP hD hS => ?_)
  have hP : va_P D vwCl [(vh, .inr (6, [.int mm, .int (nI n), .int tl, .int ho, .ref v0, .ref v1, .ref v2, .ref v3, .ref v4, .ref v5, .ref v6, .int sl, .int hd, .ref v7, .int lo, .int ak, .int (nI k), .ref v8, .int isw, .int nw, .ref v9, .long sn, .int ek, .int em, .int eh, .int es, .int ed, .int el, .ref v10, .long hs])), (v0, .inl (cI, 4, .inl kd)), (v1, .inl (cI, 4, .inl (upd st 0 (sv 0)))), (v2, .inl (cI, 4, .inl co)), (v3, .inl (cI, 4, .inl gt)), (v4, .inl (cI, 4, .inl pd)), (v5, .inl (cI, 4, .inl de)), (v6, .inl (cI, 4, .inl us)), (v7, .inl (cI, 4, .inl tm)), (v8, .inl (cB, 18, .inl lt)), (v9, .inl (cI, 4, .inl sv)), (v10, .inl (cI, 24, .inl ke))] H := hP
  have hD : va_D A [(vh, .inr (6, [.int mm, .int (nI n), .int tl, .int ho, .ref v0, .ref v1, .ref v2, .ref v3, .ref v4, .ref v5, .ref v6, .int sl, .int hd, .ref v7, .int lo, .int ak, .int (nI k), .ref v8, .int isw, .int nw, .ref v9, .long sn, .int ek, .int em, .int eh, .int es, .int ed, .int el, .ref v10, .long hs])), (v0, .inl (cI, 4, .inl kd)), (v1, .inl (cI, 4, .inl (upd st 0 (sv 0)))), (v2, .inl (cI, 4, .inl co)), (v3, .inl (cI, 4, .inl gt)), (v4, .inl (cI, 4, .inl pd)), (v5, .inl (cI, 4, .inl de)), (v6, .inl (cI, 4, .inl us)), (v7, .inl (cI, 4, .inl tm)), (v8, .inl (cB, 18, .inl lt)), (v9, .inl (cI, 4, .inl sv)), (v10, .inl (cI, 24, .inl ke))] := hD
  refine lv_iinc (v := 1) (lv' := [(1, .int 1), (0, .ref vh)]) hx hb dX6_load_19 hl (k := 0) rfl (by decide) (by decide) rfl (fun ls hl => ?_)
  refine lv_goto (tgt := 2) hx hb dX6_load_22 (by decide) ?_
  refine lv_iload_n hx hb dX6_load_2 rfl (lv_at hl 0 rfl) ?_
  refine lv_iconst (v := 4) hx hb dX6_load_3 (by decide) ?_
  refine lv_icmp_ge (tgt := 25) hx hb dX6_load_4 (by decide) (fun c_2 => absurd c_2 (by decide)) (fun c_2 => ?_)
  refine lv_aload_n hx hb dX6_load_7 rfl (lv_at hl 1 rfl) ?_
  refine va_get (D := D) (ci := 6) (v := .ref v1) (C := RX6) (T := TX6) (N := 30) hx hb hts iwX6 hown hK.1 hP 0 rfl rfl 5 (by decide) fk13 (fun _ h9 => h9) rfl dX6_load_8 ?_
  refine lv_iload_n hx hb dX6_load_11 rfl (lv_at hl 0 rfl) ?_
  refine lv_aload_n hx hb dX6_load_12 rfl (lv_at hl 1 rfl) ?_
  refine va_get (D := D) (ci := 6) (v := .ref v9) (C := RX6) (T := TX6) (N := 30) hx hb hts iwX6 hown hK.1 hP 0 rfl rfl 20 (by decide) fk38 (fun _ h9 => h9) rfl dX6_load_13 ?_
  refine lv_iload_n hx hb dX6_load_16 rfl (lv_at hl 0 rfl) ?_
  refine my_iald hx hb hK hP 10 rfl (j := 1) (ix_nI (j := 1) (by decide) (by decide)) dX6_load_17 ?_
  refine my_iast hx hb hK hP hD hS 2 rfl (j := 1) (ix_nI (j := 1) (by decide) (by decide)) dX6_load_18 (fun H locs hP hD hS => ?_)
  have hP : va_P D vwCl [(vh, .inr (6, [.int mm, .int (nI n), .int tl, .int ho, .ref v0, .ref v1, .ref v2, .ref v3, .ref v4, .ref v5, .ref v6, .int sl, .int hd, .ref v7, .int lo, .int ak, .int (nI k), .ref v8, .int isw, .int nw, .ref v9, .long sn, .int ek, .int em, .int eh, .int es, .int ed, .int el, .ref v10, .long hs])), (v0, .inl (cI, 4, .inl kd)), (v1, .inl (cI, 4, .inl (upd (upd st 0 (sv 0)) 1 (sv 1)))), (v2, .inl (cI, 4, .inl co)), (v3, .inl (cI, 4, .inl gt)), (v4, .inl (cI, 4, .inl pd)), (v5, .inl (cI, 4, .inl de)), (v6, .inl (cI, 4, .inl us)), (v7, .inl (cI, 4, .inl tm)), (v8, .inl (cB, 18, .inl lt)), (v9, .inl (cI, 4, .inl sv)), (v10, .inl (cI, 24, .inl ke))] H := hP
  have hD : va_D A [(vh, .inr (6, [.int mm, .int (nI n), .int tl, .int ho, .ref v0, .ref v1, .ref v2, .ref v3, .ref v4, .ref v5, .ref v6, .int sl, .int hd, .ref v7, .int lo, .int ak, .int (nI k), .ref v8, .int isw, .int nw, .ref v9, .long sn, .int ek, .int em, .int eh, .int es, .int ed, .int el, .ref v10, .long hs])), (v0, .inl (cI, 4, .inl kd)), (v1, .inl (cI, 4, .inl (upd (upd st 0 (sv 0)) 1 (sv 1)))), (v2, .inl (cI, 4, .inl co)), (v3, .inl (cI, 4, .inl gt)), (v4, .inl (cI, 4, .inl pd)), (v5, .inl (cI, 4, .inl de)), (v6, .inl (cI, 4, .inl us)), (v7, .inl (cI, 4, .inl tm)), (v8, .inl (cB, 18, .inl lt)), (v9, .inl (cI, 4, .inl sv)), (v10, .inl (cI, 24, .inl ke))] := hD
  refine lv_iinc (v := 2) (lv' := [(1, .int 2), (0, .ref vh)]) hx hb dX6_load_19 hl (k := 0) rfl (by decide) (by decide) rfl (fun ls hl => ?_)
  refine lv_goto (tgt := 2) hx hb dX6_load_22 (by decide) ?_
  refine lv_iload_n hx hb dX6_load_2 rfl (lv_at hl 0 rfl) ?_
  refine lv_iconst (v := 4) hx hb dX6_load_3 (by decide) ?_
  refine lv_icmp_ge (tgt := 25) hx hb dX6_load_4 (by decide) (fun c_3 => absurd c_3 (by decide)) (fun c_3 => ?_)
  refine lv_aload_n hx hb dX6_load_7 rfl (lv_at hl 1 rfl) ?_
  refine va_get (D := D) (ci := 6) (v := .ref v1) (C := RX6) (T := TX6) (N := 30) hx hb hts iwX6 hown hK.1 hP 0 rfl rfl 5 (by decide) fk13 (fun _ h9 => h9) rfl dX6_load_8 ?_
  refine lv_iload_n hx hb dX6_load_11 rfl (lv_at hl 0 rfl) ?_
  refine lv_aload_n hx hb dX6_load_12 rfl (lv_at hl 1 rfl) ?_
  refine va_get (D := D) (ci := 6) (v := .ref v9) (C := RX6) (T := TX6) (N := 30) hx hb hts iwX6 hown hK.1 hP 0 rfl rfl 20 (by decide) fk38 (fun _ h9 => h9) rfl dX6_load_13 ?_
  refine lv_iload_n hx hb dX6_load_16 rfl (lv_at hl 0 rfl) ?_
  refine my_iald hx hb hK hP 10 rfl (j := 2) (ix_nI (j := 2) (by decide) (by decide)) dX6_load_17 ?_
  refine my_iast hx hb hK hP hD hS 2 rfl (j := 2) (ix_nI (j := 2) (by decide) (by decide)) dX6_load_18 (fun H locs hP hD hS => ?_)
  have hP : va_P D vwCl [(vh, .inr (6, [.int mm, .int (nI n), .int tl, .int ho, .ref v0, .ref v1, .ref v2, .ref v3, .ref v4, .ref v5, .ref v6, .int sl, .int hd, .ref v7, .int lo, .int ak, .int (nI k), .ref v8, .int isw, .int nw, .ref v9, .long sn, .int ek, .int em, .int eh, .int es, .int ed, .int el, .ref v10, .long hs])), (v0, .inl (cI, 4, .inl kd)), (v1, .inl (cI, 4, .inl (upd (upd (upd st 0 (sv 0)) 1 (sv 1)) 2 (sv 2)))), (v2, .inl (cI, 4, .inl co)), (v3, .inl (cI, 4, .inl gt)), (v4, .inl (cI, 4, .inl pd)), (v5, .inl (cI, 4, .inl de)), (v6, .inl (cI, 4, .inl us)), (v7, .inl (cI, 4, .inl tm)), (v8, .inl (cB, 18, .inl lt)), (v9, .inl (cI, 4, .inl sv)), (v10, .inl (cI, 24, .inl ke))] H := hP
  have hD : va_D A [(vh, .inr (6, [.int mm, .int (nI n), .int tl, .int ho, .ref v0, .ref v1, .ref v2, .ref v3, .ref v4, .ref v5, .ref v6, .int sl, .int hd, .ref v7, .int lo, .int ak, .int (nI k), .ref v8, .int isw, .int nw, .ref v9, .long sn, .int ek, .int em, .int eh, .int es, .int ed, .int el, .ref v10, .long hs])), (v0, .inl (cI, 4, .inl kd)), (v1, .inl (cI, 4, .inl (upd (upd (upd st 0 (sv 0)) 1 (sv 1)) 2 (sv 2)))), (v2, .inl (cI, 4, .inl co)), (v3, .inl (cI, 4, .inl gt)), (v4, .inl (cI, 4, .inl pd)), (v5, .inl (cI, 4, .inl de)), (v6, .inl (cI, 4, .inl us)), (v7, .inl (cI, 4, .inl tm)), (v8, .inl (cB, 18, .inl lt)), (v9, .inl (cI, 4, .inl sv)), (v10, .inl (cI, 24, .inl ke))] := hD
  refine lv_iinc (v := 3) (lv' := [(1, .int 3), (0, .ref vh)]) hx hb dX6_load_19 hl (k := 0) rfl (by decide) (by decide) rfl (fun ls hl => ?_)
  refine lv_goto (tgt := 2) hx hb dX6_load_22 (by decide) ?_
  refine lv_iload_n hx hb dX6_load_2 rfl (lv_at hl 0 rfl) ?_
  refine lv_iconst (v := 4) hx hb dX6_load_3 (by decide) ?_
  refine lv_icmp_ge (tgt := 25) hx hb dX6_load_4 (by decide) (fun c_4 => absurd c_4 (by decide)) (fun c_4 => ?_)
  refine lv_aload_n hx hb dX6_load_7 rfl (lv_at hl 1 rfl) ?_
  refine va_get (D := D) (ci := 6) (v := .ref v1) (C := RX6) (T := TX6) (N := 30) hx hb hts iwX6 hown hK.1 hP 0 rfl rfl 5 (by decide) fk13 (fun _ h9 => h9) rfl dX6_load_8 ?_
  refine lv_iload_n hx hb dX6_load_11 rfl (lv_at hl 0 rfl) ?_
  refine lv_aload_n hx hb dX6_load_12 rfl (lv_at hl 1 rfl) ?_
  refine va_get (D := D) (ci := 6) (v := .ref v9) (C := RX6) (T := TX6) (N := 30) hx hb hts iwX6 hown hK.1 hP 0 rfl rfl 20 (by decide) fk38 (fun _ h9 => h9) rfl dX6_load_13 ?_
  refine lv_iload_n hx hb dX6_load_16 rfl (lv_at hl 0 rfl) ?_
  refine my_iald hx hb hK hP 10 rfl (j := 3) (ix_nI (j := 3) (by decide) (by decide)) dX6_load_17 ?_
  refine my_iast hx hb hK hP hD hS 2 rfl (j := 3) (ix_nI (j := 3) (by decide) (by decide)) dX6_load_18 (fun H locs hP hD hS => ?_)
  have hP : va_P D vwCl [(vh, .inr (6, [.int mm, .int (nI n), .int tl, .int ho, .ref v0, .ref v1, .ref v2, .ref v3, .ref v4, .ref v5, .ref v6, .int sl, .int hd, .ref v7, .int lo, .int ak, .int (nI k), .ref v8, .int isw, .int nw, .ref v9, .long sn, .int ek, .int em, .int eh, .int es, .int ed, .int el, .ref v10, .long hs])), (v0, .inl (cI, 4, .inl kd)), (v1, .inl (cI, 4, .inl (upd (upd (upd (upd st 0 (sv 0)) 1 (sv 1)) 2 (sv 2)) 3 (sv 3)))), (v2, .inl (cI, 4, .inl co)), (v3, .inl (cI, 4, .inl gt)), (v4, .inl (cI, 4, .inl pd)), (v5, .inl (cI, 4, .inl de)), (v6, .inl (cI, 4, .inl us)), (v7, .inl (cI, 4, .inl tm)), (v8, .inl (cB, 18, .inl lt)), (v9, .inl (cI, 4, .inl sv)), (v10, .inl (cI, 24, .inl ke))] H := hP
  have hD : va_D A [(vh, .inr (6, [.int mm, .int (nI n), .int tl, .int ho, .ref v0, .ref v1, .ref v2, .ref v3, .ref v4, .ref v5, .ref v6, .int sl, .int hd, .ref v7, .int lo, .int ak, .int (nI k), .ref v8, .int isw, .int nw, .ref v9, .long sn, .int ek, .int em, .int eh, .int es, .int ed, .int el, .ref v10, .long hs])), (v0, .inl (cI, 4, .inl kd)), (v1, .inl (cI, 4, .inl (upd (upd (upd (upd st 0 (sv 0)) 1 (sv 1)) 2 (sv 2)) 3 (sv 3)))), (v2, .inl (cI, 4, .inl co)), (v3, .inl (cI, 4, .inl gt)), (v4, .inl (cI, 4, .inl pd)), (v5, .inl (cI, 4, .inl de)), (v6, .inl (cI, 4, .inl us)), (v7, .inl (cI, 4, .inl tm)), (v8, .inl (cB, 18, .inl lt)), (v9, .inl (cI, 4, .inl sv)), (v10, .inl (cI, 24, .inl ke))] := hD
  refine lv_iinc (v := 4) (lv' := [(1, .int 4), (0, .ref vh)]) hx hb dX6_load_19 hl (k := 0) rfl (by decide) (by decide) rfl (fun ls hl => ?_)
  refine lv_goto (tgt := 2) hx hb dX6_load_22 (by decide) ?_
  refine lv_iload_n hx hb dX6_load_2 rfl (lv_at hl 0 rfl) ?_
  refine lv_iconst (v := 4) hx hb dX6_load_3 (by decide) ?_
  refine lv_icmp_ge (tgt := 25) hx hb dX6_load_4 (by decide) (fun c_5 => ?_) (fun c_5 => absurd c_5 (by decide))
  have hP := va_P.arr (g := sv) hP 2 rfl (fun j hj => co_4 (P := fun j => (upd (upd (upd (upd st 0 (sv 0)) 1 (sv 1)) 2 (sv 2)) 3 (sv 3)) j = sv j) rfl rfl rfl rfl hj)
  have hD := va_D.set (p := 2) (e := .inl (cI, 4, .inl sv)) hD rfl
  have hP : va_P D vwCl [(vh, .inr (6, [.int mm, .int (nI n), .int tl, .int ho, .ref v0, .ref v1, .ref v2, .ref v3, .ref v4, .ref v5, .ref v6, .int sl, .int hd, .ref v7, .int lo, .int ak, .int (nI k), .ref v8, .int isw, .int nw, .ref v9, .long sn, .int ek, .int em, .int eh, .int es, .int ed, .int el, .ref v10, .long hs])), (v0, .inl (cI, 4, .inl kd)), (v1, .inl (cI, 4, .inl sv)), (v2, .inl (cI, 4, .inl co)), (v3, .inl (cI, 4, .inl gt)), (v4, .inl (cI, 4, .inl pd)), (v5, .inl (cI, 4, .inl de)), (v6, .inl (cI, 4, .inl us)), (v7, .inl (cI, 4, .inl tm)), (v8, .inl (cB, 18, .inl lt)), (v9, .inl (cI, 4, .inl sv)), (v10, .inl (cI, 24, .inl ke))] H := hP
  have hD : va_D A [(vh, .inr (6, [.int mm, .int (nI n), .int tl, .int ho, .ref v0, .ref v1, .ref v2, .ref v3, .ref v4, .ref v5, .ref v6, .int sl, .int hd, .ref v7, .int lo, .int ak, .int (nI k), .ref v8, .int isw, .int nw, .ref v9, .long sn, .int ek, .int em, .int eh, .int es, .int ed, .int el, .ref v10, .long hs])), (v0, .inl (cI, 4, .inl kd)), (v1, .inl (cI, 4, .inl sv)), (v2, .inl (cI, 4, .inl co)), (v3, .inl (cI, 4, .inl gt)), (v4, .inl (cI, 4, .inl pd)), (v5, .inl (cI, 4, .inl de)), (v6, .inl (cI, 4, .inl us)), (v7, .inl (cI, 4, .inl tm)), (v8, .inl (cB, 18, .inl lt)), (v9, .inl (cI, 4, .inl sv)), (v10, .inl (cI, 24, .inl ke))] := hD
  exact retWv (u := ()) hx hb hr hlocks trivial hP hD hS dX6_load_25
def f_X6_pass (tm : Nat → Int32) (n : Nat) (hd : Int32) (b : Int32) : Int32 × Int32 × (Nat → Int32) := if (f_X6_within b 0 ((nI n) - 1)) = 0 then ((-101), hd, tm) else if hd = 8 then ((-104), hd, tm) else (hd + 1, hd + 1, upd tm b.toNatClampNeg ((tm b.toNatClampNeg) + 1))
set_option maxHeartbeats 4000000 in
set_option maxRecDepth 100000 in
theorem c_X6_pass (l : Launch) (D : va_G) (cB cC cI : ClassId) (vh : Nat) (v0 : Nat) (v1 : Nat) (v2 : Nat) (v3 : Nat) (v4 : Nat) (v5 : Nat) (v6 : Nat) (v7 : Nat) (v8 : Nat) (v9 : Nat) (v10 : Nat) (kd : Nat → Int32) (st : Nat → Int32) (co : Nat → Int32) (gt : Nat → Int32) (pd : Nat → Int32) (de : Nat → Int32) (us : Nat → Int32) (tm : Nat → Int32) (lt : Nat → Int32) (sv : Nat → Int32) (ke : Nat → Int32) (mm : Int32) (n : Nat) (tl : Int32) (ho : Int32) (sl : Int32) (hd : Int32) (lo : Int32) (ak : Int32) (k : Nat) (isw : Int32) (nw : Int32) (sn : Int64) (ek : Int32) (em : Int32) (eh : Int32) (es : Int32) (ed : Int32) (el : Int32) (hs : Int64) (b : Int32) (sz : Nat) (hn : n ≤ 4) : Met l yX6_pass wsX6_pass ({ frames := 2, cells := 0, slots := 0, locals := 43 }) (gPw D cB cC cI [.ref vh, .int b] [(vh, .inr (6, [.int mm, .int (nI n), .int tl, .int ho, .ref v0, .ref v1, .ref v2, .ref v3, .ref v4, .ref v5, .ref v6, .int sl, .int hd, .ref v7, .int lo, .int ak, .int (nI k), .ref v8, .int isw, .int nw, .ref v9, .long sn, .int ek, .int em, .int eh, .int es, .int ed, .int el, .ref v10, .long hs])), (v0, .inl (cI, 4, .inl kd)), (v1, .inl (cI, 4, .inl st)), (v2, .inl (cI, 4, .inl co)), (v3, .inl (cI, 4, .inl gt)), (v4, .inl (cI, 4, .inl pd)), (v5, .inl (cI, 4, .inl de)), (v6, .inl (cI, 4, .inl us)), (v7, .inl (cI, 4, .inl tm)), (v8, .inl (cB, 18, .inl lt)), (v9, .inl (cI, 4, .inl sv)), (v10, .inl (cI, 24, .inl ke))] sz) (QWi D ((f_X6_pass tm n hd b).1) [(vh, .inr (6, [.int mm, .int (nI n), .int tl, .int ho, .ref v0, .ref v1, .ref v2, .ref v3, .ref v4, .ref v5, .ref v6, .int sl, .int ((f_X6_pass tm n hd b).2.1), .ref v7, .int lo, .int ak, .int (nI k), .ref v8, .int isw, .int nw, .ref v9, .long sn, .int ek, .int em, .int eh, .int es, .int ed, .int el, .ref v10, .long hs])), (v0, .inl (cI, 4, .inl kd)), (v1, .inl (cI, 4, .inl st)), (v2, .inl (cI, 4, .inl co)), (v3, .inl (cI, 4, .inl gt)), (v4, .inl (cI, 4, .inl pd)), (v5, .inl (cI, 4, .inl de)), (v6, .inl (cI, 4, .inl us)), (v7, .inl (cI, 4, .inl ((f_X6_pass tm n hd b).2.2))), (v8, .inl (cB, 18, .inl lt)), (v9, .inl (cI, 4, .inl sv)), (v10, .inl (cI, 24, .inl ke))] (va_A [(vh, .inr (6, [.int mm, .int (nI n), .int tl, .int ho, .ref v0, .ref v1, .ref v2, .ref v3, .ref v4, .ref v5, .ref v6, .int sl, .int hd, .ref v7, .int lo, .int ak, .int (nI k), .ref v8, .int isw, .int nw, .ref v9, .long sn, .int ek, .int em, .int eh, .int es, .int ed, .int el, .ref v10, .long hs])), (v0, .inl (cI, 4, .inl kd)), (v1, .inl (cI, 4, .inl st)), (v2, .inl (cI, 4, .inl co)), (v3, .inl (cI, 4, .inl gt)), (v4, .inl (cI, 4, .inl pd)), (v5, .inl (cI, 4, .inl de)), (v6, .inl (cI, 4, .inl us)), (v7, .inl (cI, 4, .inl tm)), (v8, .inl (cB, 18, .inl lt)), (v9, .inl (cI, 4, .inl sv)), (v10, .inl (cI, 24, .inl ke))] sz)) 0 0 (va_A [(vh, .inr (6, [.int mm, .int (nI n), .int tl, .int ho, .ref v0, .ref v1, .ref v2, .ref v3, .ref v4, .ref v5, .ref v6, .int sl, .int hd, .ref v7, .int lo, .int ak, .int (nI k), .ref v8, .int isw, .int nw, .ref v9, .long sn, .int ek, .int em, .int eh, .int es, .int ed, .int el, .ref v10, .long hs])), (v0, .inl (cI, 4, .inl kd)), (v1, .inl (cI, 4, .inl st)), (v2, .inl (cI, 4, .inl co)), (v3, .inl (cI, 4, .inl gt)), (v4, .inl (cI, 4, .inl pd)), (v5, .inl (cI, 4, .inl de)), (v6, .inl (cI, 4, .inl us)), (v7, .inl (cI, 4, .inl tm)), (v8, .inl (cB, 18, .inl lt)), (v9, .inl (cI, 4, .inl sv)), (v10, .inl (cI, 24, .inl ke))] sz) := by
  refine metW (cc := cX6_pass) (maxL := 2) (ret := (some .int)) (QA := fun A => (QWi D ((f_X6_pass tm n hd b).1) [(vh, .inr (6, [.int mm, .int (nI n), .int tl, .int ho, .ref v0, .ref v1, .ref v2, .ref v3, .ref v4, .ref v5, .ref v6, .int sl, .int ((f_X6_pass tm n hd b).2.1), .ref v7, .int lo, .int ak, .int (nI k), .ref v8, .int isw, .int nw, .ref v9, .long sn, .int ek, .int em, .int eh, .int es, .int ed, .int el, .ref v10, .long hs])), (v0, .inl (cI, 4, .inl kd)), (v1, .inl (cI, 4, .inl st)), (v2, .inl (cI, 4, .inl co)), (v3, .inl (cI, 4, .inl gt)), (v4, .inl (cI, 4, .inl pd)), (v5, .inl (cI, 4, .inl de)), (v6, .inl (cI, 4, .inl us)), (v7, .inl (cI, 4, .inl ((f_X6_pass tm n hd b).2.2))), (v8, .inl (cB, 18, .inl lt)), (v9, .inl (cI, 4, .inl sv)), (v10, .inl (cI, 24, .inl ke))] A)) RX6 rfl (by decide) rfl (Nat.le_of_ble_eq_true rfl) ?_
  intro p e s m below meth c A hx hb hr hml hown hts hlocks hin hP hK hD hA hS ls hl
  have iwX6 : ∀ w ∈ wsX60, w ∈ wsX6_pass := by decide +kernel
  have fk88 := hts (.fieldLink RX6 88 "BuyersWeightsModel" "hands" "I") (by decide +kernel)
  have fk31 := hts (.fieldLink RX6 31 "BuyersWeightsModel" "handsOf" "[I") (by decide +kernel)
  have hl : lv_has ls 2 [(0, .ref vh), (1, .int b)] := hl
  refine lv_aload_n hx hb dX6_pass_0 rfl (lv_at hl 0 rfl) ?_
  refine lv_iload_n hx hb dX6_pass_1 rfl (lv_at hl 1 rfl) ?_
  refine rcVi (As := [.int b]) (rest := []) ⟨hx, hb, hml, hown, hts⟩ (c_X6_isHouse l D cB cC cI vh v0 v1 v2 v3 v4 v5 v6 v7 v8 v9 v10 kd st co gt pd de us tm lt sv ke mm n tl ho sl hd lo ak k isw nw sn ek em eh es ed el hs b) (cwV 1 hts gX6_pass_X6_isHouse rfl rfl rfl (by decide +kernel) ⟨Nat.le_of_ble_eq_true rfl, Nat.le_of_ble_eq_true rfl⟩) hK hP [0, 1, 2, 3, 4, 5, 6, 7, 8, 9, 10, 11] rfl rfl 0 rfl rfl hl.1 rfl (Nat.le_of_ble_eq_true rfl) dX6_pass_2 ⟨Nat.zero_le _, Nat.zero_le _⟩ ?_
  refine lv_if_ne (tgt := 11) hx hb dX6_pass_5 (by decide) (fun c_1 => ?_) (fun c_1 => ?_)
  · have hi := (isH_ix hn c_1).up hn
    refine lv_aload_n hx hb dX6_pass_11 rfl (lv_at hl 0 rfl) ?_
    refine va_get (D := D) (ci := 6) (v := .int hd) (C := RX6) (T := TX6) (N := 30) hx hb hts iwX6 hown hK.1 hP 0 rfl rfl 12 (by decide) fk88 (fun _ h9 => h9) rfl dX6_pass_12 ?_
    refine lv_bipush (v := 8) hx hb dX6_pass_15 (by decide) ?_
    refine lv_icmp_ne (tgt := 23) hx hb dX6_pass_17 (by decide) (fun c_2 => ?_) (fun c_2 => ?_)
    · refine lv_aload_n hx hb dX6_pass_23 rfl (lv_at hl 0 rfl) ?_
      refine va_get (D := D) (ci := 6) (v := .ref v7) (C := RX6) (T := TX6) (N := 30) hx hb hts iwX6 hown hK.1 hP 0 rfl rfl 13 (by decide) fk31 (fun _ h9 => h9) rfl dX6_pass_24 ?_
      refine lv_iload_n hx hb dX6_pass_27 rfl (lv_at hl 1 rfl) ?_
      refine lv_dup2_11 hx hb dX6_pass_28 rfl rfl ?_
      refine my_iald hx hb hK hP 8 rfl (j := b.toNatClampNeg) hi dX6_pass_29 ?_
      refine lv_iconst (v := 1) hx hb dX6_pass_30 (by decide) ?_
      refine lv_iadd hx hb dX6_pass_31 ?_
      refine my_iast hx hb hK hP hD hS 8 rfl (j := b.toNatClampNeg) hi dX6_pass_32 (fun H locs hP hD hS => ?_)
      have hP : va_P D vwCl [(vh, .inr (6, [.int mm, .int (nI n), .int tl, .int ho, .ref v0, .ref v1, .ref v2, .ref v3, .ref v4, .ref v5, .ref v6, .int sl, .int hd, .ref v7, .int lo, .int ak, .int (nI k), .ref v8, .int isw, .int nw, .ref v9, .long sn, .int ek, .int em, .int eh, .int es, .int ed, .int el, .ref v10, .long hs])), (v0, .inl (cI, 4, .inl kd)), (v1, .inl (cI, 4, .inl st)), (v2, .inl (cI, 4, .inl co)), (v3, .inl (cI, 4, .inl gt)), (v4, .inl (cI, 4, .inl pd)), (v5, .inl (cI, 4, .inl de)), (v6, .inl (cI, 4, .inl us)), (v7, .inl (cI, 4, .inl (upd tm b.toNatClampNeg ((tm b.toNatClampNeg) + 1)))), (v8, .inl (cB, 18, .inl lt)), (v9, .inl (cI, 4, .inl sv)), (v10, .inl (cI, 24, .inl ke))] H := hP
      have hD : va_D A [(vh, .inr (6, [.int mm, .int (nI n), .int tl, .int ho, .ref v0, .ref v1, .ref v2, .ref v3, .ref v4, .ref v5, .ref v6, .int sl, .int hd, .ref v7, .int lo, .int ak, .int (nI k), .ref v8, .int isw, .int nw, .ref v9, .long sn, .int ek, .int em, .int eh, .int es, .int ed, .int el, .ref v10, .long hs])), (v0, .inl (cI, 4, .inl kd)), (v1, .inl (cI, 4, .inl st)), (v2, .inl (cI, 4, .inl co)), (v3, .inl (cI, 4, .inl gt)), (v4, .inl (cI, 4, .inl pd)), (v5, .inl (cI, 4, .inl de)), (v6, .inl (cI, 4, .inl us)), (v7, .inl (cI, 4, .inl (upd tm b.toNatClampNeg ((tm b.toNatClampNeg) + 1)))), (v8, .inl (cB, 18, .inl lt)), (v9, .inl (cI, 4, .inl sv)), (v10, .inl (cI, 24, .inl ke))] := hD
      refine lv_aload_n hx hb dX6_pass_33 rfl (lv_at hl 0 rfl) ?_
      refine lv_dup hx hb dX6_pass_34 rfl ?_
      refine va_get (D := D) (ci := 6) (v := .int hd) (C := RX6) (T := TX6) (N := 30) hx hb hts iwX6 hown hK.1 hP 0 rfl rfl 12 (by decide) fk88 (fun _ h9 => h9) rfl dX6_pass_35 ?_
      refine lv_iconst (v := 1) hx hb dX6_pass_38 (by decide) ?_
      refine lv_iadd hx hb dX6_pass_39 ?_
      refine va_put (D := D) (ci := 6) (v := .int (hd + 1)) (ty := .int) (C := RX6) (T := TX6) (N := 30) hx hb hts iwX6 tyX6 tyX6_ok nmX6 hown hK.1 hP hD hS 0 rfl rfl 12 (by decide) fk88 (fun _ h9 => h9) rfl (by decide +kernel) rfl rfl (Nat.le_of_ble_eq_true rfl) dX6_pass_40 (fun H locs hP hD hS => ?_)
      have hP : va_P D vwCl [(vh, .inr (6, [.int mm, .int (nI n), .int tl, .int ho, .ref v0, .ref v1, .ref v2, .ref v3, .ref v4, .ref v5, .ref v6, .int sl, .int (hd + 1), .ref v7, .int lo, .int ak, .int (nI k), .ref v8, .int isw, .int nw, .ref v9, .long sn, .int ek, .int em, .int eh, .int es, .int ed, .int el, .ref v10, .long hs])), (v0, .inl (cI, 4, .inl kd)), (v1, .inl (cI, 4, .inl st)), (v2, .inl (cI, 4, .inl co)), (v3, .inl (cI, 4, .inl gt)), (v4, .inl (cI, 4, .inl pd)), (v5, .inl (cI, 4, .inl de)), (v6, .inl (cI, 4, .inl us)), (v7, .inl (cI, 4, .inl (upd tm b.toNatClampNeg ((tm b.toNatClampNeg) + 1)))), (v8, .inl (cB, 18, .inl lt)), (v9, .inl (cI, 4, .inl sv)), (v10, .inl (cI, 24, .inl ke))] H := hP
      have hD : va_D A [(vh, .inr (6, [.int mm, .int (nI n), .int tl, .int ho, .ref v0, .ref v1, .ref v2, .ref v3, .ref v4, .ref v5, .ref v6, .int sl, .int (hd + 1), .ref v7, .int lo, .int ak, .int (nI k), .ref v8, .int isw, .int nw, .ref v9, .long sn, .int ek, .int em, .int eh, .int es, .int ed, .int el, .ref v10, .long hs])), (v0, .inl (cI, 4, .inl kd)), (v1, .inl (cI, 4, .inl st)), (v2, .inl (cI, 4, .inl co)), (v3, .inl (cI, 4, .inl gt)), (v4, .inl (cI, 4, .inl pd)), (v5, .inl (cI, 4, .inl de)), (v6, .inl (cI, 4, .inl us)), (v7, .inl (cI, 4, .inl (upd tm b.toNatClampNeg ((tm b.toNatClampNeg) + 1)))), (v8, .inl (cB, 18, .inl lt)), (v9, .inl (cI, 4, .inl sv)), (v10, .inl (cI, 24, .inl ke))] := hD
      refine lv_aload_n hx hb dX6_pass_43 rfl (lv_at hl 0 rfl) ?_
      refine va_get (D := D) (ci := 6) (v := .int (hd + 1)) (C := RX6) (T := TX6) (N := 30) hx hb hts iwX6 hown hK.1 hP 0 rfl rfl 12 (by decide) fk88 (fun _ h9 => h9) rfl dX6_pass_44 ?_
      have eG : f_X6_pass tm n hd b = (hd + 1, hd + 1, upd tm b.toNatClampNeg ((tm b.toNatClampNeg) + 1)) := (if_neg c_1).trans (if_neg c_2)
      exact retWi (u := ()) hx hb hr hlocks (by rw [eG]) (by rw [eG]; exact hP) (by rw [eG]; exact hD) hS dX6_pass_47
    · refine lv_bipush (v := (-104)) hx hb dX6_pass_20 (by decide) ?_
      have eG : f_X6_pass tm n hd b = ((-104), hd, tm) := (if_neg c_1).trans (if_pos c_2)
      exact retWi (u := ()) hx hb hr hlocks (by rw [eG]) (by rw [eG]; exact hP) (by rw [eG]; exact hD) hS dX6_pass_22
  · refine lv_bipush (v := (-101)) hx hb dX6_pass_8 (by decide) ?_
    have eG : f_X6_pass tm n hd b = ((-101), hd, tm) := if_pos c_1
    exact retWi (u := ()) hx hb hr hlocks (by rw [eG]) (by rw [eG]; exact hP) (by rw [eG]; exact hD) hS dX6_pass_10
def f_X6_lose (lo : Int32) (b : Int32) : Int32 × Int32 := if (f_X6_within b 0 20) = 0 then ((-102), lo) else (lo, b)
set_option maxHeartbeats 4000000 in
set_option maxRecDepth 100000 in
theorem c_X6_lose (l : Launch) (D : va_G) (cB cC cI : ClassId) (vh : Nat) (v0 : Nat) (v1 : Nat) (v2 : Nat) (v3 : Nat) (v4 : Nat) (v5 : Nat) (v6 : Nat) (v7 : Nat) (v8 : Nat) (v9 : Nat) (v10 : Nat) (kd : Nat → Int32) (st : Nat → Int32) (co : Nat → Int32) (gt : Nat → Int32) (pd : Nat → Int32) (de : Nat → Int32) (us : Nat → Int32) (tm : Nat → Int32) (lt : Nat → Int32) (sv : Nat → Int32) (ke : Nat → Int32) (mm : Int32) (n : Nat) (tl : Int32) (ho : Int32) (sl : Int32) (hd : Int32) (lo : Int32) (ak : Int32) (k : Nat) (isw : Int32) (nw : Int32) (sn : Int64) (ek : Int32) (em : Int32) (eh : Int32) (es : Int32) (ed : Int32) (el : Int32) (hs : Int64) (b : Int32) (sz : Nat)  : Met l yX6_lose wsX6_lose ({ frames := 1, cells := 0, slots := 0, locals := 22 }) (gPw D cB cC cI [.ref vh, .int b] [(vh, .inr (6, [.int mm, .int (nI n), .int tl, .int ho, .ref v0, .ref v1, .ref v2, .ref v3, .ref v4, .ref v5, .ref v6, .int sl, .int hd, .ref v7, .int lo, .int ak, .int (nI k), .ref v8, .int isw, .int nw, .ref v9, .long sn, .int ek, .int em, .int eh, .int es, .int ed, .int el, .ref v10, .long hs])), (v0, .inl (cI, 4, .inl kd)), (v1, .inl (cI, 4, .inl st)), (v2, .inl (cI, 4, .inl co)), (v3, .inl (cI, 4, .inl gt)), (v4, .inl (cI, 4, .inl pd)), (v5, .inl (cI, 4, .inl de)), (v6, .inl (cI, 4, .inl us)), (v7, .inl (cI, 4, .inl tm)), (v8, .inl (cB, 18, .inl lt)), (v9, .inl (cI, 4, .inl sv)), (v10, .inl (cI, 24, .inl ke))] sz) (QWi D ((f_X6_lose lo b).1) [(vh, .inr (6, [.int mm, .int (nI n), .int tl, .int ho, .ref v0, .ref v1, .ref v2, .ref v3, .ref v4, .ref v5, .ref v6, .int sl, .int hd, .ref v7, .int ((f_X6_lose lo b).2), .int ak, .int (nI k), .ref v8, .int isw, .int nw, .ref v9, .long sn, .int ek, .int em, .int eh, .int es, .int ed, .int el, .ref v10, .long hs])), (v0, .inl (cI, 4, .inl kd)), (v1, .inl (cI, 4, .inl st)), (v2, .inl (cI, 4, .inl co)), (v3, .inl (cI, 4, .inl gt)), (v4, .inl (cI, 4, .inl pd)), (v5, .inl (cI, 4, .inl de)), (v6, .inl (cI, 4, .inl us)), (v7, .inl (cI, 4, .inl tm)), (v8, .inl (cB, 18, .inl lt)), (v9, .inl (cI, 4, .inl sv)), (v10, .inl (cI, 24, .inl ke))] (va_A [(vh, .inr (6, [.int mm, .int (nI n), .int tl, .int ho, .ref v0, .ref v1, .ref v2, .ref v3, .ref v4, .ref v5, .ref v6, .int sl, .int hd, .ref v7, .int lo, .int ak, .int (nI k), .ref v8, .int isw, .int nw, .ref v9, .long sn, .int ek, .int em, .int eh, .int es, .int ed, .int el, .ref v10, .long hs])), (v0, .inl (cI, 4, .inl kd)), (v1, .inl (cI, 4, .inl st)), (v2, .inl (cI, 4, .inl co)), (v3, .inl (cI, 4, .inl gt)), (v4, .inl (cI, 4, .inl pd)), (v5, .inl (cI, 4, .inl de)), (v6, .inl (cI, 4, .inl us)), (v7, .inl (cI, 4, .inl tm)), (v8, .inl (cB, 18, .inl lt)), (v9, .inl (cI, 4, .inl sv)), (v10, .inl (cI, 24, .inl ke))] sz)) 0 0 (va_A [(vh, .inr (6, [.int mm, .int (nI n), .int tl, .int ho, .ref v0, .ref v1, .ref v2, .ref v3, .ref v4, .ref v5, .ref v6, .int sl, .int hd, .ref v7, .int lo, .int ak, .int (nI k), .ref v8, .int isw, .int nw, .ref v9, .long sn, .int ek, .int em, .int eh, .int es, .int ed, .int el, .ref v10, .long hs])), (v0, .inl (cI, 4, .inl kd)), (v1, .inl (cI, 4, .inl st)), (v2, .inl (cI, 4, .inl co)), (v3, .inl (cI, 4, .inl gt)), (v4, .inl (cI, 4, .inl pd)), (v5, .inl (cI, 4, .inl de)), (v6, .inl (cI, 4, .inl us)), (v7, .inl (cI, 4, .inl tm)), (v8, .inl (cB, 18, .inl lt)), (v9, .inl (cI, 4, .inl sv)), (v10, .inl (cI, 24, .inl ke))] sz) := by
  refine metW (cc := cX6_lose) (maxL := 3) (ret := (some .int)) (QA := fun A => (QWi D ((f_X6_lose lo b).1) [(vh, .inr (6, [.int mm, .int (nI n), .int tl, .int ho, .ref v0, .ref v1, .ref v2, .ref v3, .ref v4, .ref v5, .ref v6, .int sl, .int hd, .ref v7, .int ((f_X6_lose lo b).2), .int ak, .int (nI k), .ref v8, .int isw, .int nw, .ref v9, .long sn, .int ek, .int em, .int eh, .int es, .int ed, .int el, .ref v10, .long hs])), (v0, .inl (cI, 4, .inl kd)), (v1, .inl (cI, 4, .inl st)), (v2, .inl (cI, 4, .inl co)), (v3, .inl (cI, 4, .inl gt)), (v4, .inl (cI, 4, .inl pd)), (v5, .inl (cI, 4, .inl de)), (v6, .inl (cI, 4, .inl us)), (v7, .inl (cI, 4, .inl tm)), (v8, .inl (cB, 18, .inl lt)), (v9, .inl (cI, 4, .inl sv)), (v10, .inl (cI, 24, .inl ke))] A)) RX6 rfl (by decide) rfl (Nat.le_of_ble_eq_true rfl) ?_
  intro p e s m below meth c A hx hb hr hml hown hts hlocks hin hP hK hD hA hS ls hl
  have iwX6 : ∀ w ∈ wsX60, w ∈ wsX6_lose := by decide +kernel
  have fk91 := hts (.fieldLink RX6 91 "BuyersWeightsModel" "lost" "I") (by decide +kernel)
  have hl : lv_has ls 3 [(0, .ref vh), (1, .int b)] := hl
  refine lv_iload_n hx hb dX6_lose_0 rfl (lv_at hl 1 rfl) ?_
  refine lv_iconst (v := 0) hx hb dX6_lose_1 (by decide) ?_
  refine lv_bipush (v := 20) hx hb dX6_lose_2 (by decide) ?_
  refine rcSi (As := [.int b, .int 0, .int 20]) (rest := []) ⟨hx, hb, hml, hown, hts⟩ (c_X6_within l D cB cC cI b 0 20) (va_cwS 3 hts gX6_lose_X6_within rfl rfl rfl (by decide +kernel) ⟨Nat.le_of_ble_eq_true rfl, Nat.le_of_ble_eq_true rfl⟩) hK hP [] rfl rfl hl.1 rfl (Nat.le_of_ble_eq_true rfl) dX6_lose_4 ⟨Nat.zero_le _, Nat.zero_le _⟩ ?_
  refine lv_if_ne (tgt := 13) hx hb dX6_lose_7 (by decide) (fun c_1 => ?_) (fun c_1 => ?_)
  · refine lv_aload_n hx hb dX6_lose_13 rfl (lv_at hl 0 rfl) ?_
    refine va_get (D := D) (ci := 6) (v := .int lo) (C := RX6) (T := TX6) (N := 30) hx hb hts iwX6 hown hK.1 hP 0 rfl rfl 14 (by decide) fk91 (fun _ h9 => h9) rfl dX6_lose_14 ?_
    refine lv_istore_n (lv' := [(2, .int lo), (0, .ref vh), (1, .int b)]) hx hb dX6_lose_17 rfl hl (by decide) rfl (fun ls hl => ?_)
    refine lv_aload_n hx hb dX6_lose_18 rfl (lv_at hl 1 rfl) ?_
    refine lv_iload_n hx hb dX6_lose_19 rfl (lv_at hl 2 rfl) ?_
    refine va_put (D := D) (ci := 6) (v := .int b) (ty := .int) (C := RX6) (T := TX6) (N := 30) hx hb hts iwX6 tyX6 tyX6_ok nmX6 hown hK.1 hP hD hS 0 rfl rfl 14 (by decide) fk91 (fun _ h9 => h9) rfl (by decide +kernel) rfl rfl (Nat.le_of_ble_eq_true rfl) dX6_lose_20 (fun H locs hP hD hS => ?_)
    have hP : va_P D vwCl [(vh, .inr (6, [.int mm, .int (nI n), .int tl, .int ho, .ref v0, .ref v1, .ref v2, .ref v3, .ref v4, .ref v5, .ref v6, .int sl, .int hd, .ref v7, .int b, .int ak, .int (nI k), .ref v8, .int isw, .int nw, .ref v9, .long sn, .int ek, .int em, .int eh, .int es, .int ed, .int el, .ref v10, .long hs])), (v0, .inl (cI, 4, .inl kd)), (v1, .inl (cI, 4, .inl st)), (v2, .inl (cI, 4, .inl co)), (v3, .inl (cI, 4, .inl gt)), (v4, .inl (cI, 4, .inl pd)), (v5, .inl (cI, 4, .inl de)), (v6, .inl (cI, 4, .inl us)), (v7, .inl (cI, 4, .inl tm)), (v8, .inl (cB, 18, .inl lt)), (v9, .inl (cI, 4, .inl sv)), (v10, .inl (cI, 24, .inl ke))] H := hP
    have hD : va_D A [(vh, .inr (6, [.int mm, .int (nI n), .int tl, .int ho, .ref v0, .ref v1, .ref v2, .ref v3, .ref v4, .ref v5, .ref v6, .int sl, .int hd, .ref v7, .int b, .int ak, .int (nI k), .ref v8, .int isw, .int nw, .ref v9, .long sn, .int ek, .int em, .int eh, .int es, .int ed, .int el, .ref v10, .long hs])), (v0, .inl (cI, 4, .inl kd)), (v1, .inl (cI, 4, .inl st)), (v2, .inl (cI, 4, .inl co)), (v3, .inl (cI, 4, .inl gt)), (v4, .inl (cI, 4, .inl pd)), (v5, .inl (cI, 4, .inl de)), (v6, .inl (cI, 4, .inl us)), (v7, .inl (cI, 4, .inl tm)), (v8, .inl (cB, 18, .inl lt)), (v9, .inl (cI, 4, .inl sv)), (v10, .inl (cI, 24, .inl ke))] := hD
    refine lv_iload_n hx hb dX6_lose_23 rfl (lv_at hl 0 rfl) ?_
    have eG : f_X6_lose lo b = (lo, b) := if_neg c_1
    exact retWi (u := ()) hx hb hr hlocks (by rw [eG]) (by rw [eG]; exact hP) (by rw [eG]; exact hD) hS dX6_lose_24
  · refine lv_bipush (v := (-102)) hx hb dX6_lose_10 (by decide) ?_
    have eG : f_X6_lose lo b = ((-102), lo) := if_pos c_1
    exact retWi (u := ()) hx hb hr hlocks (by rw [eG]) (by rw [eG]; exact hP) (by rw [eG]; exact hD) hS dX6_lose_12
set_option maxHeartbeats 4000000 in
set_option maxRecDepth 100000 in
theorem c_X6_clear (l : Launch) (D : va_G) (cB cC cI : ClassId) (vh : Nat) (v0 : Nat) (v1 : Nat) (v2 : Nat) (v3 : Nat) (v4 : Nat) (v5 : Nat) (v6 : Nat) (v7 : Nat) (v8 : Nat) (v9 : Nat) (v10 : Nat) (kd : Nat → Int32) (st : Nat → Int32) (co : Nat → Int32) (gt : Nat → Int32) (pd : Nat → Int32) (de : Nat → Int32) (us : Nat → Int32) (tm : Nat → Int32) (lt : Nat → Int32) (sv : Nat → Int32) (ke : Nat → Int32) (mm : Int32) (n : Nat) (tl : Int32) (ho : Int32) (sl : Int32) (hd : Int32) (lo : Int32) (ak : Int32) (k : Nat) (isw : Int32) (nw : Int32) (sn : Int64) (ek : Int32) (em : Int32) (eh : Int32) (es : Int32) (ed : Int32) (el : Int32) (hs : Int64) (sz : Nat)  : Met l yX6_clear wsX6_clear ({ frames := 0, cells := 0, slots := 0, locals := 0 }) (gPw D cB cC cI [.ref vh] [(vh, .inr (6, [.int mm, .int (nI n), .int tl, .int ho, .ref v0, .ref v1, .ref v2, .ref v3, .ref v4, .ref v5, .ref v6, .int sl, .int hd, .ref v7, .int lo, .int ak, .int (nI k), .ref v8, .int isw, .int nw, .ref v9, .long sn, .int ek, .int em, .int eh, .int es, .int ed, .int el, .ref v10, .long hs])), (v0, .inl (cI, 4, .inl kd)), (v1, .inl (cI, 4, .inl st)), (v2, .inl (cI, 4, .inl co)), (v3, .inl (cI, 4, .inl gt)), (v4, .inl (cI, 4, .inl pd)), (v5, .inl (cI, 4, .inl de)), (v6, .inl (cI, 4, .inl us)), (v7, .inl (cI, 4, .inl tm)), (v8, .inl (cB, 18, .inl lt)), (v9, .inl (cI, 4, .inl sv)), (v10, .inl (cI, 24, .inl ke))] sz) (QWi D hd [(vh, .inr (6, [.int mm, .int (nI n), .int tl, .int ho, .ref v0, .ref v1, .ref v2, .ref v3, .ref v4, .ref v5, .ref v6, .int sl, .int 0, .ref v7, .int 0, .int ak, .int (nI k), .ref v8, .int isw, .int nw, .ref v9, .long sn, .int ek, .int em, .int eh, .int es, .int ed, .int el, .ref v10, .long hs])), (v0, .inl (cI, 4, .inl kd)), (v1, .inl (cI, 4, .inl st)), (v2, .inl (cI, 4, .inl co)), (v3, .inl (cI, 4, .inl gt)), (v4, .inl (cI, 4, .inl pd)), (v5, .inl (cI, 4, .inl de)), (v6, .inl (cI, 4, .inl us)), (v7, .inl (cI, 4, .inl (fun _ => 0))), (v8, .inl (cB, 18, .inl lt)), (v9, .inl (cI, 4, .inl sv)), (v10, .inl (cI, 24, .inl ke))] (va_A [(vh, .inr (6, [.int mm, .int (nI n), .int tl, .int ho, .ref v0, .ref v1, .ref v2, .ref v3, .ref v4, .ref v5, .ref v6, .int sl, .int hd, .ref v7, .int lo, .int ak, .int (nI k), .ref v8, .int isw, .int nw, .ref v9, .long sn, .int ek, .int em, .int eh, .int es, .int ed, .int el, .ref v10, .long hs])), (v0, .inl (cI, 4, .inl kd)), (v1, .inl (cI, 4, .inl st)), (v2, .inl (cI, 4, .inl co)), (v3, .inl (cI, 4, .inl gt)), (v4, .inl (cI, 4, .inl pd)), (v5, .inl (cI, 4, .inl de)), (v6, .inl (cI, 4, .inl us)), (v7, .inl (cI, 4, .inl tm)), (v8, .inl (cB, 18, .inl lt)), (v9, .inl (cI, 4, .inl sv)), (v10, .inl (cI, 24, .inl ke))] sz)) 0 0 (va_A [(vh, .inr (6, [.int mm, .int (nI n), .int tl, .int ho, .ref v0, .ref v1, .ref v2, .ref v3, .ref v4, .ref v5, .ref v6, .int sl, .int hd, .ref v7, .int lo, .int ak, .int (nI k), .ref v8, .int isw, .int nw, .ref v9, .long sn, .int ek, .int em, .int eh, .int es, .int ed, .int el, .ref v10, .long hs])), (v0, .inl (cI, 4, .inl kd)), (v1, .inl (cI, 4, .inl st)), (v2, .inl (cI, 4, .inl co)), (v3, .inl (cI, 4, .inl gt)), (v4, .inl (cI, 4, .inl pd)), (v5, .inl (cI, 4, .inl de)), (v6, .inl (cI, 4, .inl us)), (v7, .inl (cI, 4, .inl tm)), (v8, .inl (cB, 18, .inl lt)), (v9, .inl (cI, 4, .inl sv)), (v10, .inl (cI, 24, .inl ke))] sz) := by
  refine metW (cc := cX6_clear) (maxL := 3) (ret := (some .int)) (QA := fun A => (QWi D hd [(vh, .inr (6, [.int mm, .int (nI n), .int tl, .int ho, .ref v0, .ref v1, .ref v2, .ref v3, .ref v4, .ref v5, .ref v6, .int sl, .int 0, .ref v7, .int 0, .int ak, .int (nI k), .ref v8, .int isw, .int nw, .ref v9, .long sn, .int ek, .int em, .int eh, .int es, .int ed, .int el, .ref v10, .long hs])), (v0, .inl (cI, 4, .inl kd)), (v1, .inl (cI, 4, .inl st)), (v2, .inl (cI, 4, .inl co)), (v3, .inl (cI, 4, .inl gt)), (v4, .inl (cI, 4, .inl pd)), (v5, .inl (cI, 4, .inl de)), (v6, .inl (cI, 4, .inl us)), (v7, .inl (cI, 4, .inl (fun _ => 0))), (v8, .inl (cB, 18, .inl lt)), (v9, .inl (cI, 4, .inl sv)), (v10, .inl (cI, 24, .inl ke))] A)) RX6 rfl (by decide) rfl (Nat.le_of_ble_eq_true rfl) ?_
  intro p e s m below meth c A hx hb hr hml hown hts hlocks hin hP hK hD hA hS ls hl
  have iwX6 : ∀ w ∈ wsX60, w ∈ wsX6_clear := by decide +kernel
  have fk88 := hts (.fieldLink RX6 88 "BuyersWeightsModel" "hands" "I") (by decide +kernel)
  have fk91 := hts (.fieldLink RX6 91 "BuyersWeightsModel" "lost" "I") (by decide +kernel)
  have fk31 := hts (.fieldLink RX6 31 "BuyersWeightsModel" "handsOf" "[I") (by decide +kernel)
  have hl : lv_has ls 3 [(0, .ref vh)] := hl
  refine lv_aload_n hx hb dX6_clear_0 rfl (lv_at hl 0 rfl) ?_
  refine va_get (D := D) (ci := 6) (v := .int hd) (C := RX6) (T := TX6) (N := 30) hx hb hts iwX6 hown hK.1 hP 0 rfl rfl 12 (by decide) fk88 (fun _ h9 => h9) rfl dX6_clear_1 ?_
  refine lv_istore_n (lv' := [(1, .int hd), (0, .ref vh)]) hx hb dX6_clear_4 rfl hl (by decide) rfl (fun ls hl => ?_)
  refine lv_aload_n hx hb dX6_clear_5 rfl (lv_at hl 1 rfl) ?_
  refine lv_iconst (v := 0) hx hb dX6_clear_6 (by decide) ?_
  refine va_put (D := D) (ci := 6) (v := .int 0) (ty := .int) (C := RX6) (T := TX6) (N := 30) hx hb hts iwX6 tyX6 tyX6_ok nmX6 hown hK.1 hP hD hS 0 rfl rfl 12 (by decide) fk88 (fun _ h9 => h9) rfl (by decide +kernel) rfl rfl (Nat.le_of_ble_eq_true rfl) dX6_clear_7 (fun H locs hP hD hS => ?_)
  have hP : va_P D vwCl [(vh, .inr (6, [.int mm, .int (nI n), .int tl, .int ho, .ref v0, .ref v1, .ref v2, .ref v3, .ref v4, .ref v5, .ref v6, .int sl, .int 0, .ref v7, .int lo, .int ak, .int (nI k), .ref v8, .int isw, .int nw, .ref v9, .long sn, .int ek, .int em, .int eh, .int es, .int ed, .int el, .ref v10, .long hs])), (v0, .inl (cI, 4, .inl kd)), (v1, .inl (cI, 4, .inl st)), (v2, .inl (cI, 4, .inl co)), (v3, .inl (cI, 4, .inl gt)), (v4, .inl (cI, 4, .inl pd)), (v5, .inl (cI, 4, .inl de)), (v6, .inl (cI, 4, .inl us)), (v7, .inl (cI, 4, .inl tm)), (v8, .inl (cB, 18, .inl lt)), (v9, .inl (cI, 4, .inl sv)), (v10, .inl (cI, 24, .inl ke))] H := hP
  have hD : va_D A [(vh, .inr (6, [.int mm, .int (nI n), .int tl, .int ho, .ref v0, .ref v1, .ref v2, .ref v3, .ref v4, .ref v5, .ref v6, .int sl, .int 0, .ref v7, .int lo, .int ak, .int (nI k), .ref v8, .int isw, .int nw, .ref v9, .long sn, .int ek, .int em, .int eh, .int es, .int ed, .int el, .ref v10, .long hs])), (v0, .inl (cI, 4, .inl kd)), (v1, .inl (cI, 4, .inl st)), (v2, .inl (cI, 4, .inl co)), (v3, .inl (cI, 4, .inl gt)), (v4, .inl (cI, 4, .inl pd)), (v5, .inl (cI, 4, .inl de)), (v6, .inl (cI, 4, .inl us)), (v7, .inl (cI, 4, .inl tm)), (v8, .inl (cB, 18, .inl lt)), (v9, .inl (cI, 4, .inl sv)), (v10, .inl (cI, 24, .inl ke))] := hD
  refine lv_aload_n hx hb dX6_clear_10 rfl (lv_at hl 1 rfl) ?_
  refine lv_iconst (v := 0) hx hb dX6_clear_11 (by decide) ?_
  refine va_put (D := D) (ci := 6) (v := .int 0) (ty := .int) (C := RX6) (T := TX6) (N := 30) hx hb hts iwX6 tyX6 tyX6_ok nmX6 hown hK.1 hP hD hS 0 rfl rfl 14 (by decide) fk91 (fun _ h9 => h9) rfl (by decide +kernel) rfl rfl (Nat.le_of_ble_eq_true rfl) dX6_clear_12 (fun H locs hP hD hS => ?_)
  have hP : va_P D vwCl [(vh, .inr (6, [.int mm, .int (nI n), .int tl, .int ho, .ref v0, .ref v1, .ref v2, .ref v3, .ref v4, .ref v5, .ref v6, .int sl, .int 0, .ref v7, .int 0, .int ak, .int (nI k), .ref v8, .int isw, .int nw, .ref v9, .long sn, .int ek, .int em, .int eh, .int es, .int ed, .int el, .ref v10, .long hs])), (v0, .inl (cI, 4, .inl kd)), (v1, .inl (cI, 4, .inl st)), (v2, .inl (cI, 4, .inl co)), (v3, .inl (cI, 4, .inl gt)), (v4, .inl (cI, 4, .inl pd)), (v5, .inl (cI, 4, .inl de)), (v6, .inl (cI, 4, .inl us)), (v7, .inl (cI, 4, .inl tm)), (v8, .inl (cB, 18, .inl lt)), (v9, .inl (cI, 4, .inl sv)), (v10, .inl (cI, 24, .inl ke))] H := hP
  have hD : va_D A [(vh, .inr (6, [.int mm, .int (nI n), .int tl, .int ho, .ref v0, .ref v1, .ref v2, .ref v3, .ref v4, .ref v5, .ref v6, .int sl, .int 0, .ref v7, .int 0, .int ak, .int (nI k), .ref v8, .int isw, .int nw, .ref v9, .long sn, .int ek, .int em, .int eh, .int es, .int ed, .int el, .ref v10, .long hs])), (v0, .inl (cI, 4, .inl kd)), (v1, .inl (cI, 4, .inl st)), (v2, .inl (cI, 4, .inl co)), (v3, .inl (cI, 4, .inl gt)), (v4, .inl (cI, 4, .inl pd)), (v5, .inl (cI, 4, .inl de)), (v6, .inl (cI, 4, .inl us)), (v7, .inl (cI, 4, .inl tm)), (v8, .inl (cB, 18, .inl lt)), (v9, .inl (cI, 4, .inl sv)), (v10, .inl (cI, 24, .inl ke))] := hD
  refine lv_iconst (v := 0) hx hb dX6_clear_15 (by decide) ?_
  refine lv_istore_n (lv' := [(2, .int 0), (1, .int hd), (0, .ref vh)]) hx hb dX6_clear_16 rfl hl (by decide) rfl (fun ls hl => ?_)
  refine lv_iload_n hx hb dX6_clear_17 rfl (lv_at hl 0 rfl) ?_
  refine lv_iconst (v := 4) hx hb dX6_clear_18 (by decide) ?_
  refine lv_icmp_ge (tgt := 35) hx hb dX6_clear_19 (by decide) (fun c_1 => absurd c_1 (by decide)) (fun c_1 => ?_)
  refine lv_aload_n hx hb dX6_clear_22 rfl (lv_at hl 2 rfl) ?_
  refine va_get (D := D) (ci := 6) (v := .ref v7) (C := RX6) (T := TX6) (N := 30) hx hb hts iwX6 hown hK.1 hP 0 rfl rfl 13 (by decide) fk31 (fun _ h9 => h9) rfl dX6_clear_23 ?_
  refine lv_iload_n hx hb dX6_clear_26 rfl (lv_at hl 0 rfl) ?_
  refine lv_iconst (v := 0) hx hb dX6_clear_27 (by decide) ?_
  refine my_iast hx hb hK hP hD hS 8 rfl (j := 0) (ix_nI (j := 0) (by decide) (by decide)) dX6_clear_28 (fun H locs hP hD hS => ?_)
  have hP : va_P D vwCl [(vh, .inr (6, [.int mm, .int (nI n), .int tl, .int ho, .ref v0, .ref v1, .ref v2, .ref v3, .ref v4, .ref v5, .ref v6, .int sl, .int 0, .ref v7, .int 0, .int ak, .int (nI k), .ref v8, .int isw, .int nw, .ref v9, .long sn, .int ek, .int em, .int eh, .int es, .int ed, .int el, .ref v10, .long hs])), (v0, .inl (cI, 4, .inl kd)), (v1, .inl (cI, 4, .inl st)), (v2, .inl (cI, 4, .inl co)), (v3, .inl (cI, 4, .inl gt)), (v4, .inl (cI, 4, .inl pd)), (v5, .inl (cI, 4, .inl de)), (v6, .inl (cI, 4, .inl us)), (v7, .inl (cI, 4, .inl (upd tm 0 0))), (v8, .inl (cB, 18, .inl lt)), (v9, .inl (cI, 4, .inl sv)), (v10, .inl (cI, 24, .inl ke))] H := hP
  have hD : va_D A [(vh, .inr (6, [.int mm, .int (nI n), .int tl, .int ho, .ref v0, .ref v1, .ref v2, .ref v3, .ref v4, .ref v5, .ref v6, .int sl, .int 0, .ref v7, .int 0, .int ak, .int (nI k), .ref v8, .int isw, .int nw, .ref v9, .long sn, .int ek, .int em, .int eh, .int es, .int ed, .int el, .ref v10, .long hs])), (v0, .inl (cI, 4, .inl kd)), (v1, .inl (cI, 4, .inl st)), (v2, .inl (cI, 4, .inl co)), (v3, .inl (cI, 4, .inl gt)), (v4, .inl (cI, 4, .inl pd)), (v5, .inl (cI, 4, .inl de)), (v6, .inl (cI, 4, .inl us)), (v7, .inl (cI, 4, .inl (upd tm 0 0))), (v8, .inl (cB, 18, .inl lt)), (v9, .inl (cI, 4, .inl sv)), (v10, .inl (cI, 24, .inl ke))] := hD
  refine lv_iinc (v := 1) (lv' := [(2, .int 1), (1, .int hd), (0, .ref vh)]) hx hb dX6_clear_29 hl (k := 0) rfl (by decide) (by decide) rfl (fun ls hl => ?_)
  refine lv_goto (tgt := 17) hx hb dX6_clear_32 (by decide) ?_
  refine lv_iload_n hx hb dX6_clear_17 rfl (lv_at hl 0 rfl) ?_
  refine lv_iconst (v := 4) hx hb dX6_clear_18 (by decide) ?_
  refine lv_icmp_ge (tgt := 35) hx hb dX6_clear_19 (by decide) (fun c_2 => absurd c_2 (by decide)) (fun c_2 => ?_)
  refine lv_aload_n hx hb dX6_clear_22 rfl (lv_at hl 2 rfl) ?_
  refine va_get (D := D) (ci := 6) (v := .ref v7) (C := RX6) (T := TX6) (N := 30) hx hb hts iwX6 hown hK.1 hP 0 rfl rfl 13 (by decide) fk31 (fun _ h9 => h9) rfl dX6_clear_23 ?_
  refine lv_iload_n hx hb dX6_clear_26 rfl (lv_at hl 0 rfl) ?_
  refine lv_iconst (v := 0) hx hb dX6_clear_27 (by decide) ?_
  refine my_iast hx hb hK hP hD hS 8 rfl (j := 1) (ix_nI (j := 1) (by decide) (by decide)) dX6_clear_28 (fun H locs hP hD hS => ?_)
  have hP : va_P D vwCl [(vh, .inr (6, [.int mm, .int (nI n), .int tl, .int ho, .ref v0, .ref v1, .ref v2, .ref v3, .ref v4, .ref v5, .ref v6, .int sl, .int 0, .ref v7, .int 0, .int ak, .int (nI k), .ref v8, .int isw, .int nw, .ref v9, .long sn, .int ek, .int em, .int eh, .int es, .int ed, .int el, .ref v10, .long hs])), (v0, .inl (cI, 4, .inl kd)), (v1, .inl (cI, 4, .inl st)), (v2, .inl (cI, 4, .inl co)), (v3, .inl (cI, 4, .inl gt)), (v4, .inl (cI, 4, .inl pd)), (v5, .inl (cI, 4, .inl de)), (v6, .inl (cI, 4, .inl us)), (v7, .inl (cI, 4, .inl (upd (upd tm 0 0) 1 0))), (v8, .inl (cB, 18, .inl lt)), (v9, .inl (cI, 4, .inl sv)), (v10, .inl (cI, 24, .inl ke))] H := hP
  have hD : va_D A [(vh, .inr (6, [.int mm, .int (nI n), .int tl, .int ho, .ref v0, .ref v1, .ref v2, .ref v3, .ref v4, .ref v5, .ref v6, .int sl, .int 0, .ref v7, .int 0, .int ak, .int (nI k), .ref v8, .int isw, .int nw, .ref v9, .long sn, .int ek, .int em, .int eh, .int es, .int ed, .int el, .ref v10, .long hs])), (v0, .inl (cI, 4, .inl kd)), (v1, .inl (cI, 4, .inl st)), (v2, .inl (cI, 4, .inl co)), (v3, .inl (cI, 4, .inl gt)), (v4, .inl (cI, 4, .inl pd)), (v5, .inl (cI, 4, .inl de)), (v6, .inl (cI, 4, .inl us)), (v7, .inl (cI, 4, .inl (upd (upd tm 0 0) 1 0))), (v8, .inl (cB, 18, .inl lt)), (v9, .inl (cI, 4, .inl sv)), (v10, .inl (cI, 24, .inl ke))] := hD
  refine lv_iinc (v := 2) (lv' := [(2, .int 2), (1, .int hd), (0, .ref vh)]) hx hb dX6_clear_29 hl (k := 0) rfl (by decide) (by decide) rfl (fun ls hl => ?_)
  refine lv_goto (tgt := 17) hx hb dX6_clear_32 (by decide) ?_
  refine lv_iload_n hx hb dX6_clear_17 rfl (lv_at hl 0 rfl) ?_
  refine lv_iconst (v := 4) hx hb dX6_clear_18 (by decide) ?_
  refine lv_icmp_ge (tgt := 35) hx hb dX6_clear_19 (by decide) (fun c_3 => absurd c_3 (by decide)) (fun c_3 => ?_)
  refine lv_aload_n hx hb dX6_clear_22 rfl (lv_at hl 2 rfl) ?_
  refine va_get (D := D) (ci := 6) (v := .ref v7) (C := RX6) (T := TX6) (N := 30) hx hb hts iwX6 hown hK.1 hP 0 rfl rfl 13 (by decide) fk31 (fun _ h9 => h9) rfl dX6_clear_23 ?_
  refine lv_iload_n hx hb dX6_clear_26 rfl (lv_at hl 0 rfl) ?_
  refine lv_iconst (v := 0) hx hb dX6_clear_27 (by decide) ?_
  refine my_iast hx hb hK hP hD hS 8 rfl (j := 2) (ix_nI (j := 2) (by decide) (by decide)) dX6_clear_28 (fun H locs hP hD hS => ?_)
  have hP : va_P D vwCl [(vh, .inr (6, [.int mm, .int (nI n), .int tl, .int ho, .ref v0, .ref v1, .ref v2, .ref v3, .ref v4, .ref v5, .ref v6, .int sl, .int 0, .ref v7, .int 0, .int ak, .int (nI k), .ref v8, .int isw, .int nw, .ref v9, .long sn, .int ek, .int em, .int eh, .int es, .int ed, .int el, .ref v10, .long hs])), (v0, .inl (cI, 4, .inl kd)), (v1, .inl (cI, 4, .inl st)), (v2, .inl (cI, 4, .inl co)), (v3, .inl (cI, 4, .inl gt)), (v4, .inl (cI, 4, .inl pd)), (v5, .inl (cI, 4, .inl de)), (v6, .inl (cI, 4, .inl us)), (v7, .inl (cI, 4, .inl (upd (upd (upd tm 0 0) 1 0) 2 0))), (v8, .inl (cB, 18, .inl lt)), (v9, .inl (cI, 4, .inl sv)), (v10, .inl (cI, 24, .inl ke))] H := hP
  have hD : va_D A [(vh, .inr (6, [.int mm, .int (nI n), .int tl, .int ho, .ref v0, .ref v1, .ref v2, .ref v3, .ref v4, .ref v5, .ref v6, .int sl, .int 0, .ref v7, .int 0, .int ak, .int (nI k), .ref v8, .int isw, .int nw, .ref v9, .long sn, .int ek, .int em, .int eh, .int es, .int ed, .int el, .ref v10, .long hs])), (v0, .inl (cI, 4, .inl kd)), (v1, .inl (cI, 4, .inl st)), (v2, .inl (cI, 4, .inl co)), (v3, .inl (cI, 4, .inl gt)), (v4, .inl (cI, 4, .inl pd)), (v5, .inl (cI, 4, .inl de)), (v6, .inl (cI, 4, .inl us)), (v7, .inl (cI, 4, .inl (upd (upd (upd tm 0 0) 1 0) 2 0))), (v8, .inl (cB, 18, .inl lt)), (v9, .inl (cI, 4, .inl sv)), (v10, .inl (cI, 24, .inl ke))] := hD
  refine lv_iinc (v := 3) (lv' := [(2, .int 3), (1, .int hd), (0, .ref vh)]) hx hb dX6_clear_29 hl (k := 0) rfl (by decide) (by decide) rfl (fun ls hl => ?_)
  refine lv_goto (tgt := 17) hx hb dX6_clear_32 (by decide) ?_
  refine lv_iload_n hx hb dX6_clear_17 rfl (lv_at hl 0 rfl) ?_
  refine lv_iconst (v := 4) hx hb dX6_clear_18 (by decide) ?_
  refine lv_icmp_ge (tgt := 35) hx hb dX6_clear_19 (by decide) (fun c_4 => absurd c_4 (by decide)) (fun c_4 => ?_)
  refine lv_aload_n hx hb dX6_clear_22 rfl (lv_at hl 2 rfl) ?_
  refine va_get (D := D) (ci := 6) (v := .ref v7) (C := RX6) (T := TX6) (N := 30) hx hb hts iwX6 hown hK.1 hP 0 rfl rfl 13 (by decide) fk31 (fun _ h9 => h9) rfl dX6_clear_23 ?_
  refine lv_iload_n hx hb dX6_clear_26 rfl (lv_at hl 0 rfl) ?_
  refine lv_iconst (v := 0) hx hb dX6_clear_27 (by decide) ?_
  refine my_iast hx hb hK hP hD hS 8 rfl (j := 3) (ix_nI (j := 3) (by decide) (by decide)) dX6_clear_28 (fun H locs hP hD hS => ?_)
  have hP : va_P D vwCl [(vh, .inr (6, [.int mm, .int (nI n), .int tl, .int ho, .ref v0, .ref v1, .ref v2, .ref v3, .ref v4, .ref v5, .ref v6, .int sl, .int 0, .ref v7, .int 0, .int ak, .int (nI k), .ref v8, .int isw, .int nw, .ref v9, .long sn, .int ek, .int em, .int eh, .int es, .int ed, .int el, .ref v10, .long hs])), (v0, .inl (cI, 4, .inl kd)), (v1, .inl (cI, 4, .inl st)), (v2, .inl (cI, 4, .inl co)), (v3, .inl (cI, 4, .inl gt)), (v4, .inl (cI, 4, .inl pd)), (v5, .inl (cI, 4, .inl de)), (v6, .inl (cI, 4, .inl us)), (v7, .inl (cI, 4, .inl (upd (upd (upd (upd tm 0 0) 1 0) 2 0) 3 0))), (v8, .inl (cB, 18, .inl lt)), (v9, .inl (cI, 4, .inl sv)), (v10, .inl (cI, 24, .inl ke))] H := hP
  have hD : va_D A [(vh, .inr (6, [.int mm, .int (nI n), .int tl, .int ho, .ref v0, .ref v1, .ref v2, .ref v3, .ref v4, .ref v5, .ref v6, .int sl, .int 0, .ref v7, .int 0, .int ak, .int (nI k), .ref v8, .int isw, .int nw, .ref v9, .long sn, .int ek, .int em, .int eh, .int es, .int ed, .int el, .ref v10, .long hs])), (v0, .inl (cI, 4, .inl kd)), (v1, .inl (cI, 4, .inl st)), (v2, .inl (cI, 4, .inl co)), (v3, .inl (cI, 4, .inl gt)), (v4, .inl (cI, 4, .inl pd)), (v5, .inl (cI, 4, .inl de)), (v6, .inl (cI, 4, .inl us)), (v7, .inl (cI, 4, .inl (upd (upd (upd (upd tm 0 0) 1 0) 2 0) 3 0))), (v8, .inl (cB, 18, .inl lt)), (v9, .inl (cI, 4, .inl sv)), (v10, .inl (cI, 24, .inl ke))] := hD
  refine lv_iinc (v := 4) (lv' := [(2, .int 4), (1, .int hd), (0, .ref vh)]) hx hb dX6_clear_29 hl (k := 0) rfl (by decide) (by decide) rfl (fun ls hl => ?_)
  refine lv_goto (tgt := 17) hx hb dX6_clear_32 (by decide) ?_
  refine lv_iload_n hx hb dX6_clear_17 rfl (lv_at hl 0 rfl) ?_
  refine lv_iconst (v := 4) hx hb dX6_clear_18 (by decide) ?_
  refine lv_icmp_ge (tgt := 35) hx hb dX6_clear_19 (by decide) (fun c_5 => ?_) (fun c_5 => absurd c_5 (by decide))
  refine lv_iload_n hx hb dX6_clear_35 rfl (lv_at hl 1 rfl) ?_
  have hP := va_P.arr (g := (fun _ => 0)) hP 8 rfl (fun j hj => co_4 (P := fun j => (upd (upd (upd (upd tm 0 0) 1 0) 2 0) 3 0) j = 0) rfl rfl rfl rfl hj)
  have hD := va_D.set (p := 8) (e := .inl (cI, 4, .inl (fun _ => 0))) hD rfl
  have hP : va_P D vwCl [(vh, .inr (6, [.int mm, .int (nI n), .int tl, .int ho, .ref v0, .ref v1, .ref v2, .ref v3, .ref v4, .ref v5, .ref v6, .int sl, .int 0, .ref v7, .int 0, .int ak, .int (nI k), .ref v8, .int isw, .int nw, .ref v9, .long sn, .int ek, .int em, .int eh, .int es, .int ed, .int el, .ref v10, .long hs])), (v0, .inl (cI, 4, .inl kd)), (v1, .inl (cI, 4, .inl st)), (v2, .inl (cI, 4, .inl co)), (v3, .inl (cI, 4, .inl gt)), (v4, .inl (cI, 4, .inl pd)), (v5, .inl (cI, 4, .inl de)), (v6, .inl (cI, 4, .inl us)), (v7, .inl (cI, 4, .inl (fun _ => 0))), (v8, .inl (cB, 18, .inl lt)), (v9, .inl (cI, 4, .inl sv)), (v10, .inl (cI, 24, .inl ke))] H := hP
  have hD : va_D A [(vh, .inr (6, [.int mm, .int (nI n), .int tl, .int ho, .ref v0, .ref v1, .ref v2, .ref v3, .ref v4, .ref v5, .ref v6, .int sl, .int 0, .ref v7, .int 0, .int ak, .int (nI k), .ref v8, .int isw, .int nw, .ref v9, .long sn, .int ek, .int em, .int eh, .int es, .int ed, .int el, .ref v10, .long hs])), (v0, .inl (cI, 4, .inl kd)), (v1, .inl (cI, 4, .inl st)), (v2, .inl (cI, 4, .inl co)), (v3, .inl (cI, 4, .inl gt)), (v4, .inl (cI, 4, .inl pd)), (v5, .inl (cI, 4, .inl de)), (v6, .inl (cI, 4, .inl us)), (v7, .inl (cI, 4, .inl (fun _ => 0))), (v8, .inl (cB, 18, .inl lt)), (v9, .inl (cI, 4, .inl sv)), (v10, .inl (cI, 24, .inl ke))] := hD
  exact retWi (u := ()) hx hb hr hlocks rfl hP hD hS dX6_clear_36
def fairQ (co : Nat → Int32) (oz : Int32) (jd : Nat) (b : Int32) (i : Nat) : Bool := decide (nI i = b) || decide (oz * co jd ≤ oz * co i)
set_option maxHeartbeats 4000000 in
set_option maxRecDepth 100000 in
theorem c_X6_fairNow (l : Launch) (D : va_G) (cB cC cI : ClassId) (vh : Nat) (v0 : Nat) (v1 : Nat) (v2 : Nat) (v3 : Nat) (v4 : Nat) (v5 : Nat) (v6 : Nat) (v7 : Nat) (v8 : Nat) (v9 : Nat) (v10 : Nat) (kd : Nat → Int32) (st : Nat → Int32) (co : Nat → Int32) (gt : Nat → Int32) (pd : Nat → Int32) (de : Nat → Int32) (us : Nat → Int32) (tm : Nat → Int32) (lt : Nat → Int32) (sv : Nat → Int32) (ke : Nat → Int32) (mm : Int32) (n : Nat) (tl : Int32) (ho : Int32) (sl : Int32) (hd : Int32) (lo : Int32) (ak : Int32) (k : Nat) (isw : Int32) (nw : Int32) (sn : Int64) (ek : Int32) (em : Int32) (eh : Int32) (es : Int32) (ed : Int32) (el : Int32) (hs : Int64) (d : Int32) (jd : Nat) (b : Int32) (jb : Nat) (hn : n ≤ 4) (hd4 : ix d jd 4) (hb4 : ix b jb 4) : Met l yX6_fairNow wsX6_fairNow ({ frames := 1, cells := 0, slots := 0, locals := 24 }) (gPr D cB cC cI [.ref vh, .int d, .int b] [(vh, .inr (6, [.int mm, .int (nI n), .int tl, .int ho, .ref v0, .ref v1, .ref v2, .ref v3, .ref v4, .ref v5, .ref v6, .int sl, .int hd, .ref v7, .int lo, .int ak, .int (nI k), .ref v8, .int isw, .int nw, .ref v9, .long sn, .int ek, .int em, .int eh, .int es, .int ed, .int el, .ref v10, .long hs])), (v0, .inl (cI, 4, .inl kd)), (v1, .inl (cI, 4, .inl st)), (v2, .inl (cI, 4, .inl co)), (v3, .inl (cI, 4, .inl gt)), (v4, .inl (cI, 4, .inl pd)), (v5, .inl (cI, 4, .inl de)), (v6, .inl (cI, 4, .inl us)), (v7, .inl (cI, 4, .inl tm)), (v8, .inl (cB, 18, .inl lt)), (v9, .inl (cI, 4, .inl sv)), (v10, .inl (cI, 24, .inl ke))]) (vp_Si (fun r => r = b2 (allB (fairQ co (f_X6_ounces kd st tl jb jb ho) jd b) n))) 0 0 (fun _ => False) := by
  refine metR (cc := cX6_fairNow) (maxL := 6) (ret := (some .int)) RX6 rfl (by decide) rfl (Nat.le_of_ble_eq_true rfl) ?_
  intro p e s m below meth c hx hb hr hml hown hts hlocks hP hK ls hl
  have iwX6 : ∀ w ∈ wsX60, w ∈ wsX6_fairNow := by decide +kernel
  have fk73 := hts (.fieldLink RX6 73 "BuyersWeightsModel" "houses" "I") (by decide +kernel)
  have fk16 := hts (.fieldLink RX6 16 "BuyersWeightsModel" "coinOf" "[I") (by decide +kernel)
  have fk82 := hts (.fieldLink RX6 82 "BuyersWeightsModel" "hour" "I") (by decide +kernel)
  have cut_17 : ∀ (fu : Nat) (j : Nat), j ≤ n → n - j < fu → ∀ (ls : Array Slot), lv_has ls 6 [(0, .ref vh), (1, .int d), (2, .int b), (3, .int (f_X6_ounces kd st tl jb jb ho)), (5, .int (nI j)), (4, .int (b2 (allB (fairQ co (f_X6_ounces kd st tl jb jb ho) jd b) j)))] → W p l e (headSpec wsX6_fairNow ({ frames := 1, cells := 0, slots := 0, locals := 24 })).room s m ([.ref vh, .int d, .int b] : List Value).toArray below meth c s.heap [] 0 0 (MQ below (vp_Si (fun r => r = b2 (allB (fairQ co (f_X6_ounces kd st tl jb jb ho) jd b) n))) ([.ref vh, .int d, .int b] : List Value).toArray s 0 0 (fun _ => False)) (F0 m 17 ls []) := by
    intro fu
    induction fu with
    | zero => intro j hj hfu; exact absurd hfu (Nat.not_lt_zero _)
    | succ fu ih_17 =>
      intro j hj hfu ls hl
      refine lv_iload hx hb dX6_fairNow_17 (lv_at hl 4 rfl) ?_
      refine lv_aload_n hx hb dX6_fairNow_19 rfl (lv_at hl 0 rfl) ?_
      refine va_get (D := D) (ci := 6) (v := .int (nI n)) (C := RX6) (T := TX6) (N := 30) hx hb hts iwX6 hown hK.1 hP 0 rfl rfl 1 (by decide) fk73 (fun _ h9 => h9) rfl dX6_fairNow_20 ?_
      refine lv_icmp_ge (tgt := 70) hx hb dX6_fairNow_23 (by decide) (fun c_1 => ?_) (fun c_1 => ?_)
      · have hge : n ≤ j := (nI_leI (by omega) (by omega)).mp c_1
        refine lv_iload hx hb dX6_fairNow_70 (lv_at hl 5 rfl) ?_
        refine lv_if_eq (tgt := 79) hx hb dX6_fairNow_72 (by decide) (fun c_2 => ?_) (fun c_2 => ?_)
        · have ef : b2 (allB (fairQ co (f_X6_ounces kd st tl jb jb ho) jd b) n) = 0 := by rw [show n = j from by omega]; exact c_2
          refine lv_iconst (v := 0) hx hb dX6_fairNow_79 (by decide) ?_
          exact retRi hx hb hr hlocks (ef.symm) dX6_fairNow_80
        · have ef : b2 (allB (fairQ co (f_X6_ounces kd st tl jb jb ho) jd b) n) = 1 := by rw [show n = j from by omega]; rcases Bool.eq_false_or_eq_true (allB (fairQ co (f_X6_ounces kd st tl jb jb ho) jd b) j) with h | h; rw [h]; rfl; exact absurd (b2_0.mpr h) c_2
          refine lv_iconst (v := 1) hx hb dX6_fairNow_75 (by decide) ?_
          refine lv_goto (tgt := 80) hx hb dX6_fairNow_76 (by decide) ?_
          exact retRi hx hb hr hlocks (ef.symm) dX6_fairNow_80
      · have hlt : j < n := Nat.lt_of_not_le fun z => c_1 ((nI_leI (by omega) (by omega)).mpr z)
        refine lv_iload hx hb dX6_fairNow_26 (lv_at hl 5 rfl) ?_
        refine lv_if_eq (tgt := 61) hx hb dX6_fairNow_28 (by decide) (fun c_3 => ?_) (fun c_3 => ?_)
        · have er : allB (fairQ co (f_X6_ounces kd st tl jb jb ho) jd b) (j + 1) = false := by unfold allB; rw [b2_0.mp c_3]; rfl
          refine lv_iconst (v := 0) hx hb dX6_fairNow_61 (by decide) ?_
          refine lv_istore (lv' := [(4, .int 0), (0, .ref vh), (1, .int d), (2, .int b), (3, .int (f_X6_ounces kd st tl jb jb ho)), (5, .int (nI j))]) hx hb dX6_fairNow_62 hl (by decide) rfl (fun ls hl => ?_)
          refine lv_iinc (v := nI (j + 1)) (lv' := [(5, .int (nI (j + 1))), (4, .int 0), (0, .ref vh), (1, .int d), (2, .int b), (3, .int (f_X6_ounces kd st tl jb jb ho))]) hx hb dX6_fairNow_64 hl (k := 5) rfl (nI_1 j) (by decide) rfl (fun ls hl => ?_)
          refine lv_goto (tgt := 17) hx hb dX6_fairNow_67 (by decide) ?_
          exact ih_17 (j + 1) (by first | assumption | omega | rfl | exact Nat.zero_le _ | decide) (by omega) ls (by rw [er]; exact lv_sub hl [2, 3, 4, 5, 0, 1] rfl)
        · have ht : allB (fairQ co (f_X6_ounces kd st tl jb jb ho) jd b) j = true := by rcases Bool.eq_false_or_eq_true (allB (fairQ co (f_X6_ounces kd st tl jb jb ho) jd b) j) with h | h; exact h; exact absurd (b2_0.mpr h) c_3
          refine lv_iload hx hb dX6_fairNow_31 (lv_at hl 4 rfl) ?_
          refine lv_iload_n hx hb dX6_fairNow_33 rfl (lv_at hl 2 rfl) ?_
          refine lv_icmp_eq (tgt := 57) hx hb dX6_fairNow_34 (by decide) (fun c_4 => ?_) (fun c_4 => ?_)
          · have er : allB (fairQ co (f_X6_ounces kd st tl jb jb ho) jd b) (j + 1) = true := by unfold allB; rw [ht]; simp [fairQ, c_4]
            refine lv_iconst (v := 1) hx hb dX6_fairNow_57 (by decide) ?_
            refine lv_goto (tgt := 62) hx hb dX6_fairNow_58 (by decide) ?_
            refine lv_istore (lv' := [(4, .int 1), (0, .ref vh), (1, .int d), (2, .int b), (3, .int (f_X6_ounces kd st tl jb jb ho)), (5, .int (nI j))]) hx hb dX6_fairNow_62 hl (by decide) rfl (fun ls hl => ?_)
            refine lv_iinc (v := nI (j + 1)) (lv' := [(5, .int (nI (j + 1))), (4, .int 1), (0, .ref vh), (1, .int d), (2, .int b), (3, .int (f_X6_ounces kd st tl jb jb ho))]) hx hb dX6_fairNow_64 hl (k := 5) rfl (nI_1 j) (by decide) rfl (fun ls hl => ?_)
            refine lv_goto (tgt := 17) hx hb dX6_fairNow_67 (by decide) ?_
            exact ih_17 (j + 1) (by first | assumption | omega | rfl | exact Nat.zero_le _ | decide) (by omega) ls (by rw [er]; exact lv_sub hl [2, 3, 4, 5, 0, 1] rfl)
          · have hnb := c_4
            refine lv_iload_n hx hb dX6_fairNow_37 rfl (lv_at hl 3 rfl) ?_
            refine lv_aload_n hx hb dX6_fairNow_38 rfl (lv_at hl 0 rfl) ?_
            refine va_get (D := D) (ci := 6) (v := .ref v2) (C := RX6) (T := TX6) (N := 30) hx hb hts iwX6 hown hK.1 hP 0 rfl rfl 6 (by decide) fk16 (fun _ h9 => h9) rfl dX6_fairNow_39 ?_
            refine lv_iload hx hb dX6_fairNow_42 (lv_at hl 4 rfl) ?_
            refine my_iald hx hb hK hP 3 rfl (j := j) (ix_nI (by omega) (by decide)) dX6_fairNow_44 ?_
            refine lv_imul hx hb dX6_fairNow_45 ?_
            refine lv_iload_n hx hb dX6_fairNow_46 rfl (lv_at hl 3 rfl) ?_
            refine lv_aload_n hx hb dX6_fairNow_47 rfl (lv_at hl 0 rfl) ?_
            refine va_get (D := D) (ci := 6) (v := .ref v2) (C := RX6) (T := TX6) (N := 30) hx hb hts iwX6 hown hK.1 hP 0 rfl rfl 6 (by decide) fk16 (fun _ h9 => h9) rfl dX6_fairNow_48 ?_
            refine lv_iload_n hx hb dX6_fairNow_51 rfl (lv_at hl 1 rfl) ?_
            refine my_iald hx hb hK hP 3 rfl (j := jd) hd4 dX6_fairNow_52 ?_
            refine lv_imul hx hb dX6_fairNow_53 ?_
            refine lv_icmp_lt (tgt := 61) hx hb dX6_fairNow_54 (by decide) (fun c_5 => ?_) (fun c_5 => ?_)
            · have er : allB (fairQ co (f_X6_ounces kd st tl jb jb ho) jd b) (j + 1) = false := by unfold allB; rw [ht]; simp only [fairQ, decide_eq_false hnb, decide_eq_false (Int32.not_le.mpr c_5)]; rfl
              refine lv_iconst (v := 0) hx hb dX6_fairNow_61 (by decide) ?_
              refine lv_istore (lv' := [(4, .int 0), (0, .ref vh), (1, .int d), (2, .int b), (3, .int (f_X6_ounces kd st tl jb jb ho)), (5, .int (nI j))]) hx hb dX6_fairNow_62 hl (by decide) rfl (fun ls hl => ?_)
              refine lv_iinc (v := nI (j + 1)) (lv' := [(5, .int (nI (j + 1))), (4, .int 0), (0, .ref vh), (1, .int d), (2, .int b), (3, .int (f_X6_ounces kd st tl jb jb ho))]) hx hb dX6_fairNow_64 hl (k := 5) rfl (nI_1 j) (by decide) rfl (fun ls hl => ?_)
              refine lv_goto (tgt := 17) hx hb dX6_fairNow_67 (by decide) ?_
              exact ih_17 (j + 1) (by first | assumption | omega | rfl | exact Nat.zero_le _ | decide) (by omega) ls (by rw [er]; exact lv_sub hl [2, 3, 4, 5, 0, 1] rfl)
            · have er : allB (fairQ co (f_X6_ounces kd st tl jb jb ho) jd b) (j + 1) = true := by unfold allB; rw [ht]; simp [fairQ, Int32.not_lt.mp c_5]
              refine lv_iconst (v := 1) hx hb dX6_fairNow_57 (by decide) ?_
              refine lv_goto (tgt := 62) hx hb dX6_fairNow_58 (by decide) ?_
              refine lv_istore (lv' := [(4, .int 1), (0, .ref vh), (1, .int d), (2, .int b), (3, .int (f_X6_ounces kd st tl jb jb ho)), (5, .int (nI j))]) hx hb dX6_fairNow_62 hl (by decide) rfl (fun ls hl => ?_)
              refine lv_iinc (v := nI (j + 1)) (lv' := [(5, .int (nI (j + 1))), (4, .int 1), (0, .ref vh), (1, .int d), (2, .int b), (3, .int (f_X6_ounces kd st tl jb jb ho))]) hx hb dX6_fairNow_64 hl (k := 5) rfl (nI_1 j) (by decide) rfl (fun ls hl => ?_)
              refine lv_goto (tgt := 17) hx hb dX6_fairNow_67 (by decide) ?_
              exact ih_17 (j + 1) (by first | assumption | omega | rfl | exact Nat.zero_le _ | decide) (by omega) ls (by rw [er]; exact lv_sub hl [2, 3, 4, 5, 0, 1] rfl)
  have hl : lv_has ls 6 [(0, .ref vh), (1, .int d), (2, .int b)] := hl
  refine lv_aload_n hx hb dX6_fairNow_0 rfl (lv_at hl 0 rfl) ?_
  refine lv_iload_n hx hb dX6_fairNow_1 rfl (lv_at hl 2 rfl) ?_
  refine lv_iload_n hx hb dX6_fairNow_2 rfl (lv_at hl 2 rfl) ?_
  refine lv_aload_n hx hb dX6_fairNow_3 rfl (lv_at hl 0 rfl) ?_
  refine va_get (D := D) (ci := 6) (v := .int ho) (C := RX6) (T := TX6) (N := 30) hx hb hts iwX6 hown hK.1 hP 0 rfl rfl 3 (by decide) fk82 (fun _ h9 => h9) rfl dX6_fairNow_4 ?_
  refine rcVi (As := [.int b, .int b, .int ho]) (rest := []) ⟨hx, hb, hml, hown, hts⟩ (c_X6_ounces l D cB cC cI vh v0 v1 v2 v3 v4 v5 v6 v7 v8 v9 v10 kd st co gt pd de us tm lt sv ke mm n tl ho sl hd lo ak k isw nw sn ek em eh es ed el hs b jb b jb ho hb4 hb4) (cwV 3 hts gX6_fairNow_X6_ounces rfl rfl rfl (by decide +kernel) ⟨Nat.le_of_ble_eq_true rfl, Nat.le_of_ble_eq_true rfl⟩) hK hP [0, 1, 2, 3, 4, 5, 6, 7, 8, 9, 10, 11] rfl rfl 0 rfl rfl hl.1 rfl (Nat.le_of_ble_eq_true rfl) dX6_fairNow_7 ⟨Nat.zero_le _, Nat.zero_le _⟩ ?_
  refine lv_istore_n (lv' := [(3, .int (f_X6_ounces kd st tl jb jb ho)), (0, .ref vh), (1, .int d), (2, .int b)]) hx hb dX6_fairNow_10 rfl hl (by decide) rfl (fun ls hl => ?_)
  refine lv_iconst (v := 1) hx hb dX6_fairNow_11 (by decide) ?_
  refine lv_istore (lv' := [(4, .int 1), (3, .int (f_X6_ounces kd st tl jb jb ho)), (0, .ref vh), (1, .int d), (2, .int b)]) hx hb dX6_fairNow_12 hl (by decide) rfl (fun ls hl => ?_)
  refine lv_iconst (v := 0) hx hb dX6_fairNow_14 (by decide) ?_
  refine lv_istore (lv' := [(5, .int 0), (4, .int 1), (3, .int (f_X6_ounces kd st tl jb jb ho)), (0, .ref vh), (1, .int d), (2, .int b)]) hx hb dX6_fairNow_15 hl (by decide) rfl (fun ls hl => ?_)
  exact cut_17 ((n - 0) + 1) 0 (by first | assumption | omega | rfl | exact Nat.zero_le _ | decide) (Nat.lt_succ_self _) ls (lv_sub hl [3, 4, 5, 2, 0, 1] rfl)
def f_X6_fair (kd : Nat → Int32) (st : Nat → Int32) (co : Nat → Int32) (n : Nat) (tl : Int32) (ho : Int32) (d : Int32) (b : Int32) : Int32 := if (f_X6_within d 0 ((nI n) - 1)) = 0 then (-101) else if (f_X6_within b 0 ((nI n) - 1)) = 0 then (-101) else if d = b then (-101) else b2 (allB (fairQ co (f_X6_ounces kd st tl b.toNatClampNeg b.toNatClampNeg ho) d.toNatClampNeg b) n)
set_option maxHeartbeats 4000000 in
set_option maxRecDepth 100000 in
theorem c_X6_fair (l : Launch) (D : va_G) (cB cC cI : ClassId) (vh : Nat) (v0 : Nat) (v1 : Nat) (v2 : Nat) (v3 : Nat) (v4 : Nat) (v5 : Nat) (v6 : Nat) (v7 : Nat) (v8 : Nat) (v9 : Nat) (v10 : Nat) (kd : Nat → Int32) (st : Nat → Int32) (co : Nat → Int32) (gt : Nat → Int32) (pd : Nat → Int32) (de : Nat → Int32) (us : Nat → Int32) (tm : Nat → Int32) (lt : Nat → Int32) (sv : Nat → Int32) (ke : Nat → Int32) (mm : Int32) (n : Nat) (tl : Int32) (ho : Int32) (sl : Int32) (hd : Int32) (lo : Int32) (ak : Int32) (k : Nat) (isw : Int32) (nw : Int32) (sn : Int64) (ek : Int32) (em : Int32) (eh : Int32) (es : Int32) (ed : Int32) (el : Int32) (hs : Int64) (d : Int32) (b : Int32) (hn : n ≤ 4) : Met l yX6_fair wsX6_fair ({ frames := 2, cells := 0, slots := 0, locals := 49 }) (gPr D cB cC cI [.ref vh, .int d, .int b] [(vh, .inr (6, [.int mm, .int (nI n), .int tl, .int ho, .ref v0, .ref v1, .ref v2, .ref v3, .ref v4, .ref v5, .ref v6, .int sl, .int hd, .ref v7, .int lo, .int ak, .int (nI k), .ref v8, .int isw, .int nw, .ref v9, .long sn, .int ek, .int em, .int eh, .int es, .int ed, .int el, .ref v10, .long hs])), (v0, .inl (cI, 4, .inl kd)), (v1, .inl (cI, 4, .inl st)), (v2, .inl (cI, 4, .inl co)), (v3, .inl (cI, 4, .inl gt)), (v4, .inl (cI, 4, .inl pd)), (v5, .inl (cI, 4, .inl de)), (v6, .inl (cI, 4, .inl us)), (v7, .inl (cI, 4, .inl tm)), (v8, .inl (cB, 18, .inl lt)), (v9, .inl (cI, 4, .inl sv)), (v10, .inl (cI, 24, .inl ke))]) (vp_Si (fun r => r = (f_X6_fair kd st co n tl ho d b))) 0 0 (fun _ => False) := by
  refine metR (cc := cX6_fair) (maxL := 3) (ret := (some .int)) RX6 rfl (by decide) rfl (Nat.le_of_ble_eq_true rfl) ?_
  intro p e s m below meth c hx hb hr hml hown hts hlocks hP hK ls hl
  have hl : lv_has ls 3 [(0, .ref vh), (1, .int d), (2, .int b)] := hl
  refine lv_aload_n hx hb dX6_fair_0 rfl (lv_at hl 0 rfl) ?_
  refine lv_iload_n hx hb dX6_fair_1 rfl (lv_at hl 1 rfl) ?_
  refine rcVi (As := [.int d]) (rest := []) ⟨hx, hb, hml, hown, hts⟩ (c_X6_isHouse l D cB cC cI vh v0 v1 v2 v3 v4 v5 v6 v7 v8 v9 v10 kd st co gt pd de us tm lt sv ke mm n tl ho sl hd lo ak k isw nw sn ek em eh es ed el hs d) (cwV 1 hts gX6_fair_X6_isHouse rfl rfl rfl (by decide +kernel) ⟨Nat.le_of_ble_eq_true rfl, Nat.le_of_ble_eq_true rfl⟩) hK hP [0, 1, 2, 3, 4, 5, 6, 7, 8, 9, 10, 11] rfl rfl 0 rfl rfl hl.1 rfl (Nat.le_of_ble_eq_true rfl) dX6_fair_2 ⟨Nat.zero_le _, Nat.zero_le _⟩ ?_
  refine lv_if_eq (tgt := 30) hx hb dX6_fair_5 (by decide) (fun c_1 => ?_) (fun c_1 => ?_)
  · refine lv_bipush (v := (-101)) hx hb dX6_fair_30 (by decide) ?_
    have eG : f_X6_fair kd st co n tl ho d b = (-101) := if_pos c_1
    exact retRi hx hb hr hlocks eG.symm dX6_fair_32
  · have hid := (isH_ix hn c_1).up hn
    refine lv_aload_n hx hb dX6_fair_8 rfl (lv_at hl 0 rfl) ?_
    refine lv_iload_n hx hb dX6_fair_9 rfl (lv_at hl 2 rfl) ?_
    refine rcVi (As := [.int b]) (rest := []) ⟨hx, hb, hml, hown, hts⟩ (c_X6_isHouse l D cB cC cI vh v0 v1 v2 v3 v4 v5 v6 v7 v8 v9 v10 kd st co gt pd de us tm lt sv ke mm n tl ho sl hd lo ak k isw nw sn ek em eh es ed el hs b) (cwV 1 hts gX6_fair_X6_isHouse rfl rfl rfl (by decide +kernel) ⟨Nat.le_of_ble_eq_true rfl, Nat.le_of_ble_eq_true rfl⟩) hK hP [0, 1, 2, 3, 4, 5, 6, 7, 8, 9, 10, 11] rfl rfl 0 rfl rfl hl.1 rfl (Nat.le_of_ble_eq_true rfl) dX6_fair_10 ⟨Nat.zero_le _, Nat.zero_le _⟩ ?_
    refine lv_if_eq (tgt := 30) hx hb dX6_fair_13 (by decide) (fun c_2 => ?_) (fun c_2 => ?_)
    · refine lv_bipush (v := (-101)) hx hb dX6_fair_30 (by decide) ?_
      have eG : f_X6_fair kd st co n tl ho d b = (-101) := (if_neg c_1).trans (if_pos c_2)
      exact retRi hx hb hr hlocks eG.symm dX6_fair_32
    · have hib := (isH_ix hn c_2).up hn
      refine lv_iload_n hx hb dX6_fair_16 rfl (lv_at hl 1 rfl) ?_
      refine lv_iload_n hx hb dX6_fair_17 rfl (lv_at hl 2 rfl) ?_
      refine lv_icmp_eq (tgt := 30) hx hb dX6_fair_18 (by decide) (fun c_3 => ?_) (fun c_3 => ?_)
      · refine lv_bipush (v := (-101)) hx hb dX6_fair_30 (by decide) ?_
        have eG : f_X6_fair kd st co n tl ho d b = (-101) := (if_neg c_1).trans ((if_neg c_2).trans (if_pos c_3))
        exact retRi hx hb hr hlocks eG.symm dX6_fair_32
      · refine lv_aload_n hx hb dX6_fair_21 rfl (lv_at hl 0 rfl) ?_
        refine lv_iload_n hx hb dX6_fair_22 rfl (lv_at hl 1 rfl) ?_
        refine lv_iload_n hx hb dX6_fair_23 rfl (lv_at hl 2 rfl) ?_
        refine rcVi (As := [.int d, .int b]) (rest := []) ⟨hx, hb, hml, hown, hts⟩ (c_X6_fairNow l D cB cC cI vh v0 v1 v2 v3 v4 v5 v6 v7 v8 v9 v10 kd st co gt pd de us tm lt sv ke mm n tl ho sl hd lo ak k isw nw sn ek em eh es ed el hs d d.toNatClampNeg b b.toNatClampNeg (by first | assumption | omega | decide) hid hib) (cwV 2 hts gX6_fair_X6_fairNow rfl rfl rfl (by decide +kernel) ⟨Nat.le_of_ble_eq_true rfl, Nat.le_of_ble_eq_true rfl⟩) hK hP [0, 1, 2, 3, 4, 5, 6, 7, 8, 9, 10, 11] rfl rfl 0 rfl rfl hl.1 rfl (Nat.le_of_ble_eq_true rfl) dX6_fair_24 ⟨Nat.zero_le _, Nat.zero_le _⟩ ?_
        refine lv_goto (tgt := 32) hx hb dX6_fair_27 (by decide) ?_
        have eG : f_X6_fair kd st co n tl ho d b = b2 (allB (fairQ co (f_X6_ounces kd st tl b.toNatClampNeg b.toNatClampNeg ho) d.toNatClampNeg b) n) := (if_neg c_1).trans ((if_neg c_2).trans (if_neg c_3))
        exact retRi hx hb hr hlocks eG.symm dX6_fair_32
set_option maxHeartbeats 4000000 in
set_option maxRecDepth 100000 in
theorem c_X6_weighsAll (l : Launch) (D : va_G) (cB cC cI : ClassId) (vh : Nat) (v0 : Nat) (v1 : Nat) (v2 : Nat) (v3 : Nat) (v4 : Nat) (v5 : Nat) (v6 : Nat) (v7 : Nat) (v8 : Nat) (v9 : Nat) (v10 : Nat) (kd : Nat → Int32) (st : Nat → Int32) (co : Nat → Int32) (gt : Nat → Int32) (pd : Nat → Int32) (de : Nat → Int32) (us : Nat → Int32) (tm : Nat → Int32) (lt : Nat → Int32) (sv : Nat → Int32) (ke : Nat → Int32) (mm : Int32) (n : Nat) (tl : Int32) (ho : Int32) (sl : Int32) (hd : Int32) (lo : Int32) (ak : Int32) (k : Nat) (isw : Int32) (nw : Int32) (sn : Int64) (ek : Int32) (em : Int32) (eh : Int32) (es : Int32) (ed : Int32) (el : Int32) (hs : Int64) (hn : n ≤ 4) : Met l yX6_weighsAll wsX6_weighsAll ({ frames := 0, cells := 0, slots := 0, locals := 0 }) (gPr D cB cC cI [.ref vh] [(vh, .inr (6, [.int mm, .int (nI n), .int tl, .int ho, .ref v0, .ref v1, .ref v2, .ref v3, .ref v4, .ref v5, .ref v6, .int sl, .int hd, .ref v7, .int lo, .int ak, .int (nI k), .ref v8, .int isw, .int nw, .ref v9, .long sn, .int ek, .int em, .int eh, .int es, .int ed, .int el, .ref v10, .long hs])), (v0, .inl (cI, 4, .inl kd)), (v1, .inl (cI, 4, .inl st)), (v2, .inl (cI, 4, .inl co)), (v3, .inl (cI, 4, .inl gt)), (v4, .inl (cI, 4, .inl pd)), (v5, .inl (cI, 4, .inl de)), (v6, .inl (cI, 4, .inl us)), (v7, .inl (cI, 4, .inl tm)), (v8, .inl (cB, 18, .inl lt)), (v9, .inl (cI, 4, .inl sv)), (v10, .inl (cI, 24, .inl ke))]) (vp_Si (fun r => r = sumL st n)) 0 0 (fun _ => False) := by
  refine metR (cc := cX6_weighsAll) (maxL := 3) (ret := (some .int)) RX6 rfl (by decide) rfl (Nat.le_of_ble_eq_true rfl) ?_
  intro p e s m below meth c hx hb hr hml hown hts hlocks hP hK ls hl
  have iwX6 : ∀ w ∈ wsX60, w ∈ wsX6_weighsAll := by decide +kernel
  have fk73 := hts (.fieldLink RX6 73 "BuyersWeightsModel" "houses" "I") (by decide +kernel)
  have fk13 := hts (.fieldLink RX6 13 "BuyersWeightsModel" "weighsOf" "[I") (by decide +kernel)
  have cut_4 : ∀ (fu : Nat) (j : Nat), j ≤ n → n - j < fu → ∀ (ls : Array Slot), lv_has ls 3 [(0, .ref vh), (2, .int (nI j)), (1, .int (sumL st j))] → W p l e (headSpec wsX6_weighsAll ({ frames := 0, cells := 0, slots := 0, locals := 0 })).room s m ([.ref vh] : List Value).toArray below meth c s.heap [] 0 0 (MQ below (vp_Si (fun r => r = sumL st n)) ([.ref vh] : List Value).toArray s 0 0 (fun _ => False)) (F0 m 4 ls []) := by
    intro fu
    induction fu with
    | zero => intro j hj hfu; exact absurd hfu (Nat.not_lt_zero _)
    | succ fu ih_4 =>
      intro j hj hfu ls hl
      refine lv_iload_n hx hb dX6_weighsAll_4 rfl (lv_at hl 1 rfl) ?_
      refine lv_aload_n hx hb dX6_weighsAll_5 rfl (lv_at hl 0 rfl) ?_
      refine va_get (D := D) (ci := 6) (v := .int (nI n)) (C := RX6) (T := TX6) (N := 30) hx hb hts iwX6 hown hK.1 hP 0 rfl rfl 1 (by decide) fk73 (fun _ h9 => h9) rfl dX6_weighsAll_6 ?_
      refine lv_icmp_ge (tgt := 27) hx hb dX6_weighsAll_9 (by decide) (fun c_1 => ?_) (fun c_1 => ?_)
      · have hge : n ≤ j := (nI_leI (by omega) (by omega)).mp c_1
        refine lv_iload_n hx hb dX6_weighsAll_27 rfl (lv_at hl 2 rfl) ?_
        exact retRi hx hb hr hlocks (by rw [show j = n from by omega]) dX6_weighsAll_28
      · have hlt : j < n := Nat.lt_of_not_le fun z => c_1 ((nI_leI (by omega) (by omega)).mpr z)
        refine lv_iload_n hx hb dX6_weighsAll_12 rfl (lv_at hl 2 rfl) ?_
        refine lv_aload_n hx hb dX6_weighsAll_13 rfl (lv_at hl 0 rfl) ?_
        refine va_get (D := D) (ci := 6) (v := .ref v1) (C := RX6) (T := TX6) (N := 30) hx hb hts iwX6 hown hK.1 hP 0 rfl rfl 5 (by decide) fk13 (fun _ h9 => h9) rfl dX6_weighsAll_14 ?_
        refine lv_iload_n hx hb dX6_weighsAll_17 rfl (lv_at hl 1 rfl) ?_
        refine my_iald hx hb hK hP 2 rfl (j := j) (ix_nI (by omega) (by decide)) dX6_weighsAll_18 ?_
        refine lv_iadd hx hb dX6_weighsAll_19 ?_
        refine lv_istore_n (lv' := [(1, .int ((sumL st j) + (st j))), (0, .ref vh), (2, .int (nI j))]) hx hb dX6_weighsAll_20 rfl hl (by decide) rfl (fun ls hl => ?_)
        refine lv_iinc (v := nI (j + 1)) (lv' := [(2, .int (nI (j + 1))), (1, .int ((sumL st j) + (st j))), (0, .ref vh)]) hx hb dX6_weighsAll_21 hl (k := 2) rfl (nI_1 j) (by decide) rfl (fun ls hl => ?_)
        refine lv_goto (tgt := 4) hx hb dX6_weighsAll_24 (by decide) ?_
        exact ih_4 (j + 1) (by first | assumption | omega | rfl | exact Nat.zero_le _ | decide) (by omega) ls (lv_sub hl [2, 0, 1] rfl)
  have hl : lv_has ls 3 [(0, .ref vh)] := hl
  refine lv_iconst (v := 0) hx hb dX6_weighsAll_0 (by decide) ?_
  refine lv_istore_n (lv' := [(1, .int 0), (0, .ref vh)]) hx hb dX6_weighsAll_1 rfl hl (by decide) rfl (fun ls hl => ?_)
  refine lv_iconst (v := 0) hx hb dX6_weighsAll_2 (by decide) ?_
  refine lv_istore_n (lv' := [(2, .int 0), (1, .int 0), (0, .ref vh)]) hx hb dX6_weighsAll_3 rfl hl (by decide) rfl (fun ls hl => ?_)
  exact cut_4 ((n - 0) + 1) 0 (by first | assumption | omega | rfl | exact Nat.zero_le _ | decide) (Nat.lt_succ_self _) ls (lv_sub hl [2, 0, 1] rfl)
def hnG (kd : Nat → Int32) (st : Nat → Int32) (co : Nat → Int32) (gt : Nat → Int32) (pd : Nat → Int32) (de : Nat → Int32) (us : Nat → Int32) (w : Int32) (j : Nat) : Int32 := (f_X6_houseNow kd st co gt pd de us j w)
set_option maxHeartbeats 4000000 in
set_option maxRecDepth 100000 in
theorem c_X6_sum (l : Launch) (D : va_G) (cB cC cI : ClassId) (vh : Nat) (v0 : Nat) (v1 : Nat) (v2 : Nat) (v3 : Nat) (v4 : Nat) (v5 : Nat) (v6 : Nat) (v7 : Nat) (v8 : Nat) (v9 : Nat) (v10 : Nat) (kd : Nat → Int32) (st : Nat → Int32) (co : Nat → Int32) (gt : Nat → Int32) (pd : Nat → Int32) (de : Nat → Int32) (us : Nat → Int32) (tm : Nat → Int32) (lt : Nat → Int32) (sv : Nat → Int32) (ke : Nat → Int32) (mm : Int32) (n : Nat) (tl : Int32) (ho : Int32) (sl : Int32) (hd : Int32) (lo : Int32) (ak : Int32) (k : Nat) (isw : Int32) (nw : Int32) (sn : Int64) (ek : Int32) (em : Int32) (eh : Int32) (es : Int32) (ed : Int32) (el : Int32) (hs : Int64) (w : Int32) (hn : n ≤ 4) : Met l yX6_sum wsX6_sum ({ frames := 1, cells := 0, slots := 0, locals := 22 }) (gPr D cB cC cI [.ref vh, .int w] [(vh, .inr (6, [.int mm, .int (nI n), .int tl, .int ho, .ref v0, .ref v1, .ref v2, .ref v3, .ref v4, .ref v5, .ref v6, .int sl, .int hd, .ref v7, .int lo, .int ak, .int (nI k), .ref v8, .int isw, .int nw, .ref v9, .long sn, .int ek, .int em, .int eh, .int es, .int ed, .int el, .ref v10, .long hs])), (v0, .inl (cI, 4, .inl kd)), (v1, .inl (cI, 4, .inl st)), (v2, .inl (cI, 4, .inl co)), (v3, .inl (cI, 4, .inl gt)), (v4, .inl (cI, 4, .inl pd)), (v5, .inl (cI, 4, .inl de)), (v6, .inl (cI, 4, .inl us)), (v7, .inl (cI, 4, .inl tm)), (v8, .inl (cB, 18, .inl lt)), (v9, .inl (cI, 4, .inl sv)), (v10, .inl (cI, 24, .inl ke))]) (vp_Si (fun r => r = sumL (hnG kd st co gt pd de us w) n)) 0 0 (fun _ => False) := by
  refine metR (cc := cX6_sum) (maxL := 4) (ret := (some .int)) RX6 rfl (by decide) rfl (Nat.le_of_ble_eq_true rfl) ?_
  intro p e s m below meth c hx hb hr hml hown hts hlocks hP hK ls hl
  have iwX6 : ∀ w ∈ wsX60, w ∈ wsX6_sum := by decide +kernel
  have fk73 := hts (.fieldLink RX6 73 "BuyersWeightsModel" "houses" "I") (by decide +kernel)
  have cut_4 : ∀ (fu : Nat) (j : Nat), j ≤ n → n - j < fu → ∀ (ls : Array Slot), lv_has ls 4 [(0, .ref vh), (1, .int w), (3, .int (nI j)), (2, .int (sumL (hnG kd st co gt pd de us w) j))] → W p l e (headSpec wsX6_sum ({ frames := 1, cells := 0, slots := 0, locals := 22 })).room s m ([.ref vh, .int w] : List Value).toArray below meth c s.heap [] 0 0 (MQ below (vp_Si (fun r => r = sumL (hnG kd st co gt pd de us w) n)) ([.ref vh, .int w] : List Value).toArray s 0 0 (fun _ => False)) (F0 m 4 ls []) := by
    intro fu
    induction fu with
    | zero => intro j hj hfu; exact absurd hfu (Nat.not_lt_zero _)
    | succ fu ih_4 =>
      intro j hj hfu ls hl
      refine lv_iload_n hx hb dX6_sum_4 rfl (lv_at hl 2 rfl) ?_
      refine lv_aload_n hx hb dX6_sum_5 rfl (lv_at hl 0 rfl) ?_
      refine va_get (D := D) (ci := 6) (v := .int (nI n)) (C := RX6) (T := TX6) (N := 30) hx hb hts iwX6 hown hK.1 hP 0 rfl rfl 1 (by decide) fk73 (fun _ h9 => h9) rfl dX6_sum_6 ?_
      refine lv_icmp_ge (tgt := 27) hx hb dX6_sum_9 (by decide) (fun c_1 => ?_) (fun c_1 => ?_)
      · have hge : n ≤ j := (nI_leI (by omega) (by omega)).mp c_1
        refine lv_iload_n hx hb dX6_sum_27 rfl (lv_at hl 3 rfl) ?_
        exact retRi hx hb hr hlocks (by rw [show j = n from by omega]) dX6_sum_28
      · have hlt : j < n := Nat.lt_of_not_le fun z => c_1 ((nI_leI (by omega) (by omega)).mpr z)
        refine lv_iload_n hx hb dX6_sum_12 rfl (lv_at hl 3 rfl) ?_
        refine lv_aload_n hx hb dX6_sum_13 rfl (lv_at hl 0 rfl) ?_
        refine lv_iload_n hx hb dX6_sum_14 rfl (lv_at hl 2 rfl) ?_
        refine lv_iload_n hx hb dX6_sum_15 rfl (lv_at hl 1 rfl) ?_
        refine rcVi (As := [.int (nI j), .int w]) (rest := [.int (sumL (hnG kd st co gt pd de us w) j)]) ⟨hx, hb, hml, hown, hts⟩ (c_X6_houseNow l D cB cC cI vh v0 v1 v2 v3 v4 v5 v6 v7 v8 v9 v10 kd st co gt pd de us tm lt sv ke mm n tl ho sl hd lo ak k isw nw sn ek em eh es ed el hs (nI j) j w (ix_nI (by omega) (by decide))) (cwV 2 hts gX6_sum_X6_houseNow rfl rfl rfl (by decide +kernel) ⟨Nat.le_of_ble_eq_true rfl, Nat.le_of_ble_eq_true rfl⟩) hK hP [0, 1, 2, 3, 4, 5, 6, 7, 8, 9, 10, 11] rfl rfl 0 rfl rfl hl.1 rfl (Nat.le_of_ble_eq_true rfl) dX6_sum_16 ⟨Nat.zero_le _, Nat.zero_le _⟩ ?_
        refine lv_iadd hx hb dX6_sum_19 ?_
        refine lv_istore_n (lv' := [(2, .int ((sumL (hnG kd st co gt pd de us w) j) + (f_X6_houseNow kd st co gt pd de us j w))), (0, .ref vh), (1, .int w), (3, .int (nI j))]) hx hb dX6_sum_20 rfl hl (by decide) rfl (fun ls hl => ?_)
        refine lv_iinc (v := nI (j + 1)) (lv' := [(3, .int (nI (j + 1))), (2, .int ((sumL (hnG kd st co gt pd de us w) j) + (f_X6_houseNow kd st co gt pd de us j w))), (0, .ref vh), (1, .int w)]) hx hb dX6_sum_21 hl (k := 3) rfl (nI_1 j) (by decide) rfl (fun ls hl => ?_)
        refine lv_goto (tgt := 4) hx hb dX6_sum_24 (by decide) ?_
        exact ih_4 (j + 1) (by first | assumption | omega | rfl | exact Nat.zero_le _ | decide) (by omega) ls (lv_sub hl [2, 3, 0, 1] rfl)
  have hl : lv_has ls 4 [(0, .ref vh), (1, .int w)] := hl
  refine lv_iconst (v := 0) hx hb dX6_sum_0 (by decide) ?_
  refine lv_istore_n (lv' := [(2, .int 0), (0, .ref vh), (1, .int w)]) hx hb dX6_sum_1 rfl hl (by decide) rfl (fun ls hl => ?_)
  refine lv_iconst (v := 0) hx hb dX6_sum_2 (by decide) ?_
  refine lv_istore_n (lv' := [(3, .int 0), (2, .int 0), (0, .ref vh), (1, .int w)]) hx hb dX6_sum_3 rfl hl (by decide) rfl (fun ls hl => ?_)
  exact cut_4 ((n - 0) + 1) 0 (by first | assumption | omega | rfl | exact Nat.zero_le _ | decide) (Nat.lt_succ_self _) ls (lv_sub hl [2, 3, 0, 1] rfl)
def f_X6_howMany (kd : Nat → Int32) (st : Nat → Int32) (co : Nat → Int32) (gt : Nat → Int32) (pd : Nat → Int32) (de : Nat → Int32) (us : Nat → Int32) (mm : Int32) (n : Nat) (tl : Int32) (ho : Int32) (sl : Int32) (hd : Int32) (lo : Int32) (ak : Int32) (k : Nat) (w : Int32) : Int32 := if w = 0 then nI n else if w = 1 then tl else if w = 2 then ho else if w = 3 then sl else if w = 4 then sumL (hnG kd st co gt pd de us 3) n else if w = 5 then sumL (hnG kd st co gt pd de us 4) n else if w = 6 then sumL st n else if w = 7 then hd else if w = 8 then lo else if w = 9 then nI k else if w = 10 then mm else if w = 11 then ak else (-102)
set_option maxHeartbeats 4000000 in
set_option maxRecDepth 100000 in
theorem c_X6_howMany (l : Launch) (D : va_G) (cB cC cI : ClassId) (vh : Nat) (v0 : Nat) (v1 : Nat) (v2 : Nat) (v3 : Nat) (v4 : Nat) (v5 : Nat) (v6 : Nat) (v7 : Nat) (v8 : Nat) (v9 : Nat) (v10 : Nat) (kd : Nat → Int32) (st : Nat → Int32) (co : Nat → Int32) (gt : Nat → Int32) (pd : Nat → Int32) (de : Nat → Int32) (us : Nat → Int32) (tm : Nat → Int32) (lt : Nat → Int32) (sv : Nat → Int32) (ke : Nat → Int32) (mm : Int32) (n : Nat) (tl : Int32) (ho : Int32) (sl : Int32) (hd : Int32) (lo : Int32) (ak : Int32) (k : Nat) (isw : Int32) (nw : Int32) (sn : Int64) (ek : Int32) (em : Int32) (eh : Int32) (es : Int32) (ed : Int32) (el : Int32) (hs : Int64) (w : Int32) (hn : n ≤ 4) : Met l yX6_howMany wsX6_howMany ({ frames := 2, cells := 0, slots := 0, locals := 45 }) (gPr D cB cC cI [.ref vh, .int w] [(vh, .inr (6, [.int mm, .int (nI n), .int tl, .int ho, .ref v0, .ref v1, .ref v2, .ref v3, .ref v4, .ref v5, .ref v6, .int sl, .int hd, .ref v7, .int lo, .int ak, .int (nI k), .ref v8, .int isw, .int nw, .ref v9, .long sn, .int ek, .int em, .int eh, .int es, .int ed, .int el, .ref v10, .long hs])), (v0, .inl (cI, 4, .inl kd)), (v1, .inl (cI, 4, .inl st)), (v2, .inl (cI, 4, .inl co)), (v3, .inl (cI, 4, .inl gt)), (v4, .inl (cI, 4, .inl pd)), (v5, .inl (cI, 4, .inl de)), (v6, .inl (cI, 4, .inl us)), (v7, .inl (cI, 4, .inl tm)), (v8, .inl (cB, 18, .inl lt)), (v9, .inl (cI, 4, .inl sv)), (v10, .inl (cI, 24, .inl ke))]) (vp_Si (fun r => r = (f_X6_howMany kd st co gt pd de us mm n tl ho sl hd lo ak k w))) 0 0 (fun _ => False) := by
  refine metR (cc := cX6_howMany) (maxL := 2) (ret := (some .int)) RX6 rfl (by decide) rfl (Nat.le_of_ble_eq_true rfl) ?_
  intro p e s m below meth c hx hb hr hml hown hts hlocks hP hK ls hl
  have iwX6 : ∀ w ∈ wsX60, w ∈ wsX6_howMany := by decide +kernel
  have fk73 := hts (.fieldLink RX6 73 "BuyersWeightsModel" "houses" "I") (by decide +kernel)
  have fk76 := hts (.fieldLink RX6 76 "BuyersWeightsModel" "tilt" "I") (by decide +kernel)
  have fk82 := hts (.fieldLink RX6 82 "BuyersWeightsModel" "hour" "I") (by decide +kernel)
  have fk85 := hts (.fieldLink RX6 85 "BuyersWeightsModel" "sales" "I") (by decide +kernel)
  have fk88 := hts (.fieldLink RX6 88 "BuyersWeightsModel" "hands" "I") (by decide +kernel)
  have fk91 := hts (.fieldLink RX6 91 "BuyersWeightsModel" "lost" "I") (by decide +kernel)
  have fk48 := hts (.fieldLink RX6 48 "BuyersWeightsModel" "pageLength" "I") (by decide +kernel)
  have fk79 := hts (.fieldLink RX6 79 "BuyersWeightsModel" "marketMany" "I") (by decide +kernel)
  have fk124 := hts (.fieldLink RX6 124 "BuyersWeightsModel" "asks" "I") (by decide +kernel)
  have hl : lv_has ls 2 [(0, .ref vh), (1, .int w)] := hl
  refine lv_iload_n hx hb dX6_howMany_0 rfl (lv_at hl 1 rfl) ?_
  by_cases k_1 : w = 0
  · refine lv_tableIn (off := 63) (tgt := 64) hx hb dX6_howMany_1 (by rw [k_1]; decide) (by rw [k_1]; decide) (by rw [k_1]; decide +kernel) (by decide) ?_
    refine lv_aload_n hx hb dX6_howMany_64 rfl (lv_at hl 0 rfl) ?_
    refine va_get (D := D) (ci := 6) (v := .int (nI n)) (C := RX6) (T := TX6) (N := 30) hx hb hts iwX6 hown hK.1 hP 0 rfl rfl 1 (by decide) fk73 (fun _ h9 => h9) rfl dX6_howMany_65 ?_
    have eG : f_X6_howMany kd st co gt pd de us mm n tl ho sl hd lo ak k w = nI n := if_pos k_1
    exact retRi hx hb hr hlocks eG.symm dX6_howMany_68
  · by_cases k_2 : w = 1
    · refine lv_tableIn (off := 68) (tgt := 69) hx hb dX6_howMany_1 (by rw [k_2]; decide) (by rw [k_2]; decide) (by rw [k_2]; decide +kernel) (by decide) ?_
      refine lv_aload_n hx hb dX6_howMany_69 rfl (lv_at hl 0 rfl) ?_
      refine va_get (D := D) (ci := 6) (v := .int tl) (C := RX6) (T := TX6) (N := 30) hx hb hts iwX6 hown hK.1 hP 0 rfl rfl 2 (by decide) fk76 (fun _ h9 => h9) rfl dX6_howMany_70 ?_
      have eG : f_X6_howMany kd st co gt pd de us mm n tl ho sl hd lo ak k w = tl := (if_neg k_1).trans (if_pos k_2)
      exact retRi hx hb hr hlocks eG.symm dX6_howMany_73
    · by_cases k_3 : w = 2
      · refine lv_tableIn (off := 73) (tgt := 74) hx hb dX6_howMany_1 (by rw [k_3]; decide) (by rw [k_3]; decide) (by rw [k_3]; decide +kernel) (by decide) ?_
        refine lv_aload_n hx hb dX6_howMany_74 rfl (lv_at hl 0 rfl) ?_
        refine va_get (D := D) (ci := 6) (v := .int ho) (C := RX6) (T := TX6) (N := 30) hx hb hts iwX6 hown hK.1 hP 0 rfl rfl 3 (by decide) fk82 (fun _ h9 => h9) rfl dX6_howMany_75 ?_
        have eG : f_X6_howMany kd st co gt pd de us mm n tl ho sl hd lo ak k w = ho := (if_neg k_1).trans ((if_neg k_2).trans (if_pos k_3))
        exact retRi hx hb hr hlocks eG.symm dX6_howMany_78
      · by_cases k_4 : w = 3
        · refine lv_tableIn (off := 78) (tgt := 79) hx hb dX6_howMany_1 (by rw [k_4]; decide) (by rw [k_4]; decide) (by rw [k_4]; decide +kernel) (by decide) ?_
          refine lv_aload_n hx hb dX6_howMany_79 rfl (lv_at hl 0 rfl) ?_
          refine va_get (D := D) (ci := 6) (v := .int sl) (C := RX6) (T := TX6) (N := 30) hx hb hts iwX6 hown hK.1 hP 0 rfl rfl 11 (by decide) fk85 (fun _ h9 => h9) rfl dX6_howMany_80 ?_
          have eG : f_X6_howMany kd st co gt pd de us mm n tl ho sl hd lo ak k w = sl := (if_neg k_1).trans ((if_neg k_2).trans ((if_neg k_3).trans (if_pos k_4)))
          exact retRi hx hb hr hlocks eG.symm dX6_howMany_83
        · by_cases k_5 : w = 4
          · refine lv_tableIn (off := 83) (tgt := 84) hx hb dX6_howMany_1 (by rw [k_5]; decide) (by rw [k_5]; decide) (by rw [k_5]; decide +kernel) (by decide) ?_
            refine lv_aload_n hx hb dX6_howMany_84 rfl (lv_at hl 0 rfl) ?_
            refine lv_iconst (v := 3) hx hb dX6_howMany_85 (by decide) ?_
            refine rcVi (As := [.int 3]) (rest := []) ⟨hx, hb, hml, hown, hts⟩ (c_X6_sum l D cB cC cI vh v0 v1 v2 v3 v4 v5 v6 v7 v8 v9 v10 kd st co gt pd de us tm lt sv ke mm n tl ho sl hd lo ak k isw nw sn ek em eh es ed el hs 3 (by first | assumption | omega | decide)) (cwV 1 hts gX6_howMany_X6_sum rfl rfl rfl (by decide +kernel) ⟨Nat.le_of_ble_eq_true rfl, Nat.le_of_ble_eq_true rfl⟩) hK hP [0, 1, 2, 3, 4, 5, 6, 7, 8, 9, 10, 11] rfl rfl 0 rfl rfl hl.1 rfl (Nat.le_of_ble_eq_true rfl) dX6_howMany_86 ⟨Nat.zero_le _, Nat.zero_le _⟩ ?_
            have eG : f_X6_howMany kd st co gt pd de us mm n tl ho sl hd lo ak k w = sumL (hnG kd st co gt pd de us 3) n := (if_neg k_1).trans ((if_neg k_2).trans ((if_neg k_3).trans ((if_neg k_4).trans (if_pos k_5))))
            exact retRi hx hb hr hlocks eG.symm dX6_howMany_89
          · by_cases k_6 : w = 5
            · refine lv_tableIn (off := 89) (tgt := 90) hx hb dX6_howMany_1 (by rw [k_6]; decide) (by rw [k_6]; decide) (by rw [k_6]; decide +kernel) (by decide) ?_
              refine lv_aload_n hx hb dX6_howMany_90 rfl (lv_at hl 0 rfl) ?_
              refine lv_iconst (v := 4) hx hb dX6_howMany_91 (by decide) ?_
              refine rcVi (As := [.int 4]) (rest := []) ⟨hx, hb, hml, hown, hts⟩ (c_X6_sum l D cB cC cI vh v0 v1 v2 v3 v4 v5 v6 v7 v8 v9 v10 kd st co gt pd de us tm lt sv ke mm n tl ho sl hd lo ak k isw nw sn ek em eh es ed el hs 4 (by first | assumption | omega | decide)) (cwV 1 hts gX6_howMany_X6_sum rfl rfl rfl (by decide +kernel) ⟨Nat.le_of_ble_eq_true rfl, Nat.le_of_ble_eq_true rfl⟩) hK hP [0, 1, 2, 3, 4, 5, 6, 7, 8, 9, 10, 11] rfl rfl 0 rfl rfl hl.1 rfl (Nat.le_of_ble_eq_true rfl) dX6_howMany_92 ⟨Nat.zero_le _, Nat.zero_le _⟩ ?_
              have eG : f_X6_howMany kd st co gt pd de us mm n tl ho sl hd lo ak k w = sumL (hnG kd st co gt pd de us 4) n := (if_neg k_1).trans ((if_neg k_2).trans ((if_neg k_3).trans ((if_neg k_4).trans ((if_neg k_5).trans (if_pos k_6)))))
              exact retRi hx hb hr hlocks eG.symm dX6_howMany_95
            · by_cases k_7 : w = 6
              · refine lv_tableIn (off := 95) (tgt := 96) hx hb dX6_howMany_1 (by rw [k_7]; decide) (by rw [k_7]; decide) (by rw [k_7]; decide +kernel) (by decide) ?_
                refine lv_aload_n hx hb dX6_howMany_96 rfl (lv_at hl 0 rfl) ?_
                refine rcVi (As := []) (rest := []) ⟨hx, hb, hml, hown, hts⟩ (c_X6_weighsAll l D cB cC cI vh v0 v1 v2 v3 v4 v5 v6 v7 v8 v9 v10 kd st co gt pd de us tm lt sv ke mm n tl ho sl hd lo ak k isw nw sn ek em eh es ed el hs (by first | assumption | omega | decide)) (cwV 0 hts gX6_howMany_X6_weighsAll rfl rfl rfl (by decide +kernel) ⟨Nat.le_of_ble_eq_true rfl, Nat.le_of_ble_eq_true rfl⟩) hK hP [0, 1, 2, 3, 4, 5, 6, 7, 8, 9, 10, 11] rfl rfl 0 rfl rfl hl.1 rfl (Nat.le_of_ble_eq_true rfl) dX6_howMany_97 ⟨Nat.zero_le _, Nat.zero_le _⟩ ?_
                have eG : f_X6_howMany kd st co gt pd de us mm n tl ho sl hd lo ak k w = sumL st n := (if_neg k_1).trans ((if_neg k_2).trans ((if_neg k_3).trans ((if_neg k_4).trans ((if_neg k_5).trans ((if_neg k_6).trans (if_pos k_7))))))
                exact retRi hx hb hr hlocks eG.symm dX6_howMany_100
              · by_cases k_8 : w = 7
                · refine lv_tableIn (off := 100) (tgt := 101) hx hb dX6_howMany_1 (by rw [k_8]; decide) (by rw [k_8]; decide) (by rw [k_8]; decide +kernel) (by decide) ?_
                  refine lv_aload_n hx hb dX6_howMany_101 rfl (lv_at hl 0 rfl) ?_
                  refine va_get (D := D) (ci := 6) (v := .int hd) (C := RX6) (T := TX6) (N := 30) hx hb hts iwX6 hown hK.1 hP 0 rfl rfl 12 (by decide) fk88 (fun _ h9 => h9) rfl dX6_howMany_102 ?_
                  have eG : f_X6_howMany kd st co gt pd de us mm n tl ho sl hd lo ak k w = hd := (if_neg k_1).trans ((if_neg k_2).trans ((if_neg k_3).trans ((if_neg k_4).trans ((if_neg k_5).trans ((if_neg k_6).trans ((if_neg k_7).trans (if_pos k_8)))))))
                  exact retRi hx hb hr hlocks eG.symm dX6_howMany_105
                · by_cases k_9 : w = 8
                  · refine lv_tableIn (off := 105) (tgt := 106) hx hb dX6_howMany_1 (by rw [k_9]; decide) (by rw [k_9]; decide) (by rw [k_9]; decide +kernel) (by decide) ?_
                    refine lv_aload_n hx hb dX6_howMany_106 rfl (lv_at hl 0 rfl) ?_
                    refine va_get (D := D) (ci := 6) (v := .int lo) (C := RX6) (T := TX6) (N := 30) hx hb hts iwX6 hown hK.1 hP 0 rfl rfl 14 (by decide) fk91 (fun _ h9 => h9) rfl dX6_howMany_107 ?_
                    have eG : f_X6_howMany kd st co gt pd de us mm n tl ho sl hd lo ak k w = lo := (if_neg k_1).trans ((if_neg k_2).trans ((if_neg k_3).trans ((if_neg k_4).trans ((if_neg k_5).trans ((if_neg k_6).trans ((if_neg k_7).trans ((if_neg k_8).trans (if_pos k_9))))))))
                    exact retRi hx hb hr hlocks eG.symm dX6_howMany_110
                  · by_cases k_10 : w = 9
                    · refine lv_tableIn (off := 110) (tgt := 111) hx hb dX6_howMany_1 (by rw [k_10]; decide) (by rw [k_10]; decide) (by rw [k_10]; decide +kernel) (by decide) ?_
                      refine lv_aload_n hx hb dX6_howMany_111 rfl (lv_at hl 0 rfl) ?_
                      refine va_get (D := D) (ci := 6) (v := .int (nI k)) (C := RX6) (T := TX6) (N := 30) hx hb hts iwX6 hown hK.1 hP 0 rfl rfl 16 (by decide) fk48 (fun _ h9 => h9) rfl dX6_howMany_112 ?_
                      have eG : f_X6_howMany kd st co gt pd de us mm n tl ho sl hd lo ak k w = nI k := (if_neg k_1).trans ((if_neg k_2).trans ((if_neg k_3).trans ((if_neg k_4).trans ((if_neg k_5).trans ((if_neg k_6).trans ((if_neg k_7).trans ((if_neg k_8).trans ((if_neg k_9).trans (if_pos k_10)))))))))
                      exact retRi hx hb hr hlocks eG.symm dX6_howMany_115
                    · by_cases k_11 : w = 10
                      · refine lv_tableIn (off := 115) (tgt := 116) hx hb dX6_howMany_1 (by rw [k_11]; decide) (by rw [k_11]; decide) (by rw [k_11]; decide +kernel) (by decide) ?_
                        refine lv_aload_n hx hb dX6_howMany_116 rfl (lv_at hl 0 rfl) ?_
                        refine va_get (D := D) (ci := 6) (v := .int mm) (C := RX6) (T := TX6) (N := 30) hx hb hts iwX6 hown hK.1 hP 0 rfl rfl 0 (by decide) fk79 (fun _ h9 => h9) rfl dX6_howMany_117 ?_
                        have eG : f_X6_howMany kd st co gt pd de us mm n tl ho sl hd lo ak k w = mm := (if_neg k_1).trans ((if_neg k_2).trans ((if_neg k_3).trans ((if_neg k_4).trans ((if_neg k_5).trans ((if_neg k_6).trans ((if_neg k_7).trans ((if_neg k_8).trans ((if_neg k_9).trans ((if_neg k_10).trans (if_pos k_11))))))))))
                        exact retRi hx hb hr hlocks eG.symm dX6_howMany_120
                      · by_cases k_12 : w = 11
                        · refine lv_tableIn (off := 120) (tgt := 121) hx hb dX6_howMany_1 (by rw [k_12]; decide) (by rw [k_12]; decide) (by rw [k_12]; decide +kernel) (by decide) ?_
                          refine lv_aload_n hx hb dX6_howMany_121 rfl (lv_at hl 0 rfl) ?_
                          refine va_get (D := D) (ci := 6) (v := .int ak) (C := RX6) (T := TX6) (N := 30) hx hb hts iwX6 hown hK.1 hP 0 rfl rfl 15 (by decide) fk124 (fun _ h9 => h9) rfl dX6_howMany_122 ?_
                          have eG : f_X6_howMany kd st co gt pd de us mm n tl ho sl hd lo ak k w = ak := (if_neg k_1).trans ((if_neg k_2).trans ((if_neg k_3).trans ((if_neg k_4).trans ((if_neg k_5).trans ((if_neg k_6).trans ((if_neg k_7).trans ((if_neg k_8).trans ((if_neg k_9).trans ((if_neg k_10).trans ((if_neg k_11).trans (if_pos k_12)))))))))))
                          exact retRi hx hb hr hlocks eG.symm dX6_howMany_125
                        · have hout : w.toInt < 0 ∨ 11 < w.toInt := by
                            have q0 := lv_neT (a := 0) k_1 (by decide)
                            have q1 := lv_neT (a := 1) k_2 (by decide)
                            have q2 := lv_neT (a := 2) k_3 (by decide)
                            have q3 := lv_neT (a := 3) k_4 (by decide)
                            have q4 := lv_neT (a := 4) k_5 (by decide)
                            have q5 := lv_neT (a := 5) k_6 (by decide)
                            have q6 := lv_neT (a := 6) k_7 (by decide)
                            have q7 := lv_neT (a := 7) k_8 (by decide)
                            have q8 := lv_neT (a := 8) k_9 (by decide)
                            have q9 := lv_neT (a := 9) k_10 (by decide)
                            have q10 := lv_neT (a := 10) k_11 (by decide)
                            have q11 := lv_neT (a := 11) k_12 (by decide)
                            omega
                          refine lv_tableOut (tgt := 126) hx hb dX6_howMany_1 hout (by decide) ?_
                          refine lv_bipush (v := (-102)) hx hb dX6_howMany_126 (by decide) ?_
                          have eG : f_X6_howMany kd st co gt pd de us mm n tl ho sl hd lo ak k w = (-102) := (if_neg k_1).trans ((if_neg k_2).trans ((if_neg k_3).trans ((if_neg k_4).trans ((if_neg k_5).trans ((if_neg k_6).trans ((if_neg k_7).trans ((if_neg k_8).trans ((if_neg k_9).trans ((if_neg k_10).trans ((if_neg k_11).trans (if_neg k_12)))))))))))
                          exact retRi hx hb hr hlocks eG.symm dX6_howMany_128
set_option maxHeartbeats 4000000 in
set_option maxRecDepth 100000 in
theorem c_X6_count (l : Launch) (D : va_G) (cB cC cI : ClassId) (vh : Nat) (v0 : Nat) (v1 : Nat) (v2 : Nat) (v3 : Nat) (v4 : Nat) (v5 : Nat) (v6 : Nat) (v7 : Nat) (v8 : Nat) (v9 : Nat) (v10 : Nat) (kd : Nat → Int32) (st : Nat → Int32) (co : Nat → Int32) (gt : Nat → Int32) (pd : Nat → Int32) (de : Nat → Int32) (us : Nat → Int32) (tm : Nat → Int32) (lt : Nat → Int32) (sv : Nat → Int32) (ke : Nat → Int32) (mm : Int32) (n : Nat) (tl : Int32) (ho : Int32) (sl : Int32) (hd : Int32) (lo : Int32) (ak : Int32) (k : Nat) (isw : Int32) (nw : Int32) (sn : Int64) (ek : Int32) (em : Int32) (eh : Int32) (es : Int32) (ed : Int32) (el : Int32) (hs : Int64) (w : Int32) (hn : n ≤ 4) : Met l yX6_count wsX6_count ({ frames := 3, cells := 0, slots := 0, locals := 66 }) (gPr D cB cC cI [.ref vh, .int w] [(vh, .inr (6, [.int mm, .int (nI n), .int tl, .int ho, .ref v0, .ref v1, .ref v2, .ref v3, .ref v4, .ref v5, .ref v6, .int sl, .int hd, .ref v7, .int lo, .int ak, .int (nI k), .ref v8, .int isw, .int nw, .ref v9, .long sn, .int ek, .int em, .int eh, .int es, .int ed, .int el, .ref v10, .long hs])), (v0, .inl (cI, 4, .inl kd)), (v1, .inl (cI, 4, .inl st)), (v2, .inl (cI, 4, .inl co)), (v3, .inl (cI, 4, .inl gt)), (v4, .inl (cI, 4, .inl pd)), (v5, .inl (cI, 4, .inl de)), (v6, .inl (cI, 4, .inl us)), (v7, .inl (cI, 4, .inl tm)), (v8, .inl (cB, 18, .inl lt)), (v9, .inl (cI, 4, .inl sv)), (v10, .inl (cI, 24, .inl ke))]) (vp_Si (fun r => r = (f_X6_howMany kd st co gt pd de us mm n tl ho sl hd lo ak k w))) 0 0 (fun _ => False) := by
  refine metR (cc := cX6_count) (maxL := 2) (ret := (some .int)) RX6 rfl (by decide) rfl (Nat.le_of_ble_eq_true rfl) ?_
  intro p e s m below meth c hx hb hr hml hown hts hlocks hP hK ls hl
  have hl : lv_has ls 2 [(0, .ref vh), (1, .int w)] := hl
  refine lv_aload_n hx hb dX6_count_0 rfl (lv_at hl 0 rfl) ?_
  refine lv_iload_n hx hb dX6_count_1 rfl (lv_at hl 1 rfl) ?_
  refine rcVi (As := [.int w]) (rest := []) ⟨hx, hb, hml, hown, hts⟩ (c_X6_howMany l D cB cC cI vh v0 v1 v2 v3 v4 v5 v6 v7 v8 v9 v10 kd st co gt pd de us tm lt sv ke mm n tl ho sl hd lo ak k isw nw sn ek em eh es ed el hs w (by first | assumption | omega | decide)) (cwV 1 hts gX6_count_X6_howMany rfl rfl rfl (by decide +kernel) ⟨Nat.le_of_ble_eq_true rfl, Nat.le_of_ble_eq_true rfl⟩) hK hP [0, 1, 2, 3, 4, 5, 6, 7, 8, 9, 10, 11] rfl rfl 0 rfl rfl hl.1 rfl (Nat.le_of_ble_eq_true rfl) dX6_count_2 ⟨Nat.zero_le _, Nat.zero_le _⟩ ?_
  exact retRi hx hb hr hlocks rfl dX6_count_5
set_option maxHeartbeats 4000000 in
set_option maxRecDepth 100000 in
theorem c_X6_mix (l : Launch) (D : va_G) (cB cC cI : ClassId) (vh : Nat) (v0 : Nat) (v1 : Nat) (v2 : Nat) (v3 : Nat) (v4 : Nat) (v5 : Nat) (v6 : Nat) (v7 : Nat) (v8 : Nat) (v9 : Nat) (v10 : Nat) (kd : Nat → Int32) (st : Nat → Int32) (co : Nat → Int32) (gt : Nat → Int32) (pd : Nat → Int32) (de : Nat → Int32) (us : Nat → Int32) (tm : Nat → Int32) (lt : Nat → Int32) (sv : Nat → Int32) (ke : Nat → Int32) (mm : Int32) (n : Nat) (tl : Int32) (ho : Int32) (sl : Int32) (hd : Int32) (lo : Int32) (ak : Int32) (k : Nat) (isw : Int32) (nw : Int32) (sn : Int64) (ek : Int32) (em : Int32) (eh : Int32) (es : Int32) (ed : Int32) (el : Int32) (hs : Int64) (xx : Int64) (sz : Nat)  : Met l yX6_mix wsX6_mix ({ frames := 0, cells := 0, slots := 0, locals := 0 }) (gPw D cB cC cI [.ref vh, .long xx] [(vh, .inr (6, [.int mm, .int (nI n), .int tl, .int ho, .ref v0, .ref v1, .ref v2, .ref v3, .ref v4, .ref v5, .ref v6, .int sl, .int hd, .ref v7, .int lo, .int ak, .int (nI k), .ref v8, .int isw, .int nw, .ref v9, .long sn, .int ek, .int em, .int eh, .int es, .int ed, .int el, .ref v10, .long hs])), (v0, .inl (cI, 4, .inl kd)), (v1, .inl (cI, 4, .inl st)), (v2, .inl (cI, 4, .inl co)), (v3, .inl (cI, 4, .inl gt)), (v4, .inl (cI, 4, .inl pd)), (v5, .inl (cI, 4, .inl de)), (v6, .inl (cI, 4, .inl us)), (v7, .inl (cI, 4, .inl tm)), (v8, .inl (cB, 18, .inl lt)), (v9, .inl (cI, 4, .inl sv)), (v10, .inl (cI, 24, .inl ke))] sz) (QWv D [(vh, .inr (6, [.int mm, .int (nI n), .int tl, .int ho, .ref v0, .ref v1, .ref v2, .ref v3, .ref v4, .ref v5, .ref v6, .int sl, .int hd, .ref v7, .int lo, .int ak, .int (nI k), .ref v8, .int isw, .int nw, .ref v9, .long sn, .int ek, .int em, .int eh, .int es, .int ed, .int el, .ref v10, .long ((31 * hs) + xx)])), (v0, .inl (cI, 4, .inl kd)), (v1, .inl (cI, 4, .inl st)), (v2, .inl (cI, 4, .inl co)), (v3, .inl (cI, 4, .inl gt)), (v4, .inl (cI, 4, .inl pd)), (v5, .inl (cI, 4, .inl de)), (v6, .inl (cI, 4, .inl us)), (v7, .inl (cI, 4, .inl tm)), (v8, .inl (cB, 18, .inl lt)), (v9, .inl (cI, 4, .inl sv)), (v10, .inl (cI, 24, .inl ke))] (va_A [(vh, .inr (6, [.int mm, .int (nI n), .int tl, .int ho, .ref v0, .ref v1, .ref v2, .ref v3, .ref v4, .ref v5, .ref v6, .int sl, .int hd, .ref v7, .int lo, .int ak, .int (nI k), .ref v8, .int isw, .int nw, .ref v9, .long sn, .int ek, .int em, .int eh, .int es, .int ed, .int el, .ref v10, .long hs])), (v0, .inl (cI, 4, .inl kd)), (v1, .inl (cI, 4, .inl st)), (v2, .inl (cI, 4, .inl co)), (v3, .inl (cI, 4, .inl gt)), (v4, .inl (cI, 4, .inl pd)), (v5, .inl (cI, 4, .inl de)), (v6, .inl (cI, 4, .inl us)), (v7, .inl (cI, 4, .inl tm)), (v8, .inl (cB, 18, .inl lt)), (v9, .inl (cI, 4, .inl sv)), (v10, .inl (cI, 24, .inl ke))] sz)) 0 0 (va_A [(vh, .inr (6, [.int mm, .int (nI n), .int tl, .int ho, .ref v0, .ref v1, .ref v2, .ref v3, .ref v4, .ref v5, .ref v6, .int sl, .int hd, .ref v7, .int lo, .int ak, .int (nI k), .ref v8, .int isw, .int nw, .ref v9, .long sn, .int ek, .int em, .int eh, .int es, .int ed, .int el, .ref v10, .long hs])), (v0, .inl (cI, 4, .inl kd)), (v1, .inl (cI, 4, .inl st)), (v2, .inl (cI, 4, .inl co)), (v3, .inl (cI, 4, .inl gt)), (v4, .inl (cI, 4, .inl pd)), (v5, .inl (cI, 4, .inl de)), (v6, .inl (cI, 4, .inl us)), (v7, .inl (cI, 4, .inl tm)), (v8, .inl (cB, 18, .inl lt)), (v9, .inl (cI, 4, .inl sv)), (v10, .inl (cI, 24, .inl ke))] sz) := by
  refine metW (cc := cX6_mix) (maxL := 3) (ret := none) (QA := fun A => (QWv D [(vh, .inr (6, [.int mm, .int (nI n), .int tl, .int ho, .ref v0, .ref v1, .ref v2, .ref v3, .ref v4, .ref v5, .ref v6, .int sl, .int hd, .ref v7, .int lo, .int ak, .int (nI k), .ref v8, .int isw, .int nw, .ref v9, .long sn, .int ek, .int em, .int eh, .int es, .int ed, .int el, .ref v10, .long ((31 * hs) + xx)])), (v0, .inl (cI, 4, .inl kd)), (v1, .inl (cI, 4, .inl st)), (v2, .inl (cI, 4, .inl co)), (v3, .inl (cI, 4, .inl gt)), (v4, .inl (cI, 4, .inl pd)), (v5, .inl (cI, 4, .inl de)), (v6, .inl (cI, 4, .inl us)), (v7, .inl (cI, 4, .inl tm)), (v8, .inl (cB, 18, .inl lt)), (v9, .inl (cI, 4, .inl sv)), (v10, .inl (cI, 24, .inl ke))] A)) RX6 rfl (by decide) rfl (Nat.le_of_ble_eq_true rfl) ?_
  intro p e s m below meth c A hx hb hr hml hown hts hlocks hin hP hK hD hA hS ls hl
  have iwX6 : ∀ w ∈ wsX60, w ∈ wsX6_mix := by decide +kernel
  have fk193 := hts (.fieldLink RX6 193 "BuyersWeightsModel" "h" "J") (by decide +kernel)
  have hl : lv_has ls 3 [(0, .ref vh), (1, .long xx)] := hl
  refine lv_aload_n hx hb dX6_mix_0 rfl (lv_at hl 0 rfl) ?_
  refine lv_ldc2 (v := 31) hx hb hown (hts (.constantLong RX6 191 (31)) (by decide +kernel)) dX6_mix_1 ?_
  refine lv_aload_n hx hb dX6_mix_4 rfl (lv_at hl 0 rfl) ?_
  refine va_get (D := D) (ci := 6) (v := .long hs) (C := RX6) (T := TX6) (N := 30) hx hb hts iwX6 hown hK.1 hP 0 rfl rfl 29 (by decide) fk193 (fun _ h9 => h9) rfl dX6_mix_5 ?_
  refine lv_lmul hx hb dX6_mix_8 ?_
  refine lv_lload_n hx hb dX6_mix_9 rfl (lv_at hl 1 rfl) ?_
  refine lv_ladd hx hb dX6_mix_10 ?_
  refine va_put (D := D) (ci := 6) (v := .long ((31 * hs) + xx)) (ty := .long) (C := RX6) (T := TX6) (N := 30) hx hb hts iwX6 tyX6 tyX6_ok nmX6 hown hK.1 hP hD hS 0 rfl rfl 29 (by decide) fk193 (fun _ h9 => h9) rfl (by decide +kernel) rfl rfl (Nat.le_of_ble_eq_true rfl) dX6_mix_11 (fun H locs hP hD hS => ?_)
  have hP : va_P D vwCl [(vh, .inr (6, [.int mm, .int (nI n), .int tl, .int ho, .ref v0, .ref v1, .ref v2, .ref v3, .ref v4, .ref v5, .ref v6, .int sl, .int hd, .ref v7, .int lo, .int ak, .int (nI k), .ref v8, .int isw, .int nw, .ref v9, .long sn, .int ek, .int em, .int eh, .int es, .int ed, .int el, .ref v10, .long ((31 * hs) + xx)])), (v0, .inl (cI, 4, .inl kd)), (v1, .inl (cI, 4, .inl st)), (v2, .inl (cI, 4, .inl co)), (v3, .inl (cI, 4, .inl gt)), (v4, .inl (cI, 4, .inl pd)), (v5, .inl (cI, 4, .inl de)), (v6, .inl (cI, 4, .inl us)), (v7, .inl (cI, 4, .inl tm)), (v8, .inl (cB, 18, .inl lt)), (v9, .inl (cI, 4, .inl sv)), (v10, .inl (cI, 24, .inl ke))] H := hP
  have hD : va_D A [(vh, .inr (6, [.int mm, .int (nI n), .int tl, .int ho, .ref v0, .ref v1, .ref v2, .ref v3, .ref v4, .ref v5, .ref v6, .int sl, .int hd, .ref v7, .int lo, .int ak, .int (nI k), .ref v8, .int isw, .int nw, .ref v9, .long sn, .int ek, .int em, .int eh, .int es, .int ed, .int el, .ref v10, .long ((31 * hs) + xx)])), (v0, .inl (cI, 4, .inl kd)), (v1, .inl (cI, 4, .inl st)), (v2, .inl (cI, 4, .inl co)), (v3, .inl (cI, 4, .inl gt)), (v4, .inl (cI, 4, .inl pd)), (v5, .inl (cI, 4, .inl de)), (v6, .inl (cI, 4, .inl us)), (v7, .inl (cI, 4, .inl tm)), (v8, .inl (cB, 18, .inl lt)), (v9, .inl (cI, 4, .inl sv)), (v10, .inl (cI, 24, .inl ke))] := hD
  exact retWv (u := ()) hx hb hr hlocks trivial hP hD hS dX6_mix_14
/-- what an image keeps of the rows, six numbers a house -/
def kpF (a b c d e f : Nat → Int32) (i : Nat) : Int32 := if i % 6 = 0 then a (i / 6) else if i % 6 = 1 then b (i / 6) else if i % 6 = 2 then c (i / 6) else if i % 6 = 3 then d (i / 6) else if i % 6 = 4 then e (i / 6) else f (i / 6)
def keR (ke : Nat → Int32) (r i : Nat) : Int32 := ke (6 * i + r)
theorem lt24 {P : Nat → Prop} (h0 : P 0) (h1 : P 1) (h2 : P 2) (h3 : P 3) (h4 : P 4) (h5 : P 5) (h6 : P 6) (h7 : P 7) (h8 : P 8) (h9 : P 9) (h10 : P 10) (h11 : P 11) (h12 : P 12) (h13 : P 13) (h14 : P 14) (h15 : P 15) (h16 : P 16) (h17 : P 17) (h18 : P 18) (h19 : P 19) (h20 : P 20) (h21 : P 21) (h22 : P 22) (h23 : P 23) {i : Nat} (hi : i < 24) : P i := by
  match i, hi with
  | 0, _ => exact h0
  | 1, _ => exact h1
  | 2, _ => exact h2
  | 3, _ => exact h3
  | 4, _ => exact h4
  | 5, _ => exact h5
  | 6, _ => exact h6
  | 7, _ => exact h7
  | 8, _ => exact h8
  | 9, _ => exact h9
  | 10, _ => exact h10
  | 11, _ => exact h11
  | 12, _ => exact h12
  | 13, _ => exact h13
  | 14, _ => exact h14
  | 15, _ => exact h15
  | 16, _ => exact h16
  | 17, _ => exact h17
  | 18, _ => exact h18
  | 19, _ => exact h19
  | 20, _ => exact h20
  | 21, _ => exact h21
  | 22, _ => exact h22
  | 23, _ => exact h23
  | i + 24, hi => exact absurd hi (by omega)
def f_X6_image (st : Nat → Int32) (gt : Nat → Int32) (pd : Nat → Int32) (de : Nat → Int32) (us : Nat → Int32) (tm : Nat → Int32) (ke : Nat → Int32) (mm : Int32) (n : Nat) (ho : Int32) (sl : Int32) (hd : Int32) (lo : Int32) (ek : Int32) (em : Int32) (eh : Int32) (es : Int32) (ed : Int32) (el : Int32) : Int32 × Int32 × Int32 × Int32 × Int32 × Int32 × Int32 × (Nat → Int32) := if (nI n) = 0 then ((-103), ek, em, eh, es, ed, el, ke) else (ho, 1, mm, ho, sl, hd, lo, kpF st gt pd de us tm)
set_option maxHeartbeats 4000000 in
set_option maxRecDepth 100000 in
theorem c_X6_image (l : Launch) (D : va_G) (cB cC cI : ClassId) (vh : Nat) (v0 : Nat) (v1 : Nat) (v2 : Nat) (v3 : Nat) (v4 : Nat) (v5 : Nat) (v6 : Nat) (v7 : Nat) (v8 : Nat) (v9 : Nat) (v10 : Nat) (kd : Nat → Int32) (st : Nat → Int32) (co : Nat → Int32) (gt : Nat → Int32) (pd : Nat → Int32) (de : Nat → Int32) (us : Nat → Int32) (tm : Nat → Int32) (lt : Nat → Int32) (sv : Nat → Int32) (ke : Nat → Int32) (mm : Int32) (n : Nat) (tl : Int32) (ho : Int32) (sl : Int32) (hd : Int32) (lo : Int32) (ak : Int32) (k : Nat) (isw : Int32) (nw : Int32) (sn : Int64) (ek : Int32) (em : Int32) (eh : Int32) (es : Int32) (ed : Int32) (el : Int32) (hs : Int64) (sz : Nat)  : Met l yX6_image wsX6_image ({ frames := 0, cells := 0, slots := 0, locals := 0 }) (gPw D cB cC cI [.ref vh] [(vh, .inr (6, [.int mm, .int (nI n), .int tl, .int ho, .ref v0, .ref v1, .ref v2, .ref v3, .ref v4, .ref v5, .ref v6, .int sl, .int hd, .ref v7, .int lo, .int ak, .int (nI k), .ref v8, .int isw, .int nw, .ref v9, .long sn, .int ek, .int em, .int eh, .int es, .int ed, .int el, .ref v10, .long hs])), (v0, .inl (cI, 4, .inl kd)), (v1, .inl (cI, 4, .inl st)), (v2, .inl (cI, 4, .inl co)), (v3, .inl (cI, 4, .inl gt)), (v4, .inl (cI, 4, .inl pd)), (v5, .inl (cI, 4, .inl de)), (v6, .inl (cI, 4, .inl us)), (v7, .inl (cI, 4, .inl tm)), (v8, .inl (cB, 18, .inl lt)), (v9, .inl (cI, 4, .inl sv)), (v10, .inl (cI, 24, .inl ke))] sz) (QWi D ((f_X6_image st gt pd de us tm ke mm n ho sl hd lo ek em eh es ed el).1) [(vh, .inr (6, [.int mm, .int (nI n), .int tl, .int ho, .ref v0, .ref v1, .ref v2, .ref v3, .ref v4, .ref v5, .ref v6, .int sl, .int hd, .ref v7, .int lo, .int ak, .int (nI k), .ref v8, .int isw, .int nw, .ref v9, .long sn, .int ((f_X6_image st gt pd de us tm ke mm n ho sl hd lo ek em eh es ed el).2.1), .int ((f_X6_image st gt pd de us tm ke mm n ho sl hd lo ek em eh es ed el).2.2.1), .int ((f_X6_image st gt pd de us tm ke mm n ho sl hd lo ek em eh es ed el).2.2.2.1), .int ((f_X6_image st gt pd de us tm ke mm n ho sl hd lo ek em eh es ed el).2.2.2.2.1), .int ((f_X6_image st gt pd de us tm ke mm n ho sl hd lo ek em eh es ed el).2.2.2.2.2.1), .int ((f_X6_image st gt pd de us tm ke mm n ho sl hd lo ek em eh es ed el).2.2.2.2.2.2.1), .ref v10, .long hs])), (v0, .inl (cI, 4, .inl kd)), (v1, .inl (cI, 4, .inl st)), (v2, .inl (cI, 4, .inl co)), (v3, .inl (cI, 4, .inl gt)), (v4, .inl (cI, 4, .inl pd)), (v5, .inl (cI, 4, .inl de)), (v6, .inl (cI, 4, .inl us)), (v7, .inl (cI, 4, .inl tm)), (v8, .inl (cB, 18, .inl lt)), (v9, .inl (cI, 4, .inl sv)), (v10, .inl (cI, 24, .inl ((f_X6_image st gt pd de us tm ke mm n ho sl hd lo ek em eh es ed el).2.2.2.2.2.2.2)))] (va_A [(vh, .inr (6, [.int mm, .int (nI n), .int tl, .int ho, .ref v0, .ref v1, .ref v2, .ref v3, .ref v4, .ref v5, .ref v6, .int sl, .int hd, .ref v7, .int lo, .int ak, .int (nI k), .ref v8, .int isw, .int nw, .ref v9, .long sn, .int ek, .int em, .int eh, .int es, .int ed, .int el, .ref v10, .long hs])), (v0, .inl (cI, 4, .inl kd)), (v1, .inl (cI, 4, .inl st)), (v2, .inl (cI, 4, .inl co)), (v3, .inl (cI, 4, .inl gt)), (v4, .inl (cI, 4, .inl pd)), (v5, .inl (cI, 4, .inl de)), (v6, .inl (cI, 4, .inl us)), (v7, .inl (cI, 4, .inl tm)), (v8, .inl (cB, 18, .inl lt)), (v9, .inl (cI, 4, .inl sv)), (v10, .inl (cI, 24, .inl ke))] sz)) 0 0 (va_A [(vh, .inr (6, [.int mm, .int (nI n), .int tl, .int ho, .ref v0, .ref v1, .ref v2, .ref v3, .ref v4, .ref v5, .ref v6, .int sl, .int hd, .ref v7, .int lo, .int ak, .int (nI k), .ref v8, .int isw, .int nw, .ref v9, .long sn, .int ek, .int em, .int eh, .int es, .int ed, .int el, .ref v10, .long hs])), (v0, .inl (cI, 4, .inl kd)), (v1, .inl (cI, 4, .inl st)), (v2, .inl (cI, 4, .inl co)), (v3, .inl (cI, 4, .inl gt)), (v4, .inl (cI, 4, .inl pd)), (v5, .inl (cI, 4, .inl de)), (v6, .inl (cI, 4, .inl us)), (v7, .inl (cI, 4, .inl tm)), (v8, .inl (cB, 18, .inl lt)), (v9, .inl (cI, 4, .inl sv)), (v10, .inl (cI, 24, .inl ke))] sz) := by
  refine metW (cc := cX6_image) (maxL := 2) (ret := (some .int)) (QA := fun A => (QWi D ((f_X6_image st gt pd de us tm ke mm n ho sl hd lo ek em eh es ed el).1) [(vh, .inr (6, [.int mm, .int (nI n), .int tl, .int ho, .ref v0, .ref v1, .ref v2, .ref v3, .ref v4, .ref v5, .ref v6, .int sl, .int hd, .ref v7, .int lo, .int ak, .int (nI k), .ref v8, .int isw, .int nw, .ref v9, .long sn, .int ((f_X6_image st gt pd de us tm ke mm n ho sl hd lo ek em eh es ed el).2.1), .int ((f_X6_image st gt pd de us tm ke mm n ho sl hd lo ek em eh es ed el).2.2.1), .int ((f_X6_image st gt pd de us tm ke mm n ho sl hd lo ek em eh es ed el).2.2.2.1), .int ((f_X6_image st gt pd de us tm ke mm n ho sl hd lo ek em eh es ed el).2.2.2.2.1), .int ((f_X6_image st gt pd de us tm ke mm n ho sl hd lo ek em eh es ed el).2.2.2.2.2.1), .int ((f_X6_image st gt pd de us tm ke mm n ho sl hd lo ek em eh es ed el).2.2.2.2.2.2.1), .ref v10, .long hs])), (v0, .inl (cI, 4, .inl kd)), (v1, .inl (cI, 4, .inl st)), (v2, .inl (cI, 4, .inl co)), (v3, .inl (cI, 4, .inl gt)), (v4, .inl (cI, 4, .inl pd)), (v5, .inl (cI, 4, .inl de)), (v6, .inl (cI, 4, .inl us)), (v7, .inl (cI, 4, .inl tm)), (v8, .inl (cB, 18, .inl lt)), (v9, .inl (cI, 4, .inl sv)), (v10, .inl (cI, 24, .inl ((f_X6_image st gt pd de us tm ke mm n ho sl hd lo ek em eh es ed el).2.2.2.2.2.2.2)))] A)) RX6 rfl (by decide) rfl (Nat.le_of_ble_eq_true rfl) ?_
  intro p e s m below meth c A hx hb hr hml hown hts hlocks hin hP hK hD hA hS ls hl
  have iwX6 : ∀ w ∈ wsX60, w ∈ wsX6_image := by decide +kernel
  have fk73 := hts (.fieldLink RX6 73 "BuyersWeightsModel" "houses" "I") (by decide +kernel)
  have fk167 := hts (.fieldLink RX6 167 "BuyersWeightsModel" "isKept" "Z") (by decide +kernel)
  have fk79 := hts (.fieldLink RX6 79 "BuyersWeightsModel" "marketMany" "I") (by decide +kernel)
  have fk170 := hts (.fieldLink RX6 170 "BuyersWeightsModel" "keptMarket" "I") (by decide +kernel)
  have fk82 := hts (.fieldLink RX6 82 "BuyersWeightsModel" "hour" "I") (by decide +kernel)
  have fk173 := hts (.fieldLink RX6 173 "BuyersWeightsModel" "keptHour" "I") (by decide +kernel)
  have fk85 := hts (.fieldLink RX6 85 "BuyersWeightsModel" "sales" "I") (by decide +kernel)
  have fk176 := hts (.fieldLink RX6 176 "BuyersWeightsModel" "keptSales" "I") (by decide +kernel)
  have fk88 := hts (.fieldLink RX6 88 "BuyersWeightsModel" "hands" "I") (by decide +kernel)
  have fk179 := hts (.fieldLink RX6 179 "BuyersWeightsModel" "keptHands" "I") (by decide +kernel)
  have fk91 := hts (.fieldLink RX6 91 "BuyersWeightsModel" "lost" "I") (by decide +kernel)
  have fk182 := hts (.fieldLink RX6 182 "BuyersWeightsModel" "keptLost" "I") (by decide +kernel)
  have fk41 := hts (.fieldLink RX6 41 "BuyersWeightsModel" "kept" "[I") (by decide +kernel)
  have fk13 := hts (.fieldLink RX6 13 "BuyersWeightsModel" "weighsOf" "[I") (by decide +kernel)
  have fk19 := hts (.fieldLink RX6 19 "BuyersWeightsModel" "gotOf" "[I") (by decide +kernel)
  have fk22 := hts (.fieldLink RX6 22 "BuyersWeightsModel" "paidOf" "[I") (by decide +kernel)
  have fk25 := hts (.fieldLink RX6 25 "BuyersWeightsModel" "dealtOf" "[I") (by decide +kernel)
  have fk28 := hts (.fieldLink RX6 28 "BuyersWeightsModel" "usedOf" "[I") (by decide +kernel)
  have fk31 := hts (.fieldLink RX6 31 "BuyersWeightsModel" "handsOf" "[I") (by decide +kernel)
  have hl : lv_has ls 2 [(0, .ref vh)] := hl
  refine lv_aload_n hx hb dX6_image_0 rfl (lv_at hl 0 rfl) ?_
  refine va_get (D := D) (ci := 6) (v := .int (nI n)) (C := RX6) (T := TX6) (N := 30) hx hb hts iwX6 hown hK.1 hP 0 rfl rfl 1 (by decide) fk73 (fun _ h9 => h9) rfl dX6_image_1 ?_
  refine lv_if_ne (tgt := 10) hx hb dX6_image_4 (by decide) (fun c_1 => ?_) (fun c_1 => ?_)
  · refine lv_aload_n hx hb dX6_image_10 rfl (lv_at hl 0 rfl) ?_
    refine lv_iconst (v := 1) hx hb dX6_image_11 (by decide) ?_
    refine va_put (D := D) (ci := 6) (v := .int 1) (ty := .boolean) (C := RX6) (T := TX6) (N := 30) hx hb hts iwX6 tyX6 tyX6_ok nmX6 hown hK.1 hP hD hS 0 rfl rfl 22 (by decide) fk167 (fun _ h9 => h9) rfl (by decide +kernel) rfl rfl (Nat.le_of_ble_eq_true rfl) dX6_image_12 (fun H locs hP hD hS => ?_)
    have hP : va_P D vwCl [(vh, .inr (6, [.int mm, .int (nI n), .int tl, .int ho, .ref v0, .ref v1, .ref v2, .ref v3, .ref v4, .ref v5, .ref v6, .int sl, .int hd, .ref v7, .int lo, .int ak, .int (nI k), .ref v8, .int isw, .int nw, .ref v9, .long sn, .int 1, .int em, .int eh, .int es, .int ed, .int el, .ref v10, .long hs])), (v0, .inl (cI, 4, .inl kd)), (v1, .inl (cI, 4, .inl st)), (v2, .inl (cI, 4, .inl co)), (v3, .inl (cI, 4, .inl gt)), (v4, .inl (cI, 4, .inl pd)), (v5, .inl (cI, 4, .inl de)), (v6, .inl (cI, 4, .inl us)), (v7, .inl (cI, 4, .inl tm)), (v8, .inl (cB, 18, .inl lt)), (v9, .inl (cI, 4, .inl sv)), (v10, .inl (cI, 24, .inl ke))] H := hP
    have hD : va_D A [(vh, .inr (6, [.int mm, .int (nI n), .int tl, .int ho, .ref v0, .ref v1, .ref v2, .ref v3, .ref v4, .ref v5, .ref v6, .int sl, .int hd, .ref v7, .int lo, .int ak, .int (nI k), .ref v8, .int isw, .int nw, .ref v9, .long sn, .int 1, .int em, .int eh, .int es, .int ed, .int el, .ref v10, .long hs])), (v0, .inl (cI, 4, .inl kd)), (v1, .inl (cI, 4, .inl st)), (v2, .inl (cI, 4, .inl co)), (v3, .inl (cI, 4, .inl gt)), (v4, .inl (cI, 4, .inl pd)), (v5, .inl (cI, 4, .inl de)), (v6, .inl (cI, 4, .inl us)), (v7, .inl (cI, 4, .inl tm)), (v8, .inl (cB, 18, .inl lt)), (v9, .inl (cI, 4, .inl sv)), (v10, .inl (cI, 24, .inl ke))] := hD
    refine lv_aload_n hx hb dX6_image_15 rfl (lv_at hl 0 rfl) ?_
    refine lv_aload_n hx hb dX6_image_16 rfl (lv_at hl 0 rfl) ?_
    refine va_get (D := D) (ci := 6) (v := .int mm) (C := RX6) (T := TX6) (N := 30) hx hb hts iwX6 hown hK.1 hP 0 rfl rfl 0 (by decide) fk79 (fun _ h9 => h9) rfl dX6_image_17 ?_
    refine va_put (D := D) (ci := 6) (v := .int mm) (ty := .int) (C := RX6) (T := TX6) (N := 30) hx hb hts iwX6 tyX6 tyX6_ok nmX6 hown hK.1 hP hD hS 0 rfl rfl 23 (by decide) fk170 (fun _ h9 => h9) rfl (by decide +kernel) rfl rfl (Nat.le_of_ble_eq_true rfl) dX6_image_20 (fun H locs hP hD hS => ?_)
    have hP : va_P D vwCl [(vh, .inr (6, [.int mm, .int (nI n), .int tl, .int ho, .ref v0, .ref v1, .ref v2, .ref v3, .ref v4, .ref v5, .ref v6, .int sl, .int hd, .ref v7, .int lo, .int ak, .int (nI k), .ref v8, .int isw, .int nw, .ref v9, .long sn, .int 1, .int mm, .int eh, .int es, .int ed, .int el, .ref v10, .long hs])), (v0, .inl (cI, 4, .inl kd)), (v1, .inl (cI, 4, .inl st)), (v2, .inl (cI, 4, .inl co)), (v3, .inl (cI, 4, .inl gt)), (v4, .inl (cI, 4, .inl pd)), (v5, .inl (cI, 4, .inl de)), (v6, .inl (cI, 4, .inl us)), (v7, .inl (cI, 4, .inl tm)), (v8, .inl (cB, 18, .inl lt)), (v9, .inl (cI, 4, .inl sv)), (v10, .inl (cI, 24, .inl ke))] H := hP
    have hD : va_D A [(vh, .inr (6, [.int mm, .int (nI n), .int tl, .int ho, .ref v0, .ref v1, .ref v2, .ref v3, .ref v4, .ref v5, .ref v6, .int sl, .int hd, .ref v7, .int lo, .int ak, .int (nI k), .ref v8, .int isw, .int nw, .ref v9, .long sn, .int 1, .int mm, .int eh, .int es, .int ed, .int el, .ref v10, .long hs])), (v0, .inl (cI, 4, .inl kd)), (v1, .inl (cI, 4, .inl st)), (v2, .inl (cI, 4, .inl co)), (v3, .inl (cI, 4, .inl gt)), (v4, .inl (cI, 4, .inl pd)), (v5, .inl (cI, 4, .inl de)), (v6, .inl (cI, 4, .inl us)), (v7, .inl (cI, 4, .inl tm)), (v8, .inl (cB, 18, .inl lt)), (v9, .inl (cI, 4, .inl sv)), (v10, .inl (cI, 24, .inl ke))] := hD
    refine lv_aload_n hx hb dX6_image_23 rfl (lv_at hl 0 rfl) ?_
    refine lv_aload_n hx hb dX6_image_24 rfl (lv_at hl 0 rfl) ?_
    refine va_get (D := D) (ci := 6) (v := .int ho) (C := RX6) (T := TX6) (N := 30) hx hb hts iwX6 hown hK.1 hP 0 rfl rfl 3 (by decide) fk82 (fun _ h9 => h9) rfl dX6_image_25 ?_
    refine va_put (D := D) (ci := 6) (v := .int ho) (ty := .int) (C := RX6) (T := TX6) (N := 30) hx hb hts iwX6 tyX6 tyX6_ok nmX6 hown hK.1 hP hD hS 0 rfl rfl 24 (by decide) fk173 (fun _ h9 => h9) rfl (by decide +kernel) rfl rfl (Nat.le_of_ble_eq_true rfl) dX6_image_28 (fun H locs hP hD hS => ?_)
    have hP : va_P D vwCl [(vh, .inr (6, [.int mm, .int (nI n), .int tl, .int ho, .ref v0, .ref v1, .ref v2, .ref v3, .ref v4, .ref v5, .ref v6, .int sl, .int hd, .ref v7, .int lo, .int ak, .int (nI k), .ref v8, .int isw, .int nw, .ref v9, .long sn, .int 1, .int mm, .int ho, .int es, .int ed, .int el, .ref v10, .long hs])), (v0, .inl (cI, 4, .inl kd)), (v1, .inl (cI, 4, .inl st)), (v2, .inl (cI, 4, .inl co)), (v3, .inl (cI, 4, .inl gt)), (v4, .inl (cI, 4, .inl pd)), (v5, .inl (cI, 4, .inl de)), (v6, .inl (cI, 4, .inl us)), (v7, .inl (cI, 4, .inl tm)), (v8, .inl (cB, 18, .inl lt)), (v9, .inl (cI, 4, .inl sv)), (v10, .inl (cI, 24, .inl ke))] H := hP
    have hD : va_D A [(vh, .inr (6, [.int mm, .int (nI n), .int tl, .int ho, .ref v0, .ref v1, .ref v2, .ref v3, .ref v4, .ref v5, .ref v6, .int sl, .int hd, .ref v7, .int lo, .int ak, .int (nI k), .ref v8, .int isw, .int nw, .ref v9, .long sn, .int 1, .int mm, .int ho, .int es, .int ed, .int el, .ref v10, .long hs])), (v0, .inl (cI, 4, .inl kd)), (v1, .inl (cI, 4, .inl st)), (v2, .inl (cI, 4, .inl co)), (v3, .inl (cI, 4, .inl gt)), (v4, .inl (cI, 4, .inl pd)), (v5, .inl (cI, 4, .inl de)), (v6, .inl (cI, 4, .inl us)), (v7, .inl (cI, 4, .inl tm)), (v8, .inl (cB, 18, .inl lt)), (v9, .inl (cI, 4, .inl sv)), (v10, .inl (cI, 24, .inl ke))] := hD
    refine lv_aload_n hx hb dX6_image_31 rfl (lv_at hl 0 rfl) ?_
    refine lv_aload_n hx hb dX6_image_32 rfl (lv_at hl 0 rfl) ?_
    refine va_get (D := D) (ci := 6) (v := .int sl) (C := RX6) (T := TX6) (N := 30) hx hb hts iwX6 hown hK.1 hP 0 rfl rfl 11 (by decide) fk85 (fun _ h9 => h9) rfl dX6_image_33 ?_
    refine va_put (D := D) (ci := 6) (v := .int sl) (ty := .int) (C := RX6) (T := TX6) (N := 30) hx hb hts iwX6 tyX6 tyX6_ok nmX6 hown hK.1 hP hD hS 0 rfl rfl 25 (by decide) fk176 (fun _ h9 => h9) rfl (by decide +kernel) rfl rfl (Nat.le_of_ble_eq_true rfl) dX6_image_36 (fun H locs hP hD hS => ?_)
    have hP : va_P D vwCl [(vh, .inr (6, [.int mm, .int (nI n), .int tl, .int ho, .ref v0, .ref v1, .ref v2, .ref v3, .ref v4, .ref v5, .ref v6, .int sl, .int hd, .ref v7, .int lo, .int ak, .int (nI k), .ref v8, .int isw, .int nw, .ref v9, .long sn, .int 1, .int mm, .int ho, .int sl, .int ed, .int el, .ref v10, .long hs])), (v0, .inl (cI, 4, .inl kd)), (v1, .inl (cI, 4, .inl st)), (v2, .inl (cI, 4, .inl co)), (v3, .inl (cI, 4, .inl gt)), (v4, .inl (cI, 4, .inl pd)), (v5, .inl (cI, 4, .inl de)), (v6, .inl (cI, 4, .inl us)), (v7, .inl (cI, 4, .inl tm)), (v8, .inl (cB, 18, .inl lt)), (v9, .inl (cI, 4, .inl sv)), (v10, .inl (cI, 24, .inl ke))] H := hP
    have hD : va_D A [(vh, .inr (6, [.int mm, .int (nI n), .int tl, .int ho, .ref v0, .ref v1, .ref v2, .ref v3, .ref v4, .ref v5, .ref v6, .int sl, .int hd, .ref v7, .int lo, .int ak, .int (nI k), .ref v8, .int isw, .int nw, .ref v9, .long sn, .int 1, .int mm, .int ho, .int sl, .int ed, .int el, .ref v10, .long hs])), (v0, .inl (cI, 4, .inl kd)), (v1, .inl (cI, 4, .inl st)), (v2, .inl (cI, 4, .inl co)), (v3, .inl (cI, 4, .inl gt)), (v4, .inl (cI, 4, .inl pd)), (v5, .inl (cI, 4, .inl de)), (v6, .inl (cI, 4, .inl us)), (v7, .inl (cI, 4, .inl tm)), (v8, .inl (cB, 18, .inl lt)), (v9, .inl (cI, 4, .inl sv)), (v10, .inl (cI, 24, .inl ke))] := hD
    refine lv_aload_n hx hb dX6_image_39 rfl (lv_at hl 0 rfl) ?_
    refine lv_aload_n hx hb dX6_image_40 rfl (lv_at hl 0 rfl) ?_
    refine va_get (D := D) (ci := 6) (v := .int hd) (C := RX6) (T := TX6) (N := 30) hx hb hts iwX6 hown hK.1 hP 0 rfl rfl 12 (by decide) fk88 (fun _ h9 => h9) rfl dX6_image_41 ?_
    refine va_put (D := D) (ci := 6) (v := .int hd) (ty := .int) (C := RX6) (T := TX6) (N := 30) hx hb hts iwX6 tyX6 tyX6_ok nmX6 hown hK.1 hP hD hS 0 rfl rfl 26 (by decide) fk179 (fun _ h9 => h9) rfl (by decide +kernel) rfl rfl (Nat.le_of_ble_eq_true rfl) dX6_image_44 (fun H locs hP hD hS => ?_)
    have hP : va_P D vwCl [(vh, .inr (6, [.int mm, .int (nI n), .int tl, .int ho, .ref v0, .ref v1, .ref v2, .ref v3, .ref v4, .ref v5, .ref v6, .int sl, .int hd, .ref v7, .int lo, .int ak, .int (nI k), .ref v8, .int isw, .int nw, .ref v9, .long sn, .int 1, .int mm, .int ho, .int sl, .int hd, .int el, .ref v10, .long hs])), (v0, .inl (cI, 4, .inl kd)), (v1, .inl (cI, 4, .inl st)), (v2, .inl (cI, 4, .inl co)), (v3, .inl (cI, 4, .inl gt)), (v4, .inl (cI, 4, .inl pd)), (v5, .inl (cI, 4, .inl de)), (v6, .inl (cI, 4, .inl us)), (v7, .inl (cI, 4, .inl tm)), (v8, .inl (cB, 18, .inl lt)), (v9, .inl (cI, 4, .inl sv)), (v10, .inl (cI, 24, .inl ke))] H := hP
    have hD : va_D A [(vh, .inr (6, [.int mm, .int (nI n), .int tl, .int ho, .ref v0, .ref v1, .ref v2, .ref v3, .ref v4, .ref v5, .ref v6, .int sl, .int hd, .ref v7, .int lo, .int ak, .int (nI k), .ref v8, .int isw, .int nw, .ref v9, .long sn, .int 1, .int mm, .int ho, .int sl, .int hd, .int el, .ref v10, .long hs])), (v0, .inl (cI, 4, .inl kd)), (v1, .inl (cI, 4, .inl st)), (v2, .inl (cI, 4, .inl co)), (v3, .inl (cI, 4, .inl gt)), (v4, .inl (cI, 4, .inl pd)), (v5, .inl (cI, 4, .inl de)), (v6, .inl (cI, 4, .inl us)), (v7, .inl (cI, 4, .inl tm)), (v8, .inl (cB, 18, .inl lt)), (v9, .inl (cI, 4, .inl sv)), (v10, .inl (cI, 24, .inl ke))] := hD
    refine lv_aload_n hx hb dX6_image_47 rfl (lv_at hl 0 rfl) ?_
    refine lv_aload_n hx hb dX6_image_48 rfl (lv_at hl 0 rfl) ?_
    refine va_get (D := D) (ci := 6) (v := .int lo) (C := RX6) (T := TX6) (N := 30) hx hb hts iwX6 hown hK.1 hP 0 rfl rfl 14 (by decide) fk91 (fun _ h9 => h9) rfl dX6_image_49 ?_
    refine va_put (D := D) (ci := 6) (v := .int lo) (ty := .int) (C := RX6) (T := TX6) (N := 30) hx hb hts iwX6 tyX6 tyX6_ok nmX6 hown hK.1 hP hD hS 0 rfl rfl 27 (by decide) fk182 (fun _ h9 => h9) rfl (by decide +kernel) rfl rfl (Nat.le_of_ble_eq_true rfl) dX6_image_52 (fun H locs hP hD hS => ?_)
    have hP : va_P D vwCl [(vh, .inr (6, [.int mm, .int (nI n), .int tl, .int ho, .ref v0, .ref v1, .ref v2, .ref v3, .ref v4, .ref v5, .ref v6, .int sl, .int hd, .ref v7, .int lo, .int ak, .int (nI k), .ref v8, .int isw, .int nw, .ref v9, .long sn, .int 1, .int mm, .int ho, .int sl, .int hd, .int lo, .ref v10, .long hs])), (v0, .inl (cI, 4, .inl kd)), (v1, .inl (cI, 4, .inl st)), (v2, .inl (cI, 4, .inl co)), (v3, .inl (cI, 4, .inl gt)), (v4, .inl (cI, 4, .inl pd)), (v5, .inl (cI, 4, .inl de)), (v6, .inl (cI, 4, .inl us)), (v7, .inl (cI, 4, .inl tm)), (v8, .inl (cB, 18, .inl lt)), (v9, .inl (cI, 4, .inl sv)), (v10, .inl (cI, 24, .inl ke))] H := hP
    have hD : va_D A [(vh, .inr (6, [.int mm, .int (nI n), .int tl, .int ho, .ref v0, .ref v1, .ref v2, .ref v3, .ref v4, .ref v5, .ref v6, .int sl, .int hd, .ref v7, .int lo, .int ak, .int (nI k), .ref v8, .int isw, .int nw, .ref v9, .long sn, .int 1, .int mm, .int ho, .int sl, .int hd, .int lo, .ref v10, .long hs])), (v0, .inl (cI, 4, .inl kd)), (v1, .inl (cI, 4, .inl st)), (v2, .inl (cI, 4, .inl co)), (v3, .inl (cI, 4, .inl gt)), (v4, .inl (cI, 4, .inl pd)), (v5, .inl (cI, 4, .inl de)), (v6, .inl (cI, 4, .inl us)), (v7, .inl (cI, 4, .inl tm)), (v8, .inl (cB, 18, .inl lt)), (v9, .inl (cI, 4, .inl sv)), (v10, .inl (cI, 24, .inl ke))] := hD
    refine lv_iconst (v := 0) hx hb dX6_image_55 (by decide) ?_
    refine lv_istore_n (lv' := [(1, .int 0), (0, .ref vh)]) hx hb dX6_image_56 rfl hl (by decide) rfl (fun ls hl => ?_)
    refine lv_iload_n hx hb dX6_image_57 rfl (lv_at hl 0 rfl) ?_
    refine lv_iconst (v := 4) hx hb dX6_image_58 (by decide) ?_
    refine lv_icmp_ge (tgt := 168) hx hb dX6_image_59 (by decide) (fun c_2 => absurd c_2 (by decide)) (fun c_2 => ?_)
    refine lv_aload_n hx hb dX6_image_62 rfl (lv_at hl 1 rfl) ?_
    refine va_get (D := D) (ci := 6) (v := .ref v10) (C := RX6) (T := TX6) (N := 30) hx hb hts iwX6 hown hK.1 hP 0 rfl rfl 28 (by decide) fk41 (fun _ h9 => h9) rfl dX6_image_63 ?_
    refine lv_bipush (v := 6) hx hb dX6_image_66 (by decide) ?_
    refine lv_iload_n hx hb dX6_image_68 rfl (lv_at hl 0 rfl) ?_
    refine lv_imul hx hb dX6_image_69 ?_
    refine my_top (y := 0) (by decide) ?_
    refine lv_aload_n hx hb dX6_image_70 rfl (lv_at hl 1 rfl) ?_
    refine va_get (D := D) (ci := 6) (v := .ref v1) (C := RX6) (T := TX6) (N := 30) hx hb hts iwX6 hown hK.1 hP 0 rfl rfl 5 (by decide) fk13 (fun _ h9 => h9) rfl dX6_image_71 ?_
    refine lv_iload_n hx hb dX6_image_74 rfl (lv_at hl 0 rfl) ?_
    refine my_iald hx hb hK hP 2 rfl (j := 0) (ix_nI (j := 0) (by decide) (by decide)) dX6_image_75 ?_
    refine my_iast hx hb hK hP hD hS 11 rfl (j := 0) (ix_nI (j := 0) (by decide) (by decide)) dX6_image_76 (fun H locs hP hD hS => ?_)
    have hP : va_P D vwCl [(vh, .inr (6, [.int mm, .int (nI n), .int tl, .int ho, .ref v0, .ref v1, .ref v2, .ref v3, .ref v4, .ref v5, .ref v6, .int sl, .int hd, .ref v7, .int lo, .int ak, .int (nI k), .ref v8, .int isw, .int nw, .ref v9, .long sn, .int 1, .int mm, .int ho, .int sl, .int hd, .int lo, .ref v10, .long hs])), (v0, .inl (cI, 4, .inl kd)), (v1, .inl (cI, 4, .inl st)), (v2, .inl (cI, 4, .inl co)), (v3, .inl (cI, 4, .inl gt)), (v4, .inl (cI, 4, .inl pd)), (v5, .inl (cI, 4, .inl de)), (v6, .inl (cI, 4, .inl us)), (v7, .inl (cI, 4, .inl tm)), (v8, .inl (cB, 18, .inl lt)), (v9, .inl (cI, 4, .inl sv)), (v10, .inl (cI, 24, .inl (upd ke 0 (st 0))))] H := hP
    have hD : va_D A [(vh, .inr (6, [.int mm, .int (nI n), .int tl, .int ho, .ref v0, .ref v1, .ref v2, .ref v3, .ref v4, .ref v5, .ref v6, .int sl, .int hd, .ref v7, .int lo, .int ak, .int (nI k), .ref v8, .int isw, .int nw, .ref v9, .long sn, .int 1, .int mm, .int ho, .int sl, .int hd, .int lo, .ref v10, .long hs])), (v0, .inl (cI, 4, .inl kd)), (v1, .inl (cI, 4, .inl st)), (v2, .inl (cI, 4, .inl co)), (v3, .inl (cI, 4, .inl gt)), (v4, .inl (cI, 4, .inl pd)), (v5, .inl (cI, 4, .inl de)), (v6, .inl (cI, 4, .inl us)), (v7, .inl (cI, 4, .inl tm)), (v8, .inl (cB, 18, .inl lt)), (v9, .inl (cI, 4, .inl sv)), (v10, .inl (cI, 24, .inl (upd ke 0 (st 0))))] := hD
    refine lv_aload_n hx hb dX6_image_77 rfl (lv_at hl 1 rfl) ?_
    refine va_get (D := D) (ci := 6) (v := .ref v10) (C := RX6) (T := TX6) (N := 30) hx hb hts iwX6 hown hK.1 hP 0 rfl rfl 28 (by decide) fk41 (fun _ h9 => h9) rfl dX6_image_78 ?_
    refine lv_bipush (v := 6) hx hb dX6_image_81 (by decide) ?_
    refine lv_iload_n hx hb dX6_image_83 rfl (lv_at hl 0 rfl) ?_
    refine lv_imul hx hb dX6_image_84 ?_
    refine my_top (y := 0) (by decide) ?_
    refine lv_iconst (v := 1) hx hb dX6_image_85 (by decide) ?_
    refine lv_iadd hx hb dX6_image_86 ?_
    refine my_top (y := 1) (by decide) ?_
    refine lv_aload_n hx hb dX6_image_87 rfl (lv_at hl 1 rfl) ?_
    refine va_get (D := D) (ci := 6) (v := .ref v3) (C := RX6) (T := TX6) (N := 30) hx hb hts iwX6 hown hK.1 hP 0 rfl rfl 7 (by decide) fk19 (fun _ h9 => h9) rfl dX6_image_88 ?_
    refine lv_iload_n hx hb dX6_image_91 rfl (lv_at hl 0 rfl) ?_
    refine my_iald hx hb hK hP 4 rfl (j := 0) (ix_nI (j := 0) (by decide) (by decide)) dX6_image_92 ?_
    refine my_iast hx hb hK hP hD hS 11 rfl (j := 1) (ix_nI (j := 1) (by decide) (by decide)) dX6_image_93 (fun H locs hP hD hS => ?_)
    have hP : va_P D vwCl [(vh, .inr (6, [.int mm, .int (nI n), .int tl, .int ho, .ref v0, .ref v1, .ref v2, .ref v3, .ref v4, .ref v5, .ref v6, .int sl, .int hd, .ref v7, .int lo, .int ak, .int (nI k), .ref v8, .int isw, .int nw, .ref v9, .long sn, .int 1, .int mm, .int ho, .int sl, .int hd, .int lo, .ref v10, .long hs])), (v0, .inl (cI, 4, .inl kd)), (v1, .inl (cI, 4, .inl st)), (v2, .inl (cI, 4, .inl co)), (v3, .inl (cI, 4, .inl gt)), (v4, .inl (cI, 4, .inl pd)), (v5, .inl (cI, 4, .inl de)), (v6, .inl (cI, 4, .inl us)), (v7, .inl (cI, 4, .inl tm)), (v8, .inl (cB, 18, .inl lt)), (v9, .inl (cI, 4, .inl sv)), (v10, .inl (cI, 24, .inl (upd (upd ke 0 (st 0)) 1 (gt 0))))] H := hP
    have hD : va_D A [(vh, .inr (6, [.int mm, .int (nI n), .int tl, .int ho, .ref v0, .ref v1, .ref v2, .ref v3, .ref v4, .ref v5, .ref v6, .int sl, .int hd, .ref v7, .int lo, .int ak, .int (nI k), .ref v8, .int isw, .int nw, .ref v9, .long sn, .int 1, .int mm, .int ho, .int sl, .int hd, .int lo, .ref v10, .long hs])), (v0, .inl (cI, 4, .inl kd)), (v1, .inl (cI, 4, .inl st)), (v2, .inl (cI, 4, .inl co)), (v3, .inl (cI, 4, .inl gt)), (v4, .inl (cI, 4, .inl pd)), (v5, .inl (cI, 4, .inl de)), (v6, .inl (cI, 4, .inl us)), (v7, .inl (cI, 4, .inl tm)), (v8, .inl (cB, 18, .inl lt)), (v9, .inl (cI, 4, .inl sv)), (v10, .inl (cI, 24, .inl (upd (upd ke 0 (st 0)) 1 (gt 0))))] := hD
    refine lv_aload_n hx hb dX6_image_94 rfl (lv_at hl 1 rfl) ?_
    refine va_get (D := D) (ci := 6) (v := .ref v10) (C := RX6) (T := TX6) (N := 30) hx hb hts iwX6 hown hK.1 hP 0 rfl rfl 28 (by decide) fk41 (fun _ h9 => h9) rfl dX6_image_95 ?_
    refine lv_bipush (v := 6) hx hb dX6_image_98 (by decide) ?_
    refine lv_iload_n hx hb dX6_image_100 rfl (lv_at hl 0 rfl) ?_
    refine lv_imul hx hb dX6_image_101 ?_
    refine my_top (y := 0) (by decide) ?_
    refine lv_iconst (v := 2) hx hb dX6_image_102 (by decide) ?_
    refine lv_iadd hx hb dX6_image_103 ?_
    refine my_top (y := 2) (by decide) ?_
    refine lv_aload_n hx hb dX6_image_104 rfl (lv_at hl 1 rfl) ?_
    refine va_get (D := D) (ci := 6) (v := .ref v4) (C := RX6) (T := TX6) (N := 30) hx hb hts iwX6 hown hK.1 hP 0 rfl rfl 8 (by decide) fk22 (fun _ h9 => h9) rfl dX6_image_105 ?_
    refine lv_iload_n hx hb dX6_image_108 rfl (lv_at hl 0 rfl) ?_
    refine my_iald hx hb hK hP 5 rfl (j := 0) (ix_nI (j := 0) (by decide) (by decide)) dX6_image_109 ?_
    refine my_iast hx hb hK hP hD hS 11 rfl (j := 2) (ix_nI (j := 2) (by decide) (by decide)) dX6_image_110 (fun H locs hP hD hS => ?_)
    have hP : va_P D vwCl [(vh, .inr (6, [.int mm, .int (nI n), .int tl, .int ho, .ref v0, .ref v1, .ref v2, .ref v3, .ref v4, .ref v5, .ref v6, .int sl, .int hd, .ref v7, .int lo, .int ak, .int (nI k), .ref v8, .int isw, .int nw, .ref v9, .long sn, .int 1, .int mm, .int ho, .int sl, .int hd, .int lo, .ref v10, .long hs])), (v0, .inl (cI, 4, .inl kd)), (v1, .inl (cI, 4, .inl st)), (v2, .inl (cI, 4, .inl co)), (v3, .inl (cI, 4, .inl gt)), (v4, .inl (cI, 4, .inl pd)), (v5, .inl (cI, 4, .inl de)), (v6, .inl (cI, 4, .inl us)), (v7, .inl (cI, 4, .inl tm)), (v8, .inl (cB, 18, .inl lt)), (v9, .inl (cI, 4, .inl sv)), (v10, .inl (cI, 24, .inl (upd (upd (upd ke 0 (st 0)) 1 (gt 0)) 2 (pd 0))))] H := hP
    have hD : va_D A [(vh, .inr (6, [.int mm, .int (nI n), .int tl, .int ho, .ref v0, .ref v1, .ref v2, .ref v3, .ref v4, .ref v5, .ref v6, .int sl, .int hd, .ref v7, .int lo, .int ak, .int (nI k), .ref v8, .int isw, .int nw, .ref v9, .long sn, .int 1, .int mm, .int ho, .int sl, .int hd, .int lo, .ref v10, .long hs])), (v0, .inl (cI, 4, .inl kd)), (v1, .inl (cI, 4, .inl st)), (v2, .inl (cI, 4, .inl co)), (v3, .inl (cI, 4, .inl gt)), (v4, .inl (cI, 4, .inl pd)), (v5, .inl (cI, 4, .inl de)), (v6, .inl (cI, 4, .inl us)), (v7, .inl (cI, 4, .inl tm)), (v8, .inl (cB, 18, .inl lt)), (v9, .inl (cI, 4, .inl sv)), (v10, .inl (cI, 24, .inl (upd (upd (upd ke 0 (st 0)) 1 (gt 0)) 2 (pd 0))))] := hD
    refine lv_aload_n hx hb dX6_image_111 rfl (lv_at hl 1 rfl) ?_
    refine va_get (D := D) (ci := 6) (v := .ref v10) (C := RX6) (T := TX6) (N := 30) hx hb hts iwX6 hown hK.1 hP 0 rfl rfl 28 (by decide) fk41 (fun _ h9 => h9) rfl dX6_image_112 ?_
    refine lv_bipush (v := 6) hx hb dX6_image_115 (by decide) ?_
    refine lv_iload_n hx hb dX6_image_117 rfl (lv_at hl 0 rfl) ?_
    refine lv_imul hx hb dX6_image_118 ?_
    refine my_top (y := 0) (by decide) ?_
    refine lv_iconst (v := 3) hx hb dX6_image_119 (by decide) ?_
    refine lv_iadd hx hb dX6_image_120 ?_
    refine my_top (y := 3) (by decide) ?_
    refine lv_aload_n hx hb dX6_image_121 rfl (lv_at hl 1 rfl) ?_
    refine va_get (D := D) (ci := 6) (v := .ref v5) (C := RX6) (T := TX6) (N := 30) hx hb hts iwX6 hown hK.1 hP 0 rfl rfl 9 (by decide) fk25 (fun _ h9 => h9) rfl dX6_image_122 ?_
    refine lv_iload_n hx hb dX6_image_125 rfl (lv_at hl 0 rfl) ?_
    refine my_iald hx hb hK hP 6 rfl (j := 0) (ix_nI (j := 0) (by decide) (by decide)) dX6_image_126 ?_
    refine my_iast hx hb hK hP hD hS 11 rfl (j := 3) (ix_nI (j := 3) (by decide) (by decide)) dX6_image_127 (fun H locs hP hD hS => ?_)
    have hP : va_P D vwCl [(vh, .inr (6, [.int mm, .int (nI n), .int tl, .int ho, .ref v0, .ref v1, .ref v2, .ref v3, .ref v4, .ref v5, .ref v6, .int sl, .int hd, .ref v7, .int lo, .int ak, .int (nI k), .ref v8, .int isw, .int nw, .ref v9, .long sn, .int 1, .int mm, .int ho, .int sl, .int hd, .int lo, .ref v10, .long hs])), (v0, .inl (cI, 4, .inl kd)), (v1, .inl (cI, 4, .inl st)), (v2, .inl (cI, 4, .inl co)), (v3, .inl (cI, 4, .inl gt)), (v4, .inl (cI, 4, .inl pd)), (v5, .inl (cI, 4, .inl de)), (v6, .inl (cI, 4, .inl us)), (v7, .inl (cI, 4, .inl tm)), (v8, .inl (cB, 18, .inl lt)), (v9, .inl (cI, 4, .inl sv)), (v10, .inl (cI, 24, .inl (upd (upd (upd (upd ke 0 (st 0)) 1 (gt 0)) 2 (pd 0)) 3 (de 0))))] H := hP
    have hD : va_D A [(vh, .inr (6, [.int mm, .int (nI n), .int tl, .int ho, .ref v0, .ref v1, .ref v2, .ref v3, .ref v4, .ref v5, .ref v6, .int sl, .int hd, .ref v7, .int lo, .int ak, .int (nI k), .ref v8, .int isw, .int nw, .ref v9, .long sn, .int 1, .int mm, .int ho, .int sl, .int hd, .int lo, .ref v10, .long hs])), (v0, .inl (cI, 4, .inl kd)), (v1, .inl (cI, 4, .inl st)), (v2, .inl (cI, 4, .inl co)), (v3, .inl (cI, 4, .inl gt)), (v4, .inl (cI, 4, .inl pd)), (v5, .inl (cI, 4, .inl de)), (v6, .inl (cI, 4, .inl us)), (v7, .inl (cI, 4, .inl tm)), (v8, .inl (cB, 18, .inl lt)), (v9, .inl (cI, 4, .inl sv)), (v10, .inl (cI, 24, .inl (upd (upd (upd (upd ke 0 (st 0)) 1 (gt 0)) 2 (pd 0)) 3 (de 0))))] := hD
    refine lv_aload_n hx hb dX6_image_128 rfl (lv_at hl 1 rfl) ?_
    refine va_get (D := D) (ci := 6) (v := .ref v10) (C := RX6) (T := TX6) (N := 30) hx hb hts iwX6 hown hK.1 hP 0 rfl rfl 28 (by decide) fk41 (fun _ h9 => h9) rfl dX6_image_129 ?_
    refine lv_bipush (v := 6) hx hb dX6_image_132 (by decide) ?_
    refine lv_iload_n hx hb dX6_image_134 rfl (lv_at hl 0 rfl) ?_
    refine lv_imul hx hb dX6_image_135 ?_
    refine my_top (y := 0) (by decide) ?_
    refine lv_iconst (v := 4) hx hb dX6_image_136 (by decide) ?_
    refine lv_iadd hx hb dX6_image_137 ?_
    refine my_top (y := 4) (by decide) ?_
    refine lv_aload_n hx hb dX6_image_138 rfl (lv_at hl 1 rfl) ?_
    refine va_get (D := D) (ci := 6) (v := .ref v6) (C := RX6) (T := TX6) (N := 30) hx hb hts iwX6 hown hK.1 hP 0 rfl rfl 10 (by decide) fk28 (fun _ h9 => h9) rfl dX6_image_139 ?_
    refine lv_iload_n hx hb dX6_image_142 rfl (lv_at hl 0 rfl) ?_
    refine my_iald hx hb hK hP 7 rfl (j := 0) (ix_nI (j := 0) (by decide) (by decide)) dX6_image_143 ?_
    refine my_iast hx hb hK hP hD hS 11 rfl (j := 4) (ix_nI (j := 4) (by decide) (by decide)) dX6_image_144 (fun H locs hP hD hS => ?_)
    have hP : va_P D vwCl [(vh, .inr (6, [.int mm, .int (nI n), .int tl, .int ho, .ref v0, .ref v1, .ref v2, .ref v3, .ref v4, .ref v5, .ref v6, .int sl, .int hd, .ref v7, .int lo, .int ak, .int (nI k), .ref v8, .int isw, .int nw, .ref v9, .long sn, .int 1, .int mm, .int ho, .int sl, .int hd, .int lo, .ref v10, .long hs])), (v0, .inl (cI, 4, .inl kd)), (v1, .inl (cI, 4, .inl st)), (v2, .inl (cI, 4, .inl co)), (v3, .inl (cI, 4, .inl gt)), (v4, .inl (cI, 4, .inl pd)), (v5, .inl (cI, 4, .inl de)), (v6, .inl (cI, 4, .inl us)), (v7, .inl (cI, 4, .inl tm)), (v8, .inl (cB, 18, .inl lt)), (v9, .inl (cI, 4, .inl sv)), (v10, .inl (cI, 24, .inl (upd (upd (upd (upd (upd ke 0 (st 0)) 1 (gt 0)) 2 (pd 0)) 3 (de 0)) 4 (us 0))))] H := hP
    have hD : va_D A [(vh, .inr (6, [.int mm, .int (nI n), .int tl, .int ho, .ref v0, .ref v1, .ref v2, .ref v3, .ref v4, .ref v5, .ref v6, .int sl, .int hd, .ref v7, .int lo, .int ak, .int (nI k), .ref v8, .int isw, .int nw, .ref v9, .long sn, .int 1, .int mm, .int ho, .int sl, .int hd, .int lo, .ref v10, .long hs])), (v0, .inl (cI, 4, .inl kd)), (v1, .inl (cI, 4, .inl st)), (v2, .inl (cI, 4, .inl co)), (v3, .inl (cI, 4, .inl gt)), (v4, .inl (cI, 4, .inl pd)), (v5, .inl (cI, 4, .inl de)), (v6, .inl (cI, 4, .inl us)), (v7, .inl (cI, 4, .inl tm)), (v8, .inl (cB, 18, .inl lt)), (v9, .inl (cI, 4, .inl sv)), (v10, .inl (cI, 24, .inl (upd (upd (upd (upd (upd ke 0 (st 0)) 1 (gt 0)) 2 (pd 0)) 3 (de 0)) 4 (us 0))))] := hD
    refine lv_aload_n hx hb dX6_image_145 rfl (lv_at hl 1 rfl) ?_
    refine va_get (D := D) (ci := 6) (v := .ref v10) (C := RX6) (T := TX6) (N := 30) hx hb hts iwX6 hown hK.1 hP 0 rfl rfl 28 (by decide) fk41 (fun _ h9 => h9) rfl dX6_image_146 ?_
    refine lv_bipush (v := 6) hx hb dX6_image_149 (by decide) ?_
    refine lv_iload_n hx hb dX6_image_151 rfl (lv_at hl 0 rfl) ?_
    refine lv_imul hx hb dX6_image_152 ?_
    refine my_top (y := 0) (by decide) ?_
    refine lv_iconst (v := 5) hx hb dX6_image_153 (by decide) ?_
    refine lv_iadd hx hb dX6_image_154 ?_
    refine my_top (y := 5) (by decide) ?_
    refine lv_aload_n hx hb dX6_image_155 rfl (lv_at hl 1 rfl) ?_
    refine va_get (D := D) (ci := 6) (v := .ref v7) (C := RX6) (T := TX6) (N := 30) hx hb hts iwX6 hown hK.1 hP 0 rfl rfl 13 (by decide) fk31 (fun _ h9 => h9) rfl dX6_image_156 ?_
    refine lv_iload_n hx hb dX6_image_159 rfl (lv_at hl 0 rfl) ?_
    refine my_iald hx hb hK hP 8 rfl (j := 0) (ix_nI (j := 0) (by decide) (by decide)) dX6_image_160 ?_
    refine my_iast hx hb hK hP hD hS 11 rfl (j := 5) (ix_nI (j := 5) (by decide) (by decide)) dX6_image_161 (fun H locs hP hD hS => ?_)
    have hP : va_P D vwCl [(vh, .inr (6, [.int mm, .int (nI n), .int tl, .int ho, .ref v0, .ref v1, .ref v2, .ref v3, .ref v4, .ref v5, .ref v6, .int sl, .int hd, .ref v7, .int lo, .int ak, .int (nI k), .ref v8, .int isw, .int nw, .ref v9, .long sn, .int 1, .int mm, .int ho, .int sl, .int hd, .int lo, .ref v10, .long hs])), (v0, .inl (cI, 4, .inl kd)), (v1, .inl (cI, 4, .inl st)), (v2, .inl (cI, 4, .inl co)), (v3, .inl (cI, 4, .inl gt)), (v4, .inl (cI, 4, .inl pd)), (v5, .inl (cI, 4, .inl de)), (v6, .inl (cI, 4, .inl us)), (v7, .inl (cI, 4, .inl tm)), (v8, .inl (cB, 18, .inl lt)), (v9, .inl (cI, 4, .inl sv)), (v10, .inl (cI, 24, .inl (upd (upd (upd (upd (upd (upd ke 0 (st 0)) 1 (gt 0)) 2 (pd 0)) 3 (de 0)) 4 (us 0)) 5 (tm 0))))] H := hP
    have hD : va_D A [(vh, .inr (6, [.int mm, .int (nI n), .int tl, .int ho, .ref v0, .ref v1, .ref v2, .ref v3, .ref v4, .ref v5, .ref v6, .int sl, .int hd, .ref v7, .int lo, .int ak, .int (nI k), .ref v8, .int isw, .int nw, .ref v9, .long sn, .int 1, .int mm, .int ho, .int sl, .int hd, .int lo, .ref v10, .long hs])), (v0, .inl (cI, 4, .inl kd)), (v1, .inl (cI, 4, .inl st)), (v2, .inl (cI, 4, .inl co)), (v3, .inl (cI, 4, .inl gt)), (v4, .inl (cI, 4, .inl pd)), (v5, .inl (cI, 4, .inl de)), (v6, .inl (cI, 4, .inl us)), (v7, .inl (cI, 4, .inl tm)), (v8, .inl (cB, 18, .inl lt)), (v9, .inl (cI, 4, .inl sv)), (v10, .inl (cI, 24, .inl (upd (upd (upd (upd (upd (upd ke 0 (st 0)) 1 (gt 0)) 2 (pd 0)) 3 (de 0)) 4 (us 0)) 5 (tm 0))))] := hD
    refine lv_iinc (v := 1) (lv' := [(1, .int 1), (0, .ref vh)]) hx hb dX6_image_162 hl (k := 0) rfl (by decide) (by decide) rfl (fun ls hl => ?_)
    refine lv_goto (tgt := 57) hx hb dX6_image_165 (by decide) ?_
    refine lv_iload_n hx hb dX6_image_57 rfl (lv_at hl 0 rfl) ?_
    refine lv_iconst (v := 4) hx hb dX6_image_58 (by decide) ?_
    refine lv_icmp_ge (tgt := 168) hx hb dX6_image_59 (by decide) (fun c_3 => absurd c_3 (by decide)) (fun c_3 => ?_)
    refine lv_aload_n hx hb dX6_image_62 rfl (lv_at hl 1 rfl) ?_
    refine va_get (D := D) (ci := 6) (v := .ref v10) (C := RX6) (T := TX6) (N := 30) hx hb hts iwX6 hown hK.1 hP 0 rfl rfl 28 (by decide) fk41 (fun _ h9 => h9) rfl dX6_image_63 ?_
    refine lv_bipush (v := 6) hx hb dX6_image_66 (by decide) ?_
    refine lv_iload_n hx hb dX6_image_68 rfl (lv_at hl 0 rfl) ?_
    refine lv_imul hx hb dX6_image_69 ?_
    refine my_top (y := 6) (by decide) ?_
    refine lv_aload_n hx hb dX6_image_70 rfl (lv_at hl 1 rfl) ?_
    refine va_get (D := D) (ci := 6) (v := .ref v1) (C := RX6) (T := TX6) (N := 30) hx hb hts iwX6 hown hK.1 hP 0 rfl rfl 5 (by decide) fk13 (fun _ h9 => h9) rfl dX6_image_71 ?_
    refine lv_iload_n hx hb dX6_image_74 rfl (lv_at hl 0 rfl) ?_
    refine my_iald hx hb hK hP 2 rfl (j := 1) (ix_nI (j := 1) (by decide) (by decide)) dX6_image_75 ?_
    refine my_iast hx hb hK hP hD hS 11 rfl (j := 6) (ix_nI (j := 6) (by decide) (by decide)) dX6_image_76 (fun H locs hP hD hS => ?_)
    have hP : va_P D vwCl [(vh, .inr (6, [.int mm, .int (nI n), .int tl, .int ho, .ref v0, .ref v1, .ref v2, .ref v3, .ref v4, .ref v5, .ref v6, .int sl, .int hd, .ref v7, .int lo, .int ak, .int (nI k), .ref v8, .int isw, .int nw, .ref v9, .long sn, .int 1, .int mm, .int ho, .int sl, .int hd, .int lo, .ref v10, .long hs])), (v0, .inl (cI, 4, .inl kd)), (v1, .inl (cI, 4, .inl st)), (v2, .inl (cI, 4, .inl co)), (v3, .inl (cI, 4, .inl gt)), (v4, .inl (cI, 4, .inl pd)), (v5, .inl (cI, 4, .inl de)), (v6, .inl (cI, 4, .inl us)), (v7, .inl (cI, 4, .inl tm)), (v8, .inl (cB, 18, .inl lt)), (v9, .inl (cI, 4, .inl sv)), (v10, .inl (cI, 24, .inl (upd (upd (upd (upd (upd (upd (upd ke 0 (st 0)) 1 (gt 0)) 2 (pd 0)) 3 (de 0)) 4 (us 0)) 5 (tm 0)) 6 (st 1))))] H := hP
    have hD : va_D A [(vh, .inr (6, [.int mm, .int (nI n), .int tl, .int ho, .ref v0, .ref v1, .ref v2, .ref v3, .ref v4, .ref v5, .ref v6, .int sl, .int hd, .ref v7, .int lo, .int ak, .int (nI k), .ref v8, .int isw, .int nw, .ref v9, .long sn, .int 1, .int mm, .int ho, .int sl, .int hd, .int lo, .ref v10, .long hs])), (v0, .inl (cI, 4, .inl kd)), (v1, .inl (cI, 4, .inl st)), (v2, .inl (cI, 4, .inl co)), (v3, .inl (cI, 4, .inl gt)), (v4, .inl (cI, 4, .inl pd)), (v5, .inl (cI, 4, .inl de)), (v6, .inl (cI, 4, .inl us)), (v7, .inl (cI, 4, .inl tm)), (v8, .inl (cB, 18, .inl lt)), (v9, .inl (cI, 4, .inl sv)), (v10, .inl (cI, 24, .inl (upd (upd (upd (upd (upd (upd (upd ke 0 (st 0)) 1 (gt 0)) 2 (pd 0)) 3 (de 0)) 4 (us 0)) 5 (tm 0)) 6 (st 1))))] := hD
    refine lv_aload_n hx hb dX6_image_77 rfl (lv_at hl 1 rfl) ?_
    refine va_get (D := D) (ci := 6) (v := .ref v10) (C := RX6) (T := TX6) (N := 30) hx hb hts iwX6 hown hK.1 hP 0 rfl rfl 28 (by decide) fk41 (fun _ h9 => h9) rfl dX6_image_78 ?_
    refine lv_bipush (v := 6) hx hb dX6_image_81 (by decide) ?_
    refine lv_iload_n hx hb dX6_image_83 rfl (lv_at hl 0 rfl) ?_
    refine lv_imul hx hb dX6_image_84 ?_
    refine my_top (y := 6) (by decide) ?_
    refine lv_iconst (v := 1) hx hb dX6_image_85 (by decide) ?_
    refine lv_iadd hx hb dX6_image_86 ?_
    refine my_top (y := 7) (by decide) ?_
    refine lv_aload_n hx hb dX6_image_87 rfl (lv_at hl 1 rfl) ?_
    refine va_get (D := D) (ci := 6) (v := .ref v3) (C := RX6) (T := TX6) (N := 30) hx hb hts iwX6 hown hK.1 hP 0 rfl rfl 7 (by decide) fk19 (fun _ h9 => h9) rfl dX6_image_88 ?_
    refine lv_iload_n hx hb dX6_image_91 rfl (lv_at hl 0 rfl) ?_
    refine my_iald hx hb hK hP 4 rfl (j := 1) (ix_nI (j := 1) (by decide) (by decide)) dX6_image_92 ?_
    refine my_iast hx hb hK hP hD hS 11 rfl (j := 7) (ix_nI (j := 7) (by decide) (by decide)) dX6_image_93 (fun H locs hP hD hS => ?_)
    have hP : va_P D vwCl [(vh, .inr (6, [.int mm, .int (nI n), .int tl, .int ho, .ref v0, .ref v1, .ref v2, .ref v3, .ref v4, .ref v5, .ref v6, .int sl, .int hd, .ref v7, .int lo, .int ak, .int (nI k), .ref v8, .int isw, .int nw, .ref v9, .long sn, .int 1, .int mm, .int ho, .int sl, .int hd, .int lo, .ref v10, .long hs])), (v0, .inl (cI, 4, .inl kd)), (v1, .inl (cI, 4, .inl st)), (v2, .inl (cI, 4, .inl co)), (v3, .inl (cI, 4, .inl gt)), (v4, .inl (cI, 4, .inl pd)), (v5, .inl (cI, 4, .inl de)), (v6, .inl (cI, 4, .inl us)), (v7, .inl (cI, 4, .inl tm)), (v8, .inl (cB, 18, .inl lt)), (v9, .inl (cI, 4, .inl sv)), (v10, .inl (cI, 24, .inl (upd (upd (upd (upd (upd (upd (upd (upd ke 0 (st 0)) 1 (gt 0)) 2 (pd 0)) 3 (de 0)) 4 (us 0)) 5 (tm 0)) 6 (st 1)) 7 (gt 1))))] H := hP
    have hD : va_D A [(vh, .inr (6, [.int mm, .int (nI n), .int tl, .int ho, .ref v0, .ref v1, .ref v2, .ref v3, .ref v4, .ref v5, .ref v6, .int sl, .int hd, .ref v7, .int lo, .int ak, .int (nI k), .ref v8, .int isw, .int nw, .ref v9, .long sn, .int 1, .int mm, .int ho, .int sl, .int hd, .int lo, .ref v10, .long hs])), (v0, .inl (cI, 4, .inl kd)), (v1, .inl (cI, 4, .inl st)), (v2, .inl (cI, 4, .inl co)), (v3, .inl (cI, 4, .inl gt)), (v4, .inl (cI, 4, .inl pd)), (v5, .inl (cI, 4, .inl de)), (v6, .inl (cI, 4, .inl us)), (v7, .inl (cI, 4, .inl tm)), (v8, .inl (cB, 18, .inl lt)), (v9, .inl (cI, 4, .inl sv)), (v10, .inl (cI, 24, .inl (upd (upd (upd (upd (upd (upd (upd (upd ke 0 (st 0)) 1 (gt 0)) 2 (pd 0)) 3 (de 0)) 4 (us 0)) 5 (tm 0)) 6 (st 1)) 7 (gt 1))))] := hD
    refine lv_aload_n hx hb dX6_image_94 rfl (lv_at hl 1 rfl) ?_
    refine va_get (D := D) (ci := 6) (v := .ref v10) (C := RX6) (T := TX6) (N := 30) hx hb hts iwX6 hown hK.1 hP 0 rfl rfl 28 (by decide) fk41 (fun _ h9 => h9) rfl dX6_image_95 ?_
    refine lv_bipush (v := 6) hx hb dX6_image_98 (by decide) ?_
    refine lv_iload_n hx hb dX6_image_100 rfl (lv_at hl 0 rfl) ?_
    refine lv_imul hx hb dX6_image_101 ?_
    refine my_top (y := 6) (by decide) ?_
    refine lv_iconst (v := 2) hx hb dX6_image_102 (by decide) ?_
    refine lv_iadd hx hb dX6_image_103 ?_
    refine my_top (y := 8) (by decide) ?_
    refine lv_aload_n hx hb dX6_image_104 rfl (lv_at hl 1 rfl) ?_
    refine va_get (D := D) (ci := 6) (v := .ref v4) (C := RX6) (T := TX6) (N := 30) hx hb hts iwX6 hown hK.1 hP 0 rfl rfl 8 (by decide) fk22 (fun _ h9 => h9) rfl dX6_image_105 ?_
    refine lv_iload_n hx hb dX6_image_108 rfl (lv_at hl 0 rfl) ?_
    refine my_iald hx hb hK hP 5 rfl (j := 1) (ix_nI (j := 1) (by decide) (by decide)) dX6_image_109 ?_
    refine my_iast hx hb hK hP hD hS 11 rfl (j := 8) (ix_nI (j := 8) (by decide) (by decide)) dX6_image_110 (fun H locs hP hD hS => ?_)
    have hP : va_P D vwCl [(vh, .inr (6, [.int mm, .int (nI n), .int tl, .int ho, .ref v0, .ref v1, .ref v2, .ref v3, .ref v4, .ref v5, .ref v6, .int sl, .int hd, .ref v7, .int lo, .int ak, .int (nI k), .ref v8, .int isw, .int nw, .ref v9, .long sn, .int 1, .int mm, .int ho, .int sl, .int hd, .int lo, .ref v10, .long hs])), (v0, .inl (cI, 4, .inl kd)), (v1, .inl (cI, 4, .inl st)), (v2, .inl (cI, 4, .inl co)), (v3, .inl (cI, 4, .inl gt)), (v4, .inl (cI, 4, .inl pd)), (v5, .inl (cI, 4, .inl de)), (v6, .inl (cI, 4, .inl us)), (v7, .inl (cI, 4, .inl tm)), (v8, .inl (cB, 18, .inl lt)), (v9, .inl (cI, 4, .inl sv)), (v10, .inl (cI, 24, .inl (upd (upd (upd (upd (upd (upd (upd (upd (upd ke 0 (st 0)) 1 (gt 0)) 2 (pd 0)) 3 (de 0)) 4 (us 0)) 5 (tm 0)) 6 (st 1)) 7 (gt 1)) 8 (pd 1))))] H := hP
    have hD : va_D A [(vh, .inr (6, [.int mm, .int (nI n), .int tl, .int ho, .ref v0, .ref v1, .ref v2, .ref v3, .ref v4, .ref v5, .ref v6, .int sl, .int hd, .ref v7, .int lo, .int ak, .int (nI k), .ref v8, .int isw, .int nw, .ref v9, .long sn, .int 1, .int mm, .int ho, .int sl, .int hd, .int lo, .ref v10, .long hs])), (v0, .inl (cI, 4, .inl kd)), (v1, .inl (cI, 4, .inl st)), (v2, .inl (cI, 4, .inl co)), (v3, .inl (cI, 4, .inl gt)), (v4, .inl (cI, 4, .inl pd)), (v5, .inl (cI, 4, .inl de)), (v6, .inl (cI, 4, .inl us)), (v7, .inl (cI, 4, .inl tm)), (v8, .inl (cB, 18, .inl lt)), (v9, .inl (cI, 4, .inl sv)), (v10, .inl (cI, 24, .inl (upd (upd (upd (upd (upd (upd (upd (upd (upd ke 0 (st 0)) 1 (gt 0)) 2 (pd 0)) 3 (de 0)) 4 (us 0)) 5 (tm 0)) 6 (st 1)) 7 (gt 1)) 8 (pd 1))))] := hD
    refine lv_aload_n hx hb dX6_image_111 rfl (lv_at hl 1 rfl) ?_
    refine va_get (D := D) (ci := 6) (v := .ref v10) (C := RX6) (T := TX6) (N := 30) hx hb hts iwX6 hown hK.1 hP 0 rfl rfl 28 (by decide) fk41 (fun _ h9 => h9) rfl dX6_image_112 ?_
    refine lv_bipush (v := 6) hx hb dX6_image_115 (by decide) ?_
    refine lv_iload_n hx hb dX6_image_117 rfl (lv_at hl 0 rfl) ?_
    refine lv_imul hx hb dX6_image_118 ?_
    refine my_top (y := 6) (by decide) ?_
    refine lv_iconst (v := 3) hx hb dX6_image_119 (by decide) ?_
    refine lv_iadd hx hb dX6_image_120 ?_
    refine my_top (y := 9) (by decide) ?_
    refine lv_aload_n hx hb dX6_image_121 rfl (lv_at hl 1 rfl) ?_
    refine va_get (D := D) (ci := 6) (v := .ref v5) (C := RX6) (T := TX6) (N := 30) hx hb hts iwX6 hown hK.1 hP 0 rfl rfl 9 (by decide) fk25 (fun _ h9 => h9) rfl dX6_image_122 ?_
    refine lv_iload_n hx hb dX6_image_125 rfl (lv_at hl 0 rfl) ?_
    refine my_iald hx hb hK hP 6 rfl (j := 1) (ix_nI (j := 1) (by decide) (by decide)) dX6_image_126 ?_
    refine my_iast hx hb hK hP hD hS 11 rfl (j := 9) (ix_nI (j := 9) (by decide) (by decide)) dX6_image_127 (fun H locs hP hD hS => ?_)
    have hP : va_P D vwCl [(vh, .inr (6, [.int mm, .int (nI n), .int tl, .int ho, .ref v0, .ref v1, .ref v2, .ref v3, .ref v4, .ref v5, .ref v6, .int sl, .int hd, .ref v7, .int lo, .int ak, .int (nI k), .ref v8, .int isw, .int nw, .ref v9, .long sn, .int 1, .int mm, .int ho, .int sl, .int hd, .int lo, .ref v10, .long hs])), (v0, .inl (cI, 4, .inl kd)), (v1, .inl (cI, 4, .inl st)), (v2, .inl (cI, 4, .inl co)), (v3, .inl (cI, 4, .inl gt)), (v4, .inl (cI, 4, .inl pd)), (v5, .inl (cI, 4, .inl de)), (v6, .inl (cI, 4, .inl us)), (v7, .inl (cI, 4, .inl tm)), (v8, .inl (cB, 18, .inl lt)), (v9, .inl (cI, 4, .inl sv)), (v10, .inl (cI, 24, .inl (upd (upd (upd (upd (upd (upd (upd (upd (upd (upd ke 0 (st 0)) 1 (gt 0)) 2 (pd 0)) 3 (de 0)) 4 (us 0)) 5 (tm 0)) 6 (st 1)) 7 (gt 1)) 8 (pd 1)) 9 (de 1))))] H := hP
    have hD : va_D A [(vh, .inr (6, [.int mm, .int (nI n), .int tl, .int ho, .ref v0, .ref v1, .ref v2, .ref v3, .ref v4, .ref v5, .ref v6, .int sl, .int hd, .ref v7, .int lo, .int ak, .int (nI k), .ref v8, .int isw, .int nw, .ref v9, .long sn, .int 1, .int mm, .int ho, .int sl, .int hd, .int lo, .ref v10, .long hs])), (v0, .inl (cI, 4, .inl kd)), (v1, .inl (cI, 4, .inl st)), (v2, .inl (cI, 4, .inl co)), (v3, .inl (cI, 4, .inl gt)), (v4, .inl (cI, 4, .inl pd)), (v5, .inl (cI, 4, .inl de)), (v6, .inl (cI, 4, .inl us)), (v7, .inl (cI, 4, .inl tm)), (v8, .inl (cB, 18, .inl lt)), (v9, .inl (cI, 4, .inl sv)), (v10, .inl (cI, 24, .inl (upd (upd (upd (upd (upd (upd (upd (upd (upd (upd ke 0 (st 0)) 1 (gt 0)) 2 (pd 0)) 3 (de 0)) 4 (us 0)) 5 (tm 0)) 6 (st 1)) 7 (gt 1)) 8 (pd 1)) 9 (de 1))))] := hD
    refine lv_aload_n hx hb dX6_image_128 rfl (lv_at hl 1 rfl) ?_
    refine va_get (D := D) (ci := 6) (v := .ref v10) (C := RX6) (T := TX6) (N := 30) hx hb hts iwX6 hown hK.1 hP 0 rfl rfl 28 (by decide) fk41 (fun _ h9 => h9) rfl dX6_image_129 ?_
    refine lv_bipush (v := 6) hx hb dX6_image_132 (by decide) ?_
    refine lv_iload_n hx hb dX6_image_134 rfl (lv_at hl 0 rfl) ?_
    refine lv_imul hx hb dX6_image_135 ?_
    refine my_top (y := 6) (by decide) ?_
    refine lv_iconst (v := 4) hx hb dX6_image_136 (by decide) ?_
    refine lv_iadd hx hb dX6_image_137 ?_
    refine my_top (y := 10) (by decide) ?_
    refine lv_aload_n hx hb dX6_image_138 rfl (lv_at hl 1 rfl) ?_
    refine va_get (D := D) (ci := 6) (v := .ref v6) (C := RX6) (T := TX6) (N := 30) hx hb hts iwX6 hown hK.1 hP 0 rfl rfl 10 (by decide) fk28 (fun _ h9 => h9) rfl dX6_image_139 ?_
    refine lv_iload_n hx hb dX6_image_142 rfl (lv_at hl 0 rfl) ?_
    refine my_iald hx hb hK hP 7 rfl (j := 1) (ix_nI (j := 1) (by decide) (by decide)) dX6_image_143 ?_
    refine my_iast hx hb hK hP hD hS 11 rfl (j := 10) (ix_nI (j := 10) (by decide) (by decide)) dX6_image_144 (fun H locs hP hD hS => ?_)
    have hP : va_P D vwCl [(vh, .inr (6, [.int mm, .int (nI n), .int tl, .int ho, .ref v0, .ref v1, .ref v2, .ref v3, .ref v4, .ref v5, .ref v6, .int sl, .int hd, .ref v7, .int lo, .int ak, .int (nI k), .ref v8, .int isw, .int nw, .ref v9, .long sn, .int 1, .int mm, .int ho, .int sl, .int hd, .int lo, .ref v10, .long hs])), (v0, .inl (cI, 4, .inl kd)), (v1, .inl (cI, 4, .inl st)), (v2, .inl (cI, 4, .inl co)), (v3, .inl (cI, 4, .inl gt)), (v4, .inl (cI, 4, .inl pd)), (v5, .inl (cI, 4, .inl de)), (v6, .inl (cI, 4, .inl us)), (v7, .inl (cI, 4, .inl tm)), (v8, .inl (cB, 18, .inl lt)), (v9, .inl (cI, 4, .inl sv)), (v10, .inl (cI, 24, .inl (upd (upd (upd (upd (upd (upd (upd (upd (upd (upd (upd ke 0 (st 0)) 1 (gt 0)) 2 (pd 0)) 3 (de 0)) 4 (us 0)) 5 (tm 0)) 6 (st 1)) 7 (gt 1)) 8 (pd 1)) 9 (de 1)) 10 (us 1))))] H := hP
    have hD : va_D A [(vh, .inr (6, [.int mm, .int (nI n), .int tl, .int ho, .ref v0, .ref v1, .ref v2, .ref v3, .ref v4, .ref v5, .ref v6, .int sl, .int hd, .ref v7, .int lo, .int ak, .int (nI k), .ref v8, .int isw, .int nw, .ref v9, .long sn, .int 1, .int mm, .int ho, .int sl, .int hd, .int lo, .ref v10, .long hs])), (v0, .inl (cI, 4, .inl kd)), (v1, .inl (cI, 4, .inl st)), (v2, .inl (cI, 4, .inl co)), (v3, .inl (cI, 4, .inl gt)), (v4, .inl (cI, 4, .inl pd)), (v5, .inl (cI, 4, .inl de)), (v6, .inl (cI, 4, .inl us)), (v7, .inl (cI, 4, .inl tm)), (v8, .inl (cB, 18, .inl lt)), (v9, .inl (cI, 4, .inl sv)), (v10, .inl (cI, 24, .inl (upd (upd (upd (upd (upd (upd (upd (upd (upd (upd (upd ke 0 (st 0)) 1 (gt 0)) 2 (pd 0)) 3 (de 0)) 4 (us 0)) 5 (tm 0)) 6 (st 1)) 7 (gt 1)) 8 (pd 1)) 9 (de 1)) 10 (us 1))))] := hD
    refine lv_aload_n hx hb dX6_image_145 rfl (lv_at hl 1 rfl) ?_
    refine va_get (D := D) (ci := 6) (v := .ref v10) (C := RX6) (T := TX6) (N := 30) hx hb hts iwX6 hown hK.1 hP 0 rfl rfl 28 (by decide) fk41 (fun _ h9 => h9) rfl dX6_image_146 ?_
    refine lv_bipush (v := 6) hx hb dX6_image_149 (by decide) ?_
    refine lv_iload_n hx hb dX6_image_151 rfl (lv_at hl 0 rfl) ?_
    refine lv_imul hx hb dX6_image_152 ?_
    refine my_top (y := 6) (by decide) ?_
    refine lv_iconst (v := 5) hx hb dX6_image_153 (by decide) ?_
    refine lv_iadd hx hb dX6_image_154 ?_
    refine my_top (y := 11) (by decide) ?_
    refine lv_aload_n hx hb dX6_image_155 rfl (lv_at hl 1 rfl) ?_
    refine va_get (D := D) (ci := 6) (v := .ref v7) (C := RX6) (T := TX6) (N := 30) hx hb hts iwX6 hown hK.1 hP 0 rfl rfl 13 (by decide) fk31 (fun _ h9 => h9) rfl dX6_image_156 ?_
    refine lv_iload_n hx hb dX6_image_159 rfl (lv_at hl 0 rfl) ?_
    refine my_iald hx hb hK hP 8 rfl (j := 1) (ix_nI (j := 1) (by decide) (by decide)) dX6_image_160 ?_
    refine my_iast hx hb hK hP hD hS 11 rfl (j := 11) (ix_nI (j := 11) (by decide) (by decide)) dX6_image_161 (fun H locs hP hD hS => ?_)
    have hP : va_P D vwCl [(vh, .inr (6, [.int mm, .int (nI n), .int tl, .int ho, .ref v0, .ref v1, .ref v2, .ref v3, .ref v4, .ref v5, .ref v6, .int sl, .int hd, .ref v7, .int lo, .int ak, .int (nI k), .ref v8, .int isw, .int nw, .ref v9, .long sn, .int 1, .int mm, .int ho, .int sl, .int hd, .int lo, .ref v10, .long hs])), (v0, .inl (cI, 4, .inl kd)), (v1, .inl (cI, 4, .inl st)), (v2, .inl (cI, 4, .inl co)), (v3, .inl (cI, 4, .inl gt)), (v4, .inl (cI, 4, .inl pd)), (v5, .inl (cI, 4, .inl de)), (v6, .inl (cI, 4, .inl us)), (v7, .inl (cI, 4, .inl tm)), (v8, .inl (cB, 18, .inl lt)), (v9, .inl (cI, 4, .inl sv)), (v10, .inl (cI, 24, .inl (upd (upd (upd (upd (upd (upd (upd (upd (upd (upd (upd (upd ke 0 (st 0)) 1 (gt 0)) 2 (pd 0)) 3 (de 0)) 4 (us 0)) 5 (tm 0)) 6 (st 1)) 7 (gt 1)) 8 (pd 1)) 9 (de 1)) 10 (us 1)) 11 (tm 1))))] H := hP
    have hD : va_D A [(vh, .inr (6, [.int mm, .int (nI n), .int tl, .int ho, .ref v0, .ref v1, .ref v2, .ref v3, .ref v4, .ref v5, .ref v6, .int sl, .int hd, .ref v7, .int lo, .int ak, .int (nI k), .ref v8, .int isw, .int nw, .ref v9, .long sn, .int 1, .int mm, .int ho, .int sl, .int hd, .int lo, .ref v10, .long hs])), (v0, .inl (cI, 4, .inl kd)), (v1, .inl (cI, 4, .inl st)), (v2, .inl (cI, 4, .inl co)), (v3, .inl (cI, 4, .inl gt)), (v4, .inl (cI, 4, .inl pd)), (v5, .inl (cI, 4, .inl de)), (v6, .inl (cI, 4, .inl us)), (v7, .inl (cI, 4, .inl tm)), (v8, .inl (cB, 18, .inl lt)), (v9, .inl (cI, 4, .inl sv)), (v10, .inl (cI, 24, .inl (upd (upd (upd (upd (upd (upd (upd (upd (upd (upd (upd (upd ke 0 (st 0)) 1 (gt 0)) 2 (pd 0)) 3 (de 0)) 4 (us 0)) 5 (tm 0)) 6 (st 1)) 7 (gt 1)) 8 (pd 1)) 9 (de 1)) 10 (us 1)) 11 (tm 1))))] := hD
    refine lv_iinc (v := 2) (lv' := [(1, .int 2), (0, .ref vh)]) hx hb dX6_image_162 hl (k := 0) rfl (by decide) (by decide) rfl (fun ls hl => ?_)
    refine lv_goto (tgt := 57) hx hb dX6_image_165 (by decide) ?_
    refine lv_iload_n hx hb dX6_image_57 rfl (lv_at hl 0 rfl) ?_
    refine lv_iconst (v := 4) hx hb dX6_image_58 (by decide) ?_
    refine lv_icmp_ge (tgt := 168) hx hb dX6_image_59 (by decide) (fun c_4 => absurd c_4 (by decide)) (fun c_4 => ?_)
    refine lv_aload_n hx hb dX6_image_62 rfl (lv_at hl 1 rfl) ?_
    refine va_get (D := D) (ci := 6) (v := .ref v10) (C := RX6) (T := TX6) (N := 30) hx hb hts iwX6 hown hK.1 hP 0 rfl rfl 28 (by decide) fk41 (fun _ h9 => h9) rfl dX6_image_63 ?_
    refine lv_bipush (v := 6) hx hb dX6_image_66 (by decide) ?_
    refine lv_iload_n hx hb dX6_image_68 rfl (lv_at hl 0 rfl) ?_
    refine lv_imul hx hb dX6_image_69 ?_
    refine my_top (y := 12) (by decide) ?_
    refine lv_aload_n hx hb dX6_image_70 rfl (lv_at hl 1 rfl) ?_
    refine va_get (D := D) (ci := 6) (v := .ref v1) (C := RX6) (T := TX6) (N := 30) hx hb hts iwX6 hown hK.1 hP 0 rfl rfl 5 (by decide) fk13 (fun _ h9 => h9) rfl dX6_image_71 ?_
    refine lv_iload_n hx hb dX6_image_74 rfl (lv_at hl 0 rfl) ?_
    refine my_iald hx hb hK hP 2 rfl (j := 2) (ix_nI (j := 2) (by decide) (by decide)) dX6_image_75 ?_
    refine my_iast hx hb hK hP hD hS 11 rfl (j := 12) (ix_nI (j := 12) (by decide) (by decide)) dX6_image_76 (fun H locs hP hD hS => ?_)
    have hP : va_P D vwCl [(vh, .inr (6, [.int mm, .int (nI n), .int tl, .int ho, .ref v0, .ref v1, .ref v2, .ref v3, .ref v4, .ref v5, .ref v6, .int sl, .int hd, .ref v7, .int lo, .int ak, .int (nI k), .ref v8, .int isw, .int nw, .ref v9, .long sn, .int 1, .int mm, .int ho, .int sl, .int hd, .int lo, .ref v10, .long hs])), (v0, .inl (cI, 4, .inl kd)), (v1, .inl (cI, 4, .inl st)), (v2, .inl (cI, 4, .inl co)), (v3, .inl (cI, 4, .inl gt)), (v4, .inl (cI, 4, .inl pd)), (v5, .inl (cI, 4, .inl de)), (v6, .inl (cI, 4, .inl us)), (v7, .inl (cI, 4, .inl tm)), (v8, .inl (cB, 18, .inl lt)), (v9, .inl (cI, 4, .inl sv)), (v10, .inl (cI, 24, .inl (upd (upd (upd (upd (upd (upd (upd (upd (upd (upd (upd (upd (upd ke 0 (st 0)) 1 (gt 0)) 2 (pd 0)) 3 (de 0)) 4 (us 0)) 5 (tm 0)) 6 (st 1)) 7 (gt 1)) 8 (pd 1)) 9 (de 1)) 10 (us 1)) 11 (tm 1)) 12 (st 2))))] H := hP
    have hD : va_D A [(vh, .inr (6, [.int mm, .int (nI n), .int tl, .int ho, .ref v0, .ref v1, .ref v2, .ref v3, .ref v4, .ref v5, .ref v6, .int sl, .int hd, .ref v7, .int lo, .int ak, .int (nI k), .ref v8, .int isw, .int nw, .ref v9, .long sn, .int 1, .int mm, .int ho, .int sl, .int hd, .int lo, .ref v10, .long hs])), (v0, .inl (cI, 4, .inl kd)), (v1, .inl (cI, 4, .inl st)), (v2, .inl (cI, 4, .inl co)), (v3, .inl (cI, 4, .inl gt)), (v4, .inl (cI, 4, .inl pd)), (v5, .inl (cI, 4, .inl de)), (v6, .inl (cI, 4, .inl us)), (v7, .inl (cI, 4, .inl tm)), (v8, .inl (cB, 18, .inl lt)), (v9, .inl (cI, 4, .inl sv)), (v10, .inl (cI, 24, .inl (upd (upd (upd (upd (upd (upd (upd (upd (upd (upd (upd (upd (upd ke 0 (st 0)) 1 (gt 0)) 2 (pd 0)) 3 (de 0)) 4 (us 0)) 5 (tm 0)) 6 (st 1)) 7 (gt 1)) 8 (pd 1)) 9 (de 1)) 10 (us 1)) 11 (tm 1)) 12 (st 2))))] := hD
    refine lv_aload_n hx hb dX6_image_77 rfl (lv_at hl 1 rfl) ?_
    refine va_get (D := D) (ci := 6) (v := .ref v10) (C := RX6) (T := TX6) (N := 30) hx hb hts iwX6 hown hK.1 hP 0 rfl rfl 28 (by decide) fk41 (fun _ h9 => h9) rfl dX6_image_78 ?_
    refine lv_bipush (v := 6) hx hb dX6_image_81 (by decide) ?_
    refine lv_iload_n hx hb dX6_image_83 rfl (lv_at hl 0 rfl) ?_
    refine lv_imul hx hb dX6_image_84 ?_
    refine my_top (y := 12) (by decide) ?_
    refine lv_iconst (v := 1) hx hb dX6_image_85 (by decide) ?_
    refine lv_iadd hx hb dX6_image_86 ?_
    refine my_top (y := 13) (by decide) ?_
    refine lv_aload_n hx hb dX6_image_87 rfl (lv_at hl 1 rfl) ?_
    refine va_get (D := D) (ci := 6) (v := .ref v3) (C := RX6) (T := TX6) (N := 30) hx hb hts iwX6 hown hK.1 hP 0 rfl rfl 7 (by decide) fk19 (fun _ h9 => h9) rfl dX6_image_88 ?_
    refine lv_iload_n hx hb dX6_image_91 rfl (lv_at hl 0 rfl) ?_
    refine my_iald hx hb hK hP 4 rfl (j := 2) (ix_nI (j := 2) (by decide) (by decide)) dX6_image_92 ?_
    refine my_iast hx hb hK hP hD hS 11 rfl (j := 13) (ix_nI (j := 13) (by decide) (by decide)) dX6_image_93 (fun H locs hP hD hS => ?_)
    have hP : va_P D vwCl [(vh, .inr (6, [.int mm, .int (nI n), .int tl, .int ho, .ref v0, .ref v1, .ref v2, .ref v3, .ref v4, .ref v5, .ref v6, .int sl, .int hd, .ref v7, .int lo, .int ak, .int (nI k), .ref v8, .int isw, .int nw, .ref v9, .long sn, .int 1, .int mm, .int ho, .int sl, .int hd, .int lo, .ref v10, .long hs])), (v0, .inl (cI, 4, .inl kd)), (v1, .inl (cI, 4, .inl st)), (v2, .inl (cI, 4, .inl co)), (v3, .inl (cI, 4, .inl gt)), (v4, .inl (cI, 4, .inl pd)), (v5, .inl (cI, 4, .inl de)), (v6, .inl (cI, 4, .inl us)), (v7, .inl (cI, 4, .inl tm)), (v8, .inl (cB, 18, .inl lt)), (v9, .inl (cI, 4, .inl sv)), (v10, .inl (cI, 24, .inl (upd (upd (upd (upd (upd (upd (upd (upd (upd (upd (upd (upd (upd (upd ke 0 (st 0)) 1 (gt 0)) 2 (pd 0)) 3 (de 0)) 4 (us 0)) 5 (tm 0)) 6 (st 1)) 7 (gt 1)) 8 (pd 1)) 9 (de 1)) 10 (us 1)) 11 (tm 1)) 12 (st 2)) 13 (gt 2))))] H := hP
    have hD : va_D A [(vh, .inr (6, [.int mm, .int (nI n), .int tl, .int ho, .ref v0, .ref v1, .ref v2, .ref v3, .ref v4, .ref v5, .ref v6, .int sl, .int hd, .ref v7, .int lo, .int ak, .int (nI k), .ref v8, .int isw, .int nw, .ref v9, .long sn, .int 1, .int mm, .int ho, .int sl, .int hd, .int lo, .ref v10, .long hs])), (v0, .inl (cI, 4, .inl kd)), (v1, .inl (cI, 4, .inl st)), (v2, .inl (cI, 4, .inl co)), (v3, .inl (cI, 4, .inl gt)), (v4, .inl (cI, 4, .inl pd)), (v5, .inl (cI, 4, .inl de)), (v6, .inl (cI, 4, .inl us)), (v7, .inl (cI, 4, .inl tm)), (v8, .inl (cB, 18, .inl lt)), (v9, .inl (cI, 4, .inl sv)), (v10, .inl (cI, 24, .inl (upd (upd (upd (upd (upd (upd (upd (upd (upd (upd (upd (upd (upd (upd ke 0 (st 0)) 1 (gt 0)) 2 (pd 0)) 3 (de 0)) 4 (us 0)) 5 (tm 0)) 6 (st 1)) 7 (gt 1)) 8 (pd 1)) 9 (de 1)) 10 (us 1)) 11 (tm 1)) 12 (st 2)) 13 (gt 2))))] := hD
    refine lv_aload_n hx hb dX6_image_94 rfl (lv_at hl 1 rfl) ?_
    refine va_get (D := D) (ci := 6) (v := .ref v10) (C := RX6) (T := TX6) (N := 30) hx hb hts iwX6 hown hK.1 hP 0 rfl rfl 28 (by decide) fk41 (fun _ h9 => h9) rfl dX6_image_95 ?_
    refine lv_bipush (v := 6) hx hb dX6_image_98 (by decide) ?_
    refine lv_iload_n hx hb dX6_image_100 rfl (lv_at hl 0 rfl) ?_
    refine lv_imul hx hb dX6_image_101 ?_
    refine my_top (y := 12) (by decide) ?_
    refine lv_iconst (v := 2) hx hb dX6_image_102 (by decide) ?_
    refine lv_iadd hx hb dX6_image_103 ?_
    refine my_top (y := 14) (by decide) ?_
    refine lv_aload_n hx hb dX6_image_104 rfl (lv_at hl 1 rfl) ?_
    refine va_get (D := D) (ci := 6) (v := .ref v4) (C := RX6) (T := TX6) (N := 30) hx hb hts iwX6 hown hK.1 hP 0 rfl rfl 8 (by decide) fk22 (fun _ h9 => h9) rfl dX6_image_105 ?_
    refine lv_iload_n hx hb dX6_image_108 rfl (lv_at hl 0 rfl) ?_
    refine my_iald hx hb hK hP 5 rfl (j := 2) (ix_nI (j := 2) (by decide) (by decide)) dX6_image_109 ?_
    refine my_iast hx hb hK hP hD hS 11 rfl (j := 14) (ix_nI (j := 14) (by decide) (by decide)) dX6_image_110 (fun H locs hP hD hS => ?_)
    have hP : va_P D vwCl [(vh, .inr (6, [.int mm, .int (nI n), .int tl, .int ho, .ref v0, .ref v1, .ref v2, .ref v3, .ref v4, .ref v5, .ref v6, .int sl, .int hd, .ref v7, .int lo, .int ak, .int (nI k), .ref v8, .int isw, .int nw, .ref v9, .long sn, .int 1, .int mm, .int ho, .int sl, .int hd, .int lo, .ref v10, .long hs])), (v0, .inl (cI, 4, .inl kd)), (v1, .inl (cI, 4, .inl st)), (v2, .inl (cI, 4, .inl co)), (v3, .inl (cI, 4, .inl gt)), (v4, .inl (cI, 4, .inl pd)), (v5, .inl (cI, 4, .inl de)), (v6, .inl (cI, 4, .inl us)), (v7, .inl (cI, 4, .inl tm)), (v8, .inl (cB, 18, .inl lt)), (v9, .inl (cI, 4, .inl sv)), (v10, .inl (cI, 24, .inl (upd (upd (upd (upd (upd (upd (upd (upd (upd (upd (upd (upd (upd (upd (upd ke 0 (st 0)) 1 (gt 0)) 2 (pd 0)) 3 (de 0)) 4 (us 0)) 5 (tm 0)) 6 (st 1)) 7 (gt 1)) 8 (pd 1)) 9 (de 1)) 10 (us 1)) 11 (tm 1)) 12 (st 2)) 13 (gt 2)) 14 (pd 2))))] H := hP
    have hD : va_D A [(vh, .inr (6, [.int mm, .int (nI n), .int tl, .int ho, .ref v0, .ref v1, .ref v2, .ref v3, .ref v4, .ref v5, .ref v6, .int sl, .int hd, .ref v7, .int lo, .int ak, .int (nI k), .ref v8, .int isw, .int nw, .ref v9, .long sn, .int 1, .int mm, .int ho, .int sl, .int hd, .int lo, .ref v10, .long hs])), (v0, .inl (cI, 4, .inl kd)), (v1, .inl (cI, 4, .inl st)), (v2, .inl (cI, 4, .inl co)), (v3, .inl (cI, 4, .inl gt)), (v4, .inl (cI, 4, .inl pd)), (v5, .inl (cI, 4, .inl de)), (v6, .inl (cI, 4, .inl us)), (v7, .inl (cI, 4, .inl tm)), (v8, .inl (cB, 18, .inl lt)), (v9, .inl (cI, 4, .inl sv)), (v10, .inl (cI, 24, .inl (upd (upd (upd (upd (upd (upd (upd (upd (upd (upd (upd (upd (upd (upd (upd ke 0 (st 0)) 1 (gt 0)) 2 (pd 0)) 3 (de 0)) 4 (us 0)) 5 (tm 0)) 6 (st 1)) 7 (gt 1)) 8 (pd 1)) 9 (de 1)) 10 (us 1)) 11 (tm 1)) 12 (st 2)) 13 (gt 2)) 14 (pd 2))))] := hD
    refine lv_aload_n hx hb dX6_image_111 rfl (lv_at hl 1 rfl) ?_
    refine va_get (D := D) (ci := 6) (v := .ref v10) (C := RX6) (T := TX6) (N := 30) hx hb hts iwX6 hown hK.1 hP 0 rfl rfl 28 (by decide) fk41 (fun _ h9 => h9) rfl dX6_image_112 ?_
    refine lv_bipush (v := 6) hx hb dX6_image_115 (by decide) ?_
    refine lv_iload_n hx hb dX6_image_117 rfl (lv_at hl 0 rfl) ?_
    refine lv_imul hx hb dX6_image_118 ?_
    refine my_top (y := 12) (by decide) ?_
    refine lv_iconst (v := 3) hx hb dX6_image_119 (by decide) ?_
    refine lv_iadd hx hb dX6_image_120 ?_
    refine my_top (y := 15) (by decide) ?_
    refine lv_aload_n hx hb dX6_image_121 rfl (lv_at hl 1 rfl) ?_
    refine va_get (D := D) (ci := 6) (v := .ref v5) (C := RX6) (T := TX6) (N := 30) hx hb hts iwX6 hown hK.1 hP 0 rfl rfl 9 (by decide) fk25 (fun _ h9 => h9) rfl dX6_image_122 ?_
    refine lv_iload_n hx hb dX6_image_125 rfl (lv_at hl 0 rfl) ?_
    refine my_iald hx hb hK hP 6 rfl (j := 2) (ix_nI (j := 2) (by decide) (by decide)) dX6_image_126 ?_
    refine my_iast hx hb hK hP hD hS 11 rfl (j := 15) (ix_nI (j := 15) (by decide) (by decide)) dX6_image_127 (fun H locs hP hD hS => ?_)
    have hP : va_P D vwCl [(vh, .inr (6, [.int mm, .int (nI n), .int tl, .int ho, .ref v0, .ref v1, .ref v2, .ref v3, .ref v4, .ref v5, .ref v6, .int sl, .int hd, .ref v7, .int lo, .int ak, .int (nI k), .ref v8, .int isw, .int nw, .ref v9, .long sn, .int 1, .int mm, .int ho, .int sl, .int hd, .int lo, .ref v10, .long hs])), (v0, .inl (cI, 4, .inl kd)), (v1, .inl (cI, 4, .inl st)), (v2, .inl (cI, 4, .inl co)), (v3, .inl (cI, 4, .inl gt)), (v4, .inl (cI, 4, .inl pd)), (v5, .inl (cI, 4, .inl de)), (v6, .inl (cI, 4, .inl us)), (v7, .inl (cI, 4, .inl tm)), (v8, .inl (cB, 18, .inl lt)), (v9, .inl (cI, 4, .inl sv)), (v10, .inl (cI, 24, .inl (upd (upd (upd (upd (upd (upd (upd (upd (upd (upd (upd (upd (upd (upd (upd (upd ke 0 (st 0)) 1 (gt 0)) 2 (pd 0)) 3 (de 0)) 4 (us 0)) 5 (tm 0)) 6 (st 1)) 7 (gt 1)) 8 (pd 1)) 9 (de 1)) 10 (us 1)) 11 (tm 1)) 12 (st 2)) 13 (gt 2)) 14 (pd 2)) 15 (de 2))))] H := hP
    have hD : va_D A [(vh, .inr (6, [.int mm, .int (nI n), .int tl, .int ho, .ref v0, .ref v1, .ref v2, .ref v3, .ref v4, .ref v5, .ref v6, .int sl, .int hd, .ref v7, .int lo, .int ak, .int (nI k), .ref v8, .int isw, .int nw, .ref v9, .long sn, .int 1, .int mm, .int ho, .int sl, .int hd, .int lo, .ref v10, .long hs])), (v0, .inl (cI, 4, .inl kd)), (v1, .inl (cI, 4, .inl st)), (v2, .inl (cI, 4, .inl co)), (v3, .inl (cI, 4, .inl gt)), (v4, .inl (cI, 4, .inl pd)), (v5, .inl (cI, 4, .inl de)), (v6, .inl (cI, 4, .inl us)), (v7, .inl (cI, 4, .inl tm)), (v8, .inl (cB, 18, .inl lt)), (v9, .inl (cI, 4, .inl sv)), (v10, .inl (cI, 24, .inl (upd (upd (upd (upd (upd (upd (upd (upd (upd (upd (upd (upd (upd (upd (upd (upd ke 0 (st 0)) 1 (gt 0)) 2 (pd 0)) 3 (de 0)) 4 (us 0)) 5 (tm 0)) 6 (st 1)) 7 (gt 1)) 8 (pd 1)) 9 (de 1)) 10 (us 1)) 11 (tm 1)) 12 (st 2)) 13 (gt 2)) 14 (pd 2)) 15 (de 2))))] := hD
    refine lv_aload_n hx hb dX6_image_128 rfl (lv_at hl 1 rfl) ?_
    refine va_get (D := D) (ci := 6) (v := .ref v10) (C := RX6) (T := TX6) (N := 30) hx hb hts iwX6 hown hK.1 hP 0 rfl rfl 28 (by decide) fk41 (fun _ h9 => h9) rfl dX6_image_129 ?_
    refine lv_bipush (v := 6) hx hb dX6_image_132 (by decide) ?_
    refine lv_iload_n hx hb dX6_image_134 rfl (lv_at hl 0 rfl) ?_
    refine lv_imul hx hb dX6_image_135 ?_
    refine my_top (y := 12) (by decide) ?_
    refine lv_iconst (v := 4) hx hb dX6_image_136 (by decide) ?_
    refine lv_iadd hx hb dX6_image_137 ?_
    refine my_top (y := 16) (by decide) ?_
    refine lv_aload_n hx hb dX6_image_138 rfl (lv_at hl 1 rfl) ?_
    refine va_get (D := D) (ci := 6) (v := .ref v6) (C := RX6) (T := TX6) (N := 30) hx hb hts iwX6 hown hK.1 hP 0 rfl rfl 10 (by decide) fk28 (fun _ h9 => h9) rfl dX6_image_139 ?_
    refine lv_iload_n hx hb dX6_image_142 rfl (lv_at hl 0 rfl) ?_
    refine my_iald hx hb hK hP 7 rfl (j := 2) (ix_nI (j := 2) (by decide) (by decide)) dX6_image_143 ?_
    refine my_iast hx hb hK hP hD hS 11 rfl (j := 16) (ix_nI (j := 16) (by decide) (by decide)) dX6_image_144 (fun H locs hP hD hS => ?_)
    have hP : va_P D vwCl [(vh, .inr (6, [.int mm, .int (nI n), .int tl, .int ho, .ref v0, .ref v1, .ref v2, .ref v3, .ref v4, .ref v5, .ref v6, .int sl, .int hd, .ref v7, .int lo, .int ak, .int (nI k), .ref v8, .int isw, .int nw, .ref v9, .long sn, .int 1, .int mm, .int ho, .int sl, .int hd, .int lo, .ref v10, .long hs])), (v0, .inl (cI, 4, .inl kd)), (v1, .inl (cI, 4, .inl st)), (v2, .inl (cI, 4, .inl co)), (v3, .inl (cI, 4, .inl gt)), (v4, .inl (cI, 4, .inl pd)), (v5, .inl (cI, 4, .inl de)), (v6, .inl (cI, 4, .inl us)), (v7, .inl (cI, 4, .inl tm)), (v8, .inl (cB, 18, .inl lt)), (v9, .inl (cI, 4, .inl sv)), (v10, .inl (cI, 24, .inl (upd (upd (upd (upd (upd (upd (upd (upd (upd (upd (upd (upd (upd (upd (upd (upd (upd ke 0 (st 0)) 1 (gt 0)) 2 (pd 0)) 3 (de 0)) 4 (us 0)) 5 (tm 0)) 6 (st 1)) 7 (gt 1)) 8 (pd 1)) 9 (de 1)) 10 (us 1)) 11 (tm 1)) 12 (st 2)) 13 (gt 2)) 14 (pd 2)) 15 (de 2)) 16 (us 2))))] H := hP
    have hD : va_D A [(vh, .inr (6, [.int mm, .int (nI n), .int tl, .int ho, .ref v0, .ref v1, .ref v2, .ref v3, .ref v4, .ref v5, .ref v6, .int sl, .int hd, .ref v7, .int lo, .int ak, .int (nI k), .ref v8, .int isw, .int nw, .ref v9, .long sn, .int 1, .int mm, .int ho, .int sl, .int hd, .int lo, .ref v10, .long hs])), (v0, .inl (cI, 4, .inl kd)), (v1, .inl (cI, 4, .inl st)), (v2, .inl (cI, 4, .inl co)), (v3, .inl (cI, 4, .inl gt)), (v4, .inl (cI, 4, .inl pd)), (v5, .inl (cI, 4, .inl de)), (v6, .inl (cI, 4, .inl us)), (v7, .inl (cI, 4, .inl tm)), (v8, .inl (cB, 18, .inl lt)), (v9, .inl (cI, 4, .inl sv)), (v10, .inl (cI, 24, .inl (upd (upd (upd (upd (upd (upd (upd (upd (upd (upd (upd (upd (upd (upd (upd (upd (upd ke 0 (st 0)) 1 (gt 0)) 2 (pd 0)) 3 (de 0)) 4 (us 0)) 5 (tm 0)) 6 (st 1)) 7 (gt 1)) 8 (pd 1)) 9 (de 1)) 10 (us 1)) 11 (tm 1)) 12 (st 2)) 13 (gt 2)) 14 (pd 2)) 15 (de 2)) 16 (us 2))))] := hD
    refine lv_aload_n hx hb dX6_image_145 rfl (lv_at hl 1 rfl) ?_
    refine va_get (D := D) (ci := 6) (v := .ref v10) (C := RX6) (T := TX6) (N := 30) hx hb hts iwX6 hown hK.1 hP 0 rfl rfl 28 (by decide) fk41 (fun _ h9 => h9) rfl dX6_image_146 ?_
    refine lv_bipush (v := 6) hx hb dX6_image_149 (by decide) ?_
    refine lv_iload_n hx hb dX6_image_151 rfl (lv_at hl 0 rfl) ?_
    refine lv_imul hx hb dX6_image_152 ?_
    refine my_top (y := 12) (by decide) ?_
    refine lv_iconst (v := 5) hx hb dX6_image_153 (by decide) ?_
    refine lv_iadd hx hb dX6_image_154 ?_
    refine my_top (y := 17) (by decide) ?_
    refine lv_aload_n hx hb dX6_image_155 rfl (lv_at hl 1 rfl) ?_
    refine va_get (D := D) (ci := 6) (v := .ref v7) (C := RX6) (T := TX6) (N := 30) hx hb hts iwX6 hown hK.1 hP 0 rfl rfl 13 (by decide) fk31 (fun _ h9 => h9) rfl dX6_image_156 ?_
    refine lv_iload_n hx hb dX6_image_159 rfl (lv_at hl 0 rfl) ?_
    refine my_iald hx hb hK hP 8 rfl (j := 2) (ix_nI (j := 2) (by decide) (by decide)) dX6_image_160 ?_
    refine my_iast hx hb hK hP hD hS 11 rfl (j := 17) (ix_nI (j := 17) (by decide) (by decide)) dX6_image_161 (fun H locs hP hD hS => ?_)
    have hP : va_P D vwCl [(vh, .inr (6, [.int mm, .int (nI n), .int tl, .int ho, .ref v0, .ref v1, .ref v2, .ref v3, .ref v4, .ref v5, .ref v6, .int sl, .int hd, .ref v7, .int lo, .int ak, .int (nI k), .ref v8, .int isw, .int nw, .ref v9, .long sn, .int 1, .int mm, .int ho, .int sl, .int hd, .int lo, .ref v10, .long hs])), (v0, .inl (cI, 4, .inl kd)), (v1, .inl (cI, 4, .inl st)), (v2, .inl (cI, 4, .inl co)), (v3, .inl (cI, 4, .inl gt)), (v4, .inl (cI, 4, .inl pd)), (v5, .inl (cI, 4, .inl de)), (v6, .inl (cI, 4, .inl us)), (v7, .inl (cI, 4, .inl tm)), (v8, .inl (cB, 18, .inl lt)), (v9, .inl (cI, 4, .inl sv)), (v10, .inl (cI, 24, .inl (upd (upd (upd (upd (upd (upd (upd (upd (upd (upd (upd (upd (upd (upd (upd (upd (upd (upd ke 0 (st 0)) 1 (gt 0)) 2 (pd 0)) 3 (de 0)) 4 (us 0)) 5 (tm 0)) 6 (st 1)) 7 (gt 1)) 8 (pd 1)) 9 (de 1)) 10 (us 1)) 11 (tm 1)) 12 (st 2)) 13 (gt 2)) 14 (pd 2)) 15 (de 2)) 16 (us 2)) 17 (tm 2))))] H := hP
    have hD : va_D A [(vh, .inr (6, [.int mm, .int (nI n), .int tl, .int ho, .ref v0, .ref v1, .ref v2, .ref v3, .ref v4, .ref v5, .ref v6, .int sl, .int hd, .ref v7, .int lo, .int ak, .int (nI k), .ref v8, .int isw, .int nw, .ref v9, .long sn, .int 1, .int mm, .int ho, .int sl, .int hd, .int lo, .ref v10, .long hs])), (v0, .inl (cI, 4, .inl kd)), (v1, .inl (cI, 4, .inl st)), (v2, .inl (cI, 4, .inl co)), (v3, .inl (cI, 4, .inl gt)), (v4, .inl (cI, 4, .inl pd)), (v5, .inl (cI, 4, .inl de)), (v6, .inl (cI, 4, .inl us)), (v7, .inl (cI, 4, .inl tm)), (v8, .inl (cB, 18, .inl lt)), (v9, .inl (cI, 4, .inl sv)), (v10, .inl (cI, 24, .inl (upd (upd (upd (upd (upd (upd (upd (upd (upd (upd (upd (upd (upd (upd (upd (upd (upd (upd ke 0 (st 0)) 1 (gt 0)) 2 (pd 0)) 3 (de 0)) 4 (us 0)) 5 (tm 0)) 6 (st 1)) 7 (gt 1)) 8 (pd 1)) 9 (de 1)) 10 (us 1)) 11 (tm 1)) 12 (st 2)) 13 (gt 2)) 14 (pd 2)) 15 (de 2)) 16 (us 2)) 17 (tm 2))))] := hD
    refine lv_iinc (v := 3) (lv' := [(1, .int 3), (0, .ref vh)]) hx hb dX6_image_162 hl (k := 0) rfl (by decide) (by decide) rfl (fun ls hl => ?_)
    refine lv_goto (tgt := 57) hx hb dX6_image_165 (by decide) ?_
    refine lv_iload_n hx hb dX6_image_57 rfl (lv_at hl 0 rfl) ?_
    refine lv_iconst (v := 4) hx hb dX6_image_58 (by decide) ?_
    refine lv_icmp_ge (tgt := 168) hx hb dX6_image_59 (by decide) (fun c_5 => absurd c_5 (by decide)) (fun c_5 => ?_)
    refine lv_aload_n hx hb dX6_image_62 rfl (lv_at hl 1 rfl) ?_
    refine va_get (D := D) (ci := 6) (v := .ref v10) (C := RX6) (T := TX6) (N := 30) hx hb hts iwX6 hown hK.1 hP 0 rfl rfl 28 (by decide) fk41 (fun _ h9 => h9) rfl dX6_image_63 ?_
    refine lv_bipush (v := 6) hx hb dX6_image_66 (by decide) ?_
    refine lv_iload_n hx hb dX6_image_68 rfl (lv_at hl 0 rfl) ?_
    refine lv_imul hx hb dX6_image_69 ?_
    refine my_top (y := 18) (by decide) ?_
    refine lv_aload_n hx hb dX6_image_70 rfl (lv_at hl 1 rfl) ?_
    refine va_get (D := D) (ci := 6) (v := .ref v1) (C := RX6) (T := TX6) (N := 30) hx hb hts iwX6 hown hK.1 hP 0 rfl rfl 5 (by decide) fk13 (fun _ h9 => h9) rfl dX6_image_71 ?_
    refine lv_iload_n hx hb dX6_image_74 rfl (lv_at hl 0 rfl) ?_
    refine my_iald hx hb hK hP 2 rfl (j := 3) (ix_nI (j := 3) (by decide) (by decide)) dX6_image_75 ?_
    refine my_iast hx hb hK hP hD hS 11 rfl (j := 18) (ix_nI (j := 18) (by decide) (by decide)) dX6_image_76 (fun H locs hP hD hS => ?_)
    have hP : va_P D vwCl [(vh, .inr (6, [.int mm, .int (nI n), .int tl, .int ho, .ref v0, .ref v1, .ref v2, .ref v3, .ref v4, .ref v5, .ref v6, .int sl, .int hd, .ref v7, .int lo, .int ak, .int (nI k), .ref v8, .int isw, .int nw, .ref v9, .long sn, .int 1, .int mm, .int ho, .int sl, .int hd, .int lo, .ref v10, .long hs])), (v0, .inl (cI, 4, .inl kd)), (v1, .inl (cI, 4, .inl st)), (v2, .inl (cI, 4, .inl co)), (v3, .inl (cI, 4, .inl gt)), (v4, .inl (cI, 4, .inl pd)), (v5, .inl (cI, 4, .inl de)), (v6, .inl (cI, 4, .inl us)), (v7, .inl (cI, 4, .inl tm)), (v8, .inl (cB, 18, .inl lt)), (v9, .inl (cI, 4, .inl sv)), (v10, .inl (cI, 24, .inl (upd (upd (upd (upd (upd (upd (upd (upd (upd (upd (upd (upd (upd (upd (upd (upd (upd (upd (upd ke 0 (st 0)) 1 (gt 0)) 2 (pd 0)) 3 (de 0)) 4 (us 0)) 5 (tm 0)) 6 (st 1)) 7 (gt 1)) 8 (pd 1)) 9 (de 1)) 10 (us 1)) 11 (tm 1)) 12 (st 2)) 13 (gt 2)) 14 (pd 2)) 15 (de 2)) 16 (us 2)) 17 (tm 2)) 18 (st 3))))] H := hP
    have hD : va_D A [(vh, .inr (6, [.int mm, .int (nI n), .int tl, .int ho, .ref v0, .ref v1, .ref v2, .ref v3, .ref v4, .ref v5, .ref v6, .int sl, .int hd, .ref v7, .int lo, .int ak, .int (nI k), .ref v8, .int isw, .int nw, .ref v9, .long sn, .int 1, .int mm, .int ho, .int sl, .int hd, .int lo, .ref v10, .long hs])), (v0, .inl (cI, 4, .inl kd)), (v1, .inl (cI, 4, .inl st)), (v2, .inl (cI, 4, .inl co)), (v3, .inl (cI, 4, .inl gt)), (v4, .inl (cI, 4, .inl pd)), (v5, .inl (cI, 4, .inl de)), (v6, .inl (cI, 4, .inl us)), (v7, .inl (cI, 4, .inl tm)), (v8, .inl (cB, 18, .inl lt)), (v9, .inl (cI, 4, .inl sv)), (v10, .inl (cI, 24, .inl (upd (upd (upd (upd (upd (upd (upd (upd (upd (upd (upd (upd (upd (upd (upd (upd (upd (upd (upd ke 0 (st 0)) 1 (gt 0)) 2 (pd 0)) 3 (de 0)) 4 (us 0)) 5 (tm 0)) 6 (st 1)) 7 (gt 1)) 8 (pd 1)) 9 (de 1)) 10 (us 1)) 11 (tm 1)) 12 (st 2)) 13 (gt 2)) 14 (pd 2)) 15 (de 2)) 16 (us 2)) 17 (tm 2)) 18 (st 3))))] := hD
    refine lv_aload_n hx hb dX6_image_77 rfl (lv_at hl 1 rfl) ?_
    refine va_get (D := D) (ci := 6) (v := .ref v10) (C := RX6) (T := TX6) (N := 30) hx hb hts iwX6 hown hK.1 hP 0 rfl rfl 28 (by decide) fk41 (fun _ h9 => h9) rfl dX6_image_78 ?_
    refine lv_bipush (v := 6) hx hb dX6_image_81 (by decide) ?_
    refine lv_iload_n hx hb dX6_image_83 rfl (lv_at hl 0 rfl) ?_
    refine lv_imul hx hb dX6_image_84 ?_
    refine my_top (y := 18) (by decide) ?_
    refine lv_iconst (v := 1) hx hb dX6_image_85 (by decide) ?_
    refine lv_iadd hx hb dX6_image_86 ?_
    refine my_top (y := 19) (by decide) ?_
    refine lv_aload_n hx hb dX6_image_87 rfl (lv_at hl 1 rfl) ?_
    refine va_get (D := D) (ci := 6) (v := .ref v3) (C := RX6) (T := TX6) (N := 30) hx hb hts iwX6 hown hK.1 hP 0 rfl rfl 7 (by decide) fk19 (fun _ h9 => h9) rfl dX6_image_88 ?_
    refine lv_iload_n hx hb dX6_image_91 rfl (lv_at hl 0 rfl) ?_
    refine my_iald hx hb hK hP 4 rfl (j := 3) (ix_nI (j := 3) (by decide) (by decide)) dX6_image_92 ?_
    refine my_iast hx hb hK hP hD hS 11 rfl (j := 19) (ix_nI (j := 19) (by decide) (by decide)) dX6_image_93 (fun H locs hP hD hS => ?_)
    have hP : va_P D vwCl [(vh, .inr (6, [.int mm, .int (nI n), .int tl, .int ho, .ref v0, .ref v1, .ref v2, .ref v3, .ref v4, .ref v5, .ref v6, .int sl, .int hd, .ref v7, .int lo, .int ak, .int (nI k), .ref v8, .int isw, .int nw, .ref v9, .long sn, .int 1, .int mm, .int ho, .int sl, .int hd, .int lo, .ref v10, .long hs])), (v0, .inl (cI, 4, .inl kd)), (v1, .inl (cI, 4, .inl st)), (v2, .inl (cI, 4, .inl co)), (v3, .inl (cI, 4, .inl gt)), (v4, .inl (cI, 4, .inl pd)), (v5, .inl (cI, 4, .inl de)), (v6, .inl (cI, 4, .inl us)), (v7, .inl (cI, 4, .inl tm)), (v8, .inl (cB, 18, .inl lt)), (v9, .inl (cI, 4, .inl sv)), (v10, .inl (cI, 24, .inl (upd (upd (upd (upd (upd (upd (upd (upd (upd (upd (upd (upd (upd (upd (upd (upd (upd (upd (upd (upd ke 0 (st 0)) 1 (gt 0)) 2 (pd 0)) 3 (de 0)) 4 (us 0)) 5 (tm 0)) 6 (st 1)) 7 (gt 1)) 8 (pd 1)) 9 (de 1)) 10 (us 1)) 11 (tm 1)) 12 (st 2)) 13 (gt 2)) 14 (pd 2)) 15 (de 2)) 16 (us 2)) 17 (tm 2)) 18 (st 3)) 19 (gt 3))))] H := hP
    have hD : va_D A [(vh, .inr (6, [.int mm, .int (nI n), .int tl, .int ho, .ref v0, .ref v1, .ref v2, .ref v3, .ref v4, .ref v5, .ref v6, .int sl, .int hd, .ref v7, .int lo, .int ak, .int (nI k), .ref v8, .int isw, .int nw, .ref v9, .long sn, .int 1, .int mm, .int ho, .int sl, .int hd, .int lo, .ref v10, .long hs])), (v0, .inl (cI, 4, .inl kd)), (v1, .inl (cI, 4, .inl st)), (v2, .inl (cI, 4, .inl co)), (v3, .inl (cI, 4, .inl gt)), (v4, .inl (cI, 4, .inl pd)), (v5, .inl (cI, 4, .inl de)), (v6, .inl (cI, 4, .inl us)), (v7, .inl (cI, 4, .inl tm)), (v8, .inl (cB, 18, .inl lt)), (v9, .inl (cI, 4, .inl sv)), (v10, .inl (cI, 24, .inl (upd (upd (upd (upd (upd (upd (upd (upd (upd (upd (upd (upd (upd (upd (upd (upd (upd (upd (upd (upd ke 0 (st 0)) 1 (gt 0)) 2 (pd 0)) 3 (de 0)) 4 (us 0)) 5 (tm 0)) 6 (st 1)) 7 (gt 1)) 8 (pd 1)) 9 (de 1)) 10 (us 1)) 11 (tm 1)) 12 (st 2)) 13 (gt 2)) 14 (pd 2)) 15 (de 2)) 16 (us 2)) 17 (tm 2)) 18 (st 3)) 19 (gt 3))))] := hD
    refine lv_aload_n hx hb dX6_image_94 rfl (lv_at hl 1 rfl) ?_
    refine va_get (D := D) (ci := 6) (v := .ref v10) (C := RX6) (T := TX6) (N := 30) hx hb hts iwX6 hown hK.1 hP 0 rfl rfl 28 (by decide) fk41 (fun _ h9 => h9) rfl dX6_image_95 ?_
    refine lv_bipush (v := 6) hx hb dX6_image_98 (by decide) ?_
    refine lv_iload_n hx hb dX6_image_100 rfl (lv_at hl 0 rfl) ?_
    refine lv_imul hx hb dX6_image_101 ?_
    refine my_top (y := 18) (by decide) ?_
    refine lv_iconst (v := 2) hx hb dX6_image_102 (by decide) ?_
    refine lv_iadd hx hb dX6_image_103 ?_
    refine my_top (y := 20) (by decide) ?_
    refine lv_aload_n hx hb dX6_image_104 rfl (lv_at hl 1 rfl) ?_
    refine va_get (D := D) (ci := 6) (v := .ref v4) (C := RX6) (T := TX6) (N := 30) hx hb hts iwX6 hown hK.1 hP 0 rfl rfl 8 (by decide) fk22 (fun _ h9 => h9) rfl dX6_image_105 ?_
    refine lv_iload_n hx hb dX6_image_108 rfl (lv_at hl 0 rfl) ?_
    refine my_iald hx hb hK hP 5 rfl (j := 3) (ix_nI (j := 3) (by decide) (by decide)) dX6_image_109 ?_
    refine my_iast hx hb hK hP hD hS 11 rfl (j := 20) (ix_nI (j := 20) (by decide) (by decide)) dX6_image_110 (fun H locs hP hD hS => ?_)
    have hP : va_P D vwCl [(vh, .inr (6, [.int mm, .int (nI n), .int tl, .int ho, .ref v0, .ref v1, .ref v2, .ref v3, .ref v4, .ref v5, .ref v6, .int sl, .int hd, .ref v7, .int lo, .int ak, .int (nI k), .ref v8, .int isw, .int nw, .ref v9, .long sn, .int 1, .int mm, .int ho, .int sl, .int hd, .int lo, .ref v10, .long hs])), (v0, .inl (cI, 4, .inl kd)), (v1, .inl (cI, 4, .inl st)), (v2, .inl (cI, 4, .inl co)), (v3, .inl (cI, 4, .inl gt)), (v4, .inl (cI, 4, .inl pd)), (v5, .inl (cI, 4, .inl de)), (v6, .inl (cI, 4, .inl us)), (v7, .inl (cI, 4, .inl tm)), (v8, .inl (cB, 18, .inl lt)), (v9, .inl (cI, 4, .inl sv)), (v10, .inl (cI, 24, .inl (upd (upd (upd (upd (upd (upd (upd (upd (upd (upd (upd (upd (upd (upd (upd (upd (upd (upd (upd (upd (upd ke 0 (st 0)) 1 (gt 0)) 2 (pd 0)) 3 (de 0)) 4 (us 0)) 5 (tm 0)) 6 (st 1)) 7 (gt 1)) 8 (pd 1)) 9 (de 1)) 10 (us 1)) 11 (tm 1)) 12 (st 2)) 13 (gt 2)) 14 (pd 2)) 15 (de 2)) 16 (us 2)) 17 (tm 2)) 18 (st 3)) 19 (gt 3)) 20 (pd 3))))] H := hP
    have hD : va_D A [(vh, .inr (6, [.int mm, .int (nI n), .int tl, .int ho, .ref v0, .ref v1, .ref v2, .ref v3, .ref v4, .ref v5, .ref v6, .int sl, .int hd, .ref v7, .int lo, .int ak, .int (nI k), .ref v8, .int isw, .int nw, .ref v9, .long sn, .int 1, .int mm, .int ho, .int sl, .int hd, .int lo, .ref v10, .long hs])), (v0, .inl (cI, 4, .inl kd)), (v1, .inl (cI, 4, .inl st)), (v2, .inl (cI, 4, .inl co)), (v3, .inl (cI, 4, .inl gt)), (v4, .inl (cI, 4, .inl pd)), (v5, .inl (cI, 4, .inl de)), (v6, .inl (cI, 4, .inl us)), (v7, .inl (cI, 4, .inl tm)), (v8, .inl (cB, 18, .inl lt)), (v9, .inl (cI, 4, .inl sv)), (v10, .inl (cI, 24, .inl (upd (upd (upd (upd (upd (upd (upd (upd (upd (upd (upd (upd (upd (upd (upd (upd (upd (upd (upd (upd (upd ke 0 (st 0)) 1 (gt 0)) 2 (pd 0)) 3 (de 0)) 4 (us 0)) 5 (tm 0)) 6 (st 1)) 7 (gt 1)) 8 (pd 1)) 9 (de 1)) 10 (us 1)) 11 (tm 1)) 12 (st 2)) 13 (gt 2)) 14 (pd 2)) 15 (de 2)) 16 (us 2)) 17 (tm 2)) 18 (st 3)) 19 (gt 3)) 20 (pd 3))))] := hD
    refine lv_aload_n hx hb dX6_image_111 rfl (lv_at hl 1 rfl) ?_
    refine va_get (D := D) (ci := 6) (v := .ref v10) (C := RX6) (T := TX6) (N := 30) hx hb hts iwX6 hown hK.1 hP 0 rfl rfl 28 (by decide) fk41 (fun _ h9 => h9) rfl dX6_image_112 ?_
    refine lv_bipush (v := 6) hx hb dX6_image_115 (by decide) ?_
    refine lv_iload_n hx hb dX6_image_117 rfl (lv_at hl 0 rfl) ?_
    refine lv_imul hx hb dX6_image_118 ?_
    refine my_top (y := 18) (by decide) ?_
    refine lv_iconst (v := 3) hx hb dX6_image_119 (by decide) ?_
    refine lv_iadd hx hb dX6_image_120 ?_
    refine my_top (y := 21) (by decide) ?_
    refine lv_aload_n hx hb dX6_image_121 rfl (lv_at hl 1 rfl) ?_
    refine va_get (D := D) (ci := 6) (v := .ref v5) (C := RX6) (T := TX6) (N := 30) hx hb hts iwX6 hown hK.1 hP 0 rfl rfl 9 (by decide) fk25 (fun _ h9 => h9) rfl dX6_image_122 ?_
    refine lv_iload_n hx hb dX6_image_125 rfl (lv_at hl 0 rfl) ?_
    refine my_iald hx hb hK hP 6 rfl (j := 3) (ix_nI (j := 3) (by decide) (by decide)) dX6_image_126 ?_
    refine my_iast hx hb hK hP hD hS 11 rfl (j := 21) (ix_nI (j := 21) (by decide) (by decide)) dX6_image_127 (fun H locs hP hD hS => ?_)
    have hP : va_P D vwCl [(vh, .inr (6, [.int mm, .int (nI n), .int tl, .int ho, .ref v0, .ref v1, .ref v2, .ref v3, .ref v4, .ref v5, .ref v6, .int sl, .int hd, .ref v7, .int lo, .int ak, .int (nI k), .ref v8, .int isw, .int nw, .ref v9, .long sn, .int 1, .int mm, .int ho, .int sl, .int hd, .int lo, .ref v10, .long hs])), (v0, .inl (cI, 4, .inl kd)), (v1, .inl (cI, 4, .inl st)), (v2, .inl (cI, 4, .inl co)), (v3, .inl (cI, 4, .inl gt)), (v4, .inl (cI, 4, .inl pd)), (v5, .inl (cI, 4, .inl de)), (v6, .inl (cI, 4, .inl us)), (v7, .inl (cI, 4, .inl tm)), (v8, .inl (cB, 18, .inl lt)), (v9, .inl (cI, 4, .inl sv)), (v10, .inl (cI, 24, .inl (upd (upd (upd (upd (upd (upd (upd (upd (upd (upd (upd (upd (upd (upd (upd (upd (upd (upd (upd (upd (upd (upd ke 0 (st 0)) 1 (gt 0)) 2 (pd 0)) 3 (de 0)) 4 (us 0)) 5 (tm 0)) 6 (st 1)) 7 (gt 1)) 8 (pd 1)) 9 (de 1)) 10 (us 1)) 11 (tm 1)) 12 (st 2)) 13 (gt 2)) 14 (pd 2)) 15 (de 2)) 16 (us 2)) 17 (tm 2)) 18 (st 3)) 19 (gt 3)) 20 (pd 3)) 21 (de 3))))] H := hP
    have hD : va_D A [(vh, .inr (6, [.int mm, .int (nI n), .int tl, .int ho, .ref v0, .ref v1, .ref v2, .ref v3, .ref v4, .ref v5, .ref v6, .int sl, .int hd, .ref v7, .int lo, .int ak, .int (nI k), .ref v8, .int isw, .int nw, .ref v9, .long sn, .int 1, .int mm, .int ho, .int sl, .int hd, .int lo, .ref v10, .long hs])), (v0, .inl (cI, 4, .inl kd)), (v1, .inl (cI, 4, .inl st)), (v2, .inl (cI, 4, .inl co)), (v3, .inl (cI, 4, .inl gt)), (v4, .inl (cI, 4, .inl pd)), (v5, .inl (cI, 4, .inl de)), (v6, .inl (cI, 4, .inl us)), (v7, .inl (cI, 4, .inl tm)), (v8, .inl (cB, 18, .inl lt)), (v9, .inl (cI, 4, .inl sv)), (v10, .inl (cI, 24, .inl (upd (upd (upd (upd (upd (upd (upd (upd (upd (upd (upd (upd (upd (upd (upd (upd (upd (upd (upd (upd (upd (upd ke 0 (st 0)) 1 (gt 0)) 2 (pd 0)) 3 (de 0)) 4 (us 0)) 5 (tm 0)) 6 (st 1)) 7 (gt 1)) 8 (pd 1)) 9 (de 1)) 10 (us 1)) 11 (tm 1)) 12 (st 2)) 13 (gt 2)) 14 (pd 2)) 15 (de 2)) 16 (us 2)) 17 (tm 2)) 18 (st 3)) 19 (gt 3)) 20 (pd 3)) 21 (de 3))))] := hD
    refine lv_aload_n hx hb dX6_image_128 rfl (lv_at hl 1 rfl) ?_
    refine va_get (D := D) (ci := 6) (v := .ref v10) (C := RX6) (T := TX6) (N := 30) hx hb hts iwX6 hown hK.1 hP 0 rfl rfl 28 (by decide) fk41 (fun _ h9 => h9) rfl dX6_image_129 ?_
    refine lv_bipush (v := 6) hx hb dX6_image_132 (by decide) ?_
    refine lv_iload_n hx hb dX6_image_134 rfl (lv_at hl 0 rfl) ?_
    refine lv_imul hx hb dX6_image_135 ?_
    refine my_top (y := 18) (by decide) ?_
    refine lv_iconst (v := 4) hx hb dX6_image_136 (by decide) ?_
    refine lv_iadd hx hb dX6_image_137 ?_
    refine my_top (y := 22) (by decide) ?_
    refine lv_aload_n hx hb dX6_image_138 rfl (lv_at hl 1 rfl) ?_
    refine va_get (D := D) (ci := 6) (v := .ref v6) (C := RX6) (T := TX6) (N := 30) hx hb hts iwX6 hown hK.1 hP 0 rfl rfl 10 (by decide) fk28 (fun _ h9 => h9) rfl dX6_image_139 ?_
    refine lv_iload_n hx hb dX6_image_142 rfl (lv_at hl 0 rfl) ?_
    refine my_iald hx hb hK hP 7 rfl (j := 3) (ix_nI (j := 3) (by decide) (by decide)) dX6_image_143 ?_
    refine my_iast hx hb hK hP hD hS 11 rfl (j := 22) (ix_nI (j := 22) (by decide) (by decide)) dX6_image_144 (fun H locs hP hD hS => ?_)
    have hP : va_P D vwCl [(vh, .inr (6, [.int mm, .int (nI n), .int tl, .int ho, .ref v0, .ref v1, .ref v2, .ref v3, .ref v4, .ref v5, .ref v6, .int sl, .int hd, .ref v7, .int lo, .int ak, .int (nI k), .ref v8, .int isw, .int nw, .ref v9, .long sn, .int 1, .int mm, .int ho, .int sl, .int hd, .int lo, .ref v10, .long hs])), (v0, .inl (cI, 4, .inl kd)), (v1, .inl (cI, 4, .inl st)), (v2, .inl (cI, 4, .inl co)), (v3, .inl (cI, 4, .inl gt)), (v4, .inl (cI, 4, .inl pd)), (v5, .inl (cI, 4, .inl de)), (v6, .inl (cI, 4, .inl us)), (v7, .inl (cI, 4, .inl tm)), (v8, .inl (cB, 18, .inl lt)), (v9, .inl (cI, 4, .inl sv)), (v10, .inl (cI, 24, .inl (upd (upd (upd (upd (upd (upd (upd (upd (upd (upd (upd (upd (upd (upd (upd (upd (upd (upd (upd (upd (upd (upd (upd ke 0 (st 0)) 1 (gt 0)) 2 (pd 0)) 3 (de 0)) 4 (us 0)) 5 (tm 0)) 6 (st 1)) 7 (gt 1)) 8 (pd 1)) 9 (de 1)) 10 (us 1)) 11 (tm 1)) 12 (st 2)) 13 (gt 2)) 14 (pd 2)) 15 (de 2)) 16 (us 2)) 17 (tm 2)) 18 (st 3)) 19 (gt 3)) 20 (pd 3)) 21 (de 3)) 22 (us 3))))] H := hP
    have hD : va_D A [(vh, .inr (6, [.int mm, .int (nI n), .int tl, .int ho, .ref v0, .ref v1, .ref v2, .ref v3, .ref v4, .ref v5, .ref v6, .int sl, .int hd, .ref v7, .int lo, .int ak, .int (nI k), .ref v8, .int isw, .int nw, .ref v9, .long sn, .int 1, .int mm, .int ho, .int sl, .int hd, .int lo, .ref v10, .long hs])), (v0, .inl (cI, 4, .inl kd)), (v1, .inl (cI, 4, .inl st)), (v2, .inl (cI, 4, .inl co)), (v3, .inl (cI, 4, .inl gt)), (v4, .inl (cI, 4, .inl pd)), (v5, .inl (cI, 4, .inl de)), (v6, .inl (cI, 4, .inl us)), (v7, .inl (cI, 4, .inl tm)), (v8, .inl (cB, 18, .inl lt)), (v9, .inl (cI, 4, .inl sv)), (v10, .inl (cI, 24, .inl (upd (upd (upd (upd (upd (upd (upd (upd (upd (upd (upd (upd (upd (upd (upd (upd (upd (upd (upd (upd (upd (upd (upd ke 0 (st 0)) 1 (gt 0)) 2 (pd 0)) 3 (de 0)) 4 (us 0)) 5 (tm 0)) 6 (st 1)) 7 (gt 1)) 8 (pd 1)) 9 (de 1)) 10 (us 1)) 11 (tm 1)) 12 (st 2)) 13 (gt 2)) 14 (pd 2)) 15 (de 2)) 16 (us 2)) 17 (tm 2)) 18 (st 3)) 19 (gt 3)) 20 (pd 3)) 21 (de 3)) 22 (us 3))))] := hD
    refine lv_aload_n hx hb dX6_image_145 rfl (lv_at hl 1 rfl) ?_
    refine va_get (D := D) (ci := 6) (v := .ref v10) (C := RX6) (T := TX6) (N := 30) hx hb hts iwX6 hown hK.1 hP 0 rfl rfl 28 (by decide) fk41 (fun _ h9 => h9) rfl dX6_image_146 ?_
    refine lv_bipush (v := 6) hx hb dX6_image_149 (by decide) ?_
    refine lv_iload_n hx hb dX6_image_151 rfl (lv_at hl 0 rfl) ?_
    refine lv_imul hx hb dX6_image_152 ?_
    refine my_top (y := 18) (by decide) ?_
    refine lv_iconst (v := 5) hx hb dX6_image_153 (by decide) ?_
    refine lv_iadd hx hb dX6_image_154 ?_
    refine my_top (y := 23) (by decide) ?_
    refine lv_aload_n hx hb dX6_image_155 rfl (lv_at hl 1 rfl) ?_
    refine va_get (D := D) (ci := 6) (v := .ref v7) (C := RX6) (T := TX6) (N := 30) hx hb hts iwX6 hown hK.1 hP 0 rfl rfl 13 (by decide) fk31 (fun _ h9 => h9) rfl dX6_image_156 ?_
    refine lv_iload_n hx hb dX6_image_159 rfl (lv_at hl 0 rfl) ?_
    refine my_iald hx hb hK hP 8 rfl (j := 3) (ix_nI (j := 3) (by decide) (by decide)) dX6_image_160 ?_
    refine my_iast hx hb hK hP hD hS 11 rfl (j := 23) (ix_nI (j := 23) (by decide) (by decide)) dX6_image_161 (fun H locs hP hD hS => ?_)
    have hP : va_P D vwCl [(vh, .inr (6, [.int mm, .int (nI n), .int tl, .int ho, .ref v0, .ref v1, .ref v2, .ref v3, .ref v4, .ref v5, .ref v6, .int sl, .int hd, .ref v7, .int lo, .int ak, .int (nI k), .ref v8, .int isw, .int nw, .ref v9, .long sn, .int 1, .int mm, .int ho, .int sl, .int hd, .int lo, .ref v10, .long hs])), (v0, .inl (cI, 4, .inl kd)), (v1, .inl (cI, 4, .inl st)), (v2, .inl (cI, 4, .inl co)), (v3, .inl (cI, 4, .inl gt)), (v4, .inl (cI, 4, .inl pd)), (v5, .inl (cI, 4, .inl de)), (v6, .inl (cI, 4, .inl us)), (v7, .inl (cI, 4, .inl tm)), (v8, .inl (cB, 18, .inl lt)), (v9, .inl (cI, 4, .inl sv)), (v10, .inl (cI, 24, .inl (upd (upd (upd (upd (upd (upd (upd (upd (upd (upd (upd (upd (upd (upd (upd (upd (upd (upd (upd (upd (upd (upd (upd (upd ke 0 (st 0)) 1 (gt 0)) 2 (pd 0)) 3 (de 0)) 4 (us 0)) 5 (tm 0)) 6 (st 1)) 7 (gt 1)) 8 (pd 1)) 9 (de 1)) 10 (us 1)) 11 (tm 1)) 12 (st 2)) 13 (gt 2)) 14 (pd 2)) 15 (de 2)) 16 (us 2)) 17 (tm 2)) 18 (st 3)) 19 (gt 3)) 20 (pd 3)) 21 (de 3)) 22 (us 3)) 23 (tm 3))))] H := hP
    have hD : va_D A [(vh, .inr (6, [.int mm, .int (nI n), .int tl, .int ho, .ref v0, .ref v1, .ref v2, .ref v3, .ref v4, .ref v5, .ref v6, .int sl, .int hd, .ref v7, .int lo, .int ak, .int (nI k), .ref v8, .int isw, .int nw, .ref v9, .long sn, .int 1, .int mm, .int ho, .int sl, .int hd, .int lo, .ref v10, .long hs])), (v0, .inl (cI, 4, .inl kd)), (v1, .inl (cI, 4, .inl st)), (v2, .inl (cI, 4, .inl co)), (v3, .inl (cI, 4, .inl gt)), (v4, .inl (cI, 4, .inl pd)), (v5, .inl (cI, 4, .inl de)), (v6, .inl (cI, 4, .inl us)), (v7, .inl (cI, 4, .inl tm)), (v8, .inl (cB, 18, .inl lt)), (v9, .inl (cI, 4, .inl sv)), (v10, .inl (cI, 24, .inl (upd (upd (upd (upd (upd (upd (upd (upd (upd (upd (upd (upd (upd (upd (upd (upd (upd (upd (upd (upd (upd (upd (upd (upd ke 0 (st 0)) 1 (gt 0)) 2 (pd 0)) 3 (de 0)) 4 (us 0)) 5 (tm 0)) 6 (st 1)) 7 (gt 1)) 8 (pd 1)) 9 (de 1)) 10 (us 1)) 11 (tm 1)) 12 (st 2)) 13 (gt 2)) 14 (pd 2)) 15 (de 2)) 16 (us 2)) 17 (tm 2)) 18 (st 3)) 19 (gt 3)) 20 (pd 3)) 21 (de 3)) 22 (us 3)) 23 (tm 3))))] := hD
    refine lv_iinc (v := 4) (lv' := [(1, .int 4), (0, .ref vh)]) hx hb dX6_image_162 hl (k := 0) rfl (by decide) (by decide) rfl (fun ls hl => ?_)
    refine lv_goto (tgt := 57) hx hb dX6_image_165 (by decide) ?_
    refine lv_iload_n hx hb dX6_image_57 rfl (lv_at hl 0 rfl) ?_
    refine lv_iconst (v := 4) hx hb dX6_image_58 (by decide) ?_
    refine lv_icmp_ge (tgt := 168) hx hb dX6_image_59 (by decide) (fun c_6 => ?_) (fun c_6 => absurd c_6 (by decide))
    refine lv_aload_n hx hb dX6_image_168 rfl (lv_at hl 1 rfl) ?_
    refine va_get (D := D) (ci := 6) (v := .int ho) (C := RX6) (T := TX6) (N := 30) hx hb hts iwX6 hown hK.1 hP 0 rfl rfl 3 (by decide) fk82 (fun _ h9 => h9) rfl dX6_image_169 ?_
    have hP := va_P.arr (g := kpF st gt pd de us tm) hP 11 rfl (fun j hj => lt24 (P := fun j => (upd (upd (upd (upd (upd (upd (upd (upd (upd (upd (upd (upd (upd (upd (upd (upd (upd (upd (upd (upd (upd (upd (upd (upd ke 0 (st 0)) 1 (gt 0)) 2 (pd 0)) 3 (de 0)) 4 (us 0)) 5 (tm 0)) 6 (st 1)) 7 (gt 1)) 8 (pd 1)) 9 (de 1)) 10 (us 1)) 11 (tm 1)) 12 (st 2)) 13 (gt 2)) 14 (pd 2)) 15 (de 2)) 16 (us 2)) 17 (tm 2)) 18 (st 3)) 19 (gt 3)) 20 (pd 3)) 21 (de 3)) 22 (us 3)) 23 (tm 3)) j = kpF st gt pd de us tm j) rfl rfl rfl rfl rfl rfl rfl rfl rfl rfl rfl rfl rfl rfl rfl rfl rfl rfl rfl rfl rfl rfl rfl rfl hj)
    have hD := va_D.set (p := 11) (e := .inl (cI, 24, .inl (kpF st gt pd de us tm))) hD rfl
    have hP : va_P D vwCl [(vh, .inr (6, [.int mm, .int (nI n), .int tl, .int ho, .ref v0, .ref v1, .ref v2, .ref v3, .ref v4, .ref v5, .ref v6, .int sl, .int hd, .ref v7, .int lo, .int ak, .int (nI k), .ref v8, .int isw, .int nw, .ref v9, .long sn, .int 1, .int mm, .int ho, .int sl, .int hd, .int lo, .ref v10, .long hs])), (v0, .inl (cI, 4, .inl kd)), (v1, .inl (cI, 4, .inl st)), (v2, .inl (cI, 4, .inl co)), (v3, .inl (cI, 4, .inl gt)), (v4, .inl (cI, 4, .inl pd)), (v5, .inl (cI, 4, .inl de)), (v6, .inl (cI, 4, .inl us)), (v7, .inl (cI, 4, .inl tm)), (v8, .inl (cB, 18, .inl lt)), (v9, .inl (cI, 4, .inl sv)), (v10, .inl (cI, 24, .inl (kpF st gt pd de us tm)))] H := hP
    have hD : va_D A [(vh, .inr (6, [.int mm, .int (nI n), .int tl, .int ho, .ref v0, .ref v1, .ref v2, .ref v3, .ref v4, .ref v5, .ref v6, .int sl, .int hd, .ref v7, .int lo, .int ak, .int (nI k), .ref v8, .int isw, .int nw, .ref v9, .long sn, .int 1, .int mm, .int ho, .int sl, .int hd, .int lo, .ref v10, .long hs])), (v0, .inl (cI, 4, .inl kd)), (v1, .inl (cI, 4, .inl st)), (v2, .inl (cI, 4, .inl co)), (v3, .inl (cI, 4, .inl gt)), (v4, .inl (cI, 4, .inl pd)), (v5, .inl (cI, 4, .inl de)), (v6, .inl (cI, 4, .inl us)), (v7, .inl (cI, 4, .inl tm)), (v8, .inl (cB, 18, .inl lt)), (v9, .inl (cI, 4, .inl sv)), (v10, .inl (cI, 24, .inl (kpF st gt pd de us tm)))] := hD
    have eG : f_X6_image st gt pd de us tm ke mm n ho sl hd lo ek em eh es ed el = (ho, 1, mm, ho, sl, hd, lo, kpF st gt pd de us tm) := if_neg c_1
    exact retWi (u := ()) hx hb hr hlocks (by rw [eG]) (by rw [eG]; exact hP) (by rw [eG]; exact hD) hS dX6_image_172
  · refine lv_bipush (v := (-103)) hx hb dX6_image_7 (by decide) ?_
    have eG : f_X6_image st gt pd de us tm ke mm n ho sl hd lo ek em eh es ed el = ((-103), ek, em, eh, es, ed, el, ke) := if_pos c_1
    exact retWi (u := ()) hx hb hr hlocks (by rw [eG]) (by rw [eG]; exact hP) (by rw [eG]; exact hD) hS dX6_image_9
def f_X6_restore (st : Nat → Int32) (gt : Nat → Int32) (pd : Nat → Int32) (de : Nat → Int32) (us : Nat → Int32) (tm : Nat → Int32) (ke : Nat → Int32) (mm : Int32) (ho : Int32) (sl : Int32) (hd : Int32) (lo : Int32) (ek : Int32) (em : Int32) (eh : Int32) (es : Int32) (ed : Int32) (el : Int32) : Int32 × Int32 × Int32 × Int32 × Int32 × (Nat → Int32) × (Nat → Int32) × (Nat → Int32) × (Nat → Int32) × (Nat → Int32) × (Nat → Int32) := if ek = 0 then ((-103), ho, sl, hd, lo, st, gt, pd, de, us, tm) else if em = mm then (eh, eh, es, ed, el, keR ke 0, keR ke 1, keR ke 2, keR ke 3, keR ke 4, keR ke 5) else ((-103), ho, sl, hd, lo, st, gt, pd, de, us, tm)
set_option maxHeartbeats 4000000 in
set_option maxRecDepth 100000 in
theorem c_X6_restore (l : Launch) (D : va_G) (cB cC cI : ClassId) (vh : Nat) (v0 : Nat) (v1 : Nat) (v2 : Nat) (v3 : Nat) (v4 : Nat) (v5 : Nat) (v6 : Nat) (v7 : Nat) (v8 : Nat) (v9 : Nat) (v10 : Nat) (kd : Nat → Int32) (st : Nat → Int32) (co : Nat → Int32) (gt : Nat → Int32) (pd : Nat → Int32) (de : Nat → Int32) (us : Nat → Int32) (tm : Nat → Int32) (lt : Nat → Int32) (sv : Nat → Int32) (ke : Nat → Int32) (mm : Int32) (n : Nat) (tl : Int32) (ho : Int32) (sl : Int32) (hd : Int32) (lo : Int32) (ak : Int32) (k : Nat) (isw : Int32) (nw : Int32) (sn : Int64) (ek : Int32) (em : Int32) (eh : Int32) (es : Int32) (ed : Int32) (el : Int32) (hs : Int64) (sz : Nat)  : Met l yX6_restore wsX6_restore ({ frames := 0, cells := 0, slots := 0, locals := 0 }) (gPw D cB cC cI [.ref vh] [(vh, .inr (6, [.int mm, .int (nI n), .int tl, .int ho, .ref v0, .ref v1, .ref v2, .ref v3, .ref v4, .ref v5, .ref v6, .int sl, .int hd, .ref v7, .int lo, .int ak, .int (nI k), .ref v8, .int isw, .int nw, .ref v9, .long sn, .int ek, .int em, .int eh, .int es, .int ed, .int el, .ref v10, .long hs])), (v0, .inl (cI, 4, .inl kd)), (v1, .inl (cI, 4, .inl st)), (v2, .inl (cI, 4, .inl co)), (v3, .inl (cI, 4, .inl gt)), (v4, .inl (cI, 4, .inl pd)), (v5, .inl (cI, 4, .inl de)), (v6, .inl (cI, 4, .inl us)), (v7, .inl (cI, 4, .inl tm)), (v8, .inl (cB, 18, .inl lt)), (v9, .inl (cI, 4, .inl sv)), (v10, .inl (cI, 24, .inl ke))] sz) (QWi D ((f_X6_restore st gt pd de us tm ke mm ho sl hd lo ek em eh es ed el).1) [(vh, .inr (6, [.int mm, .int (nI n), .int tl, .int ((f_X6_restore st gt pd de us tm ke mm ho sl hd lo ek em eh es ed el).2.1), .ref v0, .ref v1, .ref v2, .ref v3, .ref v4, .ref v5, .ref v6, .int ((f_X6_restore st gt pd de us tm ke mm ho sl hd lo ek em eh es ed el).2.2.1), .int ((f_X6_restore st gt pd de us tm ke mm ho sl hd lo ek em eh es ed el).2.2.2.1), .ref v7, .int ((f_X6_restore st gt pd de us tm ke mm ho sl hd lo ek em eh es ed el).2.2.2.2.1), .int ak, .int (nI k), .ref v8, .int isw, .int nw, .ref v9, .long sn, .int ek, .int em, .int eh, .int es, .int ed, .int el, .ref v10, .long hs])), (v0, .inl (cI, 4, .inl kd)), (v1, .inl (cI, 4, .inl ((f_X6_restore st gt pd de us tm ke mm ho sl hd lo ek em eh es ed el).2.2.2.2.2.1))), (v2, .inl (cI, 4, .inl co)), (v3, .inl (cI, 4, .inl ((f_X6_restore st gt pd de us tm ke mm ho sl hd lo ek em eh es ed el).2.2.2.2.2.2.1))), (v4, .inl (cI, 4, .inl ((f_X6_restore st gt pd de us tm ke mm ho sl hd lo ek em eh es ed el).2.2.2.2.2.2.2.1))), (v5, .inl (cI, 4, .inl ((f_X6_restore st gt pd de us tm ke mm ho sl hd lo ek em eh es ed el).2.2.2.2.2.2.2.2.1))), (v6, .inl (cI, 4, .inl ((f_X6_restore st gt pd de us tm ke mm ho sl hd lo ek em eh es ed el).2.2.2.2.2.2.2.2.2.1))), (v7, .inl (cI, 4, .inl ((f_X6_restore st gt pd de us tm ke mm ho sl hd lo ek em eh es ed el).2.2.2.2.2.2.2.2.2.2))), (v8, .inl (cB, 18, .inl lt)), (v9, .inl (cI, 4, .inl sv)), (v10, .inl (cI, 24, .inl ke))] (va_A [(vh, .inr (6, [.int mm, .int (nI n), .int tl, .int ho, .ref v0, .ref v1, .ref v2, .ref v3, .ref v4, .ref v5, .ref v6, .int sl, .int hd, .ref v7, .int lo, .int ak, .int (nI k), .ref v8, .int isw, .int nw, .ref v9, .long sn, .int ek, .int em, .int eh, .int es, .int ed, .int el, .ref v10, .long hs])), (v0, .inl (cI, 4, .inl kd)), (v1, .inl (cI, 4, .inl st)), (v2, .inl (cI, 4, .inl co)), (v3, .inl (cI, 4, .inl gt)), (v4, .inl (cI, 4, .inl pd)), (v5, .inl (cI, 4, .inl de)), (v6, .inl (cI, 4, .inl us)), (v7, .inl (cI, 4, .inl tm)), (v8, .inl (cB, 18, .inl lt)), (v9, .inl (cI, 4, .inl sv)), (v10, .inl (cI, 24, .inl ke))] sz)) 0 0 (va_A [(vh, .inr (6, [.int mm, .int (nI n), .int tl, .int ho, .ref v0, .ref v1, .ref v2, .ref v3, .ref v4, .ref v5, .ref v6, .int sl, .int hd, .ref v7, .int lo, .int ak, .int (nI k), .ref v8, .int isw, .int nw, .ref v9, .long sn, .int ek, .int em, .int eh, .int es, .int ed, .int el, .ref v10, .long hs])), (v0, .inl (cI, 4, .inl kd)), (v1, .inl (cI, 4, .inl st)), (v2, .inl (cI, 4, .inl co)), (v3, .inl (cI, 4, .inl gt)), (v4, .inl (cI, 4, .inl pd)), (v5, .inl (cI, 4, .inl de)), (v6, .inl (cI, 4, .inl us)), (v7, .inl (cI, 4, .inl tm)), (v8, .inl (cB, 18, .inl lt)), (v9, .inl (cI, 4, .inl sv)), (v10, .inl (cI, 24, .inl ke))] sz) := by
  refine metW (cc := cX6_restore) (maxL := 2) (ret := (some .int)) (QA := fun A => (QWi D ((f_X6_restore st gt pd de us tm ke mm ho sl hd lo ek em eh es ed el).1) [(vh, .inr (6, [.int mm, .int (nI n), .int tl, .int ((f_X6_restore st gt pd de us tm ke mm ho sl hd lo ek em eh es ed el).2.1), .ref v0, .ref v1, .ref v2, .ref v3, .ref v4, .ref v5, .ref v6, .int ((f_X6_restore st gt pd de us tm ke mm ho sl hd lo ek em eh es ed el).2.2.1), .int ((f_X6_restore st gt pd de us tm ke mm ho sl hd lo ek em eh es ed el).2.2.2.1), .ref v7, .int ((f_X6_restore st gt pd de us tm ke mm ho sl hd lo ek em eh es ed el).2.2.2.2.1), .int ak, .int (nI k), .ref v8, .int isw, .int nw, .ref v9, .long sn, .int ek, .int em, .int eh, .int es, .int ed, .int el, .ref v10, .long hs])), (v0, .inl (cI, 4, .inl kd)), (v1, .inl (cI, 4, .inl ((f_X6_restore st gt pd de us tm ke mm ho sl hd lo ek em eh es ed el).2.2.2.2.2.1))), (v2, .inl (cI, 4, .inl co)), (v3, .inl (cI, 4, .inl ((f_X6_restore st gt pd de us tm ke mm ho sl hd lo ek em eh es ed el).2.2.2.2.2.2.1))), (v4, .inl (cI, 4, .inl ((f_X6_restore st gt pd de us tm ke mm ho sl hd lo ek em eh es ed el).2.2.2.2.2.2.2.1))), (v5, .inl (cI, 4, .inl ((f_X6_restore st gt pd de us tm ke mm ho sl hd lo ek em eh es ed el).2.2.2.2.2.2.2.2.1))), (v6, .inl (cI, 4, .inl ((f_X6_restore st gt pd de us tm ke mm ho sl hd lo ek em eh es ed el).2.2.2.2.2.2.2.2.2.1))), (v7, .inl (cI, 4, .inl ((f_X6_restore st gt pd de us tm ke mm ho sl hd lo ek em eh es ed el).2.2.2.2.2.2.2.2.2.2))), (v8, .inl (cB, 18, .inl lt)), (v9, .inl (cI, 4, .inl sv)), (v10, .inl (cI, 24, .inl ke))] A)) RX6 rfl (by decide) rfl (Nat.le_of_ble_eq_true rfl) ?_
  intro p e s m below meth c A hx hb hr hml hown hts hlocks hin hP hK hD hA hS ls hl
  have iwX6 : ∀ w ∈ wsX60, w ∈ wsX6_restore := by decide +kernel
  have fk167 := hts (.fieldLink RX6 167 "BuyersWeightsModel" "isKept" "Z") (by decide +kernel)
  have fk170 := hts (.fieldLink RX6 170 "BuyersWeightsModel" "keptMarket" "I") (by decide +kernel)
  have fk79 := hts (.fieldLink RX6 79 "BuyersWeightsModel" "marketMany" "I") (by decide +kernel)
  have fk173 := hts (.fieldLink RX6 173 "BuyersWeightsModel" "keptHour" "I") (by decide +kernel)
  have fk82 := hts (.fieldLink RX6 82 "BuyersWeightsModel" "hour" "I") (by decide +kernel)
  have fk176 := hts (.fieldLink RX6 176 "BuyersWeightsModel" "keptSales" "I") (by decide +kernel)
  have fk85 := hts (.fieldLink RX6 85 "BuyersWeightsModel" "sales" "I") (by decide +kernel)
  have fk179 := hts (.fieldLink RX6 179 "BuyersWeightsModel" "keptHands" "I") (by decide +kernel)
  have fk88 := hts (.fieldLink RX6 88 "BuyersWeightsModel" "hands" "I") (by decide +kernel)
  have fk182 := hts (.fieldLink RX6 182 "BuyersWeightsModel" "keptLost" "I") (by decide +kernel)
  have fk91 := hts (.fieldLink RX6 91 "BuyersWeightsModel" "lost" "I") (by decide +kernel)
  have fk13 := hts (.fieldLink RX6 13 "BuyersWeightsModel" "weighsOf" "[I") (by decide +kernel)
  have fk41 := hts (.fieldLink RX6 41 "BuyersWeightsModel" "kept" "[I") (by decide +kernel)
  have fk19 := hts (.fieldLink RX6 19 "BuyersWeightsModel" "gotOf" "[I") (by decide +kernel)
  have fk22 := hts (.fieldLink RX6 22 "BuyersWeightsModel" "paidOf" "[I") (by decide +kernel)
  have fk25 := hts (.fieldLink RX6 25 "BuyersWeightsModel" "dealtOf" "[I") (by decide +kernel)
  have fk28 := hts (.fieldLink RX6 28 "BuyersWeightsModel" "usedOf" "[I") (by decide +kernel)
  have fk31 := hts (.fieldLink RX6 31 "BuyersWeightsModel" "handsOf" "[I") (by decide +kernel)
  have hl : lv_has ls 2 [(0, .ref vh)] := hl
  refine lv_aload_n hx hb dX6_restore_0 rfl (lv_at hl 0 rfl) ?_
  refine va_get (D := D) (ci := 6) (v := .int ek) (C := RX6) (T := TX6) (N := 30) hx hb hts iwX6 hown hK.1 hP 0 rfl rfl 22 (by decide) fk167 (fun _ h9 => h9) rfl dX6_restore_1 ?_
  refine lv_if_eq (tgt := 18) hx hb dX6_restore_4 (by decide) (fun c_1 => ?_) (fun c_1 => ?_)
  · refine lv_bipush (v := (-103)) hx hb dX6_restore_18 (by decide) ?_
    have eG : f_X6_restore st gt pd de us tm ke mm ho sl hd lo ek em eh es ed el = ((-103), ho, sl, hd, lo, st, gt, pd, de, us, tm) := if_pos c_1
    exact retWi (u := ()) hx hb hr hlocks (by rw [eG]) (by rw [eG]; exact hP) (by rw [eG]; exact hD) hS dX6_restore_20
  · refine lv_aload_n hx hb dX6_restore_7 rfl (lv_at hl 0 rfl) ?_
    refine va_get (D := D) (ci := 6) (v := .int em) (C := RX6) (T := TX6) (N := 30) hx hb hts iwX6 hown hK.1 hP 0 rfl rfl 23 (by decide) fk170 (fun _ h9 => h9) rfl dX6_restore_8 ?_
    refine lv_aload_n hx hb dX6_restore_11 rfl (lv_at hl 0 rfl) ?_
    refine va_get (D := D) (ci := 6) (v := .int mm) (C := RX6) (T := TX6) (N := 30) hx hb hts iwX6 hown hK.1 hP 0 rfl rfl 0 (by decide) fk79 (fun _ h9 => h9) rfl dX6_restore_12 ?_
    refine lv_icmp_eq (tgt := 21) hx hb dX6_restore_15 (by decide) (fun c_2 => ?_) (fun c_2 => ?_)
    · refine lv_aload_n hx hb dX6_restore_21 rfl (lv_at hl 0 rfl) ?_
      refine lv_aload_n hx hb dX6_restore_22 rfl (lv_at hl 0 rfl) ?_
      refine va_get (D := D) (ci := 6) (v := .int eh) (C := RX6) (T := TX6) (N := 30) hx hb hts iwX6 hown hK.1 hP 0 rfl rfl 24 (by decide) fk173 (fun _ h9 => h9) rfl dX6_restore_23 ?_
      refine va_put (D := D) (ci := 6) (v := .int eh) (ty := .int) (C := RX6) (T := TX6) (N := 30) hx hb hts iwX6 tyX6 tyX6_ok nmX6 hown hK.1 hP hD hS 0 rfl rfl 3 (by decide) fk82 (fun _ h9 => h9) rfl (by decide +kernel) rfl rfl (Nat.le_of_ble_eq_true rfl) dX6_restore_26 (fun H locs hP hD hS => ?_)
      have hP : va_P D vwCl [(vh, .inr (6, [.int mm, .int (nI n), .int tl, .int eh, .ref v0, .ref v1, .ref v2, .ref v3, .ref v4, .ref v5, .ref v6, .int sl, .int hd, .ref v7, .int lo, .int ak, .int (nI k), .ref v8, .int isw, .int nw, .ref v9, .long sn, .int ek, .int em, .int eh, .int es, .int ed, .int el, .ref v10, .long hs])), (v0, .inl (cI, 4, .inl kd)), (v1, .inl (cI, 4, .inl st)), (v2, .inl (cI, 4, .inl co)), (v3, .inl (cI, 4, .inl gt)), (v4, .inl (cI, 4, .inl pd)), (v5, .inl (cI, 4, .inl de)), (v6, .inl (cI, 4, .inl us)), (v7, .inl (cI, 4, .inl tm)), (v8, .inl (cB, 18, .inl lt)), (v9, .inl (cI, 4, .inl sv)), (v10, .inl (cI, 24, .inl ke))] H := hP
      have hD : va_D A [(vh, .inr (6, [.int mm, .int (nI n), .int tl, .int eh, .ref v0, .ref v1, .ref v2, .ref v3, .ref v4, .ref v5, .ref v6, .int sl, .int hd, .ref v7, .int lo, .int ak, .int (nI k), .ref v8, .int isw, .int nw, .ref v9, .long sn, .int ek, .int em, .int eh, .int es, .int ed, .int el, .ref v10, .long hs])), (v0, .inl (cI, 4, .inl kd)), (v1, .inl (cI, 4, .inl st)), (v2, .inl (cI, 4, .inl co)), (v3, .inl (cI, 4, .inl gt)), (v4, .inl (cI, 4, .inl pd)), (v5, .inl (cI, 4, .inl de)), (v6, .inl (cI, 4, .inl us)), (v7, .inl (cI, 4, .inl tm)), (v8, .inl (cB, 18, .inl lt)), (v9, .inl (cI, 4, .inl sv)), (v10, .inl (cI, 24, .inl ke))] := hD
      refine lv_aload_n hx hb dX6_restore_29 rfl (lv_at hl 0 rfl) ?_
      refine lv_aload_n hx hb dX6_restore_30 rfl (lv_at hl 0 rfl) ?_
      refine va_get (D := D) (ci := 6) (v := .int es) (C := RX6) (T := TX6) (N := 30) hx hb hts iwX6 hown hK.1 hP 0 rfl rfl 25 (by decide) fk176 (fun _ h9 => h9) rfl dX6_restore_31 ?_
      refine va_put (D := D) (ci := 6) (v := .int es) (ty := .int) (C := RX6) (T := TX6) (N := 30) hx hb hts iwX6 tyX6 tyX6_ok nmX6 hown hK.1 hP hD hS 0 rfl rfl 11 (by decide) fk85 (fun _ h9 => h9) rfl (by decide +kernel) rfl rfl (Nat.le_of_ble_eq_true rfl) dX6_restore_34 (fun H locs hP hD hS => ?_)
      have hP : va_P D vwCl [(vh, .inr (6, [.int mm, .int (nI n), .int tl, .int eh, .ref v0, .ref v1, .ref v2, .ref v3, .ref v4, .ref v5, .ref v6, .int es, .int hd, .ref v7, .int lo, .int ak, .int (nI k), .ref v8, .int isw, .int nw, .ref v9, .long sn, .int ek, .int em, .int eh, .int es, .int ed, .int el, .ref v10, .long hs])), (v0, .inl (cI, 4, .inl kd)), (v1, .inl (cI, 4, .inl st)), (v2, .inl (cI, 4, .inl co)), (v3, .inl (cI, 4, .inl gt)), (v4, .inl (cI, 4, .inl pd)), (v5, .inl (cI, 4, .inl de)), (v6, .inl (cI, 4, .inl us)), (v7, .inl (cI, 4, .inl tm)), (v8, .inl (cB, 18, .inl lt)), (v9, .inl (cI, 4, .inl sv)), (v10, .inl (cI, 24, .inl ke))] H := hP
      have hD : va_D A [(vh, .inr (6, [.int mm, .int (nI n), .int tl, .int eh, .ref v0, .ref v1, .ref v2, .ref v3, .ref v4, .ref v5, .ref v6, .int es, .int hd, .ref v7, .int lo, .int ak, .int (nI k), .ref v8, .int isw, .int nw, .ref v9, .long sn, .int ek, .int em, .int eh, .int es, .int ed, .int el, .ref v10, .long hs])), (v0, .inl (cI, 4, .inl kd)), (v1, .inl (cI, 4, .inl st)), (v2, .inl (cI, 4, .inl co)), (v3, .inl (cI, 4, .inl gt)), (v4, .inl (cI, 4, .inl pd)), (v5, .inl (cI, 4, .inl de)), (v6, .inl (cI, 4, .inl us)), (v7, .inl (cI, 4, .inl tm)), (v8, .inl (cB, 18, .inl lt)), (v9, .inl (cI, 4, .inl sv)), (v10, .inl (cI, 24, .inl ke))] := hD
      refine lv_aload_n hx hb dX6_restore_37 rfl (lv_at hl 0 rfl) ?_
      refine lv_aload_n hx hb dX6_restore_38 rfl (lv_at hl 0 rfl) ?_
      refine va_get (D := D) (ci := 6) (v := .int ed) (C := RX6) (T := TX6) (N := 30) hx hb hts iwX6 hown hK.1 hP 0 rfl rfl 26 (by decide) fk179 (fun _ h9 => h9) rfl dX6_restore_39 ?_
      refine va_put (D := D) (ci := 6) (v := .int ed) (ty := .int) (C := RX6) (T := TX6) (N := 30) hx hb hts iwX6 tyX6 tyX6_ok nmX6 hown hK.1 hP hD hS 0 rfl rfl 12 (by decide) fk88 (fun _ h9 => h9) rfl (by decide +kernel) rfl rfl (Nat.le_of_ble_eq_true rfl) dX6_restore_42 (fun H locs hP hD hS => ?_)
      have hP : va_P D vwCl [(vh, .inr (6, [.int mm, .int (nI n), .int tl, .int eh, .ref v0, .ref v1, .ref v2, .ref v3, .ref v4, .ref v5, .ref v6, .int es, .int ed, .ref v7, .int lo, .int ak, .int (nI k), .ref v8, .int isw, .int nw, .ref v9, .long sn, .int ek, .int em, .int eh, .int es, .int ed, .int el, .ref v10, .long hs])), (v0, .inl (cI, 4, .inl kd)), (v1, .inl (cI, 4, .inl st)), (v2, .inl (cI, 4, .inl co)), (v3, .inl (cI, 4, .inl gt)), (v4, .inl (cI, 4, .inl pd)), (v5, .inl (cI, 4, .inl de)), (v6, .inl (cI, 4, .inl us)), (v7, .inl (cI, 4, .inl tm)), (v8, .inl (cB, 18, .inl lt)), (v9, .inl (cI, 4, .inl sv)), (v10, .inl (cI, 24, .inl ke))] H := hP
      have hD : va_D A [(vh, .inr (6, [.int mm, .int (nI n), .int tl, .int eh, .ref v0, .ref v1, .ref v2, .ref v3, .ref v4, .ref v5, .ref v6, .int es, .int ed, .ref v7, .int lo, .int ak, .int (nI k), .ref v8, .int isw, .int nw, .ref v9, .long sn, .int ek, .int em, .int eh, .int es, .int ed, .int el, .ref v10, .long hs])), (v0, .inl (cI, 4, .inl kd)), (v1, .inl (cI, 4, .inl st)), (v2, .inl (cI, 4, .inl co)), (v3, .inl (cI, 4, .inl gt)), (v4, .inl (cI, 4, .inl pd)), (v5, .inl (cI, 4, .inl de)), (v6, .inl (cI, 4, .inl us)), (v7, .inl (cI, 4, .inl tm)), (v8, .inl (cB, 18, .inl lt)), (v9, .inl (cI, 4, .inl sv)), (v10, .inl (cI, 24, .inl ke))] := hD
      refine lv_aload_n hx hb dX6_restore_45 rfl (lv_at hl 0 rfl) ?_
      refine lv_aload_n hx hb dX6_restore_46 rfl (lv_at hl 0 rfl) ?_
      refine va_get (D := D) (ci := 6) (v := .int el) (C := RX6) (T := TX6) (N := 30) hx hb hts iwX6 hown hK.1 hP 0 rfl rfl 27 (by decide) fk182 (fun _ h9 => h9) rfl dX6_restore_47 ?_
      refine va_put (D := D) (ci := 6) (v := .int el) (ty := .int) (C := RX6) (T := TX6) (N := 30) hx hb hts iwX6 tyX6 tyX6_ok nmX6 hown hK.1 hP hD hS 0 rfl rfl 14 (by decide) fk91 (fun _ h9 => h9) rfl (by decide +kernel) rfl rfl (Nat.le_of_ble_eq_true rfl) dX6_restore_50 (fun H locs hP hD hS => ?_)
      have hP : va_P D vwCl [(vh, .inr (6, [.int mm, .int (nI n), .int tl, .int eh, .ref v0, .ref v1, .ref v2, .ref v3, .ref v4, .ref v5, .ref v6, .int es, .int ed, .ref v7, .int el, .int ak, .int (nI k), .ref v8, .int isw, .int nw, .ref v9, .long sn, .int ek, .int em, .int eh, .int es, .int ed, .int el, .ref v10, .long hs])), (v0, .inl (cI, 4, .inl kd)), (v1, .inl (cI, 4, .inl st)), (v2, .inl (cI, 4, .inl co)), (v3, .inl (cI, 4, .inl gt)), (v4, .inl (cI, 4, .inl pd)), (v5, .inl (cI, 4, .inl de)), (v6, .inl (cI, 4, .inl us)), (v7, .inl (cI, 4, .inl tm)), (v8, .inl (cB, 18, .inl lt)), (v9, .inl (cI, 4, .inl sv)), (v10, .inl (cI, 24, .inl ke))] H := hP
      have hD : va_D A [(vh, .inr (6, [.int mm, .int (nI n), .int tl, .int eh, .ref v0, .ref v1, .ref v2, .ref v3, .ref v4, .ref v5, .ref v6, .int es, .int ed, .ref v7, .int el, .int ak, .int (nI k), .ref v8, .int isw, .int nw, .ref v9, .long sn, .int ek, .int em, .int eh, .int es, .int ed, .int el, .ref v10, .long hs])), (v0, .inl (cI, 4, .inl kd)), (v1, .inl (cI, 4, .inl st)), (v2, .inl (cI, 4, .inl co)), (v3, .inl (cI, 4, .inl gt)), (v4, .inl (cI, 4, .inl pd)), (v5, .inl (cI, 4, .inl de)), (v6, .inl (cI, 4, .inl us)), (v7, .inl (cI, 4, .inl tm)), (v8, .inl (cB, 18, .inl lt)), (v9, .inl (cI, 4, .inl sv)), (v10, .inl (cI, 24, .inl ke))] := hD
      refine lv_iconst (v := 0) hx hb dX6_restore_53 (by decide) ?_
      refine lv_istore_n (lv' := [(1, .int 0), (0, .ref vh)]) hx hb dX6_restore_54 rfl hl (by decide) rfl (fun ls hl => ?_)
      refine lv_iload_n hx hb dX6_restore_55 rfl (lv_at hl 0 rfl) ?_
      refine lv_iconst (v := 4) hx hb dX6_restore_56 (by decide) ?_
      refine lv_icmp_ge (tgt := 166) hx hb dX6_restore_57 (by decide) (fun c_3 => absurd c_3 (by decide)) (fun c_3 => ?_)
      refine lv_aload_n hx hb dX6_restore_60 rfl (lv_at hl 1 rfl) ?_
      refine va_get (D := D) (ci := 6) (v := .ref v1) (C := RX6) (T := TX6) (N := 30) hx hb hts iwX6 hown hK.1 hP 0 rfl rfl 5 (by decide) fk13 (fun _ h9 => h9) rfl dX6_restore_61 ?_
      refine lv_iload_n hx hb dX6_restore_64 rfl (lv_at hl 0 rfl) ?_
      refine lv_aload_n hx hb dX6_restore_65 rfl (lv_at hl 1 rfl) ?_
      refine va_get (D := D) (ci := 6) (v := .ref v10) (C := RX6) (T := TX6) (N := 30) hx hb hts iwX6 hown hK.1 hP 0 rfl rfl 28 (by decide) fk41 (fun _ h9 => h9) rfl dX6_restore_66 ?_
      refine lv_bipush (v := 6) hx hb dX6_restore_69 (by decide) ?_
      refine lv_iload_n hx hb dX6_restore_71 rfl (lv_at hl 0 rfl) ?_
      refine lv_imul hx hb dX6_restore_72 ?_
      refine my_top (y := 0) (by decide) ?_
      refine my_iald hx hb hK hP 11 rfl (j := 0) (ix_nI (j := 0) (by decide) (by decide)) dX6_restore_73 ?_
      refine my_iast hx hb hK hP hD hS 2 rfl (j := 0) (ix_nI (j := 0) (by decide) (by decide)) dX6_restore_74 (fun H locs hP hD hS => ?_)
      have hP : va_P D vwCl [(vh, .inr (6, [.int mm, .int (nI n), .int tl, .int eh, .ref v0, .ref v1, .ref v2, .ref v3, .ref v4, .ref v5, .ref v6, .int es, .int ed, .ref v7, .int el, .int ak, .int (nI k), .ref v8, .int isw, .int nw, .ref v9, .long sn, .int ek, .int em, .int eh, .int es, .int ed, .int el, .ref v10, .long hs])), (v0, .inl (cI, 4, .inl kd)), (v1, .inl (cI, 4, .inl (upd st 0 (ke 0)))), (v2, .inl (cI, 4, .inl co)), (v3, .inl (cI, 4, .inl gt)), (v4, .inl (cI, 4, .inl pd)), (v5, .inl (cI, 4, .inl de)), (v6, .inl (cI, 4, .inl us)), (v7, .inl (cI, 4, .inl tm)), (v8, .inl (cB, 18, .inl lt)), (v9, .inl (cI, 4, .inl sv)), (v10, .inl (cI, 24, .inl ke))] H := hP
      have hD : va_D A [(vh, .inr (6, [.int mm, .int (nI n), .int tl, .int eh, .ref v0, .ref v1, .ref v2, .ref v3, .ref v4, .ref v5, .ref v6, .int es, .int ed, .ref v7, .int el, .int ak, .int (nI k), .ref v8, .int isw, .int nw, .ref v9, .long sn, .int ek, .int em, .int eh, .int es, .int ed, .int el, .ref v10, .long hs])), (v0, .inl (cI, 4, .inl kd)), (v1, .inl (cI, 4, .inl (upd st 0 (ke 0)))), (v2, .inl (cI, 4, .inl co)), (v3, .inl (cI, 4, .inl gt)), (v4, .inl (cI, 4, .inl pd)), (v5, .inl (cI, 4, .inl de)), (v6, .inl (cI, 4, .inl us)), (v7, .inl (cI, 4, .inl tm)), (v8, .inl (cB, 18, .inl lt)), (v9, .inl (cI, 4, .inl sv)), (v10, .inl (cI, 24, .inl ke))] := hD
      refine lv_aload_n hx hb dX6_restore_75 rfl (lv_at hl 1 rfl) ?_
      refine va_get (D := D) (ci := 6) (v := .ref v3) (C := RX6) (T := TX6) (N := 30) hx hb hts iwX6 hown hK.1 hP 0 rfl rfl 7 (by decide) fk19 (fun _ h9 => h9) rfl dX6_restore_76 ?_
      refine lv_iload_n hx hb dX6_restore_79 rfl (lv_at hl 0 rfl) ?_
      refine lv_aload_n hx hb dX6_restore_80 rfl (lv_at hl 1 rfl) ?_
      refine va_get (D := D) (ci := 6) (v := .ref v10) (C := RX6) (T := TX6) (N := 30) hx hb hts iwX6 hown hK.1 hP 0 rfl rfl 28 (by decide) fk41 (fun _ h9 => h9) rfl dX6_restore_81 ?_
      refine lv_bipush (v := 6) hx hb dX6_restore_84 (by decide) ?_
      refine lv_iload_n hx hb dX6_restore_86 rfl (lv_at hl 0 rfl) ?_
      refine lv_imul hx hb dX6_restore_87 ?_
      refine my_top (y := 0) (by decide) ?_
      refine lv_iconst (v := 1) hx hb dX6_restore_88 (by decide) ?_
      refine lv_iadd hx hb dX6_restore_89 ?_
      refine my_top (y := 1) (by decide) ?_
      refine my_iald hx hb hK hP 11 rfl (j := 1) (ix_nI (j := 1) (by decide) (by decide)) dX6_restore_90 ?_
      refine my_iast hx hb hK hP hD hS 4 rfl (j := 0) (ix_nI (j := 0) (by decide) (by decide)) dX6_restore_91 (fun H locs hP hD hS => ?_)
      have hP : va_P D vwCl [(vh, .inr (6, [.int mm, .int (nI n), .int tl, .int eh, .ref v0, .ref v1, .ref v2, .ref v3, .ref v4, .ref v5, .ref v6, .int es, .int ed, .ref v7, .int el, .int ak, .int (nI k), .ref v8, .int isw, .int nw, .ref v9, .long sn, .int ek, .int em, .int eh, .int es, .int ed, .int el, .ref v10, .long hs])), (v0, .inl (cI, 4, .inl kd)), (v1, .inl (cI, 4, .inl (upd st 0 (ke 0)))), (v2, .inl (cI, 4, .inl co)), (v3, .inl (cI, 4, .inl (upd gt 0 (ke 1)))), (v4, .inl (cI, 4, .inl pd)), (v5, .inl (cI, 4, .inl de)), (v6, .inl (cI, 4, .inl us)), (v7, .inl (cI, 4, .inl tm)), (v8, .inl (cB, 18, .inl lt)), (v9, .inl (cI, 4, .inl sv)), (v10, .inl (cI, 24, .inl ke))] H := hP
      have hD : va_D A [(vh, .inr (6, [.int mm, .int (nI n), .int tl, .int eh, .ref v0, .ref v1, .ref v2, .ref v3, .ref v4, .ref v5, .ref v6, .int es, .int ed, .ref v7, .int el, .int ak, .int (nI k), .ref v8, .int isw, .int nw, .ref v9, .long sn, .int ek, .int em, .int eh, .int es, .int ed, .int el, .ref v10, .long hs])), (v0, .inl (cI, 4, .inl kd)), (v1, .inl (cI, 4, .inl (upd st 0 (ke 0)))), (v2, .inl (cI, 4, .inl co)), (v3, .inl (cI, 4, .inl (upd gt 0 (ke 1)))), (v4, .inl (cI, 4, .inl pd)), (v5, .inl (cI, 4, .inl de)), (v6, .inl (cI, 4, .inl us)), (v7, .inl (cI, 4, .inl tm)), (v8, .inl (cB, 18, .inl lt)), (v9, .inl (cI, 4, .inl sv)), (v10, .inl (cI, 24, .inl ke))] := hD
      refine lv_aload_n hx hb dX6_restore_92 rfl (lv_at hl 1 rfl) ?_
      refine va_get (D := D) (ci := 6) (v := .ref v4) (C := RX6) (T := TX6) (N := 30) hx hb hts iwX6 hown hK.1 hP 0 rfl rfl 8 (by decide) fk22 (fun _ h9 => h9) rfl dX6_restore_93 ?_
      refine lv_iload_n hx hb dX6_restore_96 rfl (lv_at hl 0 rfl) ?_
      refine lv_aload_n hx hb dX6_restore_97 rfl (lv_at hl 1 rfl) ?_
      refine va_get (D := D) (ci := 6) (v := .ref v10) (C := RX6) (T := TX6) (N := 30) hx hb hts iwX6 hown hK.1 hP 0 rfl rfl 28 (by decide) fk41 (fun _ h9 => h9) rfl dX6_restore_98 ?_
      refine lv_bipush (v := 6) hx hb dX6_restore_101 (by decide) ?_
      refine lv_iload_n hx hb dX6_restore_103 rfl (lv_at hl 0 rfl) ?_
      refine lv_imul hx hb dX6_restore_104 ?_
      refine my_top (y := 0) (by decide) ?_
      refine lv_iconst (v := 2) hx hb dX6_restore_105 (by decide) ?_
      refine lv_iadd hx hb dX6_restore_106 ?_
      refine my_top (y := 2) (by decide) ?_
      refine my_iald hx hb hK hP 11 rfl (j := 2) (ix_nI (j := 2) (by decide) (by decide)) dX6_restore_107 ?_
      refine my_iast hx hb hK hP hD hS 5 rfl (j := 0) (ix_nI (j := 0) (by decide) (by decide)) dX6_restore_108 (fun H locs hP hD hS => ?_)
      have hP : va_P D vwCl [(vh, .inr (6, [.int mm, .int (nI n), .int tl, .int eh, .ref v0, .ref v1, .ref v2, .ref v3, .ref v4, .ref v5, .ref v6, .int es, .int ed, .ref v7, .int el, .int ak, .int (nI k), .ref v8, .int isw, .int nw, .ref v9, .long sn, .int ek, .int em, .int eh, .int es, .int ed, .int el, .ref v10, .long hs])), (v0, .inl (cI, 4, .inl kd)), (v1, .inl (cI, 4, .inl (upd st 0 (ke 0)))), (v2, .inl (cI, 4, .inl co)), (v3, .inl (cI, 4, .inl (upd gt 0 (ke 1)))), (v4, .inl (cI, 4, .inl (upd pd 0 (ke 2)))), (v5, .inl (cI, 4, .inl de)), (v6, .inl (cI, 4, .inl us)), (v7, .inl (cI, 4, .inl tm)), (v8, .inl (cB, 18, .inl lt)), (v9, .inl (cI, 4, .inl sv)), (v10, .inl (cI, 24, .inl ke))] H := hP
      have hD : va_D A [(vh, .inr (6, [.int mm, .int (nI n), .int tl, .int eh, .ref v0, .ref v1, .ref v2, .ref v3, .ref v4, .ref v5, .ref v6, .int es, .int ed, .ref v7, .int el, .int ak, .int (nI k), .ref v8, .int isw, .int nw, .ref v9, .long sn, .int ek, .int em, .int eh, .int es, .int ed, .int el, .ref v10, .long hs])), (v0, .inl (cI, 4, .inl kd)), (v1, .inl (cI, 4, .inl (upd st 0 (ke 0)))), (v2, .inl (cI, 4, .inl co)), (v3, .inl (cI, 4, .inl (upd gt 0 (ke 1)))), (v4, .inl (cI, 4, .inl (upd pd 0 (ke 2)))), (v5, .inl (cI, 4, .inl de)), (v6, .inl (cI, 4, .inl us)), (v7, .inl (cI, 4, .inl tm)), (v8, .inl (cB, 18, .inl lt)), (v9, .inl (cI, 4, .inl sv)), (v10, .inl (cI, 24, .inl ke))] := hD
      refine lv_aload_n hx hb dX6_restore_109 rfl (lv_at hl 1 rfl) ?_
      refine va_get (D := D) (ci := 6) (v := .ref v5) (C := RX6) (T := TX6) (N := 30) hx hb hts iwX6 hown hK.1 hP 0 rfl rfl 9 (by decide) fk25 (fun _ h9 => h9) rfl dX6_restore_110 ?_
      refine lv_iload_n hx hb dX6_restore_113 rfl (lv_at hl 0 rfl) ?_
      refine lv_aload_n hx hb dX6_restore_114 rfl (lv_at hl 1 rfl) ?_
      refine va_get (D := D) (ci := 6) (v := .ref v10) (C := RX6) (T := TX6) (N := 30) hx hb hts iwX6 hown hK.1 hP 0 rfl rfl 28 (by decide) fk41 (fun _ h9 => h9) rfl dX6_restore_115 ?_
      refine lv_bipush (v := 6) hx hb dX6_restore_118 (by decide) ?_
      refine lv_iload_n hx hb dX6_restore_120 rfl (lv_at hl 0 rfl) ?_
      refine lv_imul hx hb dX6_restore_121 ?_
      refine my_top (y := 0) (by decide) ?_
      refine lv_iconst (v := 3) hx hb dX6_restore_122 (by decide) ?_
      refine lv_iadd hx hb dX6_restore_123 ?_
      refine my_top (y := 3) (by decide) ?_
      refine my_iald hx hb hK hP 11 rfl (j := 3) (ix_nI (j := 3) (by decide) (by decide)) dX6_restore_124 ?_
      refine my_iast hx hb hK hP hD hS 6 rfl (j := 0) (ix_nI (j := 0) (by decide) (by decide)) dX6_restore_125 (fun H locs hP hD hS => ?_)
      have hP : va_P D vwCl [(vh, .inr (6, [.int mm, .int (nI n), .int tl, .int eh, .ref v0, .ref v1, .ref v2, .ref v3, .ref v4, .ref v5, .ref v6, .int es, .int ed, .ref v7, .int el, .int ak, .int (nI k), .ref v8, .int isw, .int nw, .ref v9, .long sn, .int ek, .int em, .int eh, .int es, .int ed, .int el, .ref v10, .long hs])), (v0, .inl (cI, 4, .inl kd)), (v1, .inl (cI, 4, .inl (upd st 0 (ke 0)))), (v2, .inl (cI, 4, .inl co)), (v3, .inl (cI, 4, .inl (upd gt 0 (ke 1)))), (v4, .inl (cI, 4, .inl (upd pd 0 (ke 2)))), (v5, .inl (cI, 4, .inl (upd de 0 (ke 3)))), (v6, .inl (cI, 4, .inl us)), (v7, .inl (cI, 4, .inl tm)), (v8, .inl (cB, 18, .inl lt)), (v9, .inl (cI, 4, .inl sv)), (v10, .inl (cI, 24, .inl ke))] H := hP
      have hD : va_D A [(vh, .inr (6, [.int mm, .int (nI n), .int tl, .int eh, .ref v0, .ref v1, .ref v2, .ref v3, .ref v4, .ref v5, .ref v6, .int es, .int ed, .ref v7, .int el, .int ak, .int (nI k), .ref v8, .int isw, .int nw, .ref v9, .long sn, .int ek, .int em, .int eh, .int es, .int ed, .int el, .ref v10, .long hs])), (v0, .inl (cI, 4, .inl kd)), (v1, .inl (cI, 4, .inl (upd st 0 (ke 0)))), (v2, .inl (cI, 4, .inl co)), (v3, .inl (cI, 4, .inl (upd gt 0 (ke 1)))), (v4, .inl (cI, 4, .inl (upd pd 0 (ke 2)))), (v5, .inl (cI, 4, .inl (upd de 0 (ke 3)))), (v6, .inl (cI, 4, .inl us)), (v7, .inl (cI, 4, .inl tm)), (v8, .inl (cB, 18, .inl lt)), (v9, .inl (cI, 4, .inl sv)), (v10, .inl (cI, 24, .inl ke))] := hD
      refine lv_aload_n hx hb dX6_restore_126 rfl (lv_at hl 1 rfl) ?_
      refine va_get (D := D) (ci := 6) (v := .ref v6) (C := RX6) (T := TX6) (N := 30) hx hb hts iwX6 hown hK.1 hP 0 rfl rfl 10 (by decide) fk28 (fun _ h9 => h9) rfl dX6_restore_127 ?_
      refine lv_iload_n hx hb dX6_restore_130 rfl (lv_at hl 0 rfl) ?_
      refine lv_aload_n hx hb dX6_restore_131 rfl (lv_at hl 1 rfl) ?_
      refine va_get (D := D) (ci := 6) (v := .ref v10) (C := RX6) (T := TX6) (N := 30) hx hb hts iwX6 hown hK.1 hP 0 rfl rfl 28 (by decide) fk41 (fun _ h9 => h9) rfl dX6_restore_132 ?_
      refine lv_bipush (v := 6) hx hb dX6_restore_135 (by decide) ?_
      refine lv_iload_n hx hb dX6_restore_137 rfl (lv_at hl 0 rfl) ?_
      refine lv_imul hx hb dX6_restore_138 ?_
      refine my_top (y := 0) (by decide) ?_
      refine lv_iconst (v := 4) hx hb dX6_restore_139 (by decide) ?_
      refine lv_iadd hx hb dX6_restore_140 ?_
      refine my_top (y := 4) (by decide) ?_
      refine my_iald hx hb hK hP 11 rfl (j := 4) (ix_nI (j := 4) (by decide) (by decide)) dX6_restore_141 ?_
      refine my_iast hx hb hK hP hD hS 7 rfl (j := 0) (ix_nI (j := 0) (by decide) (by decide)) dX6_restore_142 (fun H locs hP hD hS => ?_)
      have hP : va_P D vwCl [(vh, .inr (6, [.int mm, .int (nI n), .int tl, .int eh, .ref v0, .ref v1, .ref v2, .ref v3, .ref v4, .ref v5, .ref v6, .int es, .int ed, .ref v7, .int el, .int ak, .int (nI k), .ref v8, .int isw, .int nw, .ref v9, .long sn, .int ek, .int em, .int eh, .int es, .int ed, .int el, .ref v10, .long hs])), (v0, .inl (cI, 4, .inl kd)), (v1, .inl (cI, 4, .inl (upd st 0 (ke 0)))), (v2, .inl (cI, 4, .inl co)), (v3, .inl (cI, 4, .inl (upd gt 0 (ke 1)))), (v4, .inl (cI, 4, .inl (upd pd 0 (ke 2)))), (v5, .inl (cI, 4, .inl (upd de 0 (ke 3)))), (v6, .inl (cI, 4, .inl (upd us 0 (ke 4)))), (v7, .inl (cI, 4, .inl tm)), (v8, .inl (cB, 18, .inl lt)), (v9, .inl (cI, 4, .inl sv)), (v10, .inl (cI, 24, .inl ke))] H := hP
      have hD : va_D A [(vh, .inr (6, [.int mm, .int (nI n), .int tl, .int eh, .ref v0, .ref v1, .ref v2, .ref v3, .ref v4, .ref v5, .ref v6, .int es, .int ed, .ref v7, .int el, .int ak, .int (nI k), .ref v8, .int isw, .int nw, .ref v9, .long sn, .int ek, .int em, .int eh, .int es, .int ed, .int el, .ref v10, .long hs])), (v0, .inl (cI, 4, .inl kd)), (v1, .inl (cI, 4, .inl (upd st 0 (ke 0)))), (v2, .inl (cI, 4, .inl co)), (v3, .inl (cI, 4, .inl (upd gt 0 (ke 1)))), (v4, .inl (cI, 4, .inl (upd pd 0 (ke 2)))), (v5, .inl (cI, 4, .inl (upd de 0 (ke 3)))), (v6, .inl (cI, 4, .inl (upd us 0 (ke 4)))), (v7, .inl (cI, 4, .inl tm)), (v8, .inl (cB, 18, .inl lt)), (v9, .inl (cI, 4, .inl sv)), (v10, .inl (cI, 24, .inl ke))] := hD
      refine lv_aload_n hx hb dX6_restore_143 rfl (lv_at hl 1 rfl) ?_
      refine va_get (D := D) (ci := 6) (v := .ref v7) (C := RX6) (T := TX6) (N := 30) hx hb hts iwX6 hown hK.1 hP 0 rfl rfl 13 (by decide) fk31 (fun _ h9 => h9) rfl dX6_restore_144 ?_
      refine lv_iload_n hx hb dX6_restore_147 rfl (lv_at hl 0 rfl) ?_
      refine lv_aload_n hx hb dX6_restore_148 rfl (lv_at hl 1 rfl) ?_
      refine va_get (D := D) (ci := 6) (v := .ref v10) (C := RX6) (T := TX6) (N := 30) hx hb hts iwX6 hown hK.1 hP 0 rfl rfl 28 (by decide) fk41 (fun _ h9 => h9) rfl dX6_restore_149 ?_
      refine lv_bipush (v := 6) hx hb dX6_restore_152 (by decide) ?_
      refine lv_iload_n hx hb dX6_restore_154 rfl (lv_at hl 0 rfl) ?_
      refine lv_imul hx hb dX6_restore_155 ?_
      refine my_top (y := 0) (by decide) ?_
      refine lv_iconst (v := 5) hx hb dX6_restore_156 (by decide) ?_
      refine lv_iadd hx hb dX6_restore_157 ?_
      refine my_top (y := 5) (by decide) ?_
      refine my_iald hx hb hK hP 11 rfl (j := 5) (ix_nI (j := 5) (by decide) (by decide)) dX6_restore_158 ?_
      refine my_iast hx hb hK hP hD hS 8 rfl (j := 0) (ix_nI (j := 0) (by decide) (by decide)) dX6_restore_159 (fun H locs hP hD hS => ?_)
      have hP : va_P D vwCl [(vh, .inr (6, [.int mm, .int (nI n), .int tl, .int eh, .ref v0, .ref v1, .ref v2, .ref v3, .ref v4, .ref v5, .ref v6, .int es, .int ed, .ref v7, .int el, .int ak, .int (nI k), .ref v8, .int isw, .int nw, .ref v9, .long sn, .int ek, .int em, .int eh, .int es, .int ed, .int el, .ref v10, .long hs])), (v0, .inl (cI, 4, .inl kd)), (v1, .inl (cI, 4, .inl (upd st 0 (ke 0)))), (v2, .inl (cI, 4, .inl co)), (v3, .inl (cI, 4, .inl (upd gt 0 (ke 1)))), (v4, .inl (cI, 4, .inl (upd pd 0 (ke 2)))), (v5, .inl (cI, 4, .inl (upd de 0 (ke 3)))), (v6, .inl (cI, 4, .inl (upd us 0 (ke 4)))), (v7, .inl (cI, 4, .inl (upd tm 0 (ke 5)))), (v8, .inl (cB, 18, .inl lt)), (v9, .inl (cI, 4, .inl sv)), (v10, .inl (cI, 24, .inl ke))] H := hP
      have hD : va_D A [(vh, .inr (6, [.int mm, .int (nI n), .int tl, .int eh, .ref v0, .ref v1, .ref v2, .ref v3, .ref v4, .ref v5, .ref v6, .int es, .int ed, .ref v7, .int el, .int ak, .int (nI k), .ref v8, .int isw, .int nw, .ref v9, .long sn, .int ek, .int em, .int eh, .int es, .int ed, .int el, .ref v10, .long hs])), (v0, .inl (cI, 4, .inl kd)), (v1, .inl (cI, 4, .inl (upd st 0 (ke 0)))), (v2, .inl (cI, 4, .inl co)), (v3, .inl (cI, 4, .inl (upd gt 0 (ke 1)))), (v4, .inl (cI, 4, .inl (upd pd 0 (ke 2)))), (v5, .inl (cI, 4, .inl (upd de 0 (ke 3)))), (v6, .inl (cI, 4, .inl (upd us 0 (ke 4)))), (v7, .inl (cI, 4, .inl (upd tm 0 (ke 5)))), (v8, .inl (cB, 18, .inl lt)), (v9, .inl (cI, 4, .inl sv)), (v10, .inl (cI, 24, .inl ke))] := hD
      refine lv_iinc (v := 1) (lv' := [(1, .int 1), (0, .ref vh)]) hx hb dX6_restore_160 hl (k := 0) rfl (by decide) (by decide) rfl (fun ls hl => ?_)
      refine lv_goto (tgt := 55) hx hb dX6_restore_163 (by decide) ?_
      refine lv_iload_n hx hb dX6_restore_55 rfl (lv_at hl 0 rfl) ?_
      refine lv_iconst (v := 4) hx hb dX6_restore_56 (by decide) ?_
      refine lv_icmp_ge (tgt := 166) hx hb dX6_restore_57 (by decide) (fun c_4 => absurd c_4 (by decide)) (fun c_4 => ?_)
      refine lv_aload_n hx hb dX6_restore_60 rfl (lv_at hl 1 rfl) ?_
      refine va_get (D := D) (ci := 6) (v := .ref v1) (C := RX6) (T := TX6) (N := 30) hx hb hts iwX6 hown hK.1 hP 0 rfl rfl 5 (by decide) fk13 (fun _ h9 => h9) rfl dX6_restore_61 ?_
      refine lv_iload_n hx hb dX6_restore_64 rfl (lv_at hl 0 rfl) ?_
      refine lv_aload_n hx hb dX6_restore_65 rfl (lv_at hl 1 rfl) ?_
      refine va_get (D := D) (ci := 6) (v := .ref v10) (C := RX6) (T := TX6) (N := 30) hx hb hts iwX6 hown hK.1 hP 0 rfl rfl 28 (by decide) fk41 (fun _ h9 => h9) rfl dX6_restore_66 ?_
      refine lv_bipush (v := 6) hx hb dX6_restore_69 (by decide) ?_
      refine lv_iload_n hx hb dX6_restore_71 rfl (lv_at hl 0 rfl) ?_
      refine lv_imul hx hb dX6_restore_72 ?_
      refine my_top (y := 6) (by decide) ?_
      refine my_iald hx hb hK hP 11 rfl (j := 6) (ix_nI (j := 6) (by decide) (by decide)) dX6_restore_73 ?_
      refine my_iast hx hb hK hP hD hS 2 rfl (j := 1) (ix_nI (j := 1) (by decide) (by decide)) dX6_restore_74 (fun H locs hP hD hS => ?_)
      have hP : va_P D vwCl [(vh, .inr (6, [.int mm, .int (nI n), .int tl, .int eh, .ref v0, .ref v1, .ref v2, .ref v3, .ref v4, .ref v5, .ref v6, .int es, .int ed, .ref v7, .int el, .int ak, .int (nI k), .ref v8, .int isw, .int nw, .ref v9, .long sn, .int ek, .int em, .int eh, .int es, .int ed, .int el, .ref v10, .long hs])), (v0, .inl (cI, 4, .inl kd)), (v1, .inl (cI, 4, .inl (upd (upd st 0 (ke 0)) 1 (ke 6)))), (v2, .inl (cI, 4, .inl co)), (v3, .inl (cI, 4, .inl (upd gt 0 (ke 1)))), (v4, .inl (cI, 4, .inl (upd pd 0 (ke 2)))), (v5, .inl (cI, 4, .inl (upd de 0 (ke 3)))), (v6, .inl (cI, 4, .inl (upd us 0 (ke 4)))), (v7, .inl (cI, 4, .inl (upd tm 0 (ke 5)))), (v8, .inl (cB, 18, .inl lt)), (v9, .inl (cI, 4, .inl sv)), (v10, .inl (cI, 24, .inl ke))] H := hP
      have hD : va_D A [(vh, .inr (6, [.int mm, .int (nI n), .int tl, .int eh, .ref v0, .ref v1, .ref v2, .ref v3, .ref v4, .ref v5, .ref v6, .int es, .int ed, .ref v7, .int el, .int ak, .int (nI k), .ref v8, .int isw, .int nw, .ref v9, .long sn, .int ek, .int em, .int eh, .int es, .int ed, .int el, .ref v10, .long hs])), (v0, .inl (cI, 4, .inl kd)), (v1, .inl (cI, 4, .inl (upd (upd st 0 (ke 0)) 1 (ke 6)))), (v2, .inl (cI, 4, .inl co)), (v3, .inl (cI, 4, .inl (upd gt 0 (ke 1)))), (v4, .inl (cI, 4, .inl (upd pd 0 (ke 2)))), (v5, .inl (cI, 4, .inl (upd de 0 (ke 3)))), (v6, .inl (cI, 4, .inl (upd us 0 (ke 4)))), (v7, .inl (cI, 4, .inl (upd tm 0 (ke 5)))), (v8, .inl (cB, 18, .inl lt)), (v9, .inl (cI, 4, .inl sv)), (v10, .inl (cI, 24, .inl ke))] := hD
      refine lv_aload_n hx hb dX6_restore_75 rfl (lv_at hl 1 rfl) ?_
      refine va_get (D := D) (ci := 6) (v := .ref v3) (C := RX6) (T := TX6) (N := 30) hx hb hts iwX6 hown hK.1 hP 0 rfl rfl 7 (by decide) fk19 (fun _ h9 => h9) rfl dX6_restore_76 ?_
      refine lv_iload_n hx hb dX6_restore_79 rfl (lv_at hl 0 rfl) ?_
      refine lv_aload_n hx hb dX6_restore_80 rfl (lv_at hl 1 rfl) ?_
      refine va_get (D := D) (ci := 6) (v := .ref v10) (C := RX6) (T := TX6) (N := 30) hx hb hts iwX6 hown hK.1 hP 0 rfl rfl 28 (by decide) fk41 (fun _ h9 => h9) rfl dX6_restore_81 ?_
      refine lv_bipush (v := 6) hx hb dX6_restore_84 (by decide) ?_
      refine lv_iload_n hx hb dX6_restore_86 rfl (lv_at hl 0 rfl) ?_
      refine lv_imul hx hb dX6_restore_87 ?_
      refine my_top (y := 6) (by decide) ?_
      refine lv_iconst (v := 1) hx hb dX6_restore_88 (by decide) ?_
      refine lv_iadd hx hb dX6_restore_89 ?_
      refine my_top (y := 7) (by decide) ?_
      refine my_iald hx hb hK hP 11 rfl (j := 7) (ix_nI (j := 7) (by decide) (by decide)) dX6_restore_90 ?_
      refine my_iast hx hb hK hP hD hS 4 rfl (j := 1) (ix_nI (j := 1) (by decide) (by decide)) dX6_restore_91 (fun H locs hP hD hS => ?_)
      have hP : va_P D vwCl [(vh, .inr (6, [.int mm, .int (nI n), .int tl, .int eh, .ref v0, .ref v1, .ref v2, .ref v3, .ref v4, .ref v5, .ref v6, .int es, .int ed, .ref v7, .int el, .int ak, .int (nI k), .ref v8, .int isw, .int nw, .ref v9, .long sn, .int ek, .int em, .int eh, .int es, .int ed, .int el, .ref v10, .long hs])), (v0, .inl (cI, 4, .inl kd)), (v1, .inl (cI, 4, .inl (upd (upd st 0 (ke 0)) 1 (ke 6)))), (v2, .inl (cI, 4, .inl co)), (v3, .inl (cI, 4, .inl (upd (upd gt 0 (ke 1)) 1 (ke 7)))), (v4, .inl (cI, 4, .inl (upd pd 0 (ke 2)))), (v5, .inl (cI, 4, .inl (upd de 0 (ke 3)))), (v6, .inl (cI, 4, .inl (upd us 0 (ke 4)))), (v7, .inl (cI, 4, .inl (upd tm 0 (ke 5)))), (v8, .inl (cB, 18, .inl lt)), (v9, .inl (cI, 4, .inl sv)), (v10, .inl (cI, 24, .inl ke))] H := hP
      have hD : va_D A [(vh, .inr (6, [.int mm, .int (nI n), .int tl, .int eh, .ref v0, .ref v1, .ref v2, .ref v3, .ref v4, .ref v5, .ref v6, .int es, .int ed, .ref v7, .int el, .int ak, .int (nI k), .ref v8, .int isw, .int nw, .ref v9, .long sn, .int ek, .int em, .int eh, .int es, .int ed, .int el, .ref v10, .long hs])), (v0, .inl (cI, 4, .inl kd)), (v1, .inl (cI, 4, .inl (upd (upd st 0 (ke 0)) 1 (ke 6)))), (v2, .inl (cI, 4, .inl co)), (v3, .inl (cI, 4, .inl (upd (upd gt 0 (ke 1)) 1 (ke 7)))), (v4, .inl (cI, 4, .inl (upd pd 0 (ke 2)))), (v5, .inl (cI, 4, .inl (upd de 0 (ke 3)))), (v6, .inl (cI, 4, .inl (upd us 0 (ke 4)))), (v7, .inl (cI, 4, .inl (upd tm 0 (ke 5)))), (v8, .inl (cB, 18, .inl lt)), (v9, .inl (cI, 4, .inl sv)), (v10, .inl (cI, 24, .inl ke))] := hD
      refine lv_aload_n hx hb dX6_restore_92 rfl (lv_at hl 1 rfl) ?_
      refine va_get (D := D) (ci := 6) (v := .ref v4) (C := RX6) (T := TX6) (N := 30) hx hb hts iwX6 hown hK.1 hP 0 rfl rfl 8 (by decide) fk22 (fun _ h9 => h9) rfl dX6_restore_93 ?_
      refine lv_iload_n hx hb dX6_restore_96 rfl (lv_at hl 0 rfl) ?_
      refine lv_aload_n hx hb dX6_restore_97 rfl (lv_at hl 1 rfl) ?_
      refine va_get (D := D) (ci := 6) (v := .ref v10) (C := RX6) (T := TX6) (N := 30) hx hb hts iwX6 hown hK.1 hP 0 rfl rfl 28 (by decide) fk41 (fun _ h9 => h9) rfl dX6_restore_98 ?_
      refine lv_bipush (v := 6) hx hb dX6_restore_101 (by decide) ?_
      refine lv_iload_n hx hb dX6_restore_103 rfl (lv_at hl 0 rfl) ?_
      refine lv_imul hx hb dX6_restore_104 ?_
      refine my_top (y := 6) (by decide) ?_
      refine lv_iconst (v := 2) hx hb dX6_restore_105 (by decide) ?_
      refine lv_iadd hx hb dX6_restore_106 ?_
      refine my_top (y := 8) (by decide) ?_
      refine my_iald hx hb hK hP 11 rfl (j := 8) (ix_nI (j := 8) (by decide) (by decide)) dX6_restore_107 ?_
      refine my_iast hx hb hK hP hD hS 5 rfl (j := 1) (ix_nI (j := 1) (by decide) (by decide)) dX6_restore_108 (fun H locs hP hD hS => ?_)
      have hP : va_P D vwCl [(vh, .inr (6, [.int mm, .int (nI n), .int tl, .int eh, .ref v0, .ref v1, .ref v2, .ref v3, .ref v4, .ref v5, .ref v6, .int es, .int ed, .ref v7, .int el, .int ak, .int (nI k), .ref v8, .int isw, .int nw, .ref v9, .long sn, .int ek, .int em, .int eh, .int es, .int ed, .int el, .ref v10, .long hs])), (v0, .inl (cI, 4, .inl kd)), (v1, .inl (cI, 4, .inl (upd (upd st 0 (ke 0)) 1 (ke 6)))), (v2, .inl (cI, 4, .inl co)), (v3, .inl (cI, 4, .inl (upd (upd gt 0 (ke 1)) 1 (ke 7)))), (v4, .inl (cI, 4, .inl (upd (upd pd 0 (ke 2)) 1 (ke 8)))), (v5, .inl (cI, 4, .inl (upd de 0 (ke 3)))), (v6, .inl (cI, 4, .inl (upd us 0 (ke 4)))), (v7, .inl (cI, 4, .inl (upd tm 0 (ke 5)))), (v8, .inl (cB, 18, .inl lt)), (v9, .inl (cI, 4, .inl sv)), (v10, .inl (cI, 24, .inl ke))] H := hP
      have hD : va_D A [(vh, .inr (6, [.int mm, .int (nI n), .int tl, .int eh, .ref v0, .ref v1, .ref v2, .ref v3, .ref v4, .ref v5, .ref v6, .int es, .int ed, .ref v7, .int el, .int ak, .int (nI k), .ref v8, .int isw, .int nw, .ref v9, .long sn, .int ek, .int em, .int eh, .int es, .int ed, .int el, .ref v10, .long hs])), (v0, .inl (cI, 4, .inl kd)), (v1, .inl (cI, 4, .inl (upd (upd st 0 (ke 0)) 1 (ke 6)))), (v2, .inl (cI, 4, .inl co)), (v3, .inl (cI, 4, .inl (upd (upd gt 0 (ke 1)) 1 (ke 7)))), (v4, .inl (cI, 4, .inl (upd (upd pd 0 (ke 2)) 1 (ke 8)))), (v5, .inl (cI, 4, .inl (upd de 0 (ke 3)))), (v6, .inl (cI, 4, .inl (upd us 0 (ke 4)))), (v7, .inl (cI, 4, .inl (upd tm 0 (ke 5)))), (v8, .inl (cB, 18, .inl lt)), (v9, .inl (cI, 4, .inl sv)), (v10, .inl (cI, 24, .inl ke))] := hD
      refine lv_aload_n hx hb dX6_restore_109 rfl (lv_at hl 1 rfl) ?_
      refine va_get (D := D) (ci := 6) (v := .ref v5) (C := RX6) (T := TX6) (N := 30) hx hb hts iwX6 hown hK.1 hP 0 rfl rfl 9 (by decide) fk25 (fun _ h9 => h9) rfl dX6_restore_110 ?_
      refine lv_iload_n hx hb dX6_restore_113 rfl (lv_at hl 0 rfl) ?_
      refine lv_aload_n hx hb dX6_restore_114 rfl (lv_at hl 1 rfl) ?_
      refine va_get (D := D) (ci := 6) (v := .ref v10) (C := RX6) (T := TX6) (N := 30) hx hb hts iwX6 hown hK.1 hP 0 rfl rfl 28 (by decide) fk41 (fun _ h9 => h9) rfl dX6_restore_115 ?_
      refine lv_bipush (v := 6) hx hb dX6_restore_118 (by decide) ?_
      refine lv_iload_n hx hb dX6_restore_120 rfl (lv_at hl 0 rfl) ?_
      refine lv_imul hx hb dX6_restore_121 ?_
      refine my_top (y := 6) (by decide) ?_
      refine lv_iconst (v := 3) hx hb dX6_restore_122 (by decide) ?_
      refine lv_iadd hx hb dX6_restore_123 ?_
      refine my_top (y := 9) (by decide) ?_
      refine my_iald hx hb hK hP 11 rfl (j := 9) (ix_nI (j := 9) (by decide) (by decide)) dX6_restore_124 ?_
      refine my_iast hx hb hK hP hD hS 6 rfl (j := 1) (ix_nI (j := 1) (by decide) (by decide)) dX6_restore_125 (fun H locs hP hD hS => ?_)
      have hP : va_P D vwCl [(vh, .inr (6, [.int mm, .int (nI n), .int tl, .int eh, .ref v0, .ref v1, .ref v2, .ref v3, .ref v4, .ref v5, .ref v6, .int es, .int ed, .ref v7, .int el, .int ak, .int (nI k), .ref v8, .int isw, .int nw, .ref v9, .long sn, .int ek, .int em, .int eh, .int es, .int ed, .int el, .ref v10, .long hs])), (v0, .inl (cI, 4, .inl kd)), (v1, .inl (cI, 4, .inl (upd (upd st 0 (ke 0)) 1 (ke 6)))), (v2, .inl (cI, 4, .inl co)), (v3, .inl (cI, 4, .inl (upd (upd gt 0 (ke 1)) 1 (ke 7)))), (v4, .inl (cI, 4, .inl (upd (upd pd 0 (ke 2)) 1 (ke 8)))), (v5, .inl (cI, 4, .inl (upd (upd de 0 (ke 3)) 1 (ke 9)))), (v6, .inl (cI, 4, .inl (upd us 0 (ke 4)))), (v7, .inl (cI, 4, .inl (upd tm 0 (ke 5)))), (v8, .inl (cB, 18, .inl lt)), (v9, .inl (cI, 4, .inl sv)), (v10, .inl (cI, 24, .inl ke))] H := hP
      have hD : va_D A [(vh, .inr (6, [.int mm, .int (nI n), .int tl, .int eh, .ref v0, .ref v1, .ref v2, .ref v3, .ref v4, .ref v5, .ref v6, .int es, .int ed, .ref v7, .int el, .int ak, .int (nI k), .ref v8, .int isw, .int nw, .ref v9, .long sn, .int ek, .int em, .int eh, .int es, .int ed, .int el, .ref v10, .long hs])), (v0, .inl (cI, 4, .inl kd)), (v1, .inl (cI, 4, .inl (upd (upd st 0 (ke 0)) 1 (ke 6)))), (v2, .inl (cI, 4, .inl co)), (v3, .inl (cI, 4, .inl (upd (upd gt 0 (ke 1)) 1 (ke 7)))), (v4, .inl (cI, 4, .inl (upd (upd pd 0 (ke 2)) 1 (ke 8)))), (v5, .inl (cI, 4, .inl (upd (upd de 0 (ke 3)) 1 (ke 9)))), (v6, .inl (cI, 4, .inl (upd us 0 (ke 4)))), (v7, .inl (cI, 4, .inl (upd tm 0 (ke 5)))), (v8, .inl (cB, 18, .inl lt)), (v9, .inl (cI, 4, .inl sv)), (v10, .inl (cI, 24, .inl ke))] := hD
      refine lv_aload_n hx hb dX6_restore_126 rfl (lv_at hl 1 rfl) ?_
      refine va_get (D := D) (ci := 6) (v := .ref v6) (C := RX6) (T := TX6) (N := 30) hx hb hts iwX6 hown hK.1 hP 0 rfl rfl 10 (by decide) fk28 (fun _ h9 => h9) rfl dX6_restore_127 ?_
      refine lv_iload_n hx hb dX6_restore_130 rfl (lv_at hl 0 rfl) ?_
      refine lv_aload_n hx hb dX6_restore_131 rfl (lv_at hl 1 rfl) ?_
      refine va_get (D := D) (ci := 6) (v := .ref v10) (C := RX6) (T := TX6) (N := 30) hx hb hts iwX6 hown hK.1 hP 0 rfl rfl 28 (by decide) fk41 (fun _ h9 => h9) rfl dX6_restore_132 ?_
      refine lv_bipush (v := 6) hx hb dX6_restore_135 (by decide) ?_
      refine lv_iload_n hx hb dX6_restore_137 rfl (lv_at hl 0 rfl) ?_
      refine lv_imul hx hb dX6_restore_138 ?_
      refine my_top (y := 6) (by decide) ?_
      refine lv_iconst (v := 4) hx hb dX6_restore_139 (by decide) ?_
      refine lv_iadd hx hb dX6_restore_140 ?_
      refine my_top (y := 10) (by decide) ?_
      refine my_iald hx hb hK hP 11 rfl (j := 10) (ix_nI (j := 10) (by decide) (by decide)) dX6_restore_141 ?_
      refine my_iast hx hb hK hP hD hS 7 rfl (j := 1) (ix_nI (j := 1) (by decide) (by decide)) dX6_restore_142 (fun H locs hP hD hS => ?_)
      have hP : va_P D vwCl [(vh, .inr (6, [.int mm, .int (nI n), .int tl, .int eh, .ref v0, .ref v1, .ref v2, .ref v3, .ref v4, .ref v5, .ref v6, .int es, .int ed, .ref v7, .int el, .int ak, .int (nI k), .ref v8, .int isw, .int nw, .ref v9, .long sn, .int ek, .int em, .int eh, .int es, .int ed, .int el, .ref v10, .long hs])), (v0, .inl (cI, 4, .inl kd)), (v1, .inl (cI, 4, .inl (upd (upd st 0 (ke 0)) 1 (ke 6)))), (v2, .inl (cI, 4, .inl co)), (v3, .inl (cI, 4, .inl (upd (upd gt 0 (ke 1)) 1 (ke 7)))), (v4, .inl (cI, 4, .inl (upd (upd pd 0 (ke 2)) 1 (ke 8)))), (v5, .inl (cI, 4, .inl (upd (upd de 0 (ke 3)) 1 (ke 9)))), (v6, .inl (cI, 4, .inl (upd (upd us 0 (ke 4)) 1 (ke 10)))), (v7, .inl (cI, 4, .inl (upd tm 0 (ke 5)))), (v8, .inl (cB, 18, .inl lt)), (v9, .inl (cI, 4, .inl sv)), (v10, .inl (cI, 24, .inl ke))] H := hP
      have hD : va_D A [(vh, .inr (6, [.int mm, .int (nI n), .int tl, .int eh, .ref v0, .ref v1, .ref v2, .ref v3, .ref v4, .ref v5, .ref v6, .int es, .int ed, .ref v7, .int el, .int ak, .int (nI k), .ref v8, .int isw, .int nw, .ref v9, .long sn, .int ek, .int em, .int eh, .int es, .int ed, .int el, .ref v10, .long hs])), (v0, .inl (cI, 4, .inl kd)), (v1, .inl (cI, 4, .inl (upd (upd st 0 (ke 0)) 1 (ke 6)))), (v2, .inl (cI, 4, .inl co)), (v3, .inl (cI, 4, .inl (upd (upd gt 0 (ke 1)) 1 (ke 7)))), (v4, .inl (cI, 4, .inl (upd (upd pd 0 (ke 2)) 1 (ke 8)))), (v5, .inl (cI, 4, .inl (upd (upd de 0 (ke 3)) 1 (ke 9)))), (v6, .inl (cI, 4, .inl (upd (upd us 0 (ke 4)) 1 (ke 10)))), (v7, .inl (cI, 4, .inl (upd tm 0 (ke 5)))), (v8, .inl (cB, 18, .inl lt)), (v9, .inl (cI, 4, .inl sv)), (v10, .inl (cI, 24, .inl ke))] := hD
      refine lv_aload_n hx hb dX6_restore_143 rfl (lv_at hl 1 rfl) ?_
      refine va_get (D := D) (ci := 6) (v := .ref v7) (C := RX6) (T := TX6) (N := 30) hx hb hts iwX6 hown hK.1 hP 0 rfl rfl 13 (by decide) fk31 (fun _ h9 => h9) rfl dX6_restore_144 ?_
      refine lv_iload_n hx hb dX6_restore_147 rfl (lv_at hl 0 rfl) ?_
      refine lv_aload_n hx hb dX6_restore_148 rfl (lv_at hl 1 rfl) ?_
      refine va_get (D := D) (ci := 6) (v := .ref v10) (C := RX6) (T := TX6) (N := 30) hx hb hts iwX6 hown hK.1 hP 0 rfl rfl 28 (by decide) fk41 (fun _ h9 => h9) rfl dX6_restore_149 ?_
      refine lv_bipush (v := 6) hx hb dX6_restore_152 (by decide) ?_
      refine lv_iload_n hx hb dX6_restore_154 rfl (lv_at hl 0 rfl) ?_
      refine lv_imul hx hb dX6_restore_155 ?_
      refine my_top (y := 6) (by decide) ?_
      refine lv_iconst (v := 5) hx hb dX6_restore_156 (by decide) ?_
      refine lv_iadd hx hb dX6_restore_157 ?_
      refine my_top (y := 11) (by decide) ?_
      refine my_iald hx hb hK hP 11 rfl (j := 11) (ix_nI (j := 11) (by decide) (by decide)) dX6_restore_158 ?_
      refine my_iast hx hb hK hP hD hS 8 rfl (j := 1) (ix_nI (j := 1) (by decide) (by decide)) dX6_restore_159 (fun H locs hP hD hS => ?_)
      have hP : va_P D vwCl [(vh, .inr (6, [.int mm, .int (nI n), .int tl, .int eh, .ref v0, .ref v1, .ref v2, .ref v3, .ref v4, .ref v5, .ref v6, .int es, .int ed, .ref v7, .int el, .int ak, .int (nI k), .ref v8, .int isw, .int nw, .ref v9, .long sn, .int ek, .int em, .int eh, .int es, .int ed, .int el, .ref v10, .long hs])), (v0, .inl (cI, 4, .inl kd)), (v1, .inl (cI, 4, .inl (upd (upd st 0 (ke 0)) 1 (ke 6)))), (v2, .inl (cI, 4, .inl co)), (v3, .inl (cI, 4, .inl (upd (upd gt 0 (ke 1)) 1 (ke 7)))), (v4, .inl (cI, 4, .inl (upd (upd pd 0 (ke 2)) 1 (ke 8)))), (v5, .inl (cI, 4, .inl (upd (upd de 0 (ke 3)) 1 (ke 9)))), (v6, .inl (cI, 4, .inl (upd (upd us 0 (ke 4)) 1 (ke 10)))), (v7, .inl (cI, 4, .inl (upd (upd tm 0 (ke 5)) 1 (ke 11)))), (v8, .inl (cB, 18, .inl lt)), (v9, .inl (cI, 4, .inl sv)), (v10, .inl (cI, 24, .inl ke))] H := hP
      have hD : va_D A [(vh, .inr (6, [.int mm, .int (nI n), .int tl, .int eh, .ref v0, .ref v1, .ref v2, .ref v3, .ref v4, .ref v5, .ref v6, .int es, .int ed, .ref v7, .int el, .int ak, .int (nI k), .ref v8, .int isw, .int nw, .ref v9, .long sn, .int ek, .int em, .int eh, .int es, .int ed, .int el, .ref v10, .long hs])), (v0, .inl (cI, 4, .inl kd)), (v1, .inl (cI, 4, .inl (upd (upd st 0 (ke 0)) 1 (ke 6)))), (v2, .inl (cI, 4, .inl co)), (v3, .inl (cI, 4, .inl (upd (upd gt 0 (ke 1)) 1 (ke 7)))), (v4, .inl (cI, 4, .inl (upd (upd pd 0 (ke 2)) 1 (ke 8)))), (v5, .inl (cI, 4, .inl (upd (upd de 0 (ke 3)) 1 (ke 9)))), (v6, .inl (cI, 4, .inl (upd (upd us 0 (ke 4)) 1 (ke 10)))), (v7, .inl (cI, 4, .inl (upd (upd tm 0 (ke 5)) 1 (ke 11)))), (v8, .inl (cB, 18, .inl lt)), (v9, .inl (cI, 4, .inl sv)), (v10, .inl (cI, 24, .inl ke))] := hD
      refine lv_iinc (v := 2) (lv' := [(1, .int 2), (0, .ref vh)]) hx hb dX6_restore_160 hl (k := 0) rfl (by decide) (by decide) rfl (fun ls hl => ?_)
      refine lv_goto (tgt := 55) hx hb dX6_restore_163 (by decide) ?_
      refine lv_iload_n hx hb dX6_restore_55 rfl (lv_at hl 0 rfl) ?_
      refine lv_iconst (v := 4) hx hb dX6_restore_56 (by decide) ?_
      refine lv_icmp_ge (tgt := 166) hx hb dX6_restore_57 (by decide) (fun c_5 => absurd c_5 (by decide)) (fun c_5 => ?_)
      refine lv_aload_n hx hb dX6_restore_60 rfl (lv_at hl 1 rfl) ?_
      refine va_get (D := D) (ci := 6) (v := .ref v1) (C := RX6) (T := TX6) (N := 30) hx hb hts iwX6 hown hK.1 hP 0 rfl rfl 5 (by decide) fk13 (fun _ h9 => h9) rfl dX6_restore_61 ?_
      refine lv_iload_n hx hb dX6_restore_64 rfl (lv_at hl 0 rfl) ?_
      refine lv_aload_n hx hb dX6_restore_65 rfl (lv_at hl 1 rfl) ?_
      refine va_get (D := D) (ci := 6) (v := .ref v10) (C := RX6) (T := TX6) (N := 30) hx hb hts iwX6 hown hK.1 hP 0 rfl rfl 28 (by decide) fk41 (fun _ h9 => h9) rfl dX6_restore_66 ?_
      refine lv_bipush (v := 6) hx hb dX6_restore_69 (by decide) ?_
      refine lv_iload_n hx hb dX6_restore_71 rfl (lv_at hl 0 rfl) ?_
      refine lv_imul hx hb dX6_restore_72 ?_
      refine my_top (y := 12) (by decide) ?_
      refine my_iald hx hb hK hP 11 rfl (j := 12) (ix_nI (j := 12) (by decide) (by decide)) dX6_restore_73 ?_
      refine my_iast hx hb hK hP hD hS 2 rfl (j := 2) (ix_nI (j := 2) (by decide) (by decide)) dX6_restore_74 (fun H locs hP hD hS => ?_)
      have hP : va_P D vwCl [(vh, .inr (6, [.int mm, .int (nI n), .int tl, .int eh, .ref v0, .ref v1, .ref v2, .ref v3, .ref v4, .ref v5, .ref v6, .int es, .int ed, .ref v7, .int el, .int ak, .int (nI k), .ref v8, .int isw, .int nw, .ref v9, .long sn, .int ek, .int em, .int eh, .int es, .int ed, .int el, .ref v10, .long hs])), (v0, .inl (cI, 4, .inl kd)), (v1, .inl (cI, 4, .inl (upd (upd (upd st 0 (ke 0)) 1 (ke 6)) 2 (ke 12)))), (v2, .inl (cI, 4, .inl co)), (v3, .inl (cI, 4, .inl (upd (upd gt 0 (ke 1)) 1 (ke 7)))), (v4, .inl (cI, 4, .inl (upd (upd pd 0 (ke 2)) 1 (ke 8)))), (v5, .inl (cI, 4, .inl (upd (upd de 0 (ke 3)) 1 (ke 9)))), (v6, .inl (cI, 4, .inl (upd (upd us 0 (ke 4)) 1 (ke 10)))), (v7, .inl (cI, 4, .inl (upd (upd tm 0 (ke 5)) 1 (ke 11)))), (v8, .inl (cB, 18, .inl lt)), (v9, .inl (cI, 4, .inl sv)), (v10, .inl (cI, 24, .inl ke))] H := hP
      have hD : va_D A [(vh, .inr (6, [.int mm, .int (nI n), .int tl, .int eh, .ref v0, .ref v1, .ref v2, .ref v3, .ref v4, .ref v5, .ref v6, .int es, .int ed, .ref v7, .int el, .int ak, .int (nI k), .ref v8, .int isw, .int nw, .ref v9, .long sn, .int ek, .int em, .int eh, .int es, .int ed, .int el, .ref v10, .long hs])), (v0, .inl (cI, 4, .inl kd)), (v1, .inl (cI, 4, .inl (upd (upd (upd st 0 (ke 0)) 1 (ke 6)) 2 (ke 12)))), (v2, .inl (cI, 4, .inl co)), (v3, .inl (cI, 4, .inl (upd (upd gt 0 (ke 1)) 1 (ke 7)))), (v4, .inl (cI, 4, .inl (upd (upd pd 0 (ke 2)) 1 (ke 8)))), (v5, .inl (cI, 4, .inl (upd (upd de 0 (ke 3)) 1 (ke 9)))), (v6, .inl (cI, 4, .inl (upd (upd us 0 (ke 4)) 1 (ke 10)))), (v7, .inl (cI, 4, .inl (upd (upd tm 0 (ke 5)) 1 (ke 11)))), (v8, .inl (cB, 18, .inl lt)), (v9, .inl (cI, 4, .inl sv)), (v10, .inl (cI, 24, .inl ke))] := hD
      refine lv_aload_n hx hb dX6_restore_75 rfl (lv_at hl 1 rfl) ?_
      refine va_get (D := D) (ci := 6) (v := .ref v3) (C := RX6) (T := TX6) (N := 30) hx hb hts iwX6 hown hK.1 hP 0 rfl rfl 7 (by decide) fk19 (fun _ h9 => h9) rfl dX6_restore_76 ?_
      refine lv_iload_n hx hb dX6_restore_79 rfl (lv_at hl 0 rfl) ?_
      refine lv_aload_n hx hb dX6_restore_80 rfl (lv_at hl 1 rfl) ?_
      refine va_get (D := D) (ci := 6) (v := .ref v10) (C := RX6) (T := TX6) (N := 30) hx hb hts iwX6 hown hK.1 hP 0 rfl rfl 28 (by decide) fk41 (fun _ h9 => h9) rfl dX6_restore_81 ?_
      refine lv_bipush (v := 6) hx hb dX6_restore_84 (by decide) ?_
      refine lv_iload_n hx hb dX6_restore_86 rfl (lv_at hl 0 rfl) ?_
      refine lv_imul hx hb dX6_restore_87 ?_
      refine my_top (y := 12) (by decide) ?_
      refine lv_iconst (v := 1) hx hb dX6_restore_88 (by decide) ?_
      refine lv_iadd hx hb dX6_restore_89 ?_
      refine my_top (y := 13) (by decide) ?_
      refine my_iald hx hb hK hP 11 rfl (j := 13) (ix_nI (j := 13) (by decide) (by decide)) dX6_restore_90 ?_
      refine my_iast hx hb hK hP hD hS 4 rfl (j := 2) (ix_nI (j := 2) (by decide) (by decide)) dX6_restore_91 (fun H locs hP hD hS => ?_)
      have hP : va_P D vwCl [(vh, .inr (6, [.int mm, .int (nI n), .int tl, .int eh, .ref v0, .ref v1, .ref v2, .ref v3, .ref v4, .ref v5, .ref v6, .int es, .int ed, .ref v7, .int el, .int ak, .int (nI k), .ref v8, .int isw, .int nw, .ref v9, .long sn, .int ek, .int em, .int eh, .int es, .int ed, .int el, .ref v10, .long hs])), (v0, .inl (cI, 4, .inl kd)), (v1, .inl (cI, 4, .inl (upd (upd (upd st 0 (ke 0)) 1 (ke 6)) 2 (ke 12)))), (v2, .inl (cI, 4, .inl co)), (v3, .inl (cI, 4, .inl (upd (upd (upd gt 0 (ke 1)) 1 (ke 7)) 2 (ke 13)))), (v4, .inl (cI, 4, .inl (upd (upd pd 0 (ke 2)) 1 (ke 8)))), (v5, .inl (cI, 4, .inl (upd (upd de 0 (ke 3)) 1 (ke 9)))), (v6, .inl (cI, 4, .inl (upd (upd us 0 (ke 4)) 1 (ke 10)))), (v7, .inl (cI, 4, .inl (upd (upd tm 0 (ke 5)) 1 (ke 11)))), (v8, .inl (cB, 18, .inl lt)), (v9, .inl (cI, 4, .inl sv)), (v10, .inl (cI, 24, .inl ke))] H := hP
      have hD : va_D A [(vh, .inr (6, [.int mm, .int (nI n), .int tl, .int eh, .ref v0, .ref v1, .ref v2, .ref v3, .ref v4, .ref v5, .ref v6, .int es, .int ed, .ref v7, .int el, .int ak, .int (nI k), .ref v8, .int isw, .int nw, .ref v9, .long sn, .int ek, .int em, .int eh, .int es, .int ed, .int el, .ref v10, .long hs])), (v0, .inl (cI, 4, .inl kd)), (v1, .inl (cI, 4, .inl (upd (upd (upd st 0 (ke 0)) 1 (ke 6)) 2 (ke 12)))), (v2, .inl (cI, 4, .inl co)), (v3, .inl (cI, 4, .inl (upd (upd (upd gt 0 (ke 1)) 1 (ke 7)) 2 (ke 13)))), (v4, .inl (cI, 4, .inl (upd (upd pd 0 (ke 2)) 1 (ke 8)))), (v5, .inl (cI, 4, .inl (upd (upd de 0 (ke 3)) 1 (ke 9)))), (v6, .inl (cI, 4, .inl (upd (upd us 0 (ke 4)) 1 (ke 10)))), (v7, .inl (cI, 4, .inl (upd (upd tm 0 (ke 5)) 1 (ke 11)))), (v8, .inl (cB, 18, .inl lt)), (v9, .inl (cI, 4, .inl sv)), (v10, .inl (cI, 24, .inl ke))] := hD
      refine lv_aload_n hx hb dX6_restore_92 rfl (lv_at hl 1 rfl) ?_
      refine va_get (D := D) (ci := 6) (v := .ref v4) (C := RX6) (T := TX6) (N := 30) hx hb hts iwX6 hown hK.1 hP 0 rfl rfl 8 (by decide) fk22 (fun _ h9 => h9) rfl dX6_restore_93 ?_
      refine lv_iload_n hx hb dX6_restore_96 rfl (lv_at hl 0 rfl) ?_
      refine lv_aload_n hx hb dX6_restore_97 rfl (lv_at hl 1 rfl) ?_
      refine va_get (D := D) (ci := 6) (v := .ref v10) (C := RX6) (T := TX6) (N := 30) hx hb hts iwX6 hown hK.1 hP 0 rfl rfl 28 (by decide) fk41 (fun _ h9 => h9) rfl dX6_restore_98 ?_
      refine lv_bipush (v := 6) hx hb dX6_restore_101 (by decide) ?_
      refine lv_iload_n hx hb dX6_restore_103 rfl (lv_at hl 0 rfl) ?_
      refine lv_imul hx hb dX6_restore_104 ?_
      refine my_top (y := 12) (by decide) ?_
      refine lv_iconst (v := 2) hx hb dX6_restore_105 (by decide) ?_
      refine lv_iadd hx hb dX6_restore_106 ?_
      refine my_top (y := 14) (by decide) ?_
      refine my_iald hx hb hK hP 11 rfl (j := 14) (ix_nI (j := 14) (by decide) (by decide)) dX6_restore_107 ?_
      refine my_iast hx hb hK hP hD hS 5 rfl (j := 2) (ix_nI (j := 2) (by decide) (by decide)) dX6_restore_108 (fun H locs hP hD hS => ?_)
      have hP : va_P D vwCl [(vh, .inr (6, [.int mm, .int (nI n), .int tl, .int eh, .ref v0, .ref v1, .ref v2, .ref v3, .ref v4, .ref v5, .ref v6, .int es, .int ed, .ref v7, .int el, .int ak, .int (nI k), .ref v8, .int isw, .int nw, .ref v9, .long sn, .int ek, .int em, .int eh, .int es, .int ed, .int el, .ref v10, .long hs])), (v0, .inl (cI, 4, .inl kd)), (v1, .inl (cI, 4, .inl (upd (upd (upd st 0 (ke 0)) 1 (ke 6)) 2 (ke 12)))), (v2, .inl (cI, 4, .inl co)), (v3, .inl (cI, 4, .inl (upd (upd (upd gt 0 (ke 1)) 1 (ke 7)) 2 (ke 13)))), (v4, .inl (cI, 4, .inl (upd (upd (upd pd 0 (ke 2)) 1 (ke 8)) 2 (ke 14)))), (v5, .inl (cI, 4, .inl (upd (upd de 0 (ke 3)) 1 (ke 9)))), (v6, .inl (cI, 4, .inl (upd (upd us 0 (ke 4)) 1 (ke 10)))), (v7, .inl (cI, 4, .inl (upd (upd tm 0 (ke 5)) 1 (ke 11)))), (v8, .inl (cB, 18, .inl lt)), (v9, .inl (cI, 4, .inl sv)), (v10, .inl (cI, 24, .inl ke))] H := hP
      have hD : va_D A [(vh, .inr (6, [.int mm, .int (nI n), .int tl, .int eh, .ref v0, .ref v1, .ref v2, .ref v3, .ref v4, .ref v5, .ref v6, .int es, .int ed, .ref v7, .int el, .int ak, .int (nI k), .ref v8, .int isw, .int nw, .ref v9, .long sn, .int ek, .int em, .int eh, .int es, .int ed, .int el, .ref v10, .long hs])), (v0, .inl (cI, 4, .inl kd)), (v1, .inl (cI, 4, .inl (upd (upd (upd st 0 (ke 0)) 1 (ke 6)) 2 (ke 12)))), (v2, .inl (cI, 4, .inl co)), (v3, .inl (cI, 4, .inl (upd (upd (upd gt 0 (ke 1)) 1 (ke 7)) 2 (ke 13)))), (v4, .inl (cI, 4, .inl (upd (upd (upd pd 0 (ke 2)) 1 (ke 8)) 2 (ke 14)))), (v5, .inl (cI, 4, .inl (upd (upd de 0 (ke 3)) 1 (ke 9)))), (v6, .inl (cI, 4, .inl (upd (upd us 0 (ke 4)) 1 (ke 10)))), (v7, .inl (cI, 4, .inl (upd (upd tm 0 (ke 5)) 1 (ke 11)))), (v8, .inl (cB, 18, .inl lt)), (v9, .inl (cI, 4, .inl sv)), (v10, .inl (cI, 24, .inl ke))] := hD
      refine lv_aload_n hx hb dX6_restore_109 rfl (lv_at hl 1 rfl) ?_
      refine va_get (D := D) (ci := 6) (v := .ref v5) (C := RX6) (T := TX6) (N := 30) hx hb hts iwX6 hown hK.1 hP 0 rfl rfl 9 (by decide) fk25 (fun _ h9 => h9) rfl dX6_restore_110 ?_
      refine lv_iload_n hx hb dX6_restore_113 rfl (lv_at hl 0 rfl) ?_
      refine lv_aload_n hx hb dX6_restore_114 rfl (lv_at hl 1 rfl) ?_
      refine va_get (D := D) (ci := 6) (v := .ref v10) (C := RX6) (T := TX6) (N := 30) hx hb hts iwX6 hown hK.1 hP 0 rfl rfl 28 (by decide) fk41 (fun _ h9 => h9) rfl dX6_restore_115 ?_
      refine lv_bipush (v := 6) hx hb dX6_restore_118 (by decide) ?_
      refine lv_iload_n hx hb dX6_restore_120 rfl (lv_at hl 0 rfl) ?_
      refine lv_imul hx hb dX6_restore_121 ?_
      refine my_top (y := 12) (by decide) ?_
      refine lv_iconst (v := 3) hx hb dX6_restore_122 (by decide) ?_
      refine lv_iadd hx hb dX6_restore_123 ?_
      refine my_top (y := 15) (by decide) ?_
      refine my_iald hx hb hK hP 11 rfl (j := 15) (ix_nI (j := 15) (by decide) (by decide)) dX6_restore_124 ?_
      refine my_iast hx hb hK hP hD hS 6 rfl (j := 2) (ix_nI (j := 2) (by decide) (by decide)) dX6_restore_125 (fun H locs hP hD hS => ?_)
      have hP : va_P D vwCl [(vh, .inr (6, [.int mm, .int (nI n), .int tl, .int eh, .ref v0, .ref v1, .ref v2, .ref v3, .ref v4, .ref v5, .ref v6, .int es, .int ed, .ref v7, .int el, .int ak, .int (nI k), .ref v8, .int isw, .int nw, .ref v9, .long sn, .int ek, .int em, .int eh, .int es, .int ed, .int el, .ref v10, .long hs])), (v0, .inl (cI, 4, .inl kd)), (v1, .inl (cI, 4, .inl (upd (upd (upd st 0 (ke 0)) 1 (ke 6)) 2 (ke 12)))), (v2, .inl (cI, 4, .inl co)), (v3, .inl (cI, 4, .inl (upd (upd (upd gt 0 (ke 1)) 1 (ke 7)) 2 (ke 13)))), (v4, .inl (cI, 4, .inl (upd (upd (upd pd 0 (ke 2)) 1 (ke 8)) 2 (ke 14)))), (v5, .inl (cI, 4, .inl (upd (upd (upd de 0 (ke 3)) 1 (ke 9)) 2 (ke 15)))), (v6, .inl (cI, 4, .inl (upd (upd us 0 (ke 4)) 1 (ke 10)))), (v7, .inl (cI, 4, .inl (upd (upd tm 0 (ke 5)) 1 (ke 11)))), (v8, .inl (cB, 18, .inl lt)), (v9, .inl (cI, 4, .inl sv)), (v10, .inl (cI, 24, .inl ke))] H := hP
      have hD : va_D A [(vh, .inr (6, [.int mm, .int (nI n), .int tl, .int eh, .ref v0, .ref v1, .ref v2, .ref v3, .ref v4, .ref v5, .ref v6, .int es, .int ed, .ref v7, .int el, .int ak, .int (nI k), .ref v8, .int isw, .int nw, .ref v9, .long sn, .int ek, .int em, .int eh, .int es, .int ed, .int el, .ref v10, .long hs])), (v0, .inl (cI, 4, .inl kd)), (v1, .inl (cI, 4, .inl (upd (upd (upd st 0 (ke 0)) 1 (ke 6)) 2 (ke 12)))), (v2, .inl (cI, 4, .inl co)), (v3, .inl (cI, 4, .inl (upd (upd (upd gt 0 (ke 1)) 1 (ke 7)) 2 (ke 13)))), (v4, .inl (cI, 4, .inl (upd (upd (upd pd 0 (ke 2)) 1 (ke 8)) 2 (ke 14)))), (v5, .inl (cI, 4, .inl (upd (upd (upd de 0 (ke 3)) 1 (ke 9)) 2 (ke 15)))), (v6, .inl (cI, 4, .inl (upd (upd us 0 (ke 4)) 1 (ke 10)))), (v7, .inl (cI, 4, .inl (upd (upd tm 0 (ke 5)) 1 (ke 11)))), (v8, .inl (cB, 18, .inl lt)), (v9, .inl (cI, 4, .inl sv)), (v10, .inl (cI, 24, .inl ke))] := hD
      refine lv_aload_n hx hb dX6_restore_126 rfl (lv_at hl 1 rfl) ?_
      refine va_get (D := D) (ci := 6) (v := .ref v6) (C := RX6) (T := TX6) (N := 30) hx hb hts iwX6 hown hK.1 hP 0 rfl rfl 10 (by decide) fk28 (fun _ h9 => h9) rfl dX6_restore_127 ?_
      refine lv_iload_n hx hb dX6_restore_130 rfl (lv_at hl 0 rfl) ?_
      refine lv_aload_n hx hb dX6_restore_131 rfl (lv_at hl 1 rfl) ?_
      refine va_get (D := D) (ci := 6) (v := .ref v10) (C := RX6) (T := TX6) (N := 30) hx hb hts iwX6 hown hK.1 hP 0 rfl rfl 28 (by decide) fk41 (fun _ h9 => h9) rfl dX6_restore_132 ?_
      refine lv_bipush (v := 6) hx hb dX6_restore_135 (by decide) ?_
      refine lv_iload_n hx hb dX6_restore_137 rfl (lv_at hl 0 rfl) ?_
      refine lv_imul hx hb dX6_restore_138 ?_
      refine my_top (y := 12) (by decide) ?_
      refine lv_iconst (v := 4) hx hb dX6_restore_139 (by decide) ?_
      refine lv_iadd hx hb dX6_restore_140 ?_
      refine my_top (y := 16) (by decide) ?_
      refine my_iald hx hb hK hP 11 rfl (j := 16) (ix_nI (j := 16) (by decide) (by decide)) dX6_restore_141 ?_
      refine my_iast hx hb hK hP hD hS 7 rfl (j := 2) (ix_nI (j := 2) (by decide) (by decide)) dX6_restore_142 (fun H locs hP hD hS => ?_)
      have hP : va_P D vwCl [(vh, .inr (6, [.int mm, .int (nI n), .int tl, .int eh, .ref v0, .ref v1, .ref v2, .ref v3, .ref v4, .ref v5, .ref v6, .int es, .int ed, .ref v7, .int el, .int ak, .int (nI k), .ref v8, .int isw, .int nw, .ref v9, .long sn, .int ek, .int em, .int eh, .int es, .int ed, .int el, .ref v10, .long hs])), (v0, .inl (cI, 4, .inl kd)), (v1, .inl (cI, 4, .inl (upd (upd (upd st 0 (ke 0)) 1 (ke 6)) 2 (ke 12)))), (v2, .inl (cI, 4, .inl co)), (v3, .inl (cI, 4, .inl (upd (upd (upd gt 0 (ke 1)) 1 (ke 7)) 2 (ke 13)))), (v4, .inl (cI, 4, .inl (upd (upd (upd pd 0 (ke 2)) 1 (ke 8)) 2 (ke 14)))), (v5, .inl (cI, 4, .inl (upd (upd (upd de 0 (ke 3)) 1 (ke 9)) 2 (ke 15)))), (v6, .inl (cI, 4, .inl (upd (upd (upd us 0 (ke 4)) 1 (ke 10)) 2 (ke 16)))), (v7, .inl (cI, 4, .inl (upd (upd tm 0 (ke 5)) 1 (ke 11)))), (v8, .inl (cB, 18, .inl lt)), (v9, .inl (cI, 4, .inl sv)), (v10, .inl (cI, 24, .inl ke))] H := hP
      have hD : va_D A [(vh, .inr (6, [.int mm, .int (nI n), .int tl, .int eh, .ref v0, .ref v1, .ref v2, .ref v3, .ref v4, .ref v5, .ref v6, .int es, .int ed, .ref v7, .int el, .int ak, .int (nI k), .ref v8, .int isw, .int nw, .ref v9, .long sn, .int ek, .int em, .int eh, .int es, .int ed, .int el, .ref v10, .long hs])), (v0, .inl (cI, 4, .inl kd)), (v1, .inl (cI, 4, .inl (upd (upd (upd st 0 (ke 0)) 1 (ke 6)) 2 (ke 12)))), (v2, .inl (cI, 4, .inl co)), (v3, .inl (cI, 4, .inl (upd (upd (upd gt 0 (ke 1)) 1 (ke 7)) 2 (ke 13)))), (v4, .inl (cI, 4, .inl (upd (upd (upd pd 0 (ke 2)) 1 (ke 8)) 2 (ke 14)))), (v5, .inl (cI, 4, .inl (upd (upd (upd de 0 (ke 3)) 1 (ke 9)) 2 (ke 15)))), (v6, .inl (cI, 4, .inl (upd (upd (upd us 0 (ke 4)) 1 (ke 10)) 2 (ke 16)))), (v7, .inl (cI, 4, .inl (upd (upd tm 0 (ke 5)) 1 (ke 11)))), (v8, .inl (cB, 18, .inl lt)), (v9, .inl (cI, 4, .inl sv)), (v10, .inl (cI, 24, .inl ke))] := hD
      refine lv_aload_n hx hb dX6_restore_143 rfl (lv_at hl 1 rfl) ?_
      refine va_get (D := D) (ci := 6) (v := .ref v7) (C := RX6) (T := TX6) (N := 30) hx hb hts iwX6 hown hK.1 hP 0 rfl rfl 13 (by decide) fk31 (fun _ h9 => h9) rfl dX6_restore_144 ?_
      refine lv_iload_n hx hb dX6_restore_147 rfl (lv_at hl 0 rfl) ?_
      refine lv_aload_n hx hb dX6_restore_148 rfl (lv_at hl 1 rfl) ?_
      refine va_get (D := D) (ci := 6) (v := .ref v10) (C := RX6) (T := TX6) (N := 30) hx hb hts iwX6 hown hK.1 hP 0 rfl rfl 28 (by decide) fk41 (fun _ h9 => h9) rfl dX6_restore_149 ?_
      refine lv_bipush (v := 6) hx hb dX6_restore_152 (by decide) ?_
      refine lv_iload_n hx hb dX6_restore_154 rfl (lv_at hl 0 rfl) ?_
      refine lv_imul hx hb dX6_restore_155 ?_
      refine my_top (y := 12) (by decide) ?_
      refine lv_iconst (v := 5) hx hb dX6_restore_156 (by decide) ?_
      refine lv_iadd hx hb dX6_restore_157 ?_
      refine my_top (y := 17) (by decide) ?_
      refine my_iald hx hb hK hP 11 rfl (j := 17) (ix_nI (j := 17) (by decide) (by decide)) dX6_restore_158 ?_
      refine my_iast hx hb hK hP hD hS 8 rfl (j := 2) (ix_nI (j := 2) (by decide) (by decide)) dX6_restore_159 (fun H locs hP hD hS => ?_)
      have hP : va_P D vwCl [(vh, .inr (6, [.int mm, .int (nI n), .int tl, .int eh, .ref v0, .ref v1, .ref v2, .ref v3, .ref v4, .ref v5, .ref v6, .int es, .int ed, .ref v7, .int el, .int ak, .int (nI k), .ref v8, .int isw, .int nw, .ref v9, .long sn, .int ek, .int em, .int eh, .int es, .int ed, .int el, .ref v10, .long hs])), (v0, .inl (cI, 4, .inl kd)), (v1, .inl (cI, 4, .inl (upd (upd (upd st 0 (ke 0)) 1 (ke 6)) 2 (ke 12)))), (v2, .inl (cI, 4, .inl co)), (v3, .inl (cI, 4, .inl (upd (upd (upd gt 0 (ke 1)) 1 (ke 7)) 2 (ke 13)))), (v4, .inl (cI, 4, .inl (upd (upd (upd pd 0 (ke 2)) 1 (ke 8)) 2 (ke 14)))), (v5, .inl (cI, 4, .inl (upd (upd (upd de 0 (ke 3)) 1 (ke 9)) 2 (ke 15)))), (v6, .inl (cI, 4, .inl (upd (upd (upd us 0 (ke 4)) 1 (ke 10)) 2 (ke 16)))), (v7, .inl (cI, 4, .inl (upd (upd (upd tm 0 (ke 5)) 1 (ke 11)) 2 (ke 17)))), (v8, .inl (cB, 18, .inl lt)), (v9, .inl (cI, 4, .inl sv)), (v10, .inl (cI, 24, .inl ke))] H := hP
      have hD : va_D A [(vh, .inr (6, [.int mm, .int (nI n), .int tl, .int eh, .ref v0, .ref v1, .ref v2, .ref v3, .ref v4, .ref v5, .ref v6, .int es, .int ed, .ref v7, .int el, .int ak, .int (nI k), .ref v8, .int isw, .int nw, .ref v9, .long sn, .int ek, .int em, .int eh, .int es, .int ed, .int el, .ref v10, .long hs])), (v0, .inl (cI, 4, .inl kd)), (v1, .inl (cI, 4, .inl (upd (upd (upd st 0 (ke 0)) 1 (ke 6)) 2 (ke 12)))), (v2, .inl (cI, 4, .inl co)), (v3, .inl (cI, 4, .inl (upd (upd (upd gt 0 (ke 1)) 1 (ke 7)) 2 (ke 13)))), (v4, .inl (cI, 4, .inl (upd (upd (upd pd 0 (ke 2)) 1 (ke 8)) 2 (ke 14)))), (v5, .inl (cI, 4, .inl (upd (upd (upd de 0 (ke 3)) 1 (ke 9)) 2 (ke 15)))), (v6, .inl (cI, 4, .inl (upd (upd (upd us 0 (ke 4)) 1 (ke 10)) 2 (ke 16)))), (v7, .inl (cI, 4, .inl (upd (upd (upd tm 0 (ke 5)) 1 (ke 11)) 2 (ke 17)))), (v8, .inl (cB, 18, .inl lt)), (v9, .inl (cI, 4, .inl sv)), (v10, .inl (cI, 24, .inl ke))] := hD
      refine lv_iinc (v := 3) (lv' := [(1, .int 3), (0, .ref vh)]) hx hb dX6_restore_160 hl (k := 0) rfl (by decide) (by decide) rfl (fun ls hl => ?_)
      refine lv_goto (tgt := 55) hx hb dX6_restore_163 (by decide) ?_
      refine lv_iload_n hx hb dX6_restore_55 rfl (lv_at hl 0 rfl) ?_
      refine lv_iconst (v := 4) hx hb dX6_restore_56 (by decide) ?_
      refine lv_icmp_ge (tgt := 166) hx hb dX6_restore_57 (by decide) (fun c_6 => absurd c_6 (by decide)) (fun c_6 => ?_)
      refine lv_aload_n hx hb dX6_restore_60 rfl (lv_at hl 1 rfl) ?_
      refine va_get (D := D) (ci := 6) (v := .ref v1) (C := RX6) (T := TX6) (N := 30) hx hb hts iwX6 hown hK.1 hP 0 rfl rfl 5 (by decide) fk13 (fun _ h9 => h9) rfl dX6_restore_61 ?_
      refine lv_iload_n hx hb dX6_restore_64 rfl (lv_at hl 0 rfl) ?_
      refine lv_aload_n hx hb dX6_restore_65 rfl (lv_at hl 1 rfl) ?_
      refine va_get (D := D) (ci := 6) (v := .ref v10) (C := RX6) (T := TX6) (N := 30) hx hb hts iwX6 hown hK.1 hP 0 rfl rfl 28 (by decide) fk41 (fun _ h9 => h9) rfl dX6_restore_66 ?_
      refine lv_bipush (v := 6) hx hb dX6_restore_69 (by decide) ?_
      refine lv_iload_n hx hb dX6_restore_71 rfl (lv_at hl 0 rfl) ?_
      refine lv_imul hx hb dX6_restore_72 ?_
      refine my_top (y := 18) (by decide) ?_
      refine my_iald hx hb hK hP 11 rfl (j := 18) (ix_nI (j := 18) (by decide) (by decide)) dX6_restore_73 ?_
      refine my_iast hx hb hK hP hD hS 2 rfl (j := 3) (ix_nI (j := 3) (by decide) (by decide)) dX6_restore_74 (fun H locs hP hD hS => ?_)
      have hP : va_P D vwCl [(vh, .inr (6, [.int mm, .int (nI n), .int tl, .int eh, .ref v0, .ref v1, .ref v2, .ref v3, .ref v4, .ref v5, .ref v6, .int es, .int ed, .ref v7, .int el, .int ak, .int (nI k), .ref v8, .int isw, .int nw, .ref v9, .long sn, .int ek, .int em, .int eh, .int es, .int ed, .int el, .ref v10, .long hs])), (v0, .inl (cI, 4, .inl kd)), (v1, .inl (cI, 4, .inl (upd (upd (upd (upd st 0 (ke 0)) 1 (ke 6)) 2 (ke 12)) 3 (ke 18)))), (v2, .inl (cI, 4, .inl co)), (v3, .inl (cI, 4, .inl (upd (upd (upd gt 0 (ke 1)) 1 (ke 7)) 2 (ke 13)))), (v4, .inl (cI, 4, .inl (upd (upd (upd pd 0 (ke 2)) 1 (ke 8)) 2 (ke 14)))), (v5, .inl (cI, 4, .inl (upd (upd (upd de 0 (ke 3)) 1 (ke 9)) 2 (ke 15)))), (v6, .inl (cI, 4, .inl (upd (upd (upd us 0 (ke 4)) 1 (ke 10)) 2 (ke 16)))), (v7, .inl (cI, 4, .inl (upd (upd (upd tm 0 (ke 5)) 1 (ke 11)) 2 (ke 17)))), (v8, .inl (cB, 18, .inl lt)), (v9, .inl (cI, 4, .inl sv)), (v10, .inl (cI, 24, .inl ke))] H := hP
      have hD : va_D A [(vh, .inr (6, [.int mm, .int (nI n), .int tl, .int eh, .ref v0, .ref v1, .ref v2, .ref v3, .ref v4, .ref v5, .ref v6, .int es, .int ed, .ref v7, .int el, .int ak, .int (nI k), .ref v8, .int isw, .int nw, .ref v9, .long sn, .int ek, .int em, .int eh, .int es, .int ed, .int el, .ref v10, .long hs])), (v0, .inl (cI, 4, .inl kd)), (v1, .inl (cI, 4, .inl (upd (upd (upd (upd st 0 (ke 0)) 1 (ke 6)) 2 (ke 12)) 3 (ke 18)))), (v2, .inl (cI, 4, .inl co)), (v3, .inl (cI, 4, .inl (upd (upd (upd gt 0 (ke 1)) 1 (ke 7)) 2 (ke 13)))), (v4, .inl (cI, 4, .inl (upd (upd (upd pd 0 (ke 2)) 1 (ke 8)) 2 (ke 14)))), (v5, .inl (cI, 4, .inl (upd (upd (upd de 0 (ke 3)) 1 (ke 9)) 2 (ke 15)))), (v6, .inl (cI, 4, .inl (upd (upd (upd us 0 (ke 4)) 1 (ke 10)) 2 (ke 16)))), (v7, .inl (cI, 4, .inl (upd (upd (upd tm 0 (ke 5)) 1 (ke 11)) 2 (ke 17)))), (v8, .inl (cB, 18, .inl lt)), (v9, .inl (cI, 4, .inl sv)), (v10, .inl (cI, 24, .inl ke))] := hD
      refine lv_aload_n hx hb dX6_restore_75 rfl (lv_at hl 1 rfl) ?_
      refine va_get (D := D) (ci := 6) (v := .ref v3) (C := RX6) (T := TX6) (N := 30) hx hb hts iwX6 hown hK.1 hP 0 rfl rfl 7 (by decide) fk19 (fun _ h9 => h9) rfl dX6_restore_76 ?_
      refine lv_iload_n hx hb dX6_restore_79 rfl (lv_at hl 0 rfl) ?_
      refine lv_aload_n hx hb dX6_restore_80 rfl (lv_at hl 1 rfl) ?_
      refine va_get (D := D) (ci := 6) (v := .ref v10) (C := RX6) (T := TX6) (N := 30) hx hb hts iwX6 hown hK.1 hP 0 rfl rfl 28 (by decide) fk41 (fun _ h9 => h9) rfl dX6_restore_81 ?_
      refine lv_bipush (v := 6) hx hb dX6_restore_84 (by decide) ?_
      refine lv_iload_n hx hb dX6_restore_86 rfl (lv_at hl 0 rfl) ?_
      refine lv_imul hx hb dX6_restore_87 ?_
      refine my_top (y := 18) (by decide) ?_
      refine lv_iconst (v := 1) hx hb dX6_restore_88 (by decide) ?_
      refine lv_iadd hx hb dX6_restore_89 ?_
      refine my_top (y := 19) (by decide) ?_
      refine my_iald hx hb hK hP 11 rfl (j := 19) (ix_nI (j := 19) (by decide) (by decide)) dX6_restore_90 ?_
      refine my_iast hx hb hK hP hD hS 4 rfl (j := 3) (ix_nI (j := 3) (by decide) (by decide)) dX6_restore_91 (fun H locs hP hD hS => ?_)
      have hP : va_P D vwCl [(vh, .inr (6, [.int mm, .int (nI n), .int tl, .int eh, .ref v0, .ref v1, .ref v2, .ref v3, .ref v4, .ref v5, .ref v6, .int es, .int ed, .ref v7, .int el, .int ak, .int (nI k), .ref v8, .int isw, .int nw, .ref v9, .long sn, .int ek, .int em, .int eh, .int es, .int ed, .int el, .ref v10, .long hs])), (v0, .inl (cI, 4, .inl kd)), (v1, .inl (cI, 4, .inl (upd (upd (upd (upd st 0 (ke 0)) 1 (ke 6)) 2 (ke 12)) 3 (ke 18)))), (v2, .inl (cI, 4, .inl co)), (v3, .inl (cI, 4, .inl (upd (upd (upd (upd gt 0 (ke 1)) 1 (ke 7)) 2 (ke 13)) 3 (ke 19)))), (v4, .inl (cI, 4, .inl (upd (upd (upd pd 0 (ke 2)) 1 (ke 8)) 2 (ke 14)))), (v5, .inl (cI, 4, .inl (upd (upd (upd de 0 (ke 3)) 1 (ke 9)) 2 (ke 15)))), (v6, .inl (cI, 4, .inl (upd (upd (upd us 0 (ke 4)) 1 (ke 10)) 2 (ke 16)))), (v7, .inl (cI, 4, .inl (upd (upd (upd tm 0 (ke 5)) 1 (ke 11)) 2 (ke 17)))), (v8, .inl (cB, 18, .inl lt)), (v9, .inl (cI, 4, .inl sv)), (v10, .inl (cI, 24, .inl ke))] H := hP
      have hD : va_D A [(vh, .inr (6, [.int mm, .int (nI n), .int tl, .int eh, .ref v0, .ref v1, .ref v2, .ref v3, .ref v4, .ref v5, .ref v6, .int es, .int ed, .ref v7, .int el, .int ak, .int (nI k), .ref v8, .int isw, .int nw, .ref v9, .long sn, .int ek, .int em, .int eh, .int es, .int ed, .int el, .ref v10, .long hs])), (v0, .inl (cI, 4, .inl kd)), (v1, .inl (cI, 4, .inl (upd (upd (upd (upd st 0 (ke 0)) 1 (ke 6)) 2 (ke 12)) 3 (ke 18)))), (v2, .inl (cI, 4, .inl co)), (v3, .inl (cI, 4, .inl (upd (upd (upd (upd gt 0 (ke 1)) 1 (ke 7)) 2 (ke 13)) 3 (ke 19)))), (v4, .inl (cI, 4, .inl (upd (upd (upd pd 0 (ke 2)) 1 (ke 8)) 2 (ke 14)))), (v5, .inl (cI, 4, .inl (upd (upd (upd de 0 (ke 3)) 1 (ke 9)) 2 (ke 15)))), (v6, .inl (cI, 4, .inl (upd (upd (upd us 0 (ke 4)) 1 (ke 10)) 2 (ke 16)))), (v7, .inl (cI, 4, .inl (upd (upd (upd tm 0 (ke 5)) 1 (ke 11)) 2 (ke 17)))), (v8, .inl (cB, 18, .inl lt)), (v9, .inl (cI, 4, .inl sv)), (v10, .inl (cI, 24, .inl ke))] := hD
      refine lv_aload_n hx hb dX6_restore_92 rfl (lv_at hl 1 rfl) ?_
      refine va_get (D := D) (ci := 6) (v := .ref v4) (C := RX6) (T := TX6) (N := 30) hx hb hts iwX6 hown hK.1 hP 0 rfl rfl 8 (by decide) fk22 (fun _ h9 => h9) rfl dX6_restore_93 ?_
      refine lv_iload_n hx hb dX6_restore_96 rfl (lv_at hl 0 rfl) ?_
      refine lv_aload_n hx hb dX6_restore_97 rfl (lv_at hl 1 rfl) ?_
      refine va_get (D := D) (ci := 6) (v := .ref v10) (C := RX6) (T := TX6) (N := 30) hx hb hts iwX6 hown hK.1 hP 0 rfl rfl 28 (by decide) fk41 (fun _ h9 => h9) rfl dX6_restore_98 ?_
      refine lv_bipush (v := 6) hx hb dX6_restore_101 (by decide) ?_
      refine lv_iload_n hx hb dX6_restore_103 rfl (lv_at hl 0 rfl) ?_
      refine lv_imul hx hb dX6_restore_104 ?_
      refine my_top (y := 18) (by decide) ?_
      refine lv_iconst (v := 2) hx hb dX6_restore_105 (by decide) ?_
      refine lv_iadd hx hb dX6_restore_106 ?_
      refine my_top (y := 20) (by decide) ?_
      refine my_iald hx hb hK hP 11 rfl (j := 20) (ix_nI (j := 20) (by decide) (by decide)) dX6_restore_107 ?_
      refine my_iast hx hb hK hP hD hS 5 rfl (j := 3) (ix_nI (j := 3) (by decide) (by decide)) dX6_restore_108 (fun H locs hP hD hS => ?_)
      have hP : va_P D vwCl [(vh, .inr (6, [.int mm, .int (nI n), .int tl, .int eh, .ref v0, .ref v1, .ref v2, .ref v3, .ref v4, .ref v5, .ref v6, .int es, .int ed, .ref v7, .int el, .int ak, .int (nI k), .ref v8, .int isw, .int nw, .ref v9, .long sn, .int ek, .int em, .int eh, .int es, .int ed, .int el, .ref v10, .long hs])), (v0, .inl (cI, 4, .inl kd)), (v1, .inl (cI, 4, .inl (upd (upd (upd (upd st 0 (ke 0)) 1 (ke 6)) 2 (ke 12)) 3 (ke 18)))), (v2, .inl (cI, 4, .inl co)), (v3, .inl (cI, 4, .inl (upd (upd (upd (upd gt 0 (ke 1)) 1 (ke 7)) 2 (ke 13)) 3 (ke 19)))), (v4, .inl (cI, 4, .inl (upd (upd (upd (upd pd 0 (ke 2)) 1 (ke 8)) 2 (ke 14)) 3 (ke 20)))), (v5, .inl (cI, 4, .inl (upd (upd (upd de 0 (ke 3)) 1 (ke 9)) 2 (ke 15)))), (v6, .inl (cI, 4, .inl (upd (upd (upd us 0 (ke 4)) 1 (ke 10)) 2 (ke 16)))), (v7, .inl (cI, 4, .inl (upd (upd (upd tm 0 (ke 5)) 1 (ke 11)) 2 (ke 17)))), (v8, .inl (cB, 18, .inl lt)), (v9, .inl (cI, 4, .inl sv)), (v10, .inl (cI, 24, .inl ke))] H := hP
      have hD : va_D A [(vh, .inr (6, [.int mm, .int (nI n), .int tl, .int eh, .ref v0, .ref v1, .ref v2, .ref v3, .ref v4, .ref v5, .ref v6, .int es, .int ed, .ref v7, .int el, .int ak, .int (nI k), .ref v8, .int isw, .int nw, .ref v9, .long sn, .int ek, .int em, .int eh, .int es, .int ed, .int el, .ref v10, .long hs])), (v0, .inl (cI, 4, .inl kd)), (v1, .inl (cI, 4, .inl (upd (upd (upd (upd st 0 (ke 0)) 1 (ke 6)) 2 (ke 12)) 3 (ke 18)))), (v2, .inl (cI, 4, .inl co)), (v3, .inl (cI, 4, .inl (upd (upd (upd (upd gt 0 (ke 1)) 1 (ke 7)) 2 (ke 13)) 3 (ke 19)))), (v4, .inl (cI, 4, .inl (upd (upd (upd (upd pd 0 (ke 2)) 1 (ke 8)) 2 (ke 14)) 3 (ke 20)))), (v5, .inl (cI, 4, .inl (upd (upd (upd de 0 (ke 3)) 1 (ke 9)) 2 (ke 15)))), (v6, .inl (cI, 4, .inl (upd (upd (upd us 0 (ke 4)) 1 (ke 10)) 2 (ke 16)))), (v7, .inl (cI, 4, .inl (upd (upd (upd tm 0 (ke 5)) 1 (ke 11)) 2 (ke 17)))), (v8, .inl (cB, 18, .inl lt)), (v9, .inl (cI, 4, .inl sv)), (v10, .inl (cI, 24, .inl ke))] := hD
      refine lv_aload_n hx hb dX6_restore_109 rfl (lv_at hl 1 rfl) ?_
      refine va_get (D := D) (ci := 6) (v := .ref v5) (C := RX6) (T := TX6) (N := 30) hx hb hts iwX6 hown hK.1 hP 0 rfl rfl 9 (by decide) fk25 (fun _ h9 => h9) rfl dX6_restore_110 ?_
      refine lv_iload_n hx hb dX6_restore_113 rfl (lv_at hl 0 rfl) ?_
      refine lv_aload_n hx hb dX6_restore_114 rfl (lv_at hl 1 rfl) ?_
      refine va_get (D := D) (ci := 6) (v := .ref v10) (C := RX6) (T := TX6) (N := 30) hx hb hts iwX6 hown hK.1 hP 0 rfl rfl 28 (by decide) fk41 (fun _ h9 => h9) rfl dX6_restore_115 ?_
      refine lv_bipush (v := 6) hx hb dX6_restore_118 (by decide) ?_
      refine lv_iload_n hx hb dX6_restore_120 rfl (lv_at hl 0 rfl) ?_
      refine lv_imul hx hb dX6_restore_121 ?_
      refine my_top (y := 18) (by decide) ?_
      refine lv_iconst (v := 3) hx hb dX6_restore_122 (by decide) ?_
      refine lv_iadd hx hb dX6_restore_123 ?_
      refine my_top (y := 21) (by decide) ?_
      refine my_iald hx hb hK hP 11 rfl (j := 21) (ix_nI (j := 21) (by decide) (by decide)) dX6_restore_124 ?_
      refine my_iast hx hb hK hP hD hS 6 rfl (j := 3) (ix_nI (j := 3) (by decide) (by decide)) dX6_restore_125 (fun H locs hP hD hS => ?_)
      have hP : va_P D vwCl [(vh, .inr (6, [.int mm, .int (nI n), .int tl, .int eh, .ref v0, .ref v1, .ref v2, .ref v3, .ref v4, .ref v5, .ref v6, .int es, .int ed, .ref v7, .int el, .int ak, .int (nI k), .ref v8, .int isw, .int nw, .ref v9, .long sn, .int ek, .int em, .int eh, .int es, .int ed, .int el, .ref v10, .long hs])), (v0, .inl (cI, 4, .inl kd)), (v1, .inl (cI, 4, .inl (upd (upd (upd (upd st 0 (ke 0)) 1 (ke 6)) 2 (ke 12)) 3 (ke 18)))), (v2, .inl (cI, 4, .inl co)), (v3, .inl (cI, 4, .inl (upd (upd (upd (upd gt 0 (ke 1)) 1 (ke 7)) 2 (ke 13)) 3 (ke 19)))), (v4, .inl (cI, 4, .inl (upd (upd (upd (upd pd 0 (ke 2)) 1 (ke 8)) 2 (ke 14)) 3 (ke 20)))), (v5, .inl (cI, 4, .inl (upd (upd (upd (upd de 0 (ke 3)) 1 (ke 9)) 2 (ke 15)) 3 (ke 21)))), (v6, .inl (cI, 4, .inl (upd (upd (upd us 0 (ke 4)) 1 (ke 10)) 2 (ke 16)))), (v7, .inl (cI, 4, .inl (upd (upd (upd tm 0 (ke 5)) 1 (ke 11)) 2 (ke 17)))), (v8, .inl (cB, 18, .inl lt)), (v9, .inl (cI, 4, .inl sv)), (v10, .inl (cI, 24, .inl ke))] H := hP
      have hD : va_D A [(vh, .inr (6, [.int mm, .int (nI n), .int tl, .int eh, .ref v0, .ref v1, .ref v2, .ref v3, .ref v4, .ref v5, .ref v6, .int es, .int ed, .ref v7, .int el, .int ak, .int (nI k), .ref v8, .int isw, .int nw, .ref v9, .long sn, .int ek, .int em, .int eh, .int es, .int ed, .int el, .ref v10, .long hs])), (v0, .inl (cI, 4, .inl kd)), (v1, .inl (cI, 4, .inl (upd (upd (upd (upd st 0 (ke 0)) 1 (ke 6)) 2 (ke 12)) 3 (ke 18)))), (v2, .inl (cI, 4, .inl co)), (v3, .inl (cI, 4, .inl (upd (upd (upd (upd gt 0 (ke 1)) 1 (ke 7)) 2 (ke 13)) 3 (ke 19)))), (v4, .inl (cI, 4, .inl (upd (upd (upd (upd pd 0 (ke 2)) 1 (ke 8)) 2 (ke 14)) 3 (ke 20)))), (v5, .inl (cI, 4, .inl (upd (upd (upd (upd de 0 (ke 3)) 1 (ke 9)) 2 (ke 15)) 3 (ke 21)))), (v6, .inl (cI, 4, .inl (upd (upd (upd us 0 (ke 4)) 1 (ke 10)) 2 (ke 16)))), (v7, .inl (cI, 4, .inl (upd (upd (upd tm 0 (ke 5)) 1 (ke 11)) 2 (ke 17)))), (v8, .inl (cB, 18, .inl lt)), (v9, .inl (cI, 4, .inl sv)), (v10, .inl (cI, 24, .inl ke))] := hD
      refine lv_aload_n hx hb dX6_restore_126 rfl (lv_at hl 1 rfl) ?_
      refine va_get (D := D) (ci := 6) (v := .ref v6) (C := RX6) (T := TX6) (N := 30) hx hb hts iwX6 hown hK.1 hP 0 rfl rfl 10 (by decide) fk28 (fun _ h9 => h9) rfl dX6_restore_127 ?_
      refine lv_iload_n hx hb dX6_restore_130 rfl (lv_at hl 0 rfl) ?_
      refine lv_aload_n hx hb dX6_restore_131 rfl (lv_at hl 1 rfl) ?_
      refine va_get (D := D) (ci := 6) (v := .ref v10) (C := RX6) (T := TX6) (N := 30) hx hb hts iwX6 hown hK.1 hP 0 rfl rfl 28 (by decide) fk41 (fun _ h9 => h9) rfl dX6_restore_132 ?_
      refine lv_bipush (v := 6) hx hb dX6_restore_135 (by decide) ?_
      refine lv_iload_n hx hb dX6_restore_137 rfl (lv_at hl 0 rfl) ?_
      refine lv_imul hx hb dX6_restore_138 ?_
      refine my_top (y := 18) (by decide) ?_
      refine lv_iconst (v := 4) hx hb dX6_restore_139 (by decide) ?_
      refine lv_iadd hx hb dX6_restore_140 ?_
      refine my_top (y := 22) (by decide) ?_
      refine my_iald hx hb hK hP 11 rfl (j := 22) (ix_nI (j := 22) (by decide) (by decide)) dX6_restore_141 ?_
      refine my_iast hx hb hK hP hD hS 7 rfl (j := 3) (ix_nI (j := 3) (by decide) (by decide)) dX6_restore_142 (fun H locs hP hD hS => ?_)
      have hP : va_P D vwCl [(vh, .inr (6, [.int mm, .int (nI n), .int tl, .int eh, .ref v0, .ref v1, .ref v2, .ref v3, .ref v4, .ref v5, .ref v6, .int es, .int ed, .ref v7, .int el, .int ak, .int (nI k), .ref v8, .int isw, .int nw, .ref v9, .long sn, .int ek, .int em, .int eh, .int es, .int ed, .int el, .ref v10, .long hs])), (v0, .inl (cI, 4, .inl kd)), (v1, .inl (cI, 4, .inl (upd (upd (upd (upd st 0 (ke 0)) 1 (ke 6)) 2 (ke 12)) 3 (ke 18)))), (v2, .inl (cI, 4, .inl co)), (v3, .inl (cI, 4, .inl (upd (upd (upd (upd gt 0 (ke 1)) 1 (ke 7)) 2 (ke 13)) 3 (ke 19)))), (v4, .inl (cI, 4, .inl (upd (upd (upd (upd pd 0 (ke 2)) 1 (ke 8)) 2 (ke 14)) 3 (ke 20)))), (v5, .inl (cI, 4, .inl (upd (upd (upd (upd de 0 (ke 3)) 1 (ke 9)) 2 (ke 15)) 3 (ke 21)))), (v6, .inl (cI, 4, .inl (upd (upd (upd (upd us 0 (ke 4)) 1 (ke 10)) 2 (ke 16)) 3 (ke 22)))), (v7, .inl (cI, 4, .inl (upd (upd (upd tm 0 (ke 5)) 1 (ke 11)) 2 (ke 17)))), (v8, .inl (cB, 18, .inl lt)), (v9, .inl (cI, 4, .inl sv)), (v10, .inl (cI, 24, .inl ke))] H := hP
      have hD : va_D A [(vh, .inr (6, [.int mm, .int (nI n), .int tl, .int eh, .ref v0, .ref v1, .ref v2, .ref v3, .ref v4, .ref v5, .ref v6, .int es, .int ed, .ref v7, .int el, .int ak, .int (nI k), .ref v8, .int isw, .int nw, .ref v9, .long sn, .int ek, .int em, .int eh, .int es, .int ed, .int el, .ref v10, .long hs])), (v0, .inl (cI, 4, .inl kd)), (v1, .inl (cI, 4, .inl (upd (upd (upd (upd st 0 (ke 0)) 1 (ke 6)) 2 (ke 12)) 3 (ke 18)))), (v2, .inl (cI, 4, .inl co)), (v3, .inl (cI, 4, .inl (upd (upd (upd (upd gt 0 (ke 1)) 1 (ke 7)) 2 (ke 13)) 3 (ke 19)))), (v4, .inl (cI, 4, .inl (upd (upd (upd (upd pd 0 (ke 2)) 1 (ke 8)) 2 (ke 14)) 3 (ke 20)))), (v5, .inl (cI, 4, .inl (upd (upd (upd (upd de 0 (ke 3)) 1 (ke 9)) 2 (ke 15)) 3 (ke 21)))), (v6, .inl (cI, 4, .inl (upd (upd (upd (upd us 0 (ke 4)) 1 (ke 10)) 2 (ke 16)) 3 (ke 22)))), (v7, .inl (cI, 4, .inl (upd (upd (upd tm 0 (ke 5)) 1 (ke 11)) 2 (ke 17)))), (v8, .inl (cB, 18, .inl lt)), (v9, .inl (cI, 4, .inl sv)), (v10, .inl (cI, 24, .inl ke))] := hD
      refine lv_aload_n hx hb dX6_restore_143 rfl (lv_at hl 1 rfl) ?_
      refine va_get (D := D) (ci := 6) (v := .ref v7) (C := RX6) (T := TX6) (N := 30) hx hb hts iwX6 hown hK.1 hP 0 rfl rfl 13 (by decide) fk31 (fun _ h9 => h9) rfl dX6_restore_144 ?_
      refine lv_iload_n hx hb dX6_restore_147 rfl (lv_at hl 0 rfl) ?_
      refine lv_aload_n hx hb dX6_restore_148 rfl (lv_at hl 1 rfl) ?_
      refine va_get (D := D) (ci := 6) (v := .ref v10) (C := RX6) (T := TX6) (N := 30) hx hb hts iwX6 hown hK.1 hP 0 rfl rfl 28 (by decide) fk41 (fun _ h9 => h9) rfl dX6_restore_149 ?_
      refine lv_bipush (v := 6) hx hb dX6_restore_152 (by decide) ?_
      refine lv_iload_n hx hb dX6_restore_154 rfl (lv_at hl 0 rfl) ?_
      refine lv_imul hx hb dX6_restore_155 ?_
      refine my_top (y := 18) (by decide) ?_
      refine lv_iconst (v := 5) hx hb dX6_restore_156 (by decide) ?_
      refine lv_iadd hx hb dX6_restore_157 ?_
      refine my_top (y := 23) (by decide) ?_
      refine my_iald hx hb hK hP 11 rfl (j := 23) (ix_nI (j := 23) (by decide) (by decide)) dX6_restore_158 ?_
      refine my_iast hx hb hK hP hD hS 8 rfl (j := 3) (ix_nI (j := 3) (by decide) (by decide)) dX6_restore_159 (fun H locs hP hD hS => ?_)
      have hP : va_P D vwCl [(vh, .inr (6, [.int mm, .int (nI n), .int tl, .int eh, .ref v0, .ref v1, .ref v2, .ref v3, .ref v4, .ref v5, .ref v6, .int es, .int ed, .ref v7, .int el, .int ak, .int (nI k), .ref v8, .int isw, .int nw, .ref v9, .long sn, .int ek, .int em, .int eh, .int es, .int ed, .int el, .ref v10, .long hs])), (v0, .inl (cI, 4, .inl kd)), (v1, .inl (cI, 4, .inl (upd (upd (upd (upd st 0 (ke 0)) 1 (ke 6)) 2 (ke 12)) 3 (ke 18)))), (v2, .inl (cI, 4, .inl co)), (v3, .inl (cI, 4, .inl (upd (upd (upd (upd gt 0 (ke 1)) 1 (ke 7)) 2 (ke 13)) 3 (ke 19)))), (v4, .inl (cI, 4, .inl (upd (upd (upd (upd pd 0 (ke 2)) 1 (ke 8)) 2 (ke 14)) 3 (ke 20)))), (v5, .inl (cI, 4, .inl (upd (upd (upd (upd de 0 (ke 3)) 1 (ke 9)) 2 (ke 15)) 3 (ke 21)))), (v6, .inl (cI, 4, .inl (upd (upd (upd (upd us 0 (ke 4)) 1 (ke 10)) 2 (ke 16)) 3 (ke 22)))), (v7, .inl (cI, 4, .inl (upd (upd (upd (upd tm 0 (ke 5)) 1 (ke 11)) 2 (ke 17)) 3 (ke 23)))), (v8, .inl (cB, 18, .inl lt)), (v9, .inl (cI, 4, .inl sv)), (v10, .inl (cI, 24, .inl ke))] H := hP
      have hD : va_D A [(vh, .inr (6, [.int mm, .int (nI n), .int tl, .int eh, .ref v0, .ref v1, .ref v2, .ref v3, .ref v4, .ref v5, .ref v6, .int es, .int ed, .ref v7, .int el, .int ak, .int (nI k), .ref v8, .int isw, .int nw, .ref v9, .long sn, .int ek, .int em, .int eh, .int es, .int ed, .int el, .ref v10, .long hs])), (v0, .inl (cI, 4, .inl kd)), (v1, .inl (cI, 4, .inl (upd (upd (upd (upd st 0 (ke 0)) 1 (ke 6)) 2 (ke 12)) 3 (ke 18)))), (v2, .inl (cI, 4, .inl co)), (v3, .inl (cI, 4, .inl (upd (upd (upd (upd gt 0 (ke 1)) 1 (ke 7)) 2 (ke 13)) 3 (ke 19)))), (v4, .inl (cI, 4, .inl (upd (upd (upd (upd pd 0 (ke 2)) 1 (ke 8)) 2 (ke 14)) 3 (ke 20)))), (v5, .inl (cI, 4, .inl (upd (upd (upd (upd de 0 (ke 3)) 1 (ke 9)) 2 (ke 15)) 3 (ke 21)))), (v6, .inl (cI, 4, .inl (upd (upd (upd (upd us 0 (ke 4)) 1 (ke 10)) 2 (ke 16)) 3 (ke 22)))), (v7, .inl (cI, 4, .inl (upd (upd (upd (upd tm 0 (ke 5)) 1 (ke 11)) 2 (ke 17)) 3 (ke 23)))), (v8, .inl (cB, 18, .inl lt)), (v9, .inl (cI, 4, .inl sv)), (v10, .inl (cI, 24, .inl ke))] := hD
      refine lv_iinc (v := 4) (lv' := [(1, .int 4), (0, .ref vh)]) hx hb dX6_restore_160 hl (k := 0) rfl (by decide) (by decide) rfl (fun ls hl => ?_)
      refine lv_goto (tgt := 55) hx hb dX6_restore_163 (by decide) ?_
      refine lv_iload_n hx hb dX6_restore_55 rfl (lv_at hl 0 rfl) ?_
      refine lv_iconst (v := 4) hx hb dX6_restore_56 (by decide) ?_
      refine lv_icmp_ge (tgt := 166) hx hb dX6_restore_57 (by decide) (fun c_7 => ?_) (fun c_7 => absurd c_7 (by decide))
      refine lv_aload_n hx hb dX6_restore_166 rfl (lv_at hl 1 rfl) ?_
      refine va_get (D := D) (ci := 6) (v := .int eh) (C := RX6) (T := TX6) (N := 30) hx hb hts iwX6 hown hK.1 hP 0 rfl rfl 3 (by decide) fk82 (fun _ h9 => h9) rfl dX6_restore_167 ?_
      have hP := va_P.arr (g := keR ke 0) hP 2 rfl (fun j hj => co_4 (P := fun j => (upd (upd (upd (upd st 0 (ke 0)) 1 (ke 6)) 2 (ke 12)) 3 (ke 18)) j = keR ke 0 j) rfl rfl rfl rfl hj)
      have hD := va_D.set (p := 2) (e := .inl (cI, 4, .inl (keR ke 0))) hD rfl
      have hP : va_P D vwCl [(vh, .inr (6, [.int mm, .int (nI n), .int tl, .int eh, .ref v0, .ref v1, .ref v2, .ref v3, .ref v4, .ref v5, .ref v6, .int es, .int ed, .ref v7, .int el, .int ak, .int (nI k), .ref v8, .int isw, .int nw, .ref v9, .long sn, .int ek, .int em, .int eh, .int es, .int ed, .int el, .ref v10, .long hs])), (v0, .inl (cI, 4, .inl kd)), (v1, .inl (cI, 4, .inl (keR ke 0))), (v2, .inl (cI, 4, .inl co)), (v3, .inl (cI, 4, .inl (upd (upd (upd (upd gt 0 (ke 1)) 1 (ke 7)) 2 (ke 13)) 3 (ke 19)))), (v4, .inl (cI, 4, .inl (upd (upd (upd (upd pd 0 (ke 2)) 1 (ke 8)) 2 (ke 14)) 3 (ke 20)))), (v5, .inl (cI, 4, .inl (upd (upd (upd (upd de 0 (ke 3)) 1 (ke 9)) 2 (ke 15)) 3 (ke 21)))), (v6, .inl (cI, 4, .inl (upd (upd (upd (upd us 0 (ke 4)) 1 (ke 10)) 2 (ke 16)) 3 (ke 22)))), (v7, .inl (cI, 4, .inl (upd (upd (upd (upd tm 0 (ke 5)) 1 (ke 11)) 2 (ke 17)) 3 (ke 23)))), (v8, .inl (cB, 18, .inl lt)), (v9, .inl (cI, 4, .inl sv)), (v10, .inl (cI, 24, .inl ke))] H := hP
      have hD : va_D A [(vh, .inr (6, [.int mm, .int (nI n), .int tl, .int eh, .ref v0, .ref v1, .ref v2, .ref v3, .ref v4, .ref v5, .ref v6, .int es, .int ed, .ref v7, .int el, .int ak, .int (nI k), .ref v8, .int isw, .int nw, .ref v9, .long sn, .int ek, .int em, .int eh, .int es, .int ed, .int el, .ref v10, .long hs])), (v0, .inl (cI, 4, .inl kd)), (v1, .inl (cI, 4, .inl (keR ke 0))), (v2, .inl (cI, 4, .inl co)), (v3, .inl (cI, 4, .inl (upd (upd (upd (upd gt 0 (ke 1)) 1 (ke 7)) 2 (ke 13)) 3 (ke 19)))), (v4, .inl (cI, 4, .inl (upd (upd (upd (upd pd 0 (ke 2)) 1 (ke 8)) 2 (ke 14)) 3 (ke 20)))), (v5, .inl (cI, 4, .inl (upd (upd (upd (upd de 0 (ke 3)) 1 (ke 9)) 2 (ke 15)) 3 (ke 21)))), (v6, .inl (cI, 4, .inl (upd (upd (upd (upd us 0 (ke 4)) 1 (ke 10)) 2 (ke 16)) 3 (ke 22)))), (v7, .inl (cI, 4, .inl (upd (upd (upd (upd tm 0 (ke 5)) 1 (ke 11)) 2 (ke 17)) 3 (ke 23)))), (v8, .inl (cB, 18, .inl lt)), (v9, .inl (cI, 4, .inl sv)), (v10, .inl (cI, 24, .inl ke))] := hD
      have hP := va_P.arr (g := keR ke 1) hP 4 rfl (fun j hj => co_4 (P := fun j => (upd (upd (upd (upd gt 0 (ke 1)) 1 (ke 7)) 2 (ke 13)) 3 (ke 19)) j = keR ke 1 j) rfl rfl rfl rfl hj)
      have hD := va_D.set (p := 4) (e := .inl (cI, 4, .inl (keR ke 1))) hD rfl
      have hP : va_P D vwCl [(vh, .inr (6, [.int mm, .int (nI n), .int tl, .int eh, .ref v0, .ref v1, .ref v2, .ref v3, .ref v4, .ref v5, .ref v6, .int es, .int ed, .ref v7, .int el, .int ak, .int (nI k), .ref v8, .int isw, .int nw, .ref v9, .long sn, .int ek, .int em, .int eh, .int es, .int ed, .int el, .ref v10, .long hs])), (v0, .inl (cI, 4, .inl kd)), (v1, .inl (cI, 4, .inl (keR ke 0))), (v2, .inl (cI, 4, .inl co)), (v3, .inl (cI, 4, .inl (keR ke 1))), (v4, .inl (cI, 4, .inl (upd (upd (upd (upd pd 0 (ke 2)) 1 (ke 8)) 2 (ke 14)) 3 (ke 20)))), (v5, .inl (cI, 4, .inl (upd (upd (upd (upd de 0 (ke 3)) 1 (ke 9)) 2 (ke 15)) 3 (ke 21)))), (v6, .inl (cI, 4, .inl (upd (upd (upd (upd us 0 (ke 4)) 1 (ke 10)) 2 (ke 16)) 3 (ke 22)))), (v7, .inl (cI, 4, .inl (upd (upd (upd (upd tm 0 (ke 5)) 1 (ke 11)) 2 (ke 17)) 3 (ke 23)))), (v8, .inl (cB, 18, .inl lt)), (v9, .inl (cI, 4, .inl sv)), (v10, .inl (cI, 24, .inl ke))] H := hP
      have hD : va_D A [(vh, .inr (6, [.int mm, .int (nI n), .int tl, .int eh, .ref v0, .ref v1, .ref v2, .ref v3, .ref v4, .ref v5, .ref v6, .int es, .int ed, .ref v7, .int el, .int ak, .int (nI k), .ref v8, .int isw, .int nw, .ref v9, .long sn, .int ek, .int em, .int eh, .int es, .int ed, .int el, .ref v10, .long hs])), (v0, .inl (cI, 4, .inl kd)), (v1, .inl (cI, 4, .inl (keR ke 0))), (v2, .inl (cI, 4, .inl co)), (v3, .inl (cI, 4, .inl (keR ke 1))), (v4, .inl (cI, 4, .inl (upd (upd (upd (upd pd 0 (ke 2)) 1 (ke 8)) 2 (ke 14)) 3 (ke 20)))), (v5, .inl (cI, 4, .inl (upd (upd (upd (upd de 0 (ke 3)) 1 (ke 9)) 2 (ke 15)) 3 (ke 21)))), (v6, .inl (cI, 4, .inl (upd (upd (upd (upd us 0 (ke 4)) 1 (ke 10)) 2 (ke 16)) 3 (ke 22)))), (v7, .inl (cI, 4, .inl (upd (upd (upd (upd tm 0 (ke 5)) 1 (ke 11)) 2 (ke 17)) 3 (ke 23)))), (v8, .inl (cB, 18, .inl lt)), (v9, .inl (cI, 4, .inl sv)), (v10, .inl (cI, 24, .inl ke))] := hD
      have hP := va_P.arr (g := keR ke 2) hP 5 rfl (fun j hj => co_4 (P := fun j => (upd (upd (upd (upd pd 0 (ke 2)) 1 (ke 8)) 2 (ke 14)) 3 (ke 20)) j = keR ke 2 j) rfl rfl rfl rfl hj)
      have hD := va_D.set (p := 5) (e := .inl (cI, 4, .inl (keR ke 2))) hD rfl
      have hP : va_P D vwCl [(vh, .inr (6, [.int mm, .int (nI n), .int tl, .int eh, .ref v0, .ref v1, .ref v2, .ref v3, .ref v4, .ref v5, .ref v6, .int es, .int ed, .ref v7, .int el, .int ak, .int (nI k), .ref v8, .int isw, .int nw, .ref v9, .long sn, .int ek, .int em, .int eh, .int es, .int ed, .int el, .ref v10, .long hs])), (v0, .inl (cI, 4, .inl kd)), (v1, .inl (cI, 4, .inl (keR ke 0))), (v2, .inl (cI, 4, .inl co)), (v3, .inl (cI, 4, .inl (keR ke 1))), (v4, .inl (cI, 4, .inl (keR ke 2))), (v5, .inl (cI, 4, .inl (upd (upd (upd (upd de 0 (ke 3)) 1 (ke 9)) 2 (ke 15)) 3 (ke 21)))), (v6, .inl (cI, 4, .inl (upd (upd (upd (upd us 0 (ke 4)) 1 (ke 10)) 2 (ke 16)) 3 (ke 22)))), (v7, .inl (cI, 4, .inl (upd (upd (upd (upd tm 0 (ke 5)) 1 (ke 11)) 2 (ke 17)) 3 (ke 23)))), (v8, .inl (cB, 18, .inl lt)), (v9, .inl (cI, 4, .inl sv)), (v10, .inl (cI, 24, .inl ke))] H := hP
      have hD : va_D A [(vh, .inr (6, [.int mm, .int (nI n), .int tl, .int eh, .ref v0, .ref v1, .ref v2, .ref v3, .ref v4, .ref v5, .ref v6, .int es, .int ed, .ref v7, .int el, .int ak, .int (nI k), .ref v8, .int isw, .int nw, .ref v9, .long sn, .int ek, .int em, .int eh, .int es, .int ed, .int el, .ref v10, .long hs])), (v0, .inl (cI, 4, .inl kd)), (v1, .inl (cI, 4, .inl (keR ke 0))), (v2, .inl (cI, 4, .inl co)), (v3, .inl (cI, 4, .inl (keR ke 1))), (v4, .inl (cI, 4, .inl (keR ke 2))), (v5, .inl (cI, 4, .inl (upd (upd (upd (upd de 0 (ke 3)) 1 (ke 9)) 2 (ke 15)) 3 (ke 21)))), (v6, .inl (cI, 4, .inl (upd (upd (upd (upd us 0 (ke 4)) 1 (ke 10)) 2 (ke 16)) 3 (ke 22)))), (v7, .inl (cI, 4, .inl (upd (upd (upd (upd tm 0 (ke 5)) 1 (ke 11)) 2 (ke 17)) 3 (ke 23)))), (v8, .inl (cB, 18, .inl lt)), (v9, .inl (cI, 4, .inl sv)), (v10, .inl (cI, 24, .inl ke))] := hD
      have hP := va_P.arr (g := keR ke 3) hP 6 rfl (fun j hj => co_4 (P := fun j => (upd (upd (upd (upd de 0 (ke 3)) 1 (ke 9)) 2 (ke 15)) 3 (ke 21)) j = keR ke 3 j) rfl rfl rfl rfl hj)
      have hD := va_D.set (p := 6) (e := .inl (cI, 4, .inl (keR ke 3))) hD rfl
      have hP : va_P D vwCl [(vh, .inr (6, [.int mm, .int (nI n), .int tl, .int eh, .ref v0, .ref v1, .ref v2, .ref v3, .ref v4, .ref v5, .ref v6, .int es, .int ed, .ref v7, .int el, .int ak, .int (nI k), .ref v8, .int isw, .int nw, .ref v9, .long sn, .int ek, .int em, .int eh, .int es, .int ed, .int el, .ref v10, .long hs])), (v0, .inl (cI, 4, .inl kd)), (v1, .inl (cI, 4, .inl (keR ke 0))), (v2, .inl (cI, 4, .inl co)), (v3, .inl (cI, 4, .inl (keR ke 1))), (v4, .inl (cI, 4, .inl (keR ke 2))), (v5, .inl (cI, 4, .inl (keR ke 3))), (v6, .inl (cI, 4, .inl (upd (upd (upd (upd us 0 (ke 4)) 1 (ke 10)) 2 (ke 16)) 3 (ke 22)))), (v7, .inl (cI, 4, .inl (upd (upd (upd (upd tm 0 (ke 5)) 1 (ke 11)) 2 (ke 17)) 3 (ke 23)))), (v8, .inl (cB, 18, .inl lt)), (v9, .inl (cI, 4, .inl sv)), (v10, .inl (cI, 24, .inl ke))] H := hP
      have hD : va_D A [(vh, .inr (6, [.int mm, .int (nI n), .int tl, .int eh, .ref v0, .ref v1, .ref v2, .ref v3, .ref v4, .ref v5, .ref v6, .int es, .int ed, .ref v7, .int el, .int ak, .int (nI k), .ref v8, .int isw, .int nw, .ref v9, .long sn, .int ek, .int em, .int eh, .int es, .int ed, .int el, .ref v10, .long hs])), (v0, .inl (cI, 4, .inl kd)), (v1, .inl (cI, 4, .inl (keR ke 0))), (v2, .inl (cI, 4, .inl co)), (v3, .inl (cI, 4, .inl (keR ke 1))), (v4, .inl (cI, 4, .inl (keR ke 2))), (v5, .inl (cI, 4, .inl (keR ke 3))), (v6, .inl (cI, 4, .inl (upd (upd (upd (upd us 0 (ke 4)) 1 (ke 10)) 2 (ke 16)) 3 (ke 22)))), (v7, .inl (cI, 4, .inl (upd (upd (upd (upd tm 0 (ke 5)) 1 (ke 11)) 2 (ke 17)) 3 (ke 23)))), (v8, .inl (cB, 18, .inl lt)), (v9, .inl (cI, 4, .inl sv)), (v10, .inl (cI, 24, .inl ke))] := hD
      have hP := va_P.arr (g := keR ke 4) hP 7 rfl (fun j hj => co_4 (P := fun j => (upd (upd (upd (upd us 0 (ke 4)) 1 (ke 10)) 2 (ke 16)) 3 (ke 22)) j = keR ke 4 j) rfl rfl rfl rfl hj)
      have hD := va_D.set (p := 7) (e := .inl (cI, 4, .inl (keR ke 4))) hD rfl
      have hP : va_P D vwCl [(vh, .inr (6, [.int mm, .int (nI n), .int tl, .int eh, .ref v0, .ref v1, .ref v2, .ref v3, .ref v4, .ref v5, .ref v6, .int es, .int ed, .ref v7, .int el, .int ak, .int (nI k), .ref v8, .int isw, .int nw, .ref v9, .long sn, .int ek, .int em, .int eh, .int es, .int ed, .int el, .ref v10, .long hs])), (v0, .inl (cI, 4, .inl kd)), (v1, .inl (cI, 4, .inl (keR ke 0))), (v2, .inl (cI, 4, .inl co)), (v3, .inl (cI, 4, .inl (keR ke 1))), (v4, .inl (cI, 4, .inl (keR ke 2))), (v5, .inl (cI, 4, .inl (keR ke 3))), (v6, .inl (cI, 4, .inl (keR ke 4))), (v7, .inl (cI, 4, .inl (upd (upd (upd (upd tm 0 (ke 5)) 1 (ke 11)) 2 (ke 17)) 3 (ke 23)))), (v8, .inl (cB, 18, .inl lt)), (v9, .inl (cI, 4, .inl sv)), (v10, .inl (cI, 24, .inl ke))] H := hP
      have hD : va_D A [(vh, .inr (6, [.int mm, .int (nI n), .int tl, .int eh, .ref v0, .ref v1, .ref v2, .ref v3, .ref v4, .ref v5, .ref v6, .int es, .int ed, .ref v7, .int el, .int ak, .int (nI k), .ref v8, .int isw, .int nw, .ref v9, .long sn, .int ek, .int em, .int eh, .int es, .int ed, .int el, .ref v10, .long hs])), (v0, .inl (cI, 4, .inl kd)), (v1, .inl (cI, 4, .inl (keR ke 0))), (v2, .inl (cI, 4, .inl co)), (v3, .inl (cI, 4, .inl (keR ke 1))), (v4, .inl (cI, 4, .inl (keR ke 2))), (v5, .inl (cI, 4, .inl (keR ke 3))), (v6, .inl (cI, 4, .inl (keR ke 4))), (v7, .inl (cI, 4, .inl (upd (upd (upd (upd tm 0 (ke 5)) 1 (ke 11)) 2 (ke 17)) 3 (ke 23)))), (v8, .inl (cB, 18, .inl lt)), (v9, .inl (cI, 4, .inl sv)), (v10, .inl (cI, 24, .inl ke))] := hD
      have hP := va_P.arr (g := keR ke 5) hP 8 rfl (fun j hj => co_4 (P := fun j => (upd (upd (upd (upd tm 0 (ke 5)) 1 (ke 11)) 2 (ke 17)) 3 (ke 23)) j = keR ke 5 j) rfl rfl rfl rfl hj)
      have hD := va_D.set (p := 8) (e := .inl (cI, 4, .inl (keR ke 5))) hD rfl
      have hP : va_P D vwCl [(vh, .inr (6, [.int mm, .int (nI n), .int tl, .int eh, .ref v0, .ref v1, .ref v2, .ref v3, .ref v4, .ref v5, .ref v6, .int es, .int ed, .ref v7, .int el, .int ak, .int (nI k), .ref v8, .int isw, .int nw, .ref v9, .long sn, .int ek, .int em, .int eh, .int es, .int ed, .int el, .ref v10, .long hs])), (v0, .inl (cI, 4, .inl kd)), (v1, .inl (cI, 4, .inl (keR ke 0))), (v2, .inl (cI, 4, .inl co)), (v3, .inl (cI, 4, .inl (keR ke 1))), (v4, .inl (cI, 4, .inl (keR ke 2))), (v5, .inl (cI, 4, .inl (keR ke 3))), (v6, .inl (cI, 4, .inl (keR ke 4))), (v7, .inl (cI, 4, .inl (keR ke 5))), (v8, .inl (cB, 18, .inl lt)), (v9, .inl (cI, 4, .inl sv)), (v10, .inl (cI, 24, .inl ke))] H := hP
      have hD : va_D A [(vh, .inr (6, [.int mm, .int (nI n), .int tl, .int eh, .ref v0, .ref v1, .ref v2, .ref v3, .ref v4, .ref v5, .ref v6, .int es, .int ed, .ref v7, .int el, .int ak, .int (nI k), .ref v8, .int isw, .int nw, .ref v9, .long sn, .int ek, .int em, .int eh, .int es, .int ed, .int el, .ref v10, .long hs])), (v0, .inl (cI, 4, .inl kd)), (v1, .inl (cI, 4, .inl (keR ke 0))), (v2, .inl (cI, 4, .inl co)), (v3, .inl (cI, 4, .inl (keR ke 1))), (v4, .inl (cI, 4, .inl (keR ke 2))), (v5, .inl (cI, 4, .inl (keR ke 3))), (v6, .inl (cI, 4, .inl (keR ke 4))), (v7, .inl (cI, 4, .inl (keR ke 5))), (v8, .inl (cB, 18, .inl lt)), (v9, .inl (cI, 4, .inl sv)), (v10, .inl (cI, 24, .inl ke))] := hD
      have eG : f_X6_restore st gt pd de us tm ke mm ho sl hd lo ek em eh es ed el = (eh, eh, es, ed, el, keR ke 0, keR ke 1, keR ke 2, keR ke 3, keR ke 4, keR ke 5) := (if_neg c_1).trans (if_pos c_2)
      exact retWi (u := ()) hx hb hr hlocks (by rw [eG]) (by rw [eG]; exact hP) (by rw [eG]; exact hD) hS dX6_restore_170
    · refine lv_bipush (v := (-103)) hx hb dX6_restore_18 (by decide) ?_
      have eG : f_X6_restore st gt pd de us tm ke mm ho sl hd lo ek em eh es ed el = ((-103), ho, sl, hd, lo, st, gt, pd, de, us, tm) := (if_neg c_1).trans (if_neg c_2)
      exact retWi (u := ()) hx hb hr hlocks (by rw [eG]) (by rw [eG]; exact hP) (by rw [eG]; exact hD) hS dX6_restore_20
