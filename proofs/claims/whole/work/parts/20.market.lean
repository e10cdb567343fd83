def sumL (f : Nat → Int32) : Nat → Int32
  | 0 => 0
  | k + 1 => sumL f k + f k
def f_X2_isOpen (n : Nat) : Int32 := if (nI n) ≤ 0 then 0 else 1
set_option maxHeartbeats 4000000 in
set_option maxRecDepth 100000 in
theorem c_X2_isOpen (l : Launch) (D : va_G) (cB cC cI : ClassId) (mh : Nat) (m0 : Nat) (m1 : Nat) (m2 : Nat) (m3 : Nat) (m4 : Nat) (m5 : Nat) (m6 : Nat) (kd : Nat → Int32) (st : Nat → Int32) (co : Nat → Int32) (gt : Nat → Int32) (pd : Nat → Int32) (de : Nat → Int32) (us : Nat → Int32) (n : Nat) (tl : Int32) (ho : Int32) (sl : Int32)  : Met l yX2_isOpen wsX2_isOpen ({ frames := 0, cells := 0, slots := 0, locals := 0 }) (gPr D cB cC cI [.ref mh] [(mh, .inr (2, [.ref m0, .ref m1, .ref m2, .ref m3, .ref m4, .ref m5, .ref m6, .int (nI n), .int tl, .int ho, .int sl])), (m0, .inl (cI, 4, .inl kd)), (m1, .inl (cI, 4, .inl st)), (m2, .inl (cI, 4, .inl co)), (m3, .inl (cI, 4, .inl gt)), (m4, .inl (cI, 4, .inl pd)), (m5, .inl (cI, 4, .inl de)), (m6, .inl (cI, 4, .inl us))]) (vp_Si (fun r => r = (f_X2_isOpen n))) 0 0 (fun _ => False) := by
  refine metR (cc := cX2_isOpen) (maxL := 1) (ret := (some .boolean)) RX2 rfl (by decide) rfl (Nat.le_of_ble_eq_true rfl) ?_
  intro p e s m below meth c hx hb hr hml hown hts hlocks hP hK ls hl
  have iwX2 : ∀ w ∈ wsX20, w ∈ wsX2_isOpen := by decide +kernel
  have fk33 := hts (.fieldLink RX2 33 "BuyersWeights$Market" "houses" "I") (by decide +kernel)
  have hl : lv_has ls 1 [(0, .ref mh)] := hl
  refine lv_aload_n hx hb dX2_isOpen_0 rfl (lv_at hl 0 rfl) ?_
  refine va_get (D := D) (ci := 2) (v := .int (nI n)) (C := RX2) (T := TX2) (N := 11) hx hb hts iwX2 hown hK.1 hP 0 rfl rfl 7 (by decide) fk33 (fun _ h9 => h9) rfl dX2_isOpen_1 ?_
  refine lv_if_le (tgt := 11) hx hb dX2_isOpen_4 (by decide) (fun c_1 => ?_) (fun c_1 => ?_)
  · refine lv_iconst (v := 0) hx hb dX2_isOpen_11 (by decide) ?_
    have eG : f_X2_isOpen n = 0 := if_pos c_1
    exact retRz hx hb hr hlocks rfl eG.symm dX2_isOpen_12
  · refine lv_iconst (v := 1) hx hb dX2_isOpen_7 (by decide) ?_
    refine lv_goto (tgt := 12) hx hb dX2_isOpen_8 (by decide) ?_
    have eG : f_X2_isOpen n = 1 := if_neg c_1
    exact retRz hx hb hr hlocks rfl eG.symm dX2_isOpen_12
def f_X2_has (n : Nat) (b : Int32) : Int32 := if b < 0 then 0 else if (nI n) ≤ b then 0 else 1
set_option maxHeartbeats 4000000 in
set_option maxRecDepth 100000 in
theorem c_X2_has (l : Launch) (D : va_G) (cB cC cI : ClassId) (mh : Nat) (m0 : Nat) (m1 : Nat) (m2 : Nat) (m3 : Nat) (m4 : Nat) (m5 : Nat) (m6 : Nat) (kd : Nat → Int32) (st : Nat → Int32) (co : Nat → Int32) (gt : Nat → Int32) (pd : Nat → Int32) (de : Nat → Int32) (us : Nat → Int32) (n : Nat) (tl : Int32) (ho : Int32) (sl : Int32) (b : Int32)  : Met l yX2_has wsX2_has ({ frames := 0, cells := 0, slots := 0, locals := 0 }) (gPr D cB cC cI [.ref mh, .int b] [(mh, .inr (2, [.ref m0, .ref m1, .ref m2, .ref m3, .ref m4, .ref m5, .ref m6, .int (nI n), .int tl, .int ho, .int sl])), (m0, .inl (cI, 4, .inl kd)), (m1, .inl (cI, 4, .inl st)), (m2, .inl (cI, 4, .inl co)), (m3, .inl (cI, 4, .inl gt)), (m4, .inl (cI, 4, .inl pd)), (m5, .inl (cI, 4, .inl de)), (m6, .inl (cI, 4, .inl us))]) (vp_Si (fun r => r = (f_X2_has n b))) 0 0 (fun _ => False) := by
  refine metR (cc := cX2_has) (maxL := 2) (ret := (some .boolean)) RX2 rfl (by decide) rfl (Nat.le_of_ble_eq_true rfl) ?_
  intro p e s m below meth c hx hb hr hml hown hts hlocks hP hK ls hl
  have iwX2 : ∀ w ∈ wsX20, w ∈ wsX2_has := by decide +kernel
  have fk33 := hts (.fieldLink RX2 33 "BuyersWeights$Market" "houses" "I") (by decide +kernel)
  have hl : lv_has ls 2 [(0, .ref mh), (1, .int b)] := hl
  refine lv_iload_n hx hb dX2_has_0 rfl (lv_at hl 1 rfl) ?_
  refine lv_if_lt (tgt := 16) hx hb dX2_has_1 (by decide) (fun c_1 => ?_) (fun c_1 => ?_)
  · refine lv_iconst (v := 0) hx hb dX2_has_16 (by decide) ?_
    have eG : f_X2_has n b = 0 := if_pos c_1
    exact retRz hx hb hr hlocks rfl eG.symm dX2_has_17
  · refine lv_iload_n hx hb dX2_has_4 rfl (lv_at hl 1 rfl) ?_
    refine lv_aload_n hx hb dX2_has_5 rfl (lv_at hl 0 rfl) ?_
    refine va_get (D := D) (ci := 2) (v := .int (nI n)) (C := RX2) (T := TX2) (N := 11) hx hb hts iwX2 hown hK.1 hP 0 rfl rfl 7 (by decide) fk33 (fun _ h9 => h9) rfl dX2_has_6 ?_
    refine lv_icmp_ge (tgt := 16) hx hb dX2_has_9 (by decide) (fun c_2 => ?_) (fun c_2 => ?_)
    · refine lv_iconst (v := 0) hx hb dX2_has_16 (by decide) ?_
      have eG : f_X2_has n b = 0 := (if_neg c_1).trans (if_pos c_2)
      exact retRz hx hb hr hlocks rfl eG.symm dX2_has_17
    · refine lv_iconst (v := 1) hx hb dX2_has_12 (by decide) ?_
      refine lv_goto (tgt := 17) hx hb dX2_has_13 (by decide) ?_
      have eG : f_X2_has n b = 1 := (if_neg c_1).trans (if_neg c_2)
      exact retRz hx hb hr hlocks rfl eG.symm dX2_has_17
def f_X2_tell (kd : Nat → Int32) (st : Nat → Int32) (co : Nat → Int32) (gt : Nat → Int32) (pd : Nat → Int32) (de : Nat → Int32) (us : Nat → Int32) (j : Nat) (w : Int32) : Int32 := if w = 0 then kd j else if w = 1 then st j else if w = 2 then co j else if w = 3 then gt j else if w = 4 then pd j else if w = 5 then de j else us j
set_option maxHeartbeats 4000000 in
set_option maxRecDepth 100000 in
theorem c_X2_tell (l : Launch) (D : va_G) (cB cC cI : ClassId) (mh : Nat) (m0 : Nat) (m1 : Nat) (m2 : Nat) (m3 : Nat) (m4 : Nat) (m5 : Nat) (m6 : Nat) (kd : Nat → Int32) (st : Nat → Int32) (co : Nat → Int32) (gt : Nat → Int32) (pd : Nat → Int32) (de : Nat → Int32) (us : Nat → Int32) (n : Nat) (tl : Int32) (ho : Int32) (sl : Int32) (b : Int32) (j : Nat) (w : Int32) (hb4 : ix b j 4) : Met l yX2_tell wsX2_tell ({ frames := 0, cells := 0, slots := 0, locals := 0 }) (gPr D cB cC cI [.ref mh, .int b, .int w] [(mh, .inr (2, [.ref m0, .ref m1, .ref m2, .ref m3, .ref m4, .ref m5, .ref m6, .int (nI n), .int tl, .int ho, .int sl])), (m0, .inl (cI, 4, .inl kd)), (m1, .inl (cI, 4, .inl st)), (m2, .inl (cI, 4, .inl co)), (m3, .inl (cI, 4, .inl gt)), (m4, .inl (cI, 4, .inl pd)), (m5, .inl (cI, 4, .inl de)), (m6, .inl (cI, 4, .inl us))]) (vp_Si (fun r => r = (f_X2_tell kd st co gt pd de us j w))) 0 0 (fun _ => False) := by
  refine metR (cc := cX2_tell) (maxL := 3) (ret := (some .int)) RX2 rfl (by decide) rfl (Nat.le_of_ble_eq_true rfl) ?_
  intro p e s m below meth c hx hb hr hml hown hts hlocks hP hK ls hl
  have iwX2 : ∀ w ∈ wsX20, w ∈ wsX2_tell := by decide +kernel
  have fk9 := hts (.fieldLink RX2 9 "BuyersWeights$Market" "kinds" "[I") (by decide +kernel)
  have fk15 := hts (.fieldLink RX2 15 "BuyersWeights$Market" "stones" "[I") (by decide +kernel)
  have fk18 := hts (.fieldLink RX2 18 "BuyersWeights$Market" "coins" "[I") (by decide +kernel)
  have fk21 := hts (.fieldLink RX2 21 "BuyersWeights$Market" "got" "[I") (by decide +kernel)
  have fk24 := hts (.fieldLink RX2 24 "BuyersWeights$Market" "paid" "[I") (by decide +kernel)
  have fk27 := hts (.fieldLink RX2 27 "BuyersWeights$Market" "dealt" "[I") (by decide +kernel)
  have fk30 := hts (.fieldLink RX2 30 "BuyersWeights$Market" "used" "[I") (by decide +kernel)
  have hl : lv_has ls 3 [(0, .ref mh), (1, .int b), (2, .int w)] := hl
  refine lv_iload_n hx hb dX2_tell_0 rfl (lv_at hl 2 rfl) ?_
  by_cases k_1 : w = 0
  · refine lv_tableIn (off := 39) (tgt := 40) hx hb dX2_tell_1 (by rw [k_1]; decide) (by rw [k_1]; decide) (by rw [k_1]; decide +kernel) (by decide) ?_
    refine lv_aload_n hx hb dX2_tell_40 rfl (lv_at hl 0 rfl) ?_
    refine va_get (D := D) (ci := 2) (v := .ref m0) (C := RX2) (T := TX2) (N := 11) hx hb hts iwX2 hown hK.1 hP 0 rfl rfl 0 (by decide) fk9 (fun _ h9 => h9) rfl dX2_tell_41 ?_
    refine lv_iload_n hx hb dX2_tell_44 rfl (lv_at hl 1 rfl) ?_
    refine my_iald hx hb hK hP 1 rfl (j := j) hb4 dX2_tell_45 ?_
    have eG : f_X2_tell kd st co gt pd de us j w = kd j := if_pos k_1
    exact retRi hx hb hr hlocks eG.symm dX2_tell_46
  · by_cases k_2 : w = 1
    · refine lv_tableIn (off := 46) (tgt := 47) hx hb dX2_tell_1 (by rw [k_2]; decide) (by rw [k_2]; decide) (by rw [k_2]; decide +kernel) (by decide) ?_
      refine lv_aload_n hx hb dX2_tell_47 rfl (lv_at hl 0 rfl) ?_
      refine va_get (D := D) (ci := 2) (v := .ref m1) (C := RX2) (T := TX2) (N := 11) hx hb hts iwX2 hown hK.1 hP 0 rfl rfl 1 (by decide) fk15 (fun _ h9 => h9) rfl dX2_tell_48 ?_
      refine lv_iload_n hx hb dX2_tell_51 rfl (lv_at hl 1 rfl) ?_
      refine my_iald hx hb hK hP 2 rfl (j := j) hb4 dX2_tell_52 ?_
      have eG : f_X2_tell kd st co gt pd de us j w = st j := (if_neg k_1).trans (if_pos k_2)
      exact retRi hx hb hr hlocks eG.symm dX2_tell_53
    · by_cases k_3 : w = 2
      · refine lv_tableIn (off := 53) (tgt := 54) hx hb dX2_tell_1 (by rw [k_3]; decide) (by rw [k_3]; decide) (by rw [k_3]; decide +kernel) (by decide) ?_
        refine lv_aload_n hx hb dX2_tell_54 rfl (lv_at hl 0 rfl) ?_
        refine va_get (D := D) (ci := 2) (v := .ref m2) (C := RX2) (T := TX2) (N := 11) hx hb hts iwX2 hown hK.1 hP 0 rfl rfl 2 (by decide) fk18 (fun _ h9 => h9) rfl dX2_tell_55 ?_
        refine lv_iload_n hx hb dX2_tell_58 rfl (lv_at hl 1 rfl) ?_
        refine my_iald hx hb hK hP 3 rfl (j := j) hb4 dX2_tell_59 ?_
        have eG : f_X2_tell kd st co gt pd de us j w = co j := (if_neg k_1).trans ((if_neg k_2).trans (if_pos k_3))
        exact retRi hx hb hr hlocks eG.symm dX2_tell_60
      · by_cases k_4 : w = 3
        · refine lv_tableIn (off := 60) (tgt := 61) hx hb dX2_tell_1 (by rw [k_4]; decide) (by rw [k_4]; decide) (by rw [k_4]; decide +kernel) (by decide) ?_
          refine lv_aload_n hx hb dX2_tell_61 rfl (lv_at hl 0 rfl) ?_
          refine va_get (D := D) (ci := 2) (v := .ref m3) (C := RX2) (T := TX2) (N := 11) hx hb hts iwX2 hown hK.1 hP 0 rfl rfl 3 (by decide) fk21 (fun _ h9 => h9) rfl dX2_tell_62 ?_
          refine lv_iload_n hx hb dX2_tell_65 rfl (lv_at hl 1 rfl) ?_
          refine my_iald hx hb hK hP 4 rfl (j := j) hb4 dX2_tell_66 ?_
          have eG : f_X2_tell kd st co gt pd de us j w = gt j := (if_neg k_1).trans ((if_neg k_2).trans ((if_neg k_3).trans (if_pos k_4)))
          exact retRi hx hb hr hlocks eG.symm dX2_tell_67
        · by_cases k_5 : w = 4
          · refine lv_tableIn (off := 67) (tgt := 68) hx hb dX2_tell_1 (by rw [k_5]; decide) (by rw [k_5]; decide) (by rw [k_5]; decide +kernel) (by decide) ?_
            refine lv_aload_n hx hb dX2_tell_68 rfl (lv_at hl 0 rfl) ?_
            refine va_get (D := D) (ci := 2) (v := .ref m4) (C := RX2) (T := TX2) (N := 11) hx hb hts iwX2 hown hK.1 hP 0 rfl rfl 4 (by decide) fk24 (fun _ h9 => h9) rfl dX2_tell_69 ?_
            refine lv_iload_n hx hb dX2_tell_72 rfl (lv_at hl 1 rfl) ?_
            refine my_iald hx hb hK hP 5 rfl (j := j) hb4 dX2_tell_73 ?_
            have eG : f_X2_tell kd st co gt pd de us j w = pd j := (if_neg k_1).trans ((if_neg k_2).trans ((if_neg k_3).trans ((if_neg k_4).trans (if_pos k_5))))
            exact retRi hx hb hr hlocks eG.symm dX2_tell_74
          · by_cases k_6 : w = 5
            · refine lv_tableIn (off := 74) (tgt := 75) hx hb dX2_tell_1 (by rw [k_6]; decide) (by rw [k_6]; decide) (by rw [k_6]; decide +kernel) (by decide) ?_
              refine lv_aload_n hx hb dX2_tell_75 rfl (lv_at hl 0 rfl) ?_
              refine va_get (D := D) (ci := 2) (v := .ref m5) (C := RX2) (T := TX2) (N := 11) hx hb hts iwX2 hown hK.1 hP 0 rfl rfl 5 (by decide) fk27 (fun _ h9 => h9) rfl dX2_tell_76 ?_
              refine lv_iload_n hx hb dX2_tell_79 rfl (lv_at hl 1 rfl) ?_
              refine my_iald hx hb hK hP 6 rfl (j := j) hb4 dX2_tell_80 ?_
              have eG : f_X2_tell kd st co gt pd de us j w = de j := (if_neg k_1).trans ((if_neg k_2).trans ((if_neg k_3).trans ((if_neg k_4).trans ((if_neg k_5).trans (if_pos k_6)))))
              exact retRi hx hb hr hlocks eG.symm dX2_tell_81
            · have hout : w.toInt < 0 ∨ 5 < w.toInt := by
                have q0 := lv_neT (a := 0) k_1 (by decide)
                have q1 := lv_neT (a := 1) k_2 (by decide)
                have q2 := lv_neT (a := 2) k_3 (by decide)
                have q3 := lv_neT (a := 3) k_4 (by decide)
                have q4 := lv_neT (a := 4) k_5 (by decide)
                have q5 := lv_neT (a := 5) k_6 (by decide)
                omega
              refine lv_tableOut (tgt := 82) hx hb dX2_tell_1 hout (by decide) ?_
              refine lv_aload_n hx hb dX2_tell_82 rfl (lv_at hl 0 rfl) ?_
              refine va_get (D := D) (ci := 2) (v := .ref m6) (C := RX2) (T := TX2) (N := 11) hx hb hts iwX2 hown hK.1 hP 0 rfl rfl 6 (by decide) fk30 (fun _ h9 => h9) rfl dX2_tell_83 ?_
              refine lv_iload_n hx hb dX2_tell_86 rfl (lv_at hl 1 rfl) ?_
              refine my_iald hx hb hK hP 7 rfl (j := j) hb4 dX2_tell_87 ?_
              have eG : f_X2_tell kd st co gt pd de us j w = us j := (if_neg k_1).trans ((if_neg k_2).trans ((if_neg k_3).trans ((if_neg k_4).trans ((if_neg k_5).trans (if_neg k_6)))))
              exact retRi hx hb hr hlocks eG.symm dX2_tell_88
def f_X2_ounces (kd : Nat → Int32) (tl : Int32) (w : Int32) (j : Nat) (q : Int32) : Int32 := if (q - q / 2 * 2) = 0 then (if (kd j) = 3 then (if ((w - tl) + 1) < 0 then 0 else ((w - tl) + 1)) else if (w - tl) < 0 then 0 else (w - tl)) else if (kd j) = 3 then (if ((w + tl) + 1) < 0 then 0 else ((w + tl) + 1)) else if (w + tl) < 0 then 0 else (w + tl)
set_option maxHeartbeats 4000000 in
set_option maxRecDepth 100000 in
theorem c_X2_ounces (l : Launch) (D : va_G) (cB cC cI : ClassId) (mh : Nat) (m0 : Nat) (m1 : Nat) (m2 : Nat) (m3 : Nat) (m4 : Nat) (m5 : Nat) (m6 : Nat) (kd : Nat → Int32) (st : Nat → Int32) (co : Nat → Int32) (gt : Nat → Int32) (pd : Nat → Int32) (de : Nat → Int32) (us : Nat → Int32) (n : Nat) (tl : Int32) (ho : Int32) (sl : Int32) (w : Int32) (b : Int32) (j : Nat) (q : Int32) (hb4 : ix b j 4) : Met l yX2_ounces wsX2_ounces ({ frames := 1, cells := 0, slots := 0, locals := 13 }) (gPr D cB cC cI [.ref mh, .int w, .int b, .int q] [(mh, .inr (2, [.ref m0, .ref m1, .ref m2, .ref m3, .ref m4, .ref m5, .ref m6, .int (nI n), .int tl, .int ho, .int sl])), (m0, .inl (cI, 4, .inl kd)), (m1, .inl (cI, 4, .inl st)), (m2, .inl (cI, 4, .inl co)), (m3, .inl (cI, 4, .inl gt)), (m4, .inl (cI, 4, .inl pd)), (m5, .inl (cI, 4, .inl de)), (m6, .inl (cI, 4, .inl us))]) (vp_Si (fun r => r = (f_X2_ounces kd tl w j q))) 0 0 (fun _ => False) := by
  refine metR (cc := cX2_ounces) (maxL := 6) (ret := (some .int)) RX2 rfl (by decide) rfl (Nat.le_of_ble_eq_true rfl) ?_
  intro p e s m below meth c hx hb hr hml hown hts hlocks hP hK ls hl
  have iwX2 : ∀ w ∈ wsX20, w ∈ wsX2_ounces := by decide +kernel
  have fk37 := hts (.fieldLink RX2 37 "BuyersWeights$Market" "tilt" "I") (by decide +kernel)
  have fk9 := hts (.fieldLink RX2 9 "BuyersWeights$Market" "kinds" "[I") (by decide +kernel)
  have hl : lv_has ls 6 [(0, .ref mh), (1, .int w), (2, .int b), (3, .int q)] := hl
  refine lv_iload_n hx hb dX2_ounces_0 rfl (lv_at hl 3 rfl) ?_
  refine lv_iconst (v := 2) hx hb dX2_ounces_1 (by decide) ?_
  refine lv_irem hx hb dX2_ounces_2 (by decide) ?_
  refine lv_if_ne (tgt := 15) hx hb dX2_ounces_3 (by decide) (fun c_1 => ?_) (fun c_1 => ?_)
  · refine lv_iload_n hx hb dX2_ounces_15 rfl (lv_at hl 1 rfl) ?_
    refine lv_aload_n hx hb dX2_ounces_16 rfl (lv_at hl 0 rfl) ?_
    refine va_get (D := D) (ci := 2) (v := .int tl) (C := RX2) (T := TX2) (N := 11) hx hb hts iwX2 hown hK.1 hP 0 rfl rfl 8 (by decide) fk37 (fun _ h9 => h9) rfl dX2_ounces_17 ?_
    refine lv_iadd hx hb dX2_ounces_20 ?_
    refine lv_istore (lv' := [(4, .int (w + tl)), (0, .ref mh), (1, .int w), (2, .int b), (3, .int q)]) hx hb dX2_ounces_21 hl (by decide) rfl (fun ls hl => ?_)
    refine lv_aload_n hx hb dX2_ounces_23 rfl (lv_at hl 1 rfl) ?_
    refine va_get (D := D) (ci := 2) (v := .ref m0) (C := RX2) (T := TX2) (N := 11) hx hb hts iwX2 hown hK.1 hP 0 rfl rfl 0 (by decide) fk9 (fun _ h9 => h9) rfl dX2_ounces_24 ?_
    refine lv_iload_n hx hb dX2_ounces_27 rfl (lv_at hl 3 rfl) ?_
    refine my_iald hx hb hK hP 1 rfl (j := j) hb4 dX2_ounces_28 ?_
    refine lv_iconst (v := 3) hx hb dX2_ounces_29 (by decide) ?_
    refine lv_icmp_ne (tgt := 40) hx hb dX2_ounces_30 (by decide) (fun c_2 => ?_) (fun c_2 => ?_)
    · refine lv_iload hx hb dX2_ounces_40 (lv_at hl 0 rfl) ?_
      refine lv_istore (lv' := [(5, .int (w + tl)), (4, .int (w + tl)), (0, .ref mh), (1, .int w), (2, .int b), (3, .int q)]) hx hb dX2_ounces_42 hl (by decide) rfl (fun ls hl => ?_)
      refine lv_iload hx hb dX2_ounces_44 (lv_at hl 0 rfl) ?_
      refine lv_iconst (v := 0) hx hb dX2_ounces_46 (by decide) ?_
      refine va_mmax hx hb (hml.trans hl.1.symm) hown (hts (.methodLink RX2 62 Lib.Math.max.name) (by decide +kernel)) (hts (.static Lib.Math.max.name) (by decide +kernel)) (hts (.initialized "java/lang/Math") (by decide +kernel)) (hts (.code Lib.Math.max.name Lib.Math.max.code 2 (some .int)) (by decide +kernel)) (Nat.le_of_ble_eq_true rfl) (Nat.le_of_ble_eq_true rfl) (Nat.zero_le _) (Nat.zero_le _) dX2_ounces_47 ?_
      have eG : f_X2_ounces kd tl w j q = if (w + tl) < 0 then 0 else (w + tl) := (if_neg c_1).trans (if_neg c_2)
      exact retRi hx hb hr hlocks eG.symm dX2_ounces_50
    · refine lv_iload hx hb dX2_ounces_33 (lv_at hl 0 rfl) ?_
      refine lv_iconst (v := 1) hx hb dX2_ounces_35 (by decide) ?_
      refine lv_iadd hx hb dX2_ounces_36 ?_
      refine lv_goto (tgt := 42) hx hb dX2_ounces_37 (by decide) ?_
      refine lv_istore (lv' := [(5, .int ((w + tl) + 1)), (4, .int (w + tl)), (0, .ref mh), (1, .int w), (2, .int b), (3, .int q)]) hx hb dX2_ounces_42 hl (by decide) rfl (fun ls hl => ?_)
      refine lv_iload hx hb dX2_ounces_44 (lv_at hl 0 rfl) ?_
      refine lv_iconst (v := 0) hx hb dX2_ounces_46 (by decide) ?_
      refine va_mmax hx hb (hml.trans hl.1.symm) hown (hts (.methodLink RX2 62 Lib.Math.max.name) (by decide +kernel)) (hts (.static Lib.Math.max.name) (by decide +kernel)) (hts (.initialized "java/lang/Math") (by decide +kernel)) (hts (.code Lib.Math.max.name Lib.Math.max.code 2 (some .int)) (by decide +kernel)) (Nat.le_of_ble_eq_true rfl) (Nat.le_of_ble_eq_true rfl) (Nat.zero_le _) (Nat.zero_le _) dX2_ounces_47 ?_
      have eG : f_X2_ounces kd tl w j q = if ((w + tl) + 1) < 0 then 0 else ((w + tl) + 1) := (if_neg c_1).trans (if_pos c_2)
      exact retRi hx hb hr hlocks eG.symm dX2_ounces_50
  · refine lv_iload_n hx hb dX2_ounces_6 rfl (lv_at hl 1 rfl) ?_
    refine lv_aload_n hx hb dX2_ounces_7 rfl (lv_at hl 0 rfl) ?_
    refine va_get (D := D) (ci := 2) (v := .int tl) (C := RX2) (T := TX2) (N := 11) hx hb hts iwX2 hown hK.1 hP 0 rfl rfl 8 (by decide) fk37 (fun _ h9 => h9) rfl dX2_ounces_8 ?_
    refine lv_isub hx hb dX2_ounces_11 ?_
    refine lv_goto (tgt := 21) hx hb dX2_ounces_12 (by decide) ?_
    refine lv_istore (lv' := [(4, .int (w - tl)), (0, .ref mh), (1, .int w), (2, .int b), (3, .int q)]) hx hb dX2_ounces_21 hl (by decide) rfl (fun ls hl => ?_)
    refine lv_aload_n hx hb dX2_ounces_23 rfl (lv_at hl 1 rfl) ?_
    refine va_get (D := D) (ci := 2) (v := .ref m0) (C := RX2) (T := TX2) (N := 11) hx hb hts iwX2 hown hK.1 hP 0 rfl rfl 0 (by decide) fk9 (fun _ h9 => h9) rfl dX2_ounces_24 ?_
    refine lv_iload_n hx hb dX2_ounces_27 rfl (lv_at hl 3 rfl) ?_
    refine my_iald hx hb hK hP 1 rfl (j := j) hb4 dX2_ounces_28 ?_
    refine lv_iconst (v := 3) hx hb dX2_ounces_29 (by decide) ?_
    refine lv_icmp_ne (tgt := 40) hx hb dX2_ounces_30 (by decide) (fun c_3 => ?_) (fun c_3 => ?_)
    · refine lv_iload hx hb dX2_ounces_40 (lv_at hl 0 rfl) ?_
      refine lv_istore (lv' := [(5, .int (w - tl)), (4, .int (w - tl)), (0, .ref mh), (1, .int w), (2, .int b), (3, .int q)]) hx hb dX2_ounces_42 hl (by decide) rfl (fun ls hl => ?_)
      refine lv_iload hx hb dX2_ounces_44 (lv_at hl 0 rfl) ?_
      refine lv_iconst (v := 0) hx hb dX2_ounces_46 (by decide) ?_
      refine va_mmax hx hb (hml.trans hl.1.symm) hown (hts (.methodLink RX2 62 Lib.Math.max.name) (by decide +kernel)) (hts (.static Lib.Math.max.name) (by decide +kernel)) (hts (.initialized "java/lang/Math") (by decide +kernel)) (hts (.code Lib.Math.max.name Lib.Math.max.code 2 (some .int)) (by decide +kernel)) (Nat.le_of_ble_eq_true rfl) (Nat.le_of_ble_eq_true rfl) (Nat.zero_le _) (Nat.zero_le _) dX2_ounces_47 ?_
      have eG : f_X2_ounces kd tl w j q = if (w - tl) < 0 then 0 else (w - tl) := (if_pos c_1).trans (if_neg c_3)
      exact retRi hx hb hr hlocks eG.symm dX2_ounces_50
    · refine lv_iload hx hb dX2_ounces_33 (lv_at hl 0 rfl) ?_
      refine lv_iconst (v := 1) hx hb dX2_ounces_35 (by decide) ?_
      refine lv_iadd hx hb dX2_ounces_36 ?_
      refine lv_goto (tgt := 42) hx hb dX2_ounces_37 (by decide) ?_
      refine lv_istore (lv' := [(5, .int ((w - tl) + 1)), (4, .int (w - tl)), (0, .ref mh), (1, .int w), (2, .int b), (3, .int q)]) hx hb dX2_ounces_42 hl (by decide) rfl (fun ls hl => ?_)
      refine lv_iload hx hb dX2_ounces_44 (lv_at hl 0 rfl) ?_
      refine lv_iconst (v := 0) hx hb dX2_ounces_46 (by decide) ?_
      refine va_mmax hx hb (hml.trans hl.1.symm) hown (hts (.methodLink RX2 62 Lib.Math.max.name) (by decide +kernel)) (hts (.static Lib.Math.max.name) (by decide +kernel)) (hts (.initialized "java/lang/Math") (by decide +kernel)) (hts (.code Lib.Math.max.name Lib.Math.max.code 2 (some .int)) (by decide +kernel)) (Nat.le_of_ble_eq_true rfl) (Nat.le_of_ble_eq_true rfl) (Nat.zero_le _) (Nat.zero_le _) dX2_ounces_47 ?_
      have eG : f_X2_ounces kd tl w j q = if ((w - tl) + 1) < 0 then 0 else ((w - tl) + 1) := (if_pos c_1).trans (if_pos c_3)
      exact retRi hx hb hr hlocks eG.symm dX2_ounces_50
def f_X2_weightAfter (kd : Nat → Int32) (w : Int32) (j : Nat) (k : Nat) : Int32 := if (kd j) = 2 then (if (kd k) = 4 then (if ((w - 1) - 2) < 1 then 1 else ((w - 1) - 2)) else if (kd k) = 1 then (if ((w - 1) - 1) < 1 then 1 else ((w - 1) - 1)) else if ((w - 1) - 0) < 1 then 1 else ((w - 1) - 0)) else if (kd k) = 4 then (if ((w - 0) - 2) < 1 then 1 else ((w - 0) - 2)) else if (kd k) = 1 then (if ((w - 0) - 1) < 1 then 1 else ((w - 0) - 1)) else if ((w - 0) - 0) < 1 then 1 else ((w - 0) - 0)
set_option maxHeartbeats 4000000 in
set_option maxRecDepth 100000 in
theorem c_X2_weightAfter (l : Launch) (D : va_G) (cB cC cI : ClassId) (mh : Nat) (m0 : Nat) (m1 : Nat) (m2 : Nat) (m3 : Nat) (m4 : Nat) (m5 : Nat) (m6 : Nat) (kd : Nat → Int32) (st : Nat → Int32) (co : Nat → Int32) (gt : Nat → Int32) (pd : Nat → Int32) (de : Nat → Int32) (us : Nat → Int32) (n : Nat) (tl : Int32) (ho : Int32) (sl : Int32) (w : Int32) (b : Int32) (j : Nat) (q : Int32) (k : Nat) (hb4 : ix b j 4) (hq4 : ix q k 4) : Met l yX2_weightAfter wsX2_weightAfter ({ frames := 1, cells := 0, slots := 0, locals := 13 }) (gPr D cB cC cI [.ref mh, .int w, .int b, .int q] [(mh, .inr (2, [.ref m0, .ref m1, .ref m2, .ref m3, .ref m4, .ref m5, .ref m6, .int (nI n), .int tl, .int ho, .int sl])), (m0, .inl (cI, 4, .inl kd)), (m1, .inl (cI, 4, .inl st)), (m2, .inl (cI, 4, .inl co)), (m3, .inl (cI, 4, .inl gt)), (m4, .inl (cI, 4, .inl pd)), (m5, .inl (cI, 4, .inl de)), (m6, .inl (cI, 4, .inl us))]) (vp_Si (fun r => r = (f_X2_weightAfter kd w j k))) 0 0 (fun _ => False) := by
  refine metR (cc := cX2_weightAfter) (maxL := 6) (ret := (some .int)) RX2 rfl (by decide) rfl (Nat.le_of_ble_eq_true rfl) ?_
  intro p e s m below meth c hx hb hr hml hown hts hlocks hP hK ls hl
  have iwX2 : ∀ w ∈ wsX20, w ∈ wsX2_weightAfter := by decide +kernel
  have fk9 := hts (.fieldLink RX2 9 "BuyersWeights$Market" "kinds" "[I") (by decide +kernel)
  have hl : lv_has ls 6 [(0, .ref mh), (1, .int w), (2, .int b), (3, .int q)] := hl
  refine lv_aload_n hx hb dX2_weightAfter_0 rfl (lv_at hl 0 rfl) ?_
  refine va_get (D := D) (ci := 2) (v := .ref m0) (C := RX2) (T := TX2) (N := 11) hx hb hts iwX2 hown hK.1 hP 0 rfl rfl 0 (by decide) fk9 (fun _ h9 => h9) rfl dX2_weightAfter_1 ?_
  refine lv_iload_n hx hb dX2_weightAfter_4 rfl (lv_at hl 2 rfl) ?_
  refine my_iald hx hb hK hP 1 rfl (j := j) hb4 dX2_weightAfter_5 ?_
  refine lv_iconst (v := 2) hx hb dX2_weightAfter_6 (by decide) ?_
  refine lv_icmp_ne (tgt := 14) hx hb dX2_weightAfter_7 (by decide) (fun c_1 => ?_) (fun c_1 => ?_)
  · refine lv_iconst (v := 0) hx hb dX2_weightAfter_14 (by decide) ?_
    refine lv_istore (lv' := [(4, .int 0), (0, .ref mh), (1, .int w), (2, .int b), (3, .int q)]) hx hb dX2_weightAfter_15 hl (by decide) rfl (fun ls hl => ?_)
    refine lv_aload_n hx hb dX2_weightAfter_17 rfl (lv_at hl 1 rfl) ?_
    refine va_get (D := D) (ci := 2) (v := .ref m0) (C := RX2) (T := TX2) (N := 11) hx hb hts iwX2 hown hK.1 hP 0 rfl rfl 0 (by decide) fk9 (fun _ h9 => h9) rfl dX2_weightAfter_18 ?_
    refine lv_iload_n hx hb dX2_weightAfter_21 rfl (lv_at hl 4 rfl) ?_
    refine my_iald hx hb hK hP 1 rfl (j := k) hq4 dX2_weightAfter_22 ?_
    refine lv_iconst (v := 4) hx hb dX2_weightAfter_23 (by decide) ?_
    refine lv_icmp_ne (tgt := 31) hx hb dX2_weightAfter_24 (by decide) (fun c_2 => ?_) (fun c_2 => ?_)
    · refine lv_aload_n hx hb dX2_weightAfter_31 rfl (lv_at hl 1 rfl) ?_
      refine va_get (D := D) (ci := 2) (v := .ref m0) (C := RX2) (T := TX2) (N := 11) hx hb hts iwX2 hown hK.1 hP 0 rfl rfl 0 (by decide) fk9 (fun _ h9 => h9) rfl dX2_weightAfter_32 ?_
      refine lv_iload_n hx hb dX2_weightAfter_35 rfl (lv_at hl 4 rfl) ?_
      refine my_iald hx hb hK hP 1 rfl (j := k) hq4 dX2_weightAfter_36 ?_
      refine lv_iconst (v := 1) hx hb dX2_weightAfter_37 (by decide) ?_
      refine lv_icmp_ne (tgt := 45) hx hb dX2_weightAfter_38 (by decide) (fun c_3 => ?_) (fun c_3 => ?_)
      · refine lv_iconst (v := 0) hx hb dX2_weightAfter_45 (by decide) ?_
        refine lv_istore (lv' := [(5, .int 0), (4, .int 0), (0, .ref mh), (1, .int w), (2, .int b), (3, .int q)]) hx hb dX2_weightAfter_46 hl (by decide) rfl (fun ls hl => ?_)
        refine lv_iload_n hx hb dX2_weightAfter_48 rfl (lv_at hl 3 rfl) ?_
        refine lv_iload hx hb dX2_weightAfter_49 (lv_at hl 1 rfl) ?_
        refine lv_isub hx hb dX2_weightAfter_51 ?_
        refine lv_iload hx hb dX2_weightAfter_52 (lv_at hl 0 rfl) ?_
        refine lv_isub hx hb dX2_weightAfter_54 ?_
        refine lv_iconst (v := 1) hx hb dX2_weightAfter_55 (by decide) ?_
        refine va_mmax hx hb (hml.trans hl.1.symm) hown (hts (.methodLink RX2 62 Lib.Math.max.name) (by decide +kernel)) (hts (.static Lib.Math.max.name) (by decide +kernel)) (hts (.initialized "java/lang/Math") (by decide +kernel)) (hts (.code Lib.Math.max.name Lib.Math.max.code 2 (some .int)) (by decide +kernel)) (Nat.le_of_ble_eq_true rfl) (Nat.le_of_ble_eq_true rfl) (Nat.zero_le _) (Nat.zero_le _) dX2_weightAfter_56 ?_
        have eG : f_X2_weightAfter kd w j k = if ((w - 0) - 0) < 1 then 1 else ((w - 0) - 0) := (if_neg c_1).trans ((if_neg c_2).trans (if_neg c_3))
        exact retRi hx hb hr hlocks eG.symm dX2_weightAfter_59
      · refine lv_iconst (v := 1) hx hb dX2_weightAfter_41 (by decide) ?_
        refine lv_goto (tgt := 46) hx hb dX2_weightAfter_42 (by decide) ?_
        refine lv_istore (lv' := [(5, .int 1), (4, .int 0), (0, .ref mh), (1, .int w), (2, .int b), (3, .int q)]) hx hb dX2_weightAfter_46 hl (by decide) rfl (fun ls hl => ?_)
        refine lv_iload_n hx hb dX2_weightAfter_48 rfl (lv_at hl 3 rfl) ?_
        refine lv_iload hx hb dX2_weightAfter_49 (lv_at hl 1 rfl) ?_
        refine lv_isub hx hb dX2_weightAfter_51 ?_
        refine lv_iload hx hb dX2_weightAfter_52 (lv_at hl 0 rfl) ?_
        refine lv_isub hx hb dX2_weightAfter_54 ?_
        refine lv_iconst (v := 1) hx hb dX2_weightAfter_55 (by decide) ?_
        refine va_mmax hx hb (hml.trans hl.1.symm) hown (hts (.methodLink RX2 62 Lib.Math.max.name) (by decide +kernel)) (hts (.static Lib.Math.max.name) (by decide +kernel)) (hts (.initialized "java/lang/Math") (by decide +kernel)) (hts (.code Lib.Math.max.name Lib.Math.max.code 2 (some .int)) (by decide +kernel)) (Nat.le_of_ble_eq_true rfl) (Nat.le_of_ble_eq_true rfl) (Nat.zero_le _) (Nat.zero_le _) dX2_weightAfter_56 ?_
        have eG : f_X2_weightAfter kd w j k = if ((w - 0) - 1) < 1 then 1 else ((w - 0) - 1) := (if_neg c_1).trans ((if_neg c_2).trans (if_pos c_3))
        exact retRi hx hb hr hlocks eG.symm dX2_weightAfter_59
    · refine lv_iconst (v := 2) hx hb dX2_weightAfter_27 (by decide) ?_
      refine lv_goto (tgt := 46) hx hb dX2_weightAfter_28 (by decide) ?_
      refine lv_istore (lv' := [(5, .int 2), (4, .int 0), (0, .ref mh), (1, .int w), (2, .int b), (3, .int q)]) hx hb dX2_weightAfter_46 hl (by decide) rfl (fun ls hl => ?_)
      refine lv_iload_n hx hb dX2_weightAfter_48 rfl (lv_at hl 3 rfl) ?_
      refine lv_iload hx hb dX2_weightAfter_49 (lv_at hl 1 rfl) ?_
      refine lv_isub hx hb dX2_weightAfter_51 ?_
      refine lv_iload hx hb dX2_weightAfter_52 (lv_at hl 0 rfl) ?_
      refine lv_isub hx hb dX2_weightAfter_54 ?_
      refine lv_iconst (v := 1) hx hb dX2_weightAfter_55 (by decide) ?_
      refine va_mmax hx hb (hml.trans hl.1.symm) hown (hts (.methodLink RX2 62 Lib.Math.max.name) (by decide +kernel)) (hts (.static Lib.Math.max.name) (by decide +kernel)) (hts (.initialized "java/lang/Math") (by decide +kernel)) (hts (.code Lib.Math.max.name Lib.Math.max.code 2 (some .int)) (by decide +kernel)) (Nat.le_of_ble_eq_true rfl) (Nat.le_of_ble_eq_true rfl) (Nat.zero_le _) (Nat.zero_le _) dX2_weightAfter_56 ?_
      have eG : f_X2_weightAfter kd w j k = if ((w - 0) - 2) < 1 then 1 else ((w - 0) - 2) := (if_neg c_1).trans (if_pos c_2)
      exact retRi hx hb hr hlocks eG.symm dX2_weightAfter_59
  · refine lv_iconst (v := 1) hx hb dX2_weightAfter_10 (by decide) ?_
    refine lv_goto (tgt := 15) hx hb dX2_weightAfter_11 (by decide) ?_
    refine lv_istore (lv' := [(4, .int 1), (0, .ref mh), (1, .int w), (2, .int b), (3, .int q)]) hx hb dX2_weightAfter_15 hl (by decide) rfl (fun ls hl => ?_)
    refine lv_aload_n hx hb dX2_weightAfter_17 rfl (lv_at hl 1 rfl) ?_
    refine va_get (D := D) (ci := 2) (v := .ref m0) (C := RX2) (T := TX2) (N := 11) hx hb hts iwX2 hown hK.1 hP 0 rfl rfl 0 (by decide) fk9 (fun _ h9 => h9) rfl dX2_weightAfter_18 ?_
    refine lv_iload_n hx hb dX2_weightAfter_21 rfl (lv_at hl 4 rfl) ?_
    refine my_iald hx hb hK hP 1 rfl (j := k) hq4 dX2_weightAfter_22 ?_
    refine lv_iconst (v := 4) hx hb dX2_weightAfter_23 (by decide) ?_
    refine lv_icmp_ne (tgt := 31) hx hb dX2_weightAfter_24 (by decide) (fun c_4 => ?_) (fun c_4 => ?_)
    · refine lv_aload_n hx hb dX2_weightAfter_31 rfl (lv_at hl 1 rfl) ?_
      refine va_get (D := D) (ci := 2) (v := .ref m0) (C := RX2) (T := TX2) (N := 11) hx hb hts iwX2 hown hK.1 hP 0 rfl rfl 0 (by decide) fk9 (fun _ h9 => h9) rfl dX2_weightAfter_32 ?_
      refine lv_iload_n hx hb dX2_weightAfter_35 rfl (lv_at hl 4 rfl) ?_
      refine my_iald hx hb hK hP 1 rfl (j := k) hq4 dX2_weightAfter_36 ?_
      refine lv_iconst (v := 1) hx hb dX2_weightAfter_37 (by decide) ?_
      refine lv_icmp_ne (tgt := 45) hx hb dX2_weightAfter_38 (by decide) (fun c_5 => ?_) (fun c_5 => ?_)
      · refine lv_iconst (v := 0) hx hb dX2_weightAfter_45 (by decide) ?_
        refine lv_istore (lv' := [(5, .int 0), (4, .int 1), (0, .ref mh), (1, .int w), (2, .int b), (3, .int q)]) hx hb dX2_weightAfter_46 hl (by decide) rfl (fun ls hl => ?_)
        refine lv_iload_n hx hb dX2_weightAfter_48 rfl (lv_at hl 3 rfl) ?_
        refine lv_iload hx hb dX2_weightAfter_49 (lv_at hl 1 rfl) ?_
        refine lv_isub hx hb dX2_weightAfter_51 ?_
        refine lv_iload hx hb dX2_weightAfter_52 (lv_at hl 0 rfl) ?_
        refine lv_isub hx hb dX2_weightAfter_54 ?_
        refine lv_iconst (v := 1) hx hb dX2_weightAfter_55 (by decide) ?_
        refine va_mmax hx hb (hml.trans hl.1.symm) hown (hts (.methodLink RX2 62 Lib.Math.max.name) (by decide +kernel)) (hts (.static Lib.Math.max.name) (by decide +kernel)) (hts (.initialized "java/lang/Math") (by decide +kernel)) (hts (.code Lib.Math.max.name Lib.Math.max.code 2 (some .int)) (by decide +kernel)) (Nat.le_of_ble_eq_true rfl) (Nat.le_of_ble_eq_true rfl) (Nat.zero_le _) (Nat.zero_le _) dX2_weightAfter_56 ?_
        have eG : f_X2_weightAfter kd w j k = if ((w - 1) - 0) < 1 then 1 else ((w - 1) - 0) := (if_pos c_1).trans ((if_neg c_4).trans (if_neg c_5))
        exact retRi hx hb hr hlocks eG.symm dX2_weightAfter_59
      · refine lv_iconst (v := 1) hx hb dX2_weightAfter_41 (by decide) ?_
        refine lv_goto (tgt := 46) hx hb dX2_weightAfter_42 (by decide) ?_
        refine lv_istore (lv' := [(5, .int 1), (4, .int 1), (0, .ref mh), (1, .int w), (2, .int b), (3, .int q)]) hx hb dX2_weightAfter_46 hl (by decide) rfl (fun ls hl => ?_)
        refine lv_iload_n hx hb dX2_weightAfter_48 rfl (lv_at hl 3 rfl) ?_
        refine lv_iload hx hb dX2_weightAfter_49 (lv_at hl 1 rfl) ?_
        refine lv_isub hx hb dX2_weightAfter_51 ?_
        refine lv_iload hx hb dX2_weightAfter_52 (lv_at hl 0 rfl) ?_
        refine lv_isub hx hb dX2_weightAfter_54 ?_
        refine lv_iconst (v := 1) hx hb dX2_weightAfter_55 (by decide) ?_
        refine va_mmax hx hb (hml.trans hl.1.symm) hown (hts (.methodLink RX2 62 Lib.Math.max.name) (by decide +kernel)) (hts (.static Lib.Math.max.name) (by decide +kernel)) (hts (.initialized "java/lang/Math") (by decide +kernel)) (hts (.code Lib.Math.max.name Lib.Math.max.code 2 (some .int)) (by decide +kernel)) (Nat.le_of_ble_eq_true rfl) (Nat.le_of_ble_eq_true rfl) (Nat.zero_le _) (Nat.zero_le _) dX2_weightAfter_56 ?_
        have eG : f_X2_weightAfter kd w j k = if ((w - 1) - 1) < 1 then 1 else ((w - 1) - 1) := (if_pos c_1).trans ((if_neg c_4).trans (if_pos c_5))
        exact retRi hx hb hr hlocks eG.symm dX2_weightAfter_59
    · refine lv_iconst (v := 2) hx hb dX2_weightAfter_27 (by decide) ?_
      refine lv_goto (tgt := 46) hx hb dX2_weightAfter_28 (by decide) ?_
      refine lv_istore (lv' := [(5, .int 2), (4, .int 1), (0, .ref mh), (1, .int w), (2, .int b), (3, .int q)]) hx hb dX2_weightAfter_46 hl (by decide) rfl (fun ls hl => ?_)
      refine lv_iload_n hx hb dX2_weightAfter_48 rfl (lv_at hl 3 rfl) ?_
      refine lv_iload hx hb dX2_weightAfter_49 (lv_at hl 1 rfl) ?_
      refine lv_isub hx hb dX2_weightAfter_51 ?_
      refine lv_iload hx hb dX2_weightAfter_52 (lv_at hl 0 rfl) ?_
      refine lv_isub hx hb dX2_weightAfter_54 ?_
      refine lv_iconst (v := 1) hx hb dX2_weightAfter_55 (by decide) ?_
      refine va_mmax hx hb (hml.trans hl.1.symm) hown (hts (.methodLink RX2 62 Lib.Math.max.name) (by decide +kernel)) (hts (.static Lib.Math.max.name) (by decide +kernel)) (hts (.initialized "java/lang/Math") (by decide +kernel)) (hts (.code Lib.Math.max.name Lib.Math.max.code 2 (some .int)) (by decide +kernel)) (Nat.le_of_ble_eq_true rfl) (Nat.le_of_ble_eq_true rfl) (Nat.zero_le _) (Nat.zero_le _) dX2_weightAfter_56 ?_
      have eG : f_X2_weightAfter kd w j k = if ((w - 1) - 2) < 1 then 1 else ((w - 1) - 2) := (if_pos c_1).trans (if_pos c_4)
      exact retRi hx hb hr hlocks eG.symm dX2_weightAfter_59
set_option maxHeartbeats 4000000 in
set_option maxRecDepth 100000 in
theorem c_X2_sum (l : Launch) (D : va_G) (cB cC cI : ClassId) (mh : Nat) (m0 : Nat) (m1 : Nat) (m2 : Nat) (m3 : Nat) (m4 : Nat) (m5 : Nat) (m6 : Nat) (ra : Nat) (rf : Nat → Int32) (n : Nat) (tl : Int32) (ho : Int32) (sl : Int32) (hn : n ≤ 4) : Met l yX2_sum wsX2_sum ({ frames := 0, cells := 0, slots := 0, locals := 0 }) (gPr D cB cC cI [.ref mh, .ref ra] [(mh, .inr (2, [.ref m0, .ref m1, .ref m2, .ref m3, .ref m4, .ref m5, .ref m6, .int (nI n), .int tl, .int ho, .int sl])), (ra, .inl (cI, 4, .inl rf))]) (vp_Si (fun r => r = sumL rf n)) 0 0 (fun _ => False) := by
  refine metR (cc := cX2_sum) (maxL := 4) (ret := (some .int)) RX2 rfl (by decide) rfl (Nat.le_of_ble_eq_true rfl) ?_
  intro p e s m below meth c hx hb hr hml hown hts hlocks hP hK ls hl
  have iwX2 : ∀ w ∈ wsX20, w ∈ wsX2_sum := by decide +kernel
  have fk33 := hts (.fieldLink RX2 33 "BuyersWeights$Market" "houses" "I") (by decide +kernel)
  have cut_4 : ∀ (fu : Nat) (j : Nat), j ≤ n → n - j < fu → ∀ (ls : Array Slot), lv_has ls 4 [(0, .ref mh), (1, .ref ra), (3, .int (nI j)), (2, .int (sumL rf j))] → W p l e (headSpec wsX2_sum ({ frames := 0, cells := 0, slots := 0, locals := 0 })).room s m ([.ref mh, .ref ra] : List Value).toArray below meth c s.heap [] 0 0 (MQ below (vp_Si (fun r => r = sumL rf n)) ([.ref mh, .ref ra] : List Value).toArray s 0 0 (fun _ => False)) (F0 m 4 ls []) := by
    intro fu
    induction fu with
    | zero => intro j hj hfu; exact absurd hfu (Nat.not_lt_zero _)
    | succ fu ih_4 =>
      intro j hj hfu ls hl
      refine lv_iload_n hx hb dX2_sum_4 rfl (lv_at hl 2 rfl) ?_
      refine lv_aload_n hx hb dX2_sum_5 rfl (lv_at hl 0 rfl) ?_
      refine va_get (D := D) (ci := 2) (v := .int (nI n)) (C := RX2) (T := TX2) (N := 11) hx hb hts iwX2 hown hK.1 hP 0 rfl rfl 7 (by decide) fk33 (fun _ h9 => h9) rfl dX2_sum_6 ?_
      refine lv_icmp_ge (tgt := 24) hx hb dX2_sum_9 (by decide) (fun c_1 => ?_) (fun c_1 => ?_)
      · have hge : n ≤ j := (nI_leI (by omega) (by omega)).mp c_1
        refine lv_iload_n hx hb dX2_sum_24 rfl (lv_at hl 3 rfl) ?_
        exact retRi hx hb hr hlocks (by rw [show j = n from by omega]) dX2_sum_25
      · have hlt : j < n := Nat.lt_of_not_le fun z => c_1 ((nI_leI (by omega) (by omega)).mpr z)
        refine lv_iload_n hx hb dX2_sum_12 rfl (lv_at hl 3 rfl) ?_
        refine lv_aload_n hx hb dX2_sum_13 rfl (lv_at hl 1 rfl) ?_
        refine lv_iload_n hx hb dX2_sum_14 rfl (lv_at hl 2 rfl) ?_
        refine my_iald hx hb hK hP 1 rfl (j := j) (ix_nI (by omega) (by decide)) dX2_sum_15 ?_
        refine lv_iadd hx hb dX2_sum_16 ?_
        refine lv_istore_n (lv' := [(2, .int ((sumL rf j) + (rf j))), (0, .ref mh), (1, .ref ra), (3, .int (nI j))]) hx hb dX2_sum_17 rfl hl (by decide) rfl (fun ls hl => ?_)
        refine lv_iinc (v := nI (j + 1)) (lv' := [(3, .int (nI (j + 1))), (2, .int ((sumL rf j) + (rf j))), (0, .ref mh), (1, .ref ra)]) hx hb dX2_sum_18 hl (k := 3) rfl (nI_1 j) (by decide) rfl (fun ls hl => ?_)
        refine lv_goto (tgt := 4) hx hb dX2_sum_21 (by decide) ?_
        exact ih_4 (j + 1) (by first | assumption | omega | rfl | exact Nat.zero_le _ | decide) (by omega) ls (lv_sub hl [2, 3, 0, 1] rfl)
  have hl : lv_has ls 4 [(0, .ref mh), (1, .ref ra)] := hl
  refine lv_iconst (v := 0) hx hb dX2_sum_0 (by decide) ?_
  refine lv_istore_n (lv' := [(2, .int 0), (0, .ref mh), (1, .ref ra)]) hx hb dX2_sum_1 rfl hl (by decide) rfl (fun ls hl => ?_)
  refine lv_iconst (v := 0) hx hb dX2_sum_2 (by decide) ?_
  refine lv_istore_n (lv' := [(3, .int 0), (2, .int 0), (0, .ref mh), (1, .ref ra)]) hx hb dX2_sum_3 rfl hl (by decide) rfl (fun ls hl => ?_)
  exact cut_4 ((n - 0) + 1) 0 (by first | assumption | omega | rfl | exact Nat.zero_le _ | decide) (Nat.lt_succ_self _) ls (lv_sub hl [2, 3, 0, 1] rfl)
def f_X5_isOfKind (a1 : Int32) (a2 : Int32) : Int32 := if a2 = 0 then 1 else if a1 = a2 then 1 else if a1 = 4 then (if a2 = 1 then 1 else 0) else 0
set_option maxHeartbeats 4000000 in
set_option maxRecDepth 100000 in
theorem c_X5_isOfKind (l : Launch) (D : va_G) (cB cC cI : ClassId) (a1 : Int32) (a2 : Int32)  : Met l yX5_isOfKind wsX5_isOfKind ({ frames := 0, cells := 0, slots := 0, locals := 0 }) (gPr D cB cC cI [.int a1, .int a2] []) (vp_Si (fun r => r = (f_X5_isOfKind a1 a2))) 0 0 (fun _ => False) := by
  refine metR (cc := cX5_isOfKind) (maxL := 2) (ret := (some .boolean)) RX5 rfl (by decide) rfl (Nat.le_of_ble_eq_true rfl) ?_
  intro p e s m below meth c hx hb hr hml hown hts hlocks hP hK ls hl
  have hl : lv_has ls 2 [(0, .int a1), (1, .int a2)] := hl
  refine lv_iload_n hx hb dX5_isOfKind_0 rfl (lv_at hl 1 rfl) ?_
  refine lv_if_eq (tgt := 19) hx hb dX5_isOfKind_1 (by decide) (fun c_1 => ?_) (fun c_1 => ?_)
  · refine lv_iconst (v := 1) hx hb dX5_isOfKind_19 (by decide) ?_
    refine lv_goto (tgt := 24) hx hb dX5_isOfKind_20 (by decide) ?_
    have eG : f_X5_isOfKind a1 a2 = 1 := if_pos c_1
    exact retRz hx hb hr hlocks rfl eG.symm dX5_isOfKind_24
  · refine lv_iload_n hx hb dX5_isOfKind_4 rfl (lv_at hl 0 rfl) ?_
    refine lv_iload_n hx hb dX5_isOfKind_5 rfl (lv_at hl 1 rfl) ?_
    refine lv_icmp_eq (tgt := 19) hx hb dX5_isOfKind_6 (by decide) (fun c_2 => ?_) (fun c_2 => ?_)
    · refine lv_iconst (v := 1) hx hb dX5_isOfKind_19 (by decide) ?_
      refine lv_goto (tgt := 24) hx hb dX5_isOfKind_20 (by decide) ?_
      have eG : f_X5_isOfKind a1 a2 = 1 := (if_neg c_1).trans (if_pos c_2)
      exact retRz hx hb hr hlocks rfl eG.symm dX5_isOfKind_24
    · refine lv_iload_n hx hb dX5_isOfKind_9 rfl (lv_at hl 0 rfl) ?_
      refine lv_iconst (v := 4) hx hb dX5_isOfKind_10 (by decide) ?_
      refine lv_icmp_ne (tgt := 23) hx hb dX5_isOfKind_11 (by decide) (fun c_3 => ?_) (fun c_3 => ?_)
      · refine lv_iconst (v := 0) hx hb dX5_isOfKind_23 (by decide) ?_
        have eG : f_X5_isOfKind a1 a2 = 0 := (if_neg c_1).trans ((if_neg c_2).trans (if_neg c_3))
        exact retRz hx hb hr hlocks rfl eG.symm dX5_isOfKind_24
      · refine lv_iload_n hx hb dX5_isOfKind_14 rfl (lv_at hl 1 rfl) ?_
        refine lv_iconst (v := 1) hx hb dX5_isOfKind_15 (by decide) ?_
        refine lv_icmp_ne (tgt := 23) hx hb dX5_isOfKind_16 (by decide) (fun c_4 => ?_) (fun c_4 => ?_)
        · refine lv_iconst (v := 0) hx hb dX5_isOfKind_23 (by decide) ?_
          have eG : f_X5_isOfKind a1 a2 = 0 := (if_neg c_1).trans ((if_neg c_2).trans ((if_pos c_3).trans (if_neg c_4)))
          exact retRz hx hb hr hlocks rfl eG.symm dX5_isOfKind_24
        · refine lv_iconst (v := 1) hx hb dX5_isOfKind_19 (by decide) ?_
          refine lv_goto (tgt := 24) hx hb dX5_isOfKind_20 (by decide) ?_
          have eG : f_X5_isOfKind a1 a2 = 1 := (if_neg c_1).trans ((if_neg c_2).trans ((if_pos c_3).trans (if_pos c_4)))
          exact retRz hx hb hr hlocks rfl eG.symm dX5_isOfKind_24
def f_X5_isPlanQuestion (a1 : Int32) : Int32 := if a1 = 0 then 1 else if a1 = 1 then 1 else if a1 < 10 then 0 else if 13 ≤ a1 then 0 else 1
set_option maxHeartbeats 4000000 in
set_option maxRecDepth 100000 in
theorem c_X5_isPlanQuestion (l : Launch) (D : va_G) (cB cC cI : ClassId) (a1 : Int32)  : Met l yX5_isPlanQuestion wsX5_isPlanQuestion ({ frames := 0, cells := 0, slots := 0, locals := 0 }) (gPr D cB cC cI [.int a1] []) (vp_Si (fun r => r = (f_X5_isPlanQuestion a1))) 0 0 (fun _ => False) := by
  refine metR (cc := cX5_isPlanQuestion) (maxL := 1) (ret := (some .boolean)) RX5 rfl (by decide) rfl (Nat.le_of_ble_eq_true rfl) ?_
  intro p e s m below meth c hx hb hr hml hown hts hlocks hP hK ls hl
  have hl : lv_has ls 1 [(0, .int a1)] := hl
  refine lv_iload_n hx hb dX5_isPlanQuestion_0 rfl (lv_at hl 0 rfl) ?_
  refine lv_if_eq (tgt := 21) hx hb dX5_isPlanQuestion_1 (by decide) (fun c_1 => ?_) (fun c_1 => ?_)
  · refine lv_iconst (v := 1) hx hb dX5_isPlanQuestion_21 (by decide) ?_
    refine lv_goto (tgt := 26) hx hb dX5_isPlanQuestion_22 (by decide) ?_
    have eG : f_X5_isPlanQuestion a1 = 1 := if_pos c_1
    exact retRz hx hb hr hlocks rfl eG.symm dX5_isPlanQuestion_26
  · refine lv_iload_n hx hb dX5_isPlanQuestion_4 rfl (lv_at hl 0 rfl) ?_
    refine lv_iconst (v := 1) hx hb dX5_isPlanQuestion_5 (by decide) ?_
    refine lv_icmp_eq (tgt := 21) hx hb dX5_isPlanQuestion_6 (by decide) (fun c_2 => ?_) (fun c_2 => ?_)
    · refine lv_iconst (v := 1) hx hb dX5_isPlanQuestion_21 (by decide) ?_
      refine lv_goto (tgt := 26) hx hb dX5_isPlanQuestion_22 (by decide) ?_
      have eG : f_X5_isPlanQuestion a1 = 1 := (if_neg c_1).trans (if_pos c_2)
      exact retRz hx hb hr hlocks rfl eG.symm dX5_isPlanQuestion_26
    · refine lv_iload_n hx hb dX5_isPlanQuestion_9 rfl (lv_at hl 0 rfl) ?_
      refine lv_bipush (v := 10) hx hb dX5_isPlanQuestion_10 (by decide) ?_
      refine lv_icmp_lt (tgt := 25) hx hb dX5_isPlanQuestion_12 (by decide) (fun c_3 => ?_) (fun c_3 => ?_)
      · refine lv_iconst (v := 0) hx hb dX5_isPlanQuestion_25 (by decide) ?_
        have eG : f_X5_isPlanQuestion a1 = 0 := (if_neg c_1).trans ((if_neg c_2).trans (if_pos c_3))
        exact retRz hx hb hr hlocks rfl eG.symm dX5_isPlanQuestion_26
      · refine lv_iload_n hx hb dX5_isPlanQuestion_15 rfl (lv_at hl 0 rfl) ?_
        refine lv_bipush (v := 13) hx hb dX5_isPlanQuestion_16 (by decide) ?_
        refine lv_icmp_ge (tgt := 25) hx hb dX5_isPlanQuestion_18 (by decide) (fun c_4 => ?_) (fun c_4 => ?_)
        · refine lv_iconst (v := 0) hx hb dX5_isPlanQuestion_25 (by decide) ?_
          have eG : f_X5_isPlanQuestion a1 = 0 := (if_neg c_1).trans ((if_neg c_2).trans ((if_neg c_3).trans (if_pos c_4)))
          exact retRz hx hb hr hlocks rfl eG.symm dX5_isPlanQuestion_26
        · refine lv_iconst (v := 1) hx hb dX5_isPlanQuestion_21 (by decide) ?_
          refine lv_goto (tgt := 26) hx hb dX5_isPlanQuestion_22 (by decide) ?_
          have eG : f_X5_isPlanQuestion a1 = 1 := (if_neg c_1).trans ((if_neg c_2).trans ((if_neg c_3).trans (if_neg c_4)))
          exact retRz hx hb hr hlocks rfl eG.symm dX5_isPlanQuestion_26
set_option maxHeartbeats 4000000 in
set_option maxRecDepth 100000 in
theorem c_X5_fold (l : Launch) (D : va_G) (cB cC cI : ClassId) (a1 : Int64) (a2 : Int64)  : Met l yX5_fold wsX5_fold ({ frames := 0, cells := 0, slots := 0, locals := 0 }) (gPr D cB cC cI [.long a1, .long a2] []) (vp_Sl (fun r => r = (31 * a1) + a2)) 0 0 (fun _ => False) := by
  refine metR (cc := cX5_fold) (maxL := 4) (ret := (some .long)) RX5 rfl (by decide) rfl (Nat.le_of_ble_eq_true rfl) ?_
  intro p e s m below meth c hx hb hr hml hown hts hlocks hP hK ls hl
  have hl : lv_has ls 4 [(0, .long a1), (2, .long a2)] := hl
  refine lv_ldc2 (v := 31) hx hb hown (hts (.constantLong RX5 231 (31)) (by decide +kernel)) dX5_fold_0 ?_
  refine lv_lload_n hx hb dX5_fold_3 rfl (lv_at hl 0 rfl) ?_
  refine lv_lmul hx hb dX5_fold_4 ?_
  refine lv_lload_n hx hb dX5_fold_5 rfl (lv_at hl 1 rfl) ?_
  refine lv_ladd hx hb dX5_fold_6 ?_
  exact retRl hx hb hr hlocks rfl dX5_fold_7
