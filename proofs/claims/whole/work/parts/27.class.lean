def f_X5_letter (lt : Nat → Int32) (k : Nat) (b : Int32) : Int32 × Int32 × (Nat → Int32) := if b < 32 then ((-102), nI k, lt) else if b ≤ 126 then (if (nI k) < 18 then (nI (k + 1), nI (k + 1), upd lt k (vp_nar .char ((b.toUInt32 % 65536).toInt32))) else ((-104), nI k, lt)) else ((-102), nI k, lt)
set_option maxHeartbeats 4000000 in
set_option maxRecDepth 100000 in
theorem c_X5_letter (l : Launch) (D : va_G) (cB cC cI : ClassId) (xh : Nat) (ph : Nat) (mh : Nat) (lh : Nat) (kh : Nat) (jh : Nat) (qh : Nat) (dh : Nat) (ik : Int32) (mr : Int32) (pn : Int32) (p0 : Nat) (lt : Nat → Int32) (k : Nat) (b : Int32) (sz : Nat) (hk : k ≤ 18) : Met l yX5_letter wsX5_letter ({ frames := 1, cells := 0, slots := 0, locals := 21 }) (gPw D cB cC cI [.ref xh, .int b] [(xh, .inr (5, [.ref ph, .ref mh, .ref lh, .ref kh, .ref jh, .ref qh, .ref dh, .int ik, .int mr, .int pn])), (ph, .inr (3, [.ref p0, .int (nI k)])), (p0, .inl (cC, 18, .inl lt))] sz) (QWi D ((f_X5_letter lt k b).1) [(xh, .inr (5, [.ref ph, .ref mh, .ref lh, .ref kh, .ref jh, .ref qh, .ref dh, .int ik, .int mr, .int pn])), (ph, .inr (3, [.ref p0, .int ((f_X5_letter lt k b).2.1)])), (p0, .inl (cC, 18, .inl ((f_X5_letter lt k b).2.2)))] (va_A [(xh, .inr (5, [.ref ph, .ref mh, .ref lh, .ref kh, .ref jh, .ref qh, .ref dh, .int ik, .int mr, .int pn])), (ph, .inr (3, [.ref p0, .int (nI k)])), (p0, .inl (cC, 18, .inl lt))] sz)) 0 0 (va_A [(xh, .inr (5, [.ref ph, .ref mh, .ref lh, .ref kh, .ref jh, .ref qh, .ref dh, .int ik, .int mr, .int pn])), (ph, .inr (3, [.ref p0, .int (nI k)])), (p0, .inl (cC, 18, .inl lt))] sz) := by
  refine metW (cc := cX5_letter) (maxL := 2) (ret := (some .int)) (QA := fun A => (QWi D ((f_X5_letter lt k b).1) [(xh, .inr (5, [.ref ph, .ref mh, .ref lh, .ref kh, .ref jh, .ref qh, .ref dh, .int ik, .int mr, .int pn])), (ph, .inr (3, [.ref p0, .int ((f_X5_letter lt k b).2.1)])), (p0, .inl (cC, 18, .inl ((f_X5_letter lt k b).2.2)))] A)) RX5 rfl (by decide) rfl (Nat.le_of_ble_eq_true rfl) ?_
  intro p e s m below meth c A hx hb hr hml hown hts hlocks hin hP hK hD hA hS ls hl
  have iwX5 : ∀ w ∈ wsX50, w ∈ wsX5_letter := by decide +kernel
  have iwX3 : ∀ w ∈ wsX30, w ∈ wsX5_letter := by decide +kernel
  have fk10 := hts (.fieldLink RX5 10 "BuyersWeights" "page" "LBuyersWeights$Page;") (by decide +kernel)
  have fk61 := hts (.fieldLink RX5 61 "BuyersWeights$Page" "length" "I") (by decide +kernel)
  have hl : lv_has ls 2 [(0, .ref xh), (1, .int b)] := hl
  refine lv_iload_n hx hb dX5_letter_0 rfl (lv_at hl 1 rfl) ?_
  refine lv_bipush (v := 32) hx hb dX5_letter_1 (by decide) ?_
  refine lv_icmp_lt (tgt := 12) hx hb dX5_letter_3 (by decide) (fun c_1 => ?_) (fun c_1 => ?_)
  · refine lv_bipush (v := (-102)) hx hb dX5_letter_12 (by decide) ?_
    have eG : f_X5_letter lt k b = ((-102), nI k, lt) := if_pos c_1
    exact retWi (u := ()) hx hb hr hlocks (by rw [eG]) (by rw [eG]; exact hP) (by rw [eG]; exact hD) hS dX5_letter_14
  · refine lv_iload_n hx hb dX5_letter_6 rfl (lv_at hl 1 rfl) ?_
    refine lv_bipush (v := 126) hx hb dX5_letter_7 (by decide) ?_
    refine lv_icmp_le (tgt := 15) hx hb dX5_letter_9 (by decide) (fun c_2 => ?_) (fun c_2 => ?_)
    · refine lv_aload_n hx hb dX5_letter_15 rfl (lv_at hl 0 rfl) ?_
      refine va_get (D := D) (ci := 5) (v := .ref ph) (C := RX5) (T := TX5) (N := 10) hx hb hts iwX5 hown hK.1 hP 0 rfl rfl 0 (by decide) fk10 (fun _ h9 => h9) rfl dX5_letter_16 ?_
      refine va_get (D := D) (ci := 3) (v := .int (nI k)) (C := RX3) (T := TX3) (N := 2) hx hb hts iwX3 hown hK.1 hP 1 rfl rfl 1 (by decide) fk61 (fun _ h9 => h9) rfl dX5_letter_19 ?_
      refine lv_bipush (v := 18) hx hb dX5_letter_22 (by decide) ?_
      refine lv_icmp_lt (tgt := 30) hx hb dX5_letter_24 (by decide) (fun c_3 => ?_) (fun c_3 => ?_)
      · have hk1 : k < 18 := Nat.lt_of_not_le fun z => absurd c_3 (nI_nlt (b := 18) z (by omega))
        refine lv_aload_n hx hb dX5_letter_30 rfl (lv_at hl 0 rfl) ?_
        refine va_get (D := D) (ci := 5) (v := .ref ph) (C := RX5) (T := TX5) (N := 10) hx hb hts iwX5 hown hK.1 hP 0 rfl rfl 0 (by decide) fk10 (fun _ h9 => h9) rfl dX5_letter_31 ?_
        refine lv_iload_n hx hb dX5_letter_34 rfl (lv_at hl 1 rfl) ?_
        refine lv_i2c (v := (b.toUInt32 % 65536).toInt32) hx hb dX5_letter_35 rfl ?_
        refine wcVv1 (As := [.int ((b.toUInt32 % 65536).toInt32)]) (rest := []) (wr := [(xh, .inr (5, [.ref ph, .ref mh, .ref lh, .ref kh, .ref jh, .ref qh, .ref dh, .int ik, .int mr, .int pn]))]) (w2 := [(xh, .inr (5, [.ref ph, .ref mh, .ref lh, .ref kh, .ref jh, .ref qh, .ref dh, .int ik, .int mr, .int pn])), (ph, .inr (3, [.ref p0, .int (nI (k + 1))])), (p0, .inl (cC, 18, .inl (upd lt k (vp_nar .char ((b.toUInt32 % 65536).toInt32)))))]) ⟨hx, hb, hml, hown, hts⟩ (c_X3_add l D cB cC cI ph p0 lt k ((b.toUInt32 % 65536).toInt32) _ (by first | assumption | omega | decide)) (cwV 1 hts gX5_letter_X3_add rfl rfl rfl (by decide +kernel) ⟨Nat.le_of_ble_eq_true rfl, Nat.le_of_ble_eq_true rfl⟩) hK hP hD hS hA [1, 2] [0] [0, 1, 2] (by decide) rfl rfl (by decide) (by decide) (by decide) rfl rfl 1 rfl rfl hl.1 rfl (Nat.le_of_ble_eq_true rfl) dX5_letter_36 ⟨Nat.zero_le _, Nat.zero_le _⟩ (fun H locs hP hD hS => ?_)
        refine lv_aload_n hx hb dX5_letter_39 rfl (lv_at hl 0 rfl) ?_
        refine va_get (D := D) (ci := 5) (v := .ref ph) (C := RX5) (T := TX5) (N := 10) hx hb hts iwX5 hown hK.1 hP 0 rfl rfl 0 (by decide) fk10 (fun _ h9 => h9) rfl dX5_letter_40 ?_
        refine va_get (D := D) (ci := 3) (v := .int (nI (k + 1))) (C := RX3) (T := TX3) (N := 2) hx hb hts iwX3 hown hK.1 hP 1 rfl rfl 1 (by decide) fk61 (fun _ h9 => h9) rfl dX5_letter_43 ?_
        have eG : f_X5_letter lt k b = (nI (k + 1), nI (k + 1), upd lt k (vp_nar .char ((b.toUInt32 % 65536).toInt32))) := (if_neg c_1).trans ((if_pos c_2).trans (if_pos c_3))
        exact retWi (u := ()) hx hb hr hlocks (by rw [eG]) (by rw [eG]; exact hP) (by rw [eG]; exact hD) hS dX5_letter_46
      · refine lv_bipush (v := (-104)) hx hb dX5_letter_27 (by decide) ?_
        have eG : f_X5_letter lt k b = ((-104), nI k, lt) := (if_neg c_1).trans ((if_pos c_2).trans (if_neg c_3))
        exact retWi (u := ()) hx hb hr hlocks (by rw [eG]) (by rw [eG]; exact hP) (by rw [eG]; exact hD) hS dX5_letter_29
    · refine lv_bipush (v := (-102)) hx hb dX5_letter_12 (by decide) ?_
      have eG : f_X5_letter lt k b = ((-102), nI k, lt) := (if_neg c_1).trans (if_neg c_2)
      exact retWi (u := ()) hx hb hr hlocks (by rw [eG]) (by rw [eG]; exact hP) (by rw [eG]; exact hD) hS dX5_letter_14
set_option maxHeartbeats 4000000 in
set_option maxRecDepth 100000 in
theorem c_X5_blank (l : Launch) (D : va_G) (cB cC cI : ClassId) (xh : Nat) (ph : Nat) (mh : Nat) (lh : Nat) (kh : Nat) (jh : Nat) (qh : Nat) (dh : Nat) (ik : Int32) (mr : Int32) (pn : Int32) (p0 : Nat) (lt : Nat → Int32) (k : Nat) (sz : Nat)  : Met l yX5_blank wsX5_blank ({ frames := 1, cells := 0, slots := 0, locals := 20 }) (gPw D cB cC cI [.ref xh] [(xh, .inr (5, [.ref ph, .ref mh, .ref lh, .ref kh, .ref jh, .ref qh, .ref dh, .int ik, .int mr, .int pn])), (ph, .inr (3, [.ref p0, .int (nI k)])), (p0, .inl (cC, 18, .inl lt))] sz) (QWi D (nI k) [(xh, .inr (5, [.ref ph, .ref mh, .ref lh, .ref kh, .ref jh, .ref qh, .ref dh, .int ik, .int mr, .int pn])), (ph, .inr (3, [.ref p0, .int 0])), (p0, .inl (cC, 18, .inl lt))] (va_A [(xh, .inr (5, [.ref ph, .ref mh, .ref lh, .ref kh, .ref jh, .ref qh, .ref dh, .int ik, .int mr, .int pn])), (ph, .inr (3, [.ref p0, .int (nI k)])), (p0, .inl (cC, 18, .inl lt))] sz)) 0 0 (va_A [(xh, .inr (5, [.ref ph, .ref mh, .ref lh, .ref kh, .ref jh, .ref qh, .ref dh, .int ik, .int mr, .int pn])), (ph, .inr (3, [.ref p0, .int (nI k)])), (p0, .inl (cC, 18, .inl lt))] sz) := by
  refine metW (cc := cX5_blank) (maxL := 2) (ret := (some .int)) (QA := fun A => (QWi D (nI k) [(xh, .inr (5, [.ref ph, .ref mh, .ref lh, .ref kh, .ref jh, .ref qh, .ref dh, .int ik, .int mr, .int pn])), (ph, .inr (3, [.ref p0, .int 0])), (p0, .inl (cC, 18, .inl lt))] A)) RX5 rfl (by decide) rfl (Nat.le_of_ble_eq_true rfl) ?_
  intro p e s m below meth c A hx hb hr hml hown hts hlocks hin hP hK hD hA hS ls hl
  have iwX5 : ∀ w ∈ wsX50, w ∈ wsX5_blank := by decide +kernel
  have iwX3 : ∀ w ∈ wsX30, w ∈ wsX5_blank := by decide +kernel
  have fk10 := hts (.fieldLink RX5 10 "BuyersWeights" "page" "LBuyersWeights$Page;") (by decide +kernel)
  have fk61 := hts (.fieldLink RX5 61 "BuyersWeights$Page" "length" "I") (by decide +kernel)
  have hl : lv_has ls 2 [(0, .ref xh)] := hl
  refine lv_aload_n hx hb dX5_blank_0 rfl (lv_at hl 0 rfl) ?_
  refine va_get (D := D) (ci := 5) (v := .ref ph) (C := RX5) (T := TX5) (N := 10) hx hb hts iwX5 hown hK.1 hP 0 rfl rfl 0 (by decide) fk10 (fun _ h9 => h9) rfl dX5_blank_1 ?_
  refine va_get (D := D) (ci := 3) (v := .int (nI k)) (C := RX3) (T := TX3) (N := 2) hx hb hts iwX3 hown hK.1 hP 1 rfl rfl 1 (by decide) fk61 (fun _ h9 => h9) rfl dX5_blank_4 ?_
  refine lv_istore_n (lv' := [(1, .int (nI k)), (0, .ref xh)]) hx hb dX5_blank_7 rfl hl (by decide) rfl (fun ls hl => ?_)
  refine lv_aload_n hx hb dX5_blank_8 rfl (lv_at hl 1 rfl) ?_
  refine va_get (D := D) (ci := 5) (v := .ref ph) (C := RX5) (T := TX5) (N := 10) hx hb hts iwX5 hown hK.1 hP 0 rfl rfl 0 (by decide) fk10 (fun _ h9 => h9) rfl dX5_blank_9 ?_
  refine wcVv1 (As := []) (rest := []) (wr := [(xh, .inr (5, [.ref ph, .ref mh, .ref lh, .ref kh, .ref jh, .ref qh, .ref dh, .int ik, .int mr, .int pn]))]) (w2 := [(xh, .inr (5, [.ref ph, .ref mh, .ref lh, .ref kh, .ref jh, .ref qh, .ref dh, .int ik, .int mr, .int pn])), (ph, .inr (3, [.ref p0, .int 0])), (p0, .inl (cC, 18, .inl lt))]) ⟨hx, hb, hml, hown, hts⟩ (c_X3_empty l D cB cC cI ph p0 lt k _) (cwV 0 hts gX5_blank_X3_empty rfl rfl rfl (by decide +kernel) ⟨Nat.le_of_ble_eq_true rfl, Nat.le_of_ble_eq_true rfl⟩) hK hP hD hS hA [1, 2] [0] [0, 1, 2] (by decide) rfl rfl (by decide) (by decide) (by decide) rfl rfl 1 rfl rfl hl.1 rfl (Nat.le_of_ble_eq_true rfl) dX5_blank_12 ⟨Nat.zero_le _, Nat.zero_le _⟩ (fun H locs hP hD hS => ?_)
  refine lv_iload_n hx hb dX5_blank_15 rfl (lv_at hl 0 rfl) ?_
  exact retWi (u := ()) hx hb hr hlocks rfl hP hD hS dX5_blank_16
set_option maxHeartbeats 4000000 in
set_option maxRecDepth 100000 in
theorem c_X5_fault (l : Launch) (D : va_G) (cB cC cI : ClassId) (ka va : Nat) (xh : Nat) (ph : Nat) (mh : Nat) (lh : Nat) (kh : Nat) (jh : Nat) (qh : Nat) (dh : Nat) (ik : Int32) (mr : Int32) (pn : Int32) (p0 : Nat) (lt : Nat → Int32) (k : Nat) (hk : k ≤ 18) : Met l yX5_fault wsX5_fault ({ frames := 6, cells := 0, slots := 0, locals := 137 }) (gPrS D cB cC cI ka va [.ref xh] [(xh, .inr (5, [.ref ph, .ref mh, .ref lh, .ref kh, .ref jh, .ref qh, .ref dh, .int ik, .int mr, .int pn])), (ph, .inr (3, [.ref p0, .int (nI k)])), (p0, .inl (cC, 18, .inl lt))]) (vp_Si (fun r => r = ffL lt k 0 (-1))) 0 0 (fun _ => False) := by
  refine metRS (cc := cX5_fault) (maxL := 1) (ret := (some .int)) RX5 rfl (by decide) rfl (Nat.le_of_ble_eq_true rfl) ?_
  intro p e s m below meth c hx hb hr hml hown hts hlocks hP hK hG ls hl
  have iwX5 : ∀ w ∈ wsX50, w ∈ wsX5_fault := by decide +kernel
  have fk10 := hts (.fieldLink RX5 10 "BuyersWeights" "page" "LBuyersWeights$Page;") (by decide +kernel)
  have hl : lv_has ls 1 [(0, .ref xh)] := hl
  refine lv_aload_n hx hb dX5_fault_0 rfl (lv_at hl 0 rfl) ?_
  refine va_get (D := D) (ci := 5) (v := .ref ph) (C := RX5) (T := TX5) (N := 10) hx hb hts iwX5 hown hK.1 hP 0 rfl rfl 0 (by decide) fk10 (fun _ h9 => h9) rfl dX5_fault_1 ?_
  refine rcViS (As := []) (rest := []) ⟨hx, hb, hml, hown, hts⟩ (c_X3_firstFault l D cB cC cI ka va ph p0 lt k (by first | assumption | omega | decide)) (cwV 0 hts gX5_fault_X3_firstFault rfl rfl rfl (by decide +kernel) ⟨Nat.le_of_ble_eq_true rfl, Nat.le_of_ble_eq_true rfl⟩) hG hK hP [1, 2] rfl rfl 1 rfl rfl hl.1 rfl (Nat.le_of_ble_eq_true rfl) dX5_fault_4 ⟨Nat.zero_le _, Nat.zero_le _⟩ ?_
  exact retRi hx hb hr hlocks rfl dX5_fault_7
def f_X5_about (kd : Nat → Int32) (st : Nat → Int32) (co : Nat → Int32) (gt : Nat → Int32) (pd : Nat → Int32) (de : Nat → Int32) (us : Nat → Int32) (n : Nat) (b : Int32) (w : Int32) : Int32 := if (f_X2_has n b) = 0 then (-101) else if w < 0 then (-102) else if w ≤ 6 then (f_X2_tell kd st co gt pd de us b.toNatClampNeg w) else (-102)
set_option maxHeartbeats 4000000 in
set_option maxRecDepth 100000 in
theorem c_X5_about (l : Launch) (D : va_G) (cB cC cI : ClassId) (xh : Nat) (ph : Nat) (mh : Nat) (lh : Nat) (kh : Nat) (jh : Nat) (qh : Nat) (dh : Nat) (ik : Int32) (mr : Int32) (pn : Int32) (m0 : Nat) (m1 : Nat) (m2 : Nat) (m3 : Nat) (m4 : Nat) (m5 : Nat) (m6 : Nat) (kd : Nat → Int32) (st : Nat → Int32) (co : Nat → Int32) (gt : Nat → Int32) (pd : Nat → Int32) (de : Nat → Int32) (us : Nat → Int32) (n : Nat) (tl : Int32) (ho : Int32) (sl : Int32) (b : Int32) (w : Int32) (hn : n ≤ 4) : Met l yX5_about wsX5_about ({ frames := 1, cells := 0, slots := 0, locals := 22 }) (gPr D cB cC cI [.ref xh, .int b, .int w] [(xh, .inr (5, [.ref ph, .ref mh, .ref lh, .ref kh, .ref jh, .ref qh, .ref dh, .int ik, .int mr, .int pn])), (mh, .inr (2, [.ref m0, .ref m1, .ref m2, .ref m3, .ref m4, .ref m5, .ref m6, .int (nI n), .int tl, .int ho, .int sl])), (m0, .inl (cI, 4, .inl kd)), (m1, .inl (cI, 4, .inl st)), (m2, .inl (cI, 4, .inl co)), (m3, .inl (cI, 4, .inl gt)), (m4, .inl (cI, 4, .inl pd)), (m5, .inl (cI, 4, .inl de)), (m6, .inl (cI, 4, .inl us))]) (vp_Si (fun r => r = (f_X5_about kd st co gt pd de us n b w))) 0 0 (fun _ => False) := by
  refine metR (cc := cX5_about) (maxL := 3) (ret := (some .int)) RX5 rfl (by decide) rfl (Nat.le_of_ble_eq_true rfl) ?_
  intro p e s m below meth c hx hb hr hml hown hts hlocks hP hK ls hl
  have iwX5 : ∀ w ∈ wsX50, w ∈ wsX5_about := by decide +kernel
  have fk19 := hts (.fieldLink RX5 19 "BuyersWeights" "market" "LBuyersWeights$Market;") (by decide +kernel)
  have hl : lv_has ls 3 [(0, .ref xh), (1, .int b), (2, .int w)] := hl
  refine lv_aload_n hx hb dX5_about_0 rfl (lv_at hl 0 rfl) ?_
  refine va_get (D := D) (ci := 5) (v := .ref mh) (C := RX5) (T := TX5) (N := 10) hx hb hts iwX5 hown hK.1 hP 0 rfl rfl 1 (by decide) fk19 (fun _ h9 => h9) rfl dX5_about_1 ?_
  refine lv_iload_n hx hb dX5_about_4 rfl (lv_at hl 1 rfl) ?_
  refine rcVi (As := [.int b]) (rest := []) ⟨hx, hb, hml, hown, hts⟩ (c_X2_has l D cB cC cI mh m0 m1 m2 m3 m4 m5 m6 kd st co gt pd de us n tl ho sl b) (cwV 1 hts gX5_about_X2_has rfl rfl rfl (by decide +kernel) ⟨Nat.le_of_ble_eq_true rfl, Nat.le_of_ble_eq_true rfl⟩) hK hP [1, 2, 3, 4, 5, 6, 7, 8] rfl rfl 1 rfl rfl hl.1 rfl (Nat.le_of_ble_eq_true rfl) dX5_about_5 ⟨Nat.zero_le _, Nat.zero_le _⟩ ?_
  refine lv_if_ne (tgt := 14) hx hb dX5_about_8 (by decide) (fun c_1 => ?_) (fun c_1 => ?_)
  · have hi := (has_ix hn c_1).up hn
    refine lv_iload_n hx hb dX5_about_14 rfl (lv_at hl 2 rfl) ?_
    refine lv_if_lt (tgt := 24) hx hb dX5_about_15 (by decide) (fun c_2 => ?_) (fun c_2 => ?_)
    · refine lv_bipush (v := (-102)) hx hb dX5_about_24 (by decide) ?_
      have eG : f_X5_about kd st co gt pd de us n b w = (-102) := (if_neg c_1).trans (if_pos c_2)
      exact retRi hx hb hr hlocks eG.symm dX5_about_26
    · refine lv_iload_n hx hb dX5_about_18 rfl (lv_at hl 2 rfl) ?_
      refine lv_bipush (v := 6) hx hb dX5_about_19 (by decide) ?_
      refine lv_icmp_le (tgt := 27) hx hb dX5_about_21 (by decide) (fun c_3 => ?_) (fun c_3 => ?_)
      · refine lv_aload_n hx hb dX5_about_27 rfl (lv_at hl 0 rfl) ?_
        refine va_get (D := D) (ci := 5) (v := .ref mh) (C := RX5) (T := TX5) (N := 10) hx hb hts iwX5 hown hK.1 hP 0 rfl rfl 1 (by decide) fk19 (fun _ h9 => h9) rfl dX5_about_28 ?_
        refine lv_iload_n hx hb dX5_about_31 rfl (lv_at hl 1 rfl) ?_
        refine lv_iload_n hx hb dX5_about_32 rfl (lv_at hl 2 rfl) ?_
        refine rcVi (As := [.int b, .int w]) (rest := []) ⟨hx, hb, hml, hown, hts⟩ (c_X2_tell l D cB cC cI mh m0 m1 m2 m3 m4 m5 m6 kd st co gt pd de us n tl ho sl b b.toNatClampNeg w hi) (cwV 2 hts gX5_about_X2_tell rfl rfl rfl (by decide +kernel) ⟨Nat.le_of_ble_eq_true rfl, Nat.le_of_ble_eq_true rfl⟩) hK hP [1, 2, 3, 4, 5, 6, 7, 8] rfl rfl 1 rfl rfl hl.1 rfl (Nat.le_of_ble_eq_true rfl) dX5_about_33 ⟨Nat.zero_le _, Nat.zero_le _⟩ ?_
        have eG : f_X5_about kd st co gt pd de us n b w = (f_X2_tell kd st co gt pd de us b.toNatClampNeg w) := (if_neg c_1).trans ((if_neg c_2).trans (if_pos c_3))
        exact retRi hx hb hr hlocks eG.symm dX5_about_36
      · refine lv_bipush (v := (-102)) hx hb dX5_about_24 (by decide) ?_
        have eG : f_X5_about kd st co gt pd de us n b w = (-102) := (if_neg c_1).trans ((if_neg c_2).trans (if_neg c_3))
        exact retRi hx hb hr hlocks eG.symm dX5_about_26
  · refine lv_bipush (v := (-101)) hx hb dX5_about_11 (by decide) ?_
    have eG : f_X5_about kd st co gt pd de us n b w = (-101) := if_pos c_1
    exact retRi hx hb hr hlocks eG.symm dX5_about_13
def f_X5_as (kd : Nat → Int32) (n : Nat) (b : Int32) (w : Int32) : Int32 := if (f_X2_has n b) = 0 then (-101) else if w < 0 then (-102) else if w < 5 then (if (f_X5_isOfKind (kd b.toNatClampNeg) w) = 0 then (-1) else b) else (-102)
set_option maxHeartbeats 4000000 in
set_option maxRecDepth 100000 in
theorem c_X5_as (l : Launch) (D : va_G) (cB cC cI : ClassId) (ka va : Nat) (xh : Nat) (ph : Nat) (mh : Nat) (lh : Nat) (kh : Nat) (jh : Nat) (qh : Nat) (dh : Nat) (ik : Int32) (mr : Int32) (pn : Int32) (m0 : Nat) (m1 : Nat) (m2 : Nat) (m3 : Nat) (m4 : Nat) (m5 : Nat) (m6 : Nat) (kd : Nat → Int32) (st : Nat → Int32) (co : Nat → Int32) (gt : Nat → Int32) (pd : Nat → Int32) (de : Nat → Int32) (us : Nat → Int32) (n : Nat) (tl : Int32) (ho : Int32) (sl : Int32) (b : Int32) (w : Int32) (hn : n ≤ 4) : Met l yX5_as wsX5_as ({ frames := 2, cells := 0, slots := 0, locals := 40 }) (gPrS D cB cC cI ka va [.ref xh, .int b, .int w] [(xh, .inr (5, [.ref ph, .ref mh, .ref lh, .ref kh, .ref jh, .ref qh, .ref dh, .int ik, .int mr, .int pn])), (mh, .inr (2, [.ref m0, .ref m1, .ref m2, .ref m3, .ref m4, .ref m5, .ref m6, .int (nI n), .int tl, .int ho, .int sl])), (m0, .inl (cI, 4, .inl kd)), (m1, .inl (cI, 4, .inl st)), (m2, .inl (cI, 4, .inl co)), (m3, .inl (cI, 4, .inl gt)), (m4, .inl (cI, 4, .inl pd)), (m5, .inl (cI, 4, .inl de)), (m6, .inl (cI, 4, .inl us))]) (vp_Si (fun r => r = (f_X5_as kd n b w))) 0 0 (fun _ => False) := by
  refine metRS (cc := cX5_as) (maxL := 3) (ret := (some .int)) RX5 rfl (by decide) rfl (Nat.le_of_ble_eq_true rfl) ?_
  intro p e s m below meth c hx hb hr hml hown hts hlocks hP hK hG ls hl
  have iwX5 : ∀ w ∈ wsX50, w ∈ wsX5_as := by decide +kernel
  have iwX2 : ∀ w ∈ wsX20, w ∈ wsX5_as := by decide +kernel
  have fk19 := hts (.fieldLink RX5 19 "BuyersWeights" "market" "LBuyersWeights$Market;") (by decide +kernel)
  have fk103 := hts (.fieldLink RX5 103 "BuyersWeights$Market" "kinds" "[I") (by decide +kernel)
  have hl : lv_has ls 3 [(0, .ref xh), (1, .int b), (2, .int w)] := hl
  refine lv_aload_n hx hb dX5_as_0 rfl (lv_at hl 0 rfl) ?_
  refine va_get (D := D) (ci := 5) (v := .ref mh) (C := RX5) (T := TX5) (N := 10) hx hb hts iwX5 hown hK.1 hP 0 rfl rfl 1 (by decide) fk19 (fun _ h9 => h9) rfl dX5_as_1 ?_
  refine lv_iload_n hx hb dX5_as_4 rfl (lv_at hl 1 rfl) ?_
  refine rcVi (As := [.int b]) (rest := []) ⟨hx, hb, hml, hown, hts⟩ (c_X2_has l D cB cC cI mh m0 m1 m2 m3 m4 m5 m6 kd st co gt pd de us n tl ho sl b) (cwV 1 hts gX5_as_X2_has rfl rfl rfl (by decide +kernel) ⟨Nat.le_of_ble_eq_true rfl, Nat.le_of_ble_eq_true rfl⟩) hK hP [1, 2, 3, 4, 5, 6, 7, 8] rfl rfl 1 rfl rfl hl.1 rfl (Nat.le_of_ble_eq_true rfl) dX5_as_5 ⟨Nat.zero_le _, Nat.zero_le _⟩ ?_
  refine lv_if_ne (tgt := 14) hx hb dX5_as_8 (by decide) (fun c_1 => ?_) (fun c_1 => ?_)
  · have hi := (has_ix hn c_1).up hn
    refine lv_iload_n hx hb dX5_as_14 rfl (lv_at hl 2 rfl) ?_
    refine lv_if_lt (tgt := 27) hx hb dX5_as_15 (by decide) (fun c_2 => ?_) (fun c_2 => ?_)
    · refine lv_bipush (v := (-102)) hx hb dX5_as_27 (by decide) ?_
      have eG : f_X5_as kd n b w = (-102) := (if_neg c_1).trans (if_pos c_2)
      exact retRi hx hb hr hlocks eG.symm dX5_as_29
    · refine lv_iload_n hx hb dX5_as_18 rfl (lv_at hl 2 rfl) ?_
      refine va_ldcS hx hb hown hG.2.1 dX5_as_19 ?_
      refine rcTiS (As := []) (rest := [.int w]) ⟨hx, hb, hml, hown, hts⟩ (c_J0_length_8abf5 l D cB cC cI ka va ) (cwV 0 hts gX5_as_J0_length_8abf5 rfl rfl rfl (by decide +kernel) ⟨Nat.le_of_ble_eq_true rfl, Nat.le_of_ble_eq_true rfl⟩) hG hK hP [] rfl rfl hl.1 rfl (Nat.le_of_ble_eq_true rfl) dX5_as_21 ⟨Nat.zero_le _, Nat.zero_le _⟩ ?_
      refine lv_icmp_lt (tgt := 30) hx hb dX5_as_24 (by decide) (fun c_3 => ?_) (fun c_3 => ?_)
      · refine lv_aload_n hx hb dX5_as_30 rfl (lv_at hl 0 rfl) ?_
        refine va_get (D := D) (ci := 5) (v := .ref mh) (C := RX5) (T := TX5) (N := 10) hx hb hts iwX5 hown hK.1 hP 0 rfl rfl 1 (by decide) fk19 (fun _ h9 => h9) rfl dX5_as_31 ?_
        refine va_get (D := D) (ci := 2) (v := .ref m0) (C := RX2) (T := TX2) (N := 11) hx hb hts iwX2 hown hK.1 hP 1 rfl rfl 0 (by decide) fk103 (fun _ h9 => h9) rfl dX5_as_34 ?_
        refine lv_iload_n hx hb dX5_as_37 rfl (lv_at hl 1 rfl) ?_
        refine my_iald hx hb hK hP 2 rfl (j := b.toNatClampNeg) hi dX5_as_38 ?_
        refine lv_iload_n hx hb dX5_as_39 rfl (lv_at hl 2 rfl) ?_
        refine rcSi (As := [.int (kd b.toNatClampNeg), .int w]) (rest := []) ⟨hx, hb, hml, hown, hts⟩ (c_X5_isOfKind l D cB cC cI (kd b.toNatClampNeg) w) (va_cwS 2 hts gX5_as_X5_isOfKind rfl rfl rfl (by decide +kernel) ⟨Nat.le_of_ble_eq_true rfl, Nat.le_of_ble_eq_true rfl⟩) hK hP [] rfl rfl hl.1 rfl (Nat.le_of_ble_eq_true rfl) dX5_as_40 ⟨Nat.zero_le _, Nat.zero_le _⟩ ?_
        refine lv_if_eq (tgt := 50) hx hb dX5_as_43 (by decide) (fun c_4 => ?_) (fun c_4 => ?_)
        · refine lv_iconst (v := (-1)) hx hb dX5_as_50 (by decide) ?_
          have eG : f_X5_as kd n b w = (-1) := (if_neg c_1).trans ((if_neg c_2).trans ((if_pos c_3).trans (if_pos c_4)))
          exact retRi hx hb hr hlocks eG.symm dX5_as_51
        · refine lv_iload_n hx hb dX5_as_46 rfl (lv_at hl 1 rfl) ?_
          refine lv_goto (tgt := 51) hx hb dX5_as_47 (by decide) ?_
          have eG : f_X5_as kd n b w = b := (if_neg c_1).trans ((if_neg c_2).trans ((if_pos c_3).trans (if_neg c_4)))
          exact retRi hx hb hr hlocks eG.symm dX5_as_51
      · refine lv_bipush (v := (-102)) hx hb dX5_as_27 (by decide) ?_
        have eG : f_X5_as kd n b w = (-102) := (if_neg c_1).trans ((if_neg c_2).trans (if_neg c_3))
        exact retRi hx hb hr hlocks eG.symm dX5_as_29
  · refine lv_bipush (v := (-101)) hx hb dX5_as_11 (by decide) ?_
    have eG : f_X5_as kd n b w = (-101) := if_pos c_1
    exact retRi hx hb hr hlocks eG.symm dX5_as_13
def f_X5_canTrade (n : Nat) (b : Int32) (d : Int32) : Int32 := if (f_X2_has n b) = 0 then 0 else if (f_X2_has n d) = 0 then 0 else if b = d then 0 else 1
set_option maxHeartbeats 4000000 in
set_option maxRecDepth 100000 in
theorem c_X5_canTrade (l : Launch) (D : va_G) (cB cC cI : ClassId) (xh : Nat) (ph : Nat) (mh : Nat) (lh : Nat) (kh : Nat) (jh : Nat) (qh : Nat) (dh : Nat) (ik : Int32) (mr : Int32) (pn : Int32) (m0 : Nat) (m1 : Nat) (m2 : Nat) (m3 : Nat) (m4 : Nat) (m5 : Nat) (m6 : Nat) (kd : Nat → Int32) (st : Nat → Int32) (co : Nat → Int32) (gt : Nat → Int32) (pd : Nat → Int32) (de : Nat → Int32) (us : Nat → Int32) (n : Nat) (tl : Int32) (ho : Int32) (sl : Int32) (b : Int32) (d : Int32) (hn : n ≤ 4) : Met l yX5_canTrade wsX5_canTrade ({ frames := 1, cells := 0, slots := 0, locals := 21 }) (gPr D cB cC cI [.ref xh, .int b, .int d] [(xh, .inr (5, [.ref ph, .ref mh, .ref lh, .ref kh, .ref jh, .ref qh, .ref dh, .int ik, .int mr, .int pn])), (mh, .inr (2, [.ref m0, .ref m1, .ref m2, .ref m3, .ref m4, .ref m5, .ref m6, .int (nI n), .int tl, .int ho, .int sl])), (m0, .inl (cI, 4, .inl kd)), (m1, .inl (cI, 4, .inl st)), (m2, .inl (cI, 4, .inl co)), (m3, .inl (cI, 4, .inl gt)), (m4, .inl (cI, 4, .inl pd)), (m5, .inl (cI, 4, .inl de)), (m6, .inl (cI, 4, .inl us))]) (vp_Si (fun r => r = (f_X5_canTrade n b d))) 0 0 (fun _ => False) := by
  refine metR (cc := cX5_canTrade) (maxL := 3) (ret := (some .boolean)) RX5 rfl (by decide) rfl (Nat.le_of_ble_eq_true rfl) ?_
  intro p e s m below meth c hx hb hr hml hown hts hlocks hP hK ls hl
  have iwX5 : ∀ w ∈ wsX50, w ∈ wsX5_canTrade := by decide +kernel
  have fk19 := hts (.fieldLink RX5 19 "BuyersWeights" "market" "LBuyersWeights$Market;") (by decide +kernel)
  have hl : lv_has ls 3 [(0, .ref xh), (1, .int b), (2, .int d)] := hl
  refine lv_aload_n hx hb dX5_canTrade_0 rfl (lv_at hl 0 rfl) ?_
  refine va_get (D := D) (ci := 5) (v := .ref mh) (C := RX5) (T := TX5) (N := 10) hx hb hts iwX5 hown hK.1 hP 0 rfl rfl 1 (by decide) fk19 (fun _ h9 => h9) rfl dX5_canTrade_1 ?_
  refine lv_iload_n hx hb dX5_canTrade_4 rfl (lv_at hl 1 rfl) ?_
  refine rcVi (As := [.int b]) (rest := []) ⟨hx, hb, hml, hown, hts⟩ (c_X2_has l D cB cC cI mh m0 m1 m2 m3 m4 m5 m6 kd st co gt pd de us n tl ho sl b) (cwV 1 hts gX5_canTrade_X2_has rfl rfl rfl (by decide +kernel) ⟨Nat.le_of_ble_eq_true rfl, Nat.le_of_ble_eq_true rfl⟩) hK hP [1, 2, 3, 4, 5, 6, 7, 8] rfl rfl 1 rfl rfl hl.1 rfl (Nat.le_of_ble_eq_true rfl) dX5_canTrade_5 ⟨Nat.zero_le _, Nat.zero_le _⟩ ?_
  refine lv_if_eq (tgt := 31) hx hb dX5_canTrade_8 (by decide) (fun c_1 => ?_) (fun c_1 => ?_)
  · refine lv_iconst (v := 0) hx hb dX5_canTrade_31 (by decide) ?_
    have eG : f_X5_canTrade n b d = 0 := if_pos c_1
    exact retRz hx hb hr hlocks rfl eG.symm dX5_canTrade_32
  · refine lv_aload_n hx hb dX5_canTrade_11 rfl (lv_at hl 0 rfl) ?_
    refine va_get (D := D) (ci := 5) (v := .ref mh) (C := RX5) (T := TX5) (N := 10) hx hb hts iwX5 hown hK.1 hP 0 rfl rfl 1 (by decide) fk19 (fun _ h9 => h9) rfl dX5_canTrade_12 ?_
    refine lv_iload_n hx hb dX5_canTrade_15 rfl (lv_at hl 2 rfl) ?_
    refine rcVi (As := [.int d]) (rest := []) ⟨hx, hb, hml, hown, hts⟩ (c_X2_has l D cB cC cI mh m0 m1 m2 m3 m4 m5 m6 kd st co gt pd de us n tl ho sl d) (cwV 1 hts gX5_canTrade_X2_has rfl rfl rfl (by decide +kernel) ⟨Nat.le_of_ble_eq_true rfl, Nat.le_of_ble_eq_true rfl⟩) hK hP [1, 2, 3, 4, 5, 6, 7, 8] rfl rfl 1 rfl rfl hl.1 rfl (Nat.le_of_ble_eq_true rfl) dX5_canTrade_16 ⟨Nat.zero_le _, Nat.zero_le _⟩ ?_
    refine lv_if_eq (tgt := 31) hx hb dX5_canTrade_19 (by decide) (fun c_2 => ?_) (fun c_2 => ?_)
    · refine lv_iconst (v := 0) hx hb dX5_canTrade_31 (by decide) ?_
      have eG : f_X5_canTrade n b d = 0 := (if_neg c_1).trans (if_pos c_2)
      exact retRz hx hb hr hlocks rfl eG.symm dX5_canTrade_32
    · refine lv_iload_n hx hb dX5_canTrade_22 rfl (lv_at hl 1 rfl) ?_
      refine lv_iload_n hx hb dX5_canTrade_23 rfl (lv_at hl 2 rfl) ?_
      refine lv_icmp_eq (tgt := 31) hx hb dX5_canTrade_24 (by decide) (fun c_3 => ?_) (fun c_3 => ?_)
      · refine lv_iconst (v := 0) hx hb dX5_canTrade_31 (by decide) ?_
        have eG : f_X5_canTrade n b d = 0 := (if_neg c_1).trans ((if_neg c_2).trans (if_pos c_3))
        exact retRz hx hb hr hlocks rfl eG.symm dX5_canTrade_32
      · refine lv_iconst (v := 1) hx hb dX5_canTrade_27 (by decide) ?_
        refine lv_goto (tgt := 32) hx hb dX5_canTrade_28 (by decide) ?_
        have eG : f_X5_canTrade n b d = 1 := (if_neg c_1).trans ((if_neg c_2).trans (if_neg c_3))
        exact retRz hx hb hr hlocks rfl eG.symm dX5_canTrade_32
theorem ct_ix {n : Nat} {b d : Int32} (hn : n ≤ 4) (h : ¬ f_X5_canTrade n b d = 0) : ix b b.toNatClampNeg n ∧ ix d d.toNatClampNeg n ∧ ¬ b = d := by
  by_cases h1 : f_X2_has n b = 0
  · exact absurd (if_pos h1) h
  by_cases h2 : f_X2_has n d = 0
  · exact absurd ((if_neg h1).trans (if_pos h2)) h
  by_cases h3 : b = d
  · exact absurd ((if_neg h1).trans ((if_neg h2).trans (if_pos h3))) h
  exact ⟨has_ix hn h1, has_ix hn h2, h3⟩
def f_X5_measure (kd : Nat → Int32) (st : Nat → Int32) (n : Nat) (tl : Int32) (ho : Int32) (b : Int32) (d : Int32) (t : Int32) : Int32 := if (f_X5_canTrade n b d) = 0 then (-101) else if (f_X2_has n t) = 0 then (-101) else (f_X2_ounces kd tl (st t.toNatClampNeg) b.toNatClampNeg ho)
set_option maxHeartbeats 4000000 in
set_option maxRecDepth 100000 in
theorem c_X5_measure (l : Launch) (D : va_G) (cB cC cI : ClassId) (xh : Nat) (ph : Nat) (mh : Nat) (lh : Nat) (kh : Nat) (jh : Nat) (qh : Nat) (dh : Nat) (ik : Int32) (mr : Int32) (pn : Int32) (m0 : Nat) (m1 : Nat) (m2 : Nat) (m3 : Nat) (m4 : Nat) (m5 : Nat) (m6 : Nat) (kd : Nat → Int32) (st : Nat → Int32) (co : Nat → Int32) (gt : Nat → Int32) (pd : Nat → Int32) (de : Nat → Int32) (us : Nat → Int32) (n : Nat) (tl : Int32) (ho : Int32) (sl : Int32) (b : Int32) (d : Int32) (t : Int32) (hn : n ≤ 4) : Met l yX5_measure wsX5_measure ({ frames := 2, cells := 0, slots := 0, locals := 43 }) (gPr D cB cC cI [.ref xh, .int b, .int d, .int t] [(xh, .inr (5, [.ref ph, .ref mh, .ref lh, .ref kh, .ref jh, .ref qh, .ref dh, .int ik, .int mr, .int pn])), (mh, .inr (2, [.ref m0, .ref m1, .ref m2, .ref m3, .ref m4, .ref m5, .ref m6, .int (nI n), .int tl, .int ho, .int sl])), (m0, .inl (cI, 4, .inl kd)), (m1, .inl (cI, 4, .inl st)), (m2, .inl (cI, 4, .inl co)), (m3, .inl (cI, 4, .inl gt)), (m4, .inl (cI, 4, .inl pd)), (m5, .inl (cI, 4, .inl de)), (m6, .inl (cI, 4, .inl us))]) (vp_Si (fun r => r = (f_X5_measure kd st n tl ho b d t))) 0 0 (fun _ => False) := by
  refine metR (cc := cX5_measure) (maxL := 4) (ret := (some .int)) RX5 rfl (by decide) rfl (Nat.le_of_ble_eq_true rfl) ?_
  intro p e s m below meth c hx hb hr hml hown hts hlocks hP hK ls hl
  have iwX5 : ∀ w ∈ wsX50, w ∈ wsX5_measure := by decide +kernel
  have iwX2 : ∀ w ∈ wsX20, w ∈ wsX5_measure := by decide +kernel
  have fk19 := hts (.fieldLink RX5 19 "BuyersWeights" "market" "LBuyersWeights$Market;") (by decide +kernel)
  have fk114 := hts (.fieldLink RX5 114 "BuyersWeights$Market" "stones" "[I") (by decide +kernel)
  have fk117 := hts (.fieldLink RX5 117 "BuyersWeights$Market" "hourNow" "I") (by decide +kernel)
  have hl : lv_has ls 4 [(0, .ref xh), (1, .int b), (2, .int d), (3, .int t)] := hl
  refine lv_aload_n hx hb dX5_measure_0 rfl (lv_at hl 0 rfl) ?_
  refine lv_iload_n hx hb dX5_measure_1 rfl (lv_at hl 1 rfl) ?_
  refine lv_iload_n hx hb dX5_measure_2 rfl (lv_at hl 2 rfl) ?_
  refine rcVi (As := [.int b, .int d]) (rest := []) ⟨hx, hb, hml, hown, hts⟩ (c_X5_canTrade l D cB cC cI xh ph mh lh kh jh qh dh ik mr pn m0 m1 m2 m3 m4 m5 m6 kd st co gt pd de us n tl ho sl b d (by first | assumption | omega | decide)) (cwV 2 hts gX5_measure_X5_canTrade rfl rfl rfl (by decide +kernel) ⟨Nat.le_of_ble_eq_true rfl, Nat.le_of_ble_eq_true rfl⟩) hK hP [0, 1, 2, 3, 4, 5, 6, 7, 8] rfl rfl 0 rfl rfl hl.1 rfl (Nat.le_of_ble_eq_true rfl) dX5_measure_3 ⟨Nat.zero_le _, Nat.zero_le _⟩ ?_
  refine lv_if_eq (tgt := 20) hx hb dX5_measure_6 (by decide) (fun c_1 => ?_) (fun c_1 => ?_)
  · refine lv_bipush (v := (-101)) hx hb dX5_measure_20 (by decide) ?_
    have eG : f_X5_measure kd st n tl ho b d t = (-101) := if_pos c_1
    exact retRi hx hb hr hlocks eG.symm dX5_measure_22
  · have hct := ct_ix hn c_1
    have hib := hct.1.up hn
    have hid := hct.2.1.up hn
    refine lv_aload_n hx hb dX5_measure_9 rfl (lv_at hl 0 rfl) ?_
    refine va_get (D := D) (ci := 5) (v := .ref mh) (C := RX5) (T := TX5) (N := 10) hx hb hts iwX5 hown hK.1 hP 0 rfl rfl 1 (by decide) fk19 (fun _ h9 => h9) rfl dX5_measure_10 ?_
    refine lv_iload_n hx hb dX5_measure_13 rfl (lv_at hl 3 rfl) ?_
    refine rcVi (As := [.int t]) (rest := []) ⟨hx, hb, hml, hown, hts⟩ (c_X2_has l D cB cC cI mh m0 m1 m2 m3 m4 m5 m6 kd st co gt pd de us n tl ho sl t) (cwV 1 hts gX5_measure_X2_has rfl rfl rfl (by decide +kernel) ⟨Nat.le_of_ble_eq_true rfl, Nat.le_of_ble_eq_true rfl⟩) hK hP [1, 2, 3, 4, 5, 6, 7, 8] rfl rfl 1 rfl rfl hl.1 rfl (Nat.le_of_ble_eq_true rfl) dX5_measure_14 ⟨Nat.zero_le _, Nat.zero_le _⟩ ?_
    refine lv_if_ne (tgt := 23) hx hb dX5_measure_17 (by decide) (fun c_2 => ?_) (fun c_2 => ?_)
    · have hit := (has_ix hn c_2).up hn
      refine lv_aload_n hx hb dX5_measure_23 rfl (lv_at hl 0 rfl) ?_
      refine va_get (D := D) (ci := 5) (v := .ref mh) (C := RX5) (T := TX5) (N := 10) hx hb hts iwX5 hown hK.1 hP 0 rfl rfl 1 (by decide) fk19 (fun _ h9 => h9) rfl dX5_measure_24 ?_
      refine lv_aload_n hx hb dX5_measure_27 rfl (lv_at hl 0 rfl) ?_
      refine va_get (D := D) (ci := 5) (v := .ref mh) (C := RX5) (T := TX5) (N := 10) hx hb hts iwX5 hown hK.1 hP 0 rfl rfl 1 (by decide) fk19 (fun _ h9 => h9) rfl dX5_measure_28 ?_
      refine va_get (D := D) (ci := 2) (v := .ref m1) (C := RX2) (T := TX2) (N := 11) hx hb hts iwX2 hown hK.1 hP 1 rfl rfl 1 (by decide) fk114 (fun _ h9 => h9) rfl dX5_measure_31 ?_
      refine lv_iload_n hx hb dX5_measure_34 rfl (lv_at hl 3 rfl) ?_
      refine my_iald hx hb hK hP 3 rfl (j := t.toNatClampNeg) hit dX5_measure_35 ?_
      refine lv_iload_n hx hb dX5_measure_36 rfl (lv_at hl 1 rfl) ?_
      refine lv_aload_n hx hb dX5_measure_37 rfl (lv_at hl 0 rfl) ?_
      refine va_get (D := D) (ci := 5) (v := .ref mh) (C := RX5) (T := TX5) (N := 10) hx hb hts iwX5 hown hK.1 hP 0 rfl rfl 1 (by decide) fk19 (fun _ h9 => h9) rfl dX5_measure_38 ?_
      refine va_get (D := D) (ci := 2) (v := .int ho) (C := RX2) (T := TX2) (N := 11) hx hb hts iwX2 hown hK.1 hP 1 rfl rfl 9 (by decide) fk117 (fun _ h9 => h9) rfl dX5_measure_41 ?_
      refine rcVi (As := [.int (st t.toNatClampNeg), .int b, .int ho]) (rest := []) ⟨hx, hb, hml, hown, hts⟩ (c_X2_ounces l D cB cC cI mh m0 m1 m2 m3 m4 m5 m6 kd st co gt pd de us n tl ho sl (st t.toNatClampNeg) b b.toNatClampNeg ho hib) (cwV 3 hts gX5_measure_X2_ounces rfl rfl rfl (by decide +kernel) ⟨Nat.le_of_ble_eq_true rfl, Nat.le_of_ble_eq_true rfl⟩) hK hP [1, 2, 3, 4, 5, 6, 7, 8] rfl rfl 1 rfl rfl hl.1 rfl (Nat.le_of_ble_eq_true rfl) dX5_measure_44 ⟨Nat.zero_le _, Nat.zero_le _⟩ ?_
      have eG : f_X5_measure kd st n tl ho b d t = (f_X2_ounces kd tl (st t.toNatClampNeg) b.toNatClampNeg ho) := (if_neg c_1).trans (if_neg c_2)
      exact retRi hx hb hr hlocks eG.symm dX5_measure_47
    · refine lv_bipush (v := (-101)) hx hb dX5_measure_20 (by decide) ?_
      have eG : f_X5_measure kd st n tl ho b d t = (-101) := (if_neg c_1).trans (if_pos c_2)
      exact retRi hx hb hr hlocks eG.symm dX5_measure_22
def f_X5_buy (kd : Nat → Int32) (st : Nat → Int32) (co : Nat → Int32) (gt : Nat → Int32) (pd : Nat → Int32) (de : Nat → Int32) (us : Nat → Int32) (n : Nat) (tl : Int32) (ho : Int32) (sl : Int32) (b : Int32) (d : Int32) (t : Int32) : Int32 × Int32 × (Nat → Int32) × (Nat → Int32) × (Nat → Int32) × (Nat → Int32) × (Nat → Int32) := if (f_X5_canTrade n b d) = 0 then ((-101), sl, st, gt, pd, de, us) else if (f_X2_has n t) = 0 then ((-101), sl, st, gt, pd, de, us) else if sl < 100 then ((f_X2_ounces kd tl (st t.toNatClampNeg) b.toNatClampNeg ho), sl + 1, upd st t.toNatClampNeg (f_X2_weightAfter kd (st t.toNatClampNeg) t.toNatClampNeg d.toNatClampNeg), upd gt b.toNatClampNeg ((gt b.toNatClampNeg) + (f_X2_ounces kd tl (st t.toNatClampNeg) b.toNatClampNeg ho)), upd pd b.toNatClampNeg ((pd b.toNatClampNeg) + (co d.toNatClampNeg)), upd de d.toNatClampNeg ((de d.toNatClampNeg) + 1), upd us t.toNatClampNeg ((us t.toNatClampNeg) + 1)) else ((-104), sl, st, gt, pd, de, us)
set_option maxHeartbeats 4000000 in
set_option maxRecDepth 100000 in
theorem c_X5_buy (l : Launch) (D : va_G) (cB cC cI : ClassId) (xh : Nat) (ph : Nat) (mh : Nat) (lh : Nat) (kh : Nat) (jh : Nat) (qh : Nat) (dh : Nat) (ik : Int32) (mr : Int32) (pn : Int32) (m0 : Nat) (m1 : Nat) (m2 : Nat) (m3 : Nat) (m4 : Nat) (m5 : Nat) (m6 : Nat) (kd : Nat → Int32) (st : Nat → Int32) (co : Nat → Int32) (gt : Nat → Int32) (pd : Nat → Int32) (de : Nat → Int32) (us : Nat → Int32) (n : Nat) (tl : Int32) (ho : Int32) (sl : Int32) (b : Int32) (d : Int32) (t : Int32) (sz : Nat) (hn : n ≤ 4) : Met l yX5_buy wsX5_buy ({ frames := 3, cells := 0, slots := 0, locals := 62 }) (gPw D cB cC cI [.ref xh, .int b, .int d, .int t] [(xh, .inr (5, [.ref ph, .ref mh, .ref lh, .ref kh, .ref jh, .ref qh, .ref dh, .int ik, .int mr, .int pn])), (mh, .inr (2, [.ref m0, .ref m1, .ref m2, .ref m3, .ref m4, .ref m5, .ref m6, .int (nI n), .int tl, .int ho, .int sl])), (m0, .inl (cI, 4, .inl kd)), (m1, .inl (cI, 4, .inl st)), (m2, .inl (cI, 4, .inl co)), (m3, .inl (cI, 4, .inl gt)), (m4, .inl (cI, 4, .inl pd)), (m5, .inl (cI, 4, .inl de)), (m6, .inl (cI, 4, .inl us))] sz) (QWi D ((f_X5_buy kd st co gt pd de us n tl ho sl b d t).1) [(xh, .inr (5, [.ref ph, .ref mh, .ref lh, .ref kh, .ref jh, .ref qh, .ref dh, .int ik, .int mr, .int pn])), (mh, .inr (2, [.ref m0, .ref m1, .ref m2, .ref m3, .ref m4, .ref m5, .ref m6, .int (nI n), .int tl, .int ho, .int ((f_X5_buy kd st co gt pd de us n tl ho sl b d t).2.1)])), (m0, .inl (cI, 4, .inl kd)), (m1, .inl (cI, 4, .inl ((f_X5_buy kd st co gt pd de us n tl ho sl b d t).2.2.1))), (m2, .inl (cI, 4, .inl co)), (m3, .inl (cI, 4, .inl ((f_X5_buy kd st co gt pd de us n tl ho sl b d t).2.2.2.1))), (m4, .inl (cI, 4, .inl ((f_X5_buy kd st co gt pd de us n tl ho sl b d t).2.2.2.2.1))), (m5, .inl (cI, 4, .inl ((f_X5_buy kd st co gt pd de us n tl ho sl b d t).2.2.2.2.2.1))), (m6, .inl (cI, 4, .inl ((f_X5_buy kd st co gt pd de us n tl ho sl b d t).2.2.2.2.2.2)))] (va_A [(xh, .inr (5, [.ref ph, .ref mh, .ref lh, .ref kh, .ref jh, .ref qh, .ref dh, .int ik, .int mr, .int pn])), (mh, .inr (2, [.ref m0, .ref m1, .ref m2, .ref m3, .ref m4, .ref m5, .ref m6, .int (nI n), .int tl, .int ho, .int sl])), (m0, .inl (cI, 4, .inl kd)), (m1, .inl (cI, 4, .inl st)), (m2, .inl (cI, 4, .inl co)), (m3, .inl (cI, 4, .inl gt)), (m4, .inl (cI, 4, .inl pd)), (m5, .inl (cI, 4, .inl de)), (m6, .inl (cI, 4, .inl us))] sz)) 0 0 (va_A [(xh, .inr (5, [.ref ph, .ref mh, .ref lh, .ref kh, .ref jh, .ref qh, .ref dh, .int ik, .int mr, .int pn])), (mh, .inr (2, [.ref m0, .ref m1, .ref m2, .ref m3, .ref m4, .ref m5, .ref m6, .int (nI n), .int tl, .int ho, .int sl])), (m0, .inl (cI, 4, .inl kd)), (m1, .inl (cI, 4, .inl st)), (m2, .inl (cI, 4, .inl co)), (m3, .inl (cI, 4, .inl gt)), (m4, .inl (cI, 4, .inl pd)), (m5, .inl (cI, 4, .inl de)), (m6, .inl (cI, 4, .inl us))] sz) := by
  refine metW (cc := cX5_buy) (maxL := 4) (ret := (some .int)) (QA := fun A => (QWi D ((f_X5_buy kd st co gt pd de us n tl ho sl b d t).1) [(xh, .inr (5, [.ref ph, .ref mh, .ref lh, .ref kh, .ref jh, .ref qh, .ref dh, .int ik, .int mr, .int pn])), (mh, .inr (2, [.ref m0, .ref m1, .ref m2, .ref m3, .ref m4, .ref m5, .ref m6, .int (nI n), .int tl, .int ho, .int ((f_X5_buy kd st co gt pd de us n tl ho sl b d t).2.1)])), (m0, .inl (cI, 4, .inl kd)), (m1, .inl (cI, 4, .inl ((f_X5_buy kd st co gt pd de us n tl ho sl b d t).2.2.1))), (m2, .inl (cI, 4, .inl co)), (m3, .inl (cI, 4, .inl ((f_X5_buy kd st co gt pd de us n tl ho sl b d t).2.2.2.1))), (m4, .inl (cI, 4, .inl ((f_X5_buy kd st co gt pd de us n tl ho sl b d t).2.2.2.2.1))), (m5, .inl (cI, 4, .inl ((f_X5_buy kd st co gt pd de us n tl ho sl b d t).2.2.2.2.2.1))), (m6, .inl (cI, 4, .inl ((f_X5_buy kd st co gt pd de us n tl ho sl b d t).2.2.2.2.2.2)))] A)) RX5 rfl (by decide) rfl (Nat.le_of_ble_eq_true rfl) ?_
  intro p e s m below meth c A hx hb hr hml hown hts hlocks hin hP hK hD hA hS ls hl
  have iwX5 : ∀ w ∈ wsX50, w ∈ wsX5_buy := by decide +kernel
  have iwX2 : ∀ w ∈ wsX20, w ∈ wsX5_buy := by decide +kernel
  have fk19 := hts (.fieldLink RX5 19 "BuyersWeights" "market" "LBuyersWeights$Market;") (by decide +kernel)
  have fk124 := hts (.fieldLink RX5 124 "BuyersWeights$Market" "sales" "I") (by decide +kernel)
  have hl : lv_has ls 4 [(0, .ref xh), (1, .int b), (2, .int d), (3, .int t)] := hl
  refine lv_aload_n hx hb dX5_buy_0 rfl (lv_at hl 0 rfl) ?_
  refine lv_iload_n hx hb dX5_buy_1 rfl (lv_at hl 1 rfl) ?_
  refine lv_iload_n hx hb dX5_buy_2 rfl (lv_at hl 2 rfl) ?_
  refine rcVi (As := [.int b, .int d]) (rest := []) ⟨hx, hb, hml, hown, hts⟩ (c_X5_canTrade l D cB cC cI xh ph mh lh kh jh qh dh ik mr pn m0 m1 m2 m3 m4 m5 m6 kd st co gt pd de us n tl ho sl b d (by first | assumption | omega | decide)) (cwV 2 hts gX5_buy_X5_canTrade rfl rfl rfl (by decide +kernel) ⟨Nat.le_of_ble_eq_true rfl, Nat.le_of_ble_eq_true rfl⟩) hK hP [0, 1, 2, 3, 4, 5, 6, 7, 8] rfl rfl 0 rfl rfl hl.1 rfl (Nat.le_of_ble_eq_true rfl) dX5_buy_3 ⟨Nat.zero_le _, Nat.zero_le _⟩ ?_
  refine lv_if_eq (tgt := 20) hx hb dX5_buy_6 (by decide) (fun c_1 => ?_) (fun c_1 => ?_)
  · refine lv_bipush (v := (-101)) hx hb dX5_buy_20 (by decide) ?_
    have eG : f_X5_buy kd st co gt pd de us n tl ho sl b d t = ((-101), sl, st, gt, pd, de, us) := if_pos c_1
    exact retWi (u := ()) hx hb hr hlocks (by rw [eG]) (by rw [eG]; exact hP) (by rw [eG]; exact hD) hS dX5_buy_22
  · have hct := ct_ix hn c_1
    have hib := hct.1.up hn
    have hid := hct.2.1.up hn
    refine lv_aload_n hx hb dX5_buy_9 rfl (lv_at hl 0 rfl) ?_
    refine va_get (D := D) (ci := 5) (v := .ref mh) (C := RX5) (T := TX5) (N := 10) hx hb hts iwX5 hown hK.1 hP 0 rfl rfl 1 (by decide) fk19 (fun _ h9 => h9) rfl dX5_buy_10 ?_
    refine lv_iload_n hx hb dX5_buy_13 rfl (lv_at hl 3 rfl) ?_
    refine rcVi (As := [.int t]) (rest := []) ⟨hx, hb, hml, hown, hts⟩ (c_X2_has l D cB cC cI mh m0 m1 m2 m3 m4 m5 m6 kd st co gt pd de us n tl ho sl t) (cwV 1 hts gX5_buy_X2_has rfl rfl rfl (by decide +kernel) ⟨Nat.le_of_ble_eq_true rfl, Nat.le_of_ble_eq_true rfl⟩) hK hP [1, 2, 3, 4, 5, 6, 7, 8] rfl rfl 1 rfl rfl hl.1 rfl (Nat.le_of_ble_eq_true rfl) dX5_buy_14 ⟨Nat.zero_le _, Nat.zero_le _⟩ ?_
    refine lv_if_ne (tgt := 23) hx hb dX5_buy_17 (by decide) (fun c_2 => ?_) (fun c_2 => ?_)
    · have hit := (has_ix hn c_2).up hn
      refine lv_aload_n hx hb dX5_buy_23 rfl (lv_at hl 0 rfl) ?_
      refine va_get (D := D) (ci := 5) (v := .ref mh) (C := RX5) (T := TX5) (N := 10) hx hb hts iwX5 hown hK.1 hP 0 rfl rfl 1 (by decide) fk19 (fun _ h9 => h9) rfl dX5_buy_24 ?_
      refine va_get (D := D) (ci := 2) (v := .int sl) (C := RX2) (T := TX2) (N := 11) hx hb hts iwX2 hown hK.1 hP 1 rfl rfl 10 (by decide) fk124 (fun _ h9 => h9) rfl dX5_buy_27 ?_
      refine lv_bipush (v := 100) hx hb dX5_buy_30 (by decide) ?_
      refine lv_icmp_lt (tgt := 38) hx hb dX5_buy_32 (by decide) (fun c_3 => ?_) (fun c_3 => ?_)
      · refine lv_aload_n hx hb dX5_buy_38 rfl (lv_at hl 0 rfl) ?_
        refine va_get (D := D) (ci := 5) (v := .ref mh) (C := RX5) (T := TX5) (N := 10) hx hb hts iwX5 hown hK.1 hP 0 rfl rfl 1 (by decide) fk19 (fun _ h9 => h9) rfl dX5_buy_39 ?_
        refine lv_iload_n hx hb dX5_buy_42 rfl (lv_at hl 1 rfl) ?_
        refine lv_iload_n hx hb dX5_buy_43 rfl (lv_at hl 2 rfl) ?_
        refine lv_iload_n hx hb dX5_buy_44 rfl (lv_at hl 3 rfl) ?_
        refine wcVi1 (As := [.int b, .int d, .int t]) (rest := []) (wr := [(xh, .inr (5, [.ref ph, .ref mh, .ref lh, .ref kh, .ref jh, .ref qh, .ref dh, .int ik, .int mr, .int pn]))]) (w2 := [(xh, .inr (5, [.ref ph, .ref mh, .ref lh, .ref kh, .ref jh, .ref qh, .ref dh, .int ik, .int mr, .int pn])), (mh, .inr (2, [.ref m0, .ref m1, .ref m2, .ref m3, .ref m4, .ref m5, .ref m6, .int (nI n), .int tl, .int ho, .int (sl + 1)])), (m0, .inl (cI, 4, .inl kd)), (m1, .inl (cI, 4, .inl (upd st t.toNatClampNeg (f_X2_weightAfter kd (st t.toNatClampNeg) t.toNatClampNeg d.toNatClampNeg)))), (m2, .inl (cI, 4, .inl co)), (m3, .inl (cI, 4, .inl (upd gt b.toNatClampNeg ((gt b.toNatClampNeg) + (f_X2_ounces kd tl (st t.toNatClampNeg) b.toNatClampNeg ho))))), (m4, .inl (cI, 4, .inl (upd pd b.toNatClampNeg ((pd b.toNatClampNeg) + (co d.toNatClampNeg))))), (m5, .inl (cI, 4, .inl (upd de d.toNatClampNeg ((de d.toNatClampNeg) + 1)))), (m6, .inl (cI, 4, .inl (upd us t.toNatClampNeg ((us t.toNatClampNeg) + 1))))]) ⟨hx, hb, hml, hown, hts⟩ (c_X2_sell l D cB cC cI mh m0 m1 m2 m3 m4 m5 m6 kd st co gt pd de us n tl ho sl b b.toNatClampNeg d d.toNatClampNeg t t.toNatClampNeg _ hib hid hit) (cwV 3 hts gX5_buy_X2_sell rfl rfl rfl (by decide +kernel) ⟨Nat.le_of_ble_eq_true rfl, Nat.le_of_ble_eq_true rfl⟩) hK hP hD hS hA [1, 2, 3, 4, 5, 6, 7, 8] [0] [0, 1, 2, 3, 4, 5, 6, 7, 8] (by decide) rfl rfl (by decide) (by decide) (by decide) rfl rfl 1 rfl rfl hl.1 rfl (Nat.le_of_ble_eq_true rfl) dX5_buy_45 ⟨Nat.zero_le _, Nat.zero_le _⟩ (fun H locs hP hD hS => ?_)
        have eG : f_X5_buy kd st co gt pd de us n tl ho sl b d t = ((f_X2_ounces kd tl (st t.toNatClampNeg) b.toNatClampNeg ho), sl + 1, upd st t.toNatClampNeg (f_X2_weightAfter kd (st t.toNatClampNeg) t.toNatClampNeg d.toNatClampNeg), upd gt b.toNatClampNeg ((gt b.toNatClampNeg) + (f_X2_ounces kd tl (st t.toNatClampNeg) b.toNatClampNeg ho)), upd pd b.toNatClampNeg ((pd b.toNatClampNeg) + (co d.toNatClampNeg)), upd de d.toNatClampNeg ((de d.toNatClampNeg) + 1), upd us t.toNatClampNeg ((us t.toNatClampNeg) + 1)) := (if_neg c_1).trans ((if_neg c_2).trans (if_pos c_3))
        exact retWi (u := ()) hx hb hr hlocks (by rw [eG]) (by rw [eG]; exact hP) (by rw [eG]; exact hD) hS dX5_buy_48
      · refine lv_bipush (v := (-104)) hx hb dX5_buy_35 (by decide) ?_
        have eG : f_X5_buy kd st co gt pd de us n tl ho sl b d t = ((-104), sl, st, gt, pd, de, us) := (if_neg c_1).trans ((if_neg c_2).trans (if_neg c_3))
        exact retWi (u := ()) hx hb hr hlocks (by rw [eG]) (by rw [eG]; exact hP) (by rw [eG]; exact hD) hS dX5_buy_37
    · refine lv_bipush (v := (-101)) hx hb dX5_buy_20 (by decide) ?_
      have eG : f_X5_buy kd st co gt pd de us n tl ho sl b d t = ((-101), sl, st, gt, pd, de, us) := (if_neg c_1).trans (if_pos c_2)
      exact retWi (u := ()) hx hb hr hlocks (by rw [eG]) (by rw [eG]; exact hP) (by rw [eG]; exact hD) hS dX5_buy_22
def f_X5_hour (n : Nat) (ho : Int32) : Int32 × Int32 := if (f_X2_isOpen n) = 0 then ((-103), ho) else (ho + 1, ho + 1)
set_option maxHeartbeats 4000000 in
set_option maxRecDepth 100000 in
theorem c_X5_hour (l : Launch) (D : va_G) (cB cC cI : ClassId) (xh : Nat) (ph : Nat) (mh : Nat) (lh : Nat) (kh : Nat) (jh : Nat) (qh : Nat) (dh : Nat) (ik : Int32) (mr : Int32) (pn : Int32) (m0 : Nat) (m1 : Nat) (m2 : Nat) (m3 : Nat) (m4 : Nat) (m5 : Nat) (m6 : Nat) (kd : Nat → Int32) (st : Nat → Int32) (co : Nat → Int32) (gt : Nat → Int32) (pd : Nat → Int32) (de : Nat → Int32) (us : Nat → Int32) (n : Nat) (tl : Int32) (ho : Int32) (sl : Int32) (sz : Nat)  : Met l yX5_hour wsX5_hour ({ frames := 1, cells := 0, slots := 0, locals := 20 }) (gPw D cB cC cI [.ref xh] [(xh, .inr (5, [.ref ph, .ref mh, .ref lh, .ref kh, .ref jh, .ref qh, .ref dh, .int ik, .int mr, .int pn])), (mh, .inr (2, [.ref m0, .ref m1, .ref m2, .ref m3, .ref m4, .ref m5, .ref m6, .int (nI n), .int tl, .int ho, .int sl])), (m0, .inl (cI, 4, .inl kd)), (m1, .inl (cI, 4, .inl st)), (m2, .inl (cI, 4, .inl co)), (m3, .inl (cI, 4, .inl gt)), (m4, .inl (cI, 4, .inl pd)), (m5, .inl (cI, 4, .inl de)), (m6, .inl (cI, 4, .inl us))] sz) (QWi D ((f_X5_hour n ho).1) [(xh, .inr (5, [.ref ph, .ref mh, .ref lh, .ref kh, .ref jh, .ref qh, .ref dh, .int ik, .int mr, .int pn])), (mh, .inr (2, [.ref m0, .ref m1, .ref m2, .ref m3, .ref m4, .ref m5, .ref m6, .int (nI n), .int tl, .int ((f_X5_hour n ho).2), .int sl])), (m0, .inl (cI, 4, .inl kd)), (m1, .inl (cI, 4, .inl st)), (m2, .inl (cI, 4, .inl co)), (m3, .inl (cI, 4, .inl gt)), (m4, .inl (cI, 4, .inl pd)), (m5, .inl (cI, 4, .inl de)), (m6, .inl (cI, 4, .inl us))] (va_A [(xh, .inr (5, [.ref ph, .ref mh, .ref lh, .ref kh, .ref jh, .ref qh, .ref dh, .int ik, .int mr, .int pn])), (mh, .inr (2, [.ref m0, .ref m1, .ref m2, .ref m3, .ref m4, .ref m5, .ref m6, .int (nI n), .int tl, .int ho, .int sl])), (m0, .inl (cI, 4, .inl kd)), (m1, .inl (cI, 4, .inl st)), (m2, .inl (cI, 4, .inl co)), (m3, .inl (cI, 4, .inl gt)), (m4, .inl (cI, 4, .inl pd)), (m5, .inl (cI, 4, .inl de)), (m6, .inl (cI, 4, .inl us))] sz)) 0 0 (va_A [(xh, .inr (5, [.ref ph, .ref mh, .ref lh, .ref kh, .ref jh, .ref qh, .ref dh, .int ik, .int mr, .int pn])), (mh, .inr (2, [.ref m0, .ref m1, .ref m2, .ref m3, .ref m4, .ref m5, .ref m6, .int (nI n), .int tl, .int ho, .int sl])), (m0, .inl (cI, 4, .inl kd)), (m1, .inl (cI, 4, .inl st)), (m2, .inl (cI, 4, .inl co)), (m3, .inl (cI, 4, .inl gt)), (m4, .inl (cI, 4, .inl pd)), (m5, .inl (cI, 4, .inl de)), (m6, .inl (cI, 4, .inl us))] sz) := by
  refine metW (cc := cX5_hour) (maxL := 1) (ret := (some .int)) (QA := fun A => (QWi D ((f_X5_hour n ho).1) [(xh, .inr (5, [.ref ph, .ref mh, .ref lh, .ref kh, .ref jh, .ref qh, .ref dh, .int ik, .int mr, .int pn])), (mh, .inr (2, [.ref m0, .ref m1, .ref m2, .ref m3, .ref m4, .ref m5, .ref m6, .int (nI n), .int tl, .int ((f_X5_hour n ho).2), .int sl])), (m0, .inl (cI, 4, .inl kd)), (m1, .inl (cI, 4, .inl st)), (m2, .inl (cI, 4, .inl co)), (m3, .inl (cI, 4, .inl gt)), (m4, .inl (cI, 4, .inl pd)), (m5, .inl (cI, 4, .inl de)), (m6, .inl (cI, 4, .inl us))] A)) RX5 rfl (by decide) rfl (Nat.le_of_ble_eq_true rfl) ?_
  intro p e s m below meth c A hx hb hr hml hown hts hlocks hin hP hK hD hA hS ls hl
  have iwX5 : ∀ w ∈ wsX50, w ∈ wsX5_hour := by decide +kernel
  have iwX2 : ∀ w ∈ wsX20, w ∈ wsX5_hour := by decide +kernel
  have fk19 := hts (.fieldLink RX5 19 "BuyersWeights" "market" "LBuyersWeights$Market;") (by decide +kernel)
  have fk117 := hts (.fieldLink RX5 117 "BuyersWeights$Market" "hourNow" "I") (by decide +kernel)
  have hl : lv_has ls 1 [(0, .ref xh)] := hl
  refine lv_aload_n hx hb dX5_hour_0 rfl (lv_at hl 0 rfl) ?_
  refine va_get (D := D) (ci := 5) (v := .ref mh) (C := RX5) (T := TX5) (N := 10) hx hb hts iwX5 hown hK.1 hP 0 rfl rfl 1 (by decide) fk19 (fun _ h9 => h9) rfl dX5_hour_1 ?_
  refine rcVi (As := []) (rest := []) ⟨hx, hb, hml, hown, hts⟩ (c_X2_isOpen l D cB cC cI mh m0 m1 m2 m3 m4 m5 m6 kd st co gt pd de us n tl ho sl) (cwV 0 hts gX5_hour_X2_isOpen rfl rfl rfl (by decide +kernel) ⟨Nat.le_of_ble_eq_true rfl, Nat.le_of_ble_eq_true rfl⟩) hK hP [1, 2, 3, 4, 5, 6, 7, 8] rfl rfl 1 rfl rfl hl.1 rfl (Nat.le_of_ble_eq_true rfl) dX5_hour_4 ⟨Nat.zero_le _, Nat.zero_le _⟩ ?_
  refine lv_if_ne (tgt := 13) hx hb dX5_hour_7 (by decide) (fun c_1 => ?_) (fun c_1 => ?_)
  · refine lv_aload_n hx hb dX5_hour_13 rfl (lv_at hl 0 rfl) ?_
    refine va_get (D := D) (ci := 5) (v := .ref mh) (C := RX5) (T := TX5) (N := 10) hx hb hts iwX5 hown hK.1 hP 0 rfl rfl 1 (by decide) fk19 (fun _ h9 => h9) rfl dX5_hour_14 ?_
    refine lv_dup hx hb dX5_hour_17 rfl ?_
    refine va_get (D := D) (ci := 2) (v := .int ho) (C := RX2) (T := TX2) (N := 11) hx hb hts iwX2 hown hK.1 hP 1 rfl rfl 9 (by decide) fk117 (fun _ h9 => h9) rfl dX5_hour_18 ?_
    refine lv_iconst (v := 1) hx hb dX5_hour_21 (by decide) ?_
    refine lv_iadd hx hb dX5_hour_22 ?_
    refine va_put (D := D) (ci := 2) (v := .int (ho + 1)) (ty := .int) (C := RX2) (T := TX2) (N := 11) hx hb hts iwX2 tyX2 tyX2_ok nmX2 hown hK.1 hP hD hS 1 rfl rfl 9 (by decide) fk117 (fun _ h9 => h9) rfl (by decide +kernel) rfl rfl (Nat.le_of_ble_eq_true rfl) dX5_hour_23 (fun H locs hP hD hS => ?_)
    have hP : va_P D vwCl [(xh, .inr (5, [.ref ph, .ref mh, .ref lh, .ref kh, .ref jh, .ref qh, .ref dh, .int ik, .int mr, .int pn])), (mh, .inr (2, [.ref m0, .ref m1, .ref m2, .ref m3, .ref m4, .ref m5, .ref m6, .int (nI n), .int tl, .int (ho + 1), .int sl])), (m0, .inl (cI, 4, .inl kd)), (m1, .inl (cI, 4, .inl st)), (m2, .inl (cI, 4, .inl co)), (m3, .inl (cI, 4, .inl gt)), (m4, .inl (cI, 4, .inl pd)), (m5, .inl (cI, 4, .inl de)), (m6, .inl (cI, 4, .inl us))] H := hP
    have hD : va_D A [(xh, .inr (5, [.ref ph, .ref mh, .ref lh, .ref kh, .ref jh, .ref qh, .ref dh, .int ik, .int mr, .int pn])), (mh, .inr (2, [.ref m0, .ref m1, .ref m2, .ref m3, .ref m4, .ref m5, .ref m6, .int (nI n), .int tl, .int (ho + 1), .int sl])), (m0, .inl (cI, 4, .inl kd)), (m1, .inl (cI, 4, .inl st)), (m2, .inl (cI, 4, .inl co)), (m3, .inl (cI, 4, .inl gt)), (m4, .inl (cI, 4, .inl pd)), (m5, .inl (cI, 4, .inl de)), (m6, .inl (cI, 4, .inl us))] := hD
    refine lv_aload_n hx hb dX5_hour_26 rfl (lv_at hl 0 rfl) ?_
    refine va_get (D := D) (ci := 5) (v := .ref mh) (C := RX5) (T := TX5) (N := 10) hx hb hts iwX5 hown hK.1 hP 0 rfl rfl 1 (by decide) fk19 (fun _ h9 => h9) rfl dX5_hour_27 ?_
    refine va_get (D := D) (ci := 2) (v := .int (ho + 1)) (C := RX2) (T := TX2) (N := 11) hx hb hts iwX2 hown hK.1 hP 1 rfl rfl 9 (by decide) fk117 (fun _ h9 => h9) rfl dX5_hour_30 ?_
    have eG : f_X5_hour n ho = (ho + 1, ho + 1) := if_neg c_1
    exact retWi (u := ()) hx hb hr hlocks (by rw [eG]) (by rw [eG]; exact hP) (by rw [eG]; exact hD) hS dX5_hour_33
  · refine lv_bipush (v := (-103)) hx hb dX5_hour_10 (by decide) ?_
    have eG : f_X5_hour n ho = ((-103), ho) := if_pos c_1
    exact retWi (u := ()) hx hb hr hlocks (by rw [eG]) (by rw [eG]; exact hP) (by rw [eG]; exact hD) hS dX5_hour_12
def f_X5_fair (kd : Nat → Int32) (st : Nat → Int32) (co : Nat → Int32) (n : Nat) (tl : Int32) (ho : Int32) (d : Int32) (b : Int32) : Int32 := if (f_X5_canTrade n b d) = 0 then (-101) else if (b2 (allB (fairP co (f_X2_ounces kd tl (st b.toNatClampNeg) b.toNatClampNeg ho) d.toNatClampNeg d b) n)) = 0 then 0 else 1
set_option maxHeartbeats 4000000 in
set_option maxRecDepth 100000 in
theorem c_X5_fair (l : Launch) (D : va_G) (cB cC cI : ClassId) (xh : Nat) (ph : Nat) (mh : Nat) (lh : Nat) (kh : Nat) (jh : Nat) (qh : Nat) (dh : Nat) (ik : Int32) (mr : Int32) (pn : Int32) (m0 : Nat) (m1 : Nat) (m2 : Nat) (m3 : Nat) (m4 : Nat) (m5 : Nat) (m6 : Nat) (kd : Nat → Int32) (st : Nat → Int32) (co : Nat → Int32) (gt : Nat → Int32) (pd : Nat → Int32) (de : Nat → Int32) (us : Nat → Int32) (n : Nat) (tl : Int32) (ho : Int32) (sl : Int32) (d : Int32) (b : Int32) (hn : n ≤ 4) : Met l yX5_fair wsX5_fair ({ frames := 3, cells := 0, slots := 0, locals := 62 }) (gPr D cB cC cI [.ref xh, .int d, .int b] [(xh, .inr (5, [.ref ph, .ref mh, .ref lh, .ref kh, .ref jh, .ref qh, .ref dh, .int ik, .int mr, .int pn])), (mh, .inr (2, [.ref m0, .ref m1, .ref m2, .ref m3, .ref m4, .ref m5, .ref m6, .int (nI n), .int tl, .int ho, .int sl])), (m0, .inl (cI, 4, .inl kd)), (m1, .inl (cI, 4, .inl st)), (m2, .inl (cI, 4, .inl co)), (m3, .inl (cI, 4, .inl gt)), (m4, .inl (cI, 4, .inl pd)), (m5, .inl (cI, 4, .inl de)), (m6, .inl (cI, 4, .inl us))]) (vp_Si (fun r => r = (f_X5_fair kd st co n tl ho d b))) 0 0 (fun _ => False) := by
  refine metR (cc := cX5_fair) (maxL := 3) (ret := (some .int)) RX5 rfl (by decide) rfl (Nat.le_of_ble_eq_true rfl) ?_
  intro p e s m below meth c hx hb hr hml hown hts hlocks hP hK ls hl
  have iwX5 : ∀ w ∈ wsX50, w ∈ wsX5_fair := by decide +kernel
  have fk19 := hts (.fieldLink RX5 19 "BuyersWeights" "market" "LBuyersWeights$Market;") (by decide +kernel)
  have hl : lv_has ls 3 [(0, .ref xh), (1, .int d), (2, .int b)] := hl
  refine lv_aload_n hx hb dX5_fair_0 rfl (lv_at hl 0 rfl) ?_
  refine lv_iload_n hx hb dX5_fair_1 rfl (lv_at hl 2 rfl) ?_
  refine lv_iload_n hx hb dX5_fair_2 rfl (lv_at hl 1 rfl) ?_
  refine rcVi (As := [.int b, .int d]) (rest := []) ⟨hx, hb, hml, hown, hts⟩ (c_X5_canTrade l D cB cC cI xh ph mh lh kh jh qh dh ik mr pn m0 m1 m2 m3 m4 m5 m6 kd st co gt pd de us n tl ho sl b d (by first | assumption | omega | decide)) (cwV 2 hts gX5_fair_X5_canTrade rfl rfl rfl (by decide +kernel) ⟨Nat.le_of_ble_eq_true rfl, Nat.le_of_ble_eq_true rfl⟩) hK hP [0, 1, 2, 3, 4, 5, 6, 7, 8] rfl rfl 0 rfl rfl hl.1 rfl (Nat.le_of_ble_eq_true rfl) dX5_fair_3 ⟨Nat.zero_le _, Nat.zero_le _⟩ ?_
  refine lv_if_ne (tgt := 12) hx hb dX5_fair_6 (by decide) (fun c_1 => ?_) (fun c_1 => ?_)
  · have hct := ct_ix hn c_1
    have hib := hct.1.up hn
    have hid := hct.2.1.up hn
    refine lv_aload_n hx hb dX5_fair_12 rfl (lv_at hl 0 rfl) ?_
    refine va_get (D := D) (ci := 5) (v := .ref mh) (C := RX5) (T := TX5) (N := 10) hx hb hts iwX5 hown hK.1 hP 0 rfl rfl 1 (by decide) fk19 (fun _ h9 => h9) rfl dX5_fair_13 ?_
    refine lv_iload_n hx hb dX5_fair_16 rfl (lv_at hl 1 rfl) ?_
    refine lv_iload_n hx hb dX5_fair_17 rfl (lv_at hl 2 rfl) ?_
    refine rcVi (As := [.int d, .int b]) (rest := []) ⟨hx, hb, hml, hown, hts⟩ (c_X2_isFair l D cB cC cI mh m0 m1 m2 m3 m4 m5 m6 kd st co gt pd de us n tl ho sl d d.toNatClampNeg b b.toNatClampNeg (by first | assumption | omega | decide) hid hib) (cwV 2 hts gX5_fair_X2_isFair rfl rfl rfl (by decide +kernel) ⟨Nat.le_of_ble_eq_true rfl, Nat.le_of_ble_eq_true rfl⟩) hK hP [1, 2, 3, 4, 5, 6, 7, 8] rfl rfl 1 rfl rfl hl.1 rfl (Nat.le_of_ble_eq_true rfl) dX5_fair_18 ⟨Nat.zero_le _, Nat.zero_le _⟩ ?_
    refine lv_if_eq (tgt := 28) hx hb dX5_fair_21 (by decide) (fun c_2 => ?_) (fun c_2 => ?_)
    · refine lv_iconst (v := 0) hx hb dX5_fair_28 (by decide) ?_
      have eG : f_X5_fair kd st co n tl ho d b = 0 := (if_neg c_1).trans (if_pos c_2)
      exact retRi hx hb hr hlocks eG.symm dX5_fair_29
    · refine lv_iconst (v := 1) hx hb dX5_fair_24 (by decide) ?_
      refine lv_goto (tgt := 29) hx hb dX5_fair_25 (by decide) ?_
      have eG : f_X5_fair kd st co n tl ho d b = 1 := (if_neg c_1).trans (if_neg c_2)
      exact retRi hx hb hr hlocks eG.symm dX5_fair_29
  · refine lv_bipush (v := (-101)) hx hb dX5_fair_9 (by decide) ?_
    have eG : f_X5_fair kd st co n tl ho d b = (-101) := if_pos c_1
    exact retRi hx hb hr hlocks eG.symm dX5_fair_11
def f_X5_pass (n : Nat) (tm : Nat → Int32) (hd : Int32) (b : Int32) : Int32 × Int32 × (Nat → Int32) := if (f_X2_has n b) = 0 then ((-101), hd, tm) else if hd < 8 then (hd + 1, hd + 1, upd tm b.toNatClampNeg ((tm b.toNatClampNeg) + 1)) else ((-104), hd, tm)
set_option maxHeartbeats 4000000 in
set_option maxRecDepth 100000 in
theorem c_X5_pass (l : Launch) (D : va_G) (cB cC cI : ClassId) (xh : Nat) (ph : Nat) (mh : Nat) (lh : Nat) (kh : Nat) (jh : Nat) (qh : Nat) (dh : Nat) (ik : Int32) (mr : Int32) (pn : Int32) (m0 : Nat) (m1 : Nat) (m2 : Nat) (m3 : Nat) (m4 : Nat) (m5 : Nat) (m6 : Nat) (kd : Nat → Int32) (st : Nat → Int32) (co : Nat → Int32) (gt : Nat → Int32) (pd : Nat → Int32) (de : Nat → Int32) (us : Nat → Int32) (n : Nat) (tl : Int32) (ho : Int32) (sl : Int32) (l0 : Nat) (tm : Nat → Int32) (hd : Int32) (lo : Int32) (b : Int32) (sz : Nat) (hn : n ≤ 4) : Met l yX5_pass wsX5_pass ({ frames := 1, cells := 0, slots := 0, locals := 21 }) (gPw D cB cC cI [.ref xh, .int b] [(xh, .inr (5, [.ref ph, .ref mh, .ref lh, .ref kh, .ref jh, .ref qh, .ref dh, .int ik, .int mr, .int pn])), (mh, .inr (2, [.ref m0, .ref m1, .ref m2, .ref m3, .ref m4, .ref m5, .ref m6, .int (nI n), .int tl, .int ho, .int sl])), (m0, .inl (cI, 4, .inl kd)), (m1, .inl (cI, 4, .inl st)), (m2, .inl (cI, 4, .inl co)), (m3, .inl (cI, 4, .inl gt)), (m4, .inl (cI, 4, .inl pd)), (m5, .inl (cI, 4, .inl de)), (m6, .inl (cI, 4, .inl us)), (lh, .inr (1, [.ref l0, .int hd, .int lo])), (l0, .inl (cI, 4, .inl tm))] sz) (QWi D ((f_X5_pass n tm hd b).1) [(xh, .inr (5, [.ref ph, .ref mh, .ref lh, .ref kh, .ref jh, .ref qh, .ref dh, .int ik, .int mr, .int pn])), (mh, .inr (2, [.ref m0, .ref m1, .ref m2, .ref m3, .ref m4, .ref m5, .ref m6, .int (nI n), .int tl, .int ho, .int sl])), (m0, .inl (cI, 4, .inl kd)), (m1, .inl (cI, 4, .inl st)), (m2, .inl (cI, 4, .inl co)), (m3, .inl (cI, 4, .inl gt)), (m4, .inl (cI, 4, .inl pd)), (m5, .inl (cI, 4, .inl de)), (m6, .inl (cI, 4, .inl us)), (lh, .inr (1, [.ref l0, .int ((f_X5_pass n tm hd b).2.1), .int lo])), (l0, .inl (cI, 4, .inl ((f_X5_pass n tm hd b).2.2)))] (va_A [(xh, .inr (5, [.ref ph, .ref mh, .ref lh, .ref kh, .ref jh, .ref qh, .ref dh, .int ik, .int mr, .int pn])), (mh, .inr (2, [.ref m0, .ref m1, .ref m2, .ref m3, .ref m4, .ref m5, .ref m6, .int (nI n), .int tl, .int ho, .int sl])), (m0, .inl (cI, 4, .inl kd)), (m1, .inl (cI, 4, .inl st)), (m2, .inl (cI, 4, .inl co)), (m3, .inl (cI, 4, .inl gt)), (m4, .inl (cI, 4, .inl pd)), (m5, .inl (cI, 4, .inl de)), (m6, .inl (cI, 4, .inl us)), (lh, .inr (1, [.ref l0, .int hd, .int lo])), (l0, .inl (cI, 4, .inl tm))] sz)) 0 0 (va_A [(xh, .inr (5, [.ref ph, .ref mh, .ref lh, .ref kh, .ref jh, .ref qh, .ref dh, .int ik, .int mr, .int pn])), (mh, .inr (2, [.ref m0, .ref m1, .ref m2, .ref m3, .ref m4, .ref m5, .ref m6, .int (nI n), .int tl, .int ho, .int sl])), (m0, .inl (cI, 4, .inl kd)), (m1, .inl (cI, 4, .inl st)), (m2, .inl (cI, 4, .inl co)), (m3, .inl (cI, 4, .inl gt)), (m4, .inl (cI, 4, .inl pd)), (m5, .inl (cI, 4, .inl de)), (m6, .inl (cI, 4, .inl us)), (lh, .inr (1, [.ref l0, .int hd, .int lo])), (l0, .inl (cI, 4, .inl tm))] sz) := by
  refine metW (cc := cX5_pass) (maxL := 2) (ret := (some .int)) (QA := fun A => (QWi D ((f_X5_pass n tm hd b).1) [(xh, .inr (5, [.ref ph, .ref mh, .ref lh, .ref kh, .ref jh, .ref qh, .ref dh, .int ik, .int mr, .int pn])), (mh, .inr (2, [.ref m0, .ref m1, .ref m2, .ref m3, .ref m4, .ref m5, .ref m6, .int (nI n), .int tl, .int ho, .int sl])), (m0, .inl (cI, 4, .inl kd)), (m1, .inl (cI, 4, .inl st)), (m2, .inl (cI, 4, .inl co)), (m3, .inl (cI, 4, .inl gt)), (m4, .inl (cI, 4, .inl pd)), (m5, .inl (cI, 4, .inl de)), (m6, .inl (cI, 4, .inl us)), (lh, .inr (1, [.ref l0, .int ((f_X5_pass n tm hd b).2.1), .int lo])), (l0, .inl (cI, 4, .inl ((f_X5_pass n tm hd b).2.2)))] A)) RX5 rfl (by decide) rfl (Nat.le_of_ble_eq_true rfl) ?_
  intro p e s m below meth c A hx hb hr hml hown hts hlocks hin hP hK hD hA hS ls hl
  have iwX5 : ∀ w ∈ wsX50, w ∈ wsX5_pass := by decide +kernel
  have iwX1 : ∀ w ∈ wsX10, w ∈ wsX5_pass := by decide +kernel
  have fk19 := hts (.fieldLink RX5 19 "BuyersWeights" "market" "LBuyersWeights$Market;") (by decide +kernel)
  have fk26 := hts (.fieldLink RX5 26 "BuyersWeights" "ledger" "LBuyersWeights$Ledger;") (by decide +kernel)
  have fk146 := hts (.fieldLink RX5 146 "BuyersWeights$Ledger" "hands" "I") (by decide +kernel)
  have hl : lv_has ls 2 [(0, .ref xh), (1, .int b)] := hl
  refine lv_aload_n hx hb dX5_pass_0 rfl (lv_at hl 0 rfl) ?_
  refine va_get (D := D) (ci := 5) (v := .ref mh) (C := RX5) (T := TX5) (N := 10) hx hb hts iwX5 hown hK.1 hP 0 rfl rfl 1 (by decide) fk19 (fun _ h9 => h9) rfl dX5_pass_1 ?_
  refine lv_iload_n hx hb dX5_pass_4 rfl (lv_at hl 1 rfl) ?_
  refine rcVi (As := [.int b]) (rest := []) ⟨hx, hb, hml, hown, hts⟩ (c_X2_has l D cB cC cI mh m0 m1 m2 m3 m4 m5 m6 kd st co gt pd de us n tl ho sl b) (cwV 1 hts gX5_pass_X2_has rfl rfl rfl (by decide +kernel) ⟨Nat.le_of_ble_eq_true rfl, Nat.le_of_ble_eq_true rfl⟩) hK hP [1, 2, 3, 4, 5, 6, 7, 8] rfl rfl 1 rfl rfl hl.1 rfl (Nat.le_of_ble_eq_true rfl) dX5_pass_5 ⟨Nat.zero_le _, Nat.zero_le _⟩ ?_
  refine lv_if_ne (tgt := 14) hx hb dX5_pass_8 (by decide) (fun c_1 => ?_) (fun c_1 => ?_)
  · have hi := (has_ix hn c_1).up hn
    refine lv_aload_n hx hb dX5_pass_14 rfl (lv_at hl 0 rfl) ?_
    refine va_get (D := D) (ci := 5) (v := .ref lh) (C := RX5) (T := TX5) (N := 10) hx hb hts iwX5 hown hK.1 hP 0 rfl rfl 2 (by decide) fk26 (fun _ h9 => h9) rfl dX5_pass_15 ?_
    refine va_get (D := D) (ci := 1) (v := .int hd) (C := RX1) (T := TX1) (N := 3) hx hb hts iwX1 hown hK.1 hP 9 rfl rfl 1 (by decide) fk146 (fun _ h9 => h9) rfl dX5_pass_18 ?_
    refine lv_bipush (v := 8) hx hb dX5_pass_21 (by decide) ?_
    refine lv_icmp_lt (tgt := 29) hx hb dX5_pass_23 (by decide) (fun c_2 => ?_) (fun c_2 => ?_)
    · refine lv_aload_n hx hb dX5_pass_29 rfl (lv_at hl 0 rfl) ?_
      refine va_get (D := D) (ci := 5) (v := .ref lh) (C := RX5) (T := TX5) (N := 10) hx hb hts iwX5 hown hK.1 hP 0 rfl rfl 2 (by decide) fk26 (fun _ h9 => h9) rfl dX5_pass_30 ?_
      refine lv_iload_n hx hb dX5_pass_33 rfl (lv_at hl 1 rfl) ?_
      refine wcVv1 (As := [.int b]) (rest := []) (wr := [(xh, .inr (5, [.ref ph, .ref mh, .ref lh, .ref kh, .ref jh, .ref qh, .ref dh, .int ik, .int mr, .int pn])), (mh, .inr (2, [.ref m0, .ref m1, .ref m2, .ref m3, .ref m4, .ref m5, .ref m6, .int (nI n), .int tl, .int ho, .int sl])), (m0, .inl (cI, 4, .inl kd)), (m1, .inl (cI, 4, .inl st)), (m2, .inl (cI, 4, .inl co)), (m3, .inl (cI, 4, .inl gt)), (m4, .inl (cI, 4, .inl pd)), (m5, .inl (cI, 4, .inl de)), (m6, .inl (cI, 4, .inl us))]) (w2 := [(xh, .inr (5, [.ref ph, .ref mh, .ref lh, .ref kh, .ref jh, .ref qh, .ref dh, .int ik, .int mr, .int pn])), (mh, .inr (2, [.ref m0, .ref m1, .ref m2, .ref m3, .ref m4, .ref m5, .ref m6, .int (nI n), .int tl, .int ho, .int sl])), (m0, .inl (cI, 4, .inl kd)), (m1, .inl (cI, 4, .inl st)), (m2, .inl (cI, 4, .inl co)), (m3, .inl (cI, 4, .inl gt)), (m4, .inl (cI, 4, .inl pd)), (m5, .inl (cI, 4, .inl de)), (m6, .inl (cI, 4, .inl us)), (lh, .inr (1, [.ref l0, .int (hd + 1), .int lo])), (l0, .inl (cI, 4, .inl (upd tm b.toNatClampNeg ((tm b.toNatClampNeg) + 1))))]) ⟨hx, hb, hml, hown, hts⟩ (c_X1_add l D cB cC cI lh l0 tm hd lo b b.toNatClampNeg _ hi) (cwV 1 hts gX5_pass_X1_add rfl rfl rfl (by decide +kernel) ⟨Nat.le_of_ble_eq_true rfl, Nat.le_of_ble_eq_true rfl⟩) hK hP hD hS hA [9, 10] [0, 1, 2, 3, 4, 5, 6, 7, 8] [0, 1, 2, 3, 4, 5, 6, 7, 8, 9, 10] (by decide) rfl rfl (by decide) (by decide) (by decide) rfl rfl 9 rfl rfl hl.1 rfl (Nat.le_of_ble_eq_true rfl) dX5_pass_34 ⟨Nat.zero_le _, Nat.zero_le _⟩ (fun H locs hP hD hS => ?_)
      refine lv_aload_n hx hb dX5_pass_37 rfl (lv_at hl 0 rfl) ?_
      refine va_get (D := D) (ci := 5) (v := .ref lh) (C := RX5) (T := TX5) (N := 10) hx hb hts iwX5 hown hK.1 hP 0 rfl rfl 2 (by decide) fk26 (fun _ h9 => h9) rfl dX5_pass_38 ?_
      refine va_get (D := D) (ci := 1) (v := .int (hd + 1)) (C := RX1) (T := TX1) (N := 3) hx hb hts iwX1 hown hK.1 hP 9 rfl rfl 1 (by decide) fk146 (fun _ h9 => h9) rfl dX5_pass_41 ?_
      have eG : f_X5_pass n tm hd b = (hd + 1, hd + 1, upd tm b.toNatClampNeg ((tm b.toNatClampNeg) + 1)) := (if_neg c_1).trans (if_pos c_2)
      exact retWi (u := ()) hx hb hr hlocks (by rw [eG]) (by rw [eG]; exact hP) (by rw [eG]; exact hD) hS dX5_pass_44
    · refine lv_bipush (v := (-104)) hx hb dX5_pass_26 (by decide) ?_
      have eG : f_X5_pass n tm hd b = ((-104), hd, tm) := (if_neg c_1).trans (if_neg c_2)
      exact retWi (u := ()) hx hb hr hlocks (by rw [eG]) (by rw [eG]; exact hP) (by rw [eG]; exact hD) hS dX5_pass_28
  · refine lv_bipush (v := (-101)) hx hb dX5_pass_11 (by decide) ?_
    have eG : f_X5_pass n tm hd b = ((-101), hd, tm) := if_pos c_1
    exact retWi (u := ()) hx hb hr hlocks (by rw [eG]) (by rw [eG]; exact hP) (by rw [eG]; exact hD) hS dX5_pass_13
def f_X5_lose (lo : Int32) (b : Int32) : Int32 × Int32 := if b < 0 then ((-102), lo) else if b ≤ 20 then (lo, b) else ((-102), lo)
set_option maxHeartbeats 4000000 in
set_option maxRecDepth 100000 in
theorem c_X5_lose (l : Launch) (D : va_G) (cB cC cI : ClassId) (xh : Nat) (ph : Nat) (mh : Nat) (lh : Nat) (kh : Nat) (jh : Nat) (qh : Nat) (dh : Nat) (ik : Int32) (mr : Int32) (pn : Int32) (l0 : Nat) (tm : Nat → Int32) (hd : Int32) (lo : Int32) (b : Int32) (sz : Nat)  : Met l yX5_lose wsX5_lose ({ frames := 0, cells := 0, slots := 0, locals := 0 }) (gPw D cB cC cI [.ref xh, .int b] [(xh, .inr (5, [.ref ph, .ref mh, .ref lh, .ref kh, .ref jh, .ref qh, .ref dh, .int ik, .int mr, .int pn])), (lh, .inr (1, [.ref l0, .int hd, .int lo])), (l0, .inl (cI, 4, .inl tm))] sz) (QWi D ((f_X5_lose lo b).1) [(xh, .inr (5, [.ref ph, .ref mh, .ref lh, .ref kh, .ref jh, .ref qh, .ref dh, .int ik, .int mr, .int pn])), (lh, .inr (1, [.ref l0, .int hd, .int ((f_X5_lose lo b).2)])), (l0, .inl (cI, 4, .inl tm))] (va_A [(xh, .inr (5, [.ref ph, .ref mh, .ref lh, .ref kh, .ref jh, .ref qh, .ref dh, .int ik, .int mr, .int pn])), (lh, .inr (1, [.ref l0, .int hd, .int lo])), (l0, .inl (cI, 4, .inl tm))] sz)) 0 0 (va_A [(xh, .inr (5, [.ref ph, .ref mh, .ref lh, .ref kh, .ref jh, .ref qh, .ref dh, .int ik, .int mr, .int pn])), (lh, .inr (1, [.ref l0, .int hd, .int lo])), (l0, .inl (cI, 4, .inl tm))] sz) := by
  refine metW (cc := cX5_lose) (maxL := 3) (ret := (some .int)) (QA := fun A => (QWi D ((f_X5_lose lo b).1) [(xh, .inr (5, [.ref ph, .ref mh, .ref lh, .ref kh, .ref jh, .ref qh, .ref dh, .int ik, .int mr, .int pn])), (lh, .inr (1, [.ref l0, .int hd, .int ((f_X5_lose lo b).2)])), (l0, .inl (cI, 4, .inl tm))] A)) RX5 rfl (by decide) rfl (Nat.le_of_ble_eq_true rfl) ?_
  intro p e s m below meth c A hx hb hr hml hown hts hlocks hin hP hK hD hA hS ls hl
  have iwX5 : ∀ w ∈ wsX50, w ∈ wsX5_lose := by decide +kernel
  have iwX1 : ∀ w ∈ wsX10, w ∈ wsX5_lose := by decide +kernel
  have fk26 := hts (.fieldLink RX5 26 "BuyersWeights" "ledger" "LBuyersWeights$Ledger;") (by decide +kernel)
  have fk152 := hts (.fieldLink RX5 152 "BuyersWeights$Ledger" "lost" "I") (by decide +kernel)
  have hl : lv_has ls 3 [(0, .ref xh), (1, .int b)] := hl
  refine lv_iload_n hx hb dX5_lose_0 rfl (lv_at hl 1 rfl) ?_
  refine lv_if_lt (tgt := 10) hx hb dX5_lose_1 (by decide) (fun c_1 => ?_) (fun c_1 => ?_)
  · refine lv_bipush (v := (-102)) hx hb dX5_lose_10 (by decide) ?_
    have eG : f_X5_lose lo b = ((-102), lo) := if_pos c_1
    exact retWi (u := ()) hx hb hr hlocks (by rw [eG]) (by rw [eG]; exact hP) (by rw [eG]; exact hD) hS dX5_lose_12
  · refine lv_iload_n hx hb dX5_lose_4 rfl (lv_at hl 1 rfl) ?_
    refine lv_bipush (v := 20) hx hb dX5_lose_5 (by decide) ?_
    refine lv_icmp_le (tgt := 13) hx hb dX5_lose_7 (by decide) (fun c_2 => ?_) (fun c_2 => ?_)
    · refine lv_aload_n hx hb dX5_lose_13 rfl (lv_at hl 0 rfl) ?_
      refine va_get (D := D) (ci := 5) (v := .ref lh) (C := RX5) (T := TX5) (N := 10) hx hb hts iwX5 hown hK.1 hP 0 rfl rfl 2 (by decide) fk26 (fun _ h9 => h9) rfl dX5_lose_14 ?_
      refine va_get (D := D) (ci := 1) (v := .int lo) (C := RX1) (T := TX1) (N := 3) hx hb hts iwX1 hown hK.1 hP 1 rfl rfl 2 (by decide) fk152 (fun _ h9 => h9) rfl dX5_lose_17 ?_
      refine lv_istore_n (lv' := [(2, .int lo), (0, .ref xh), (1, .int b)]) hx hb dX5_lose_20 rfl hl (by decide) rfl (fun ls hl => ?_)
      refine lv_aload_n hx hb dX5_lose_21 rfl (lv_at hl 1 rfl) ?_
      refine va_get (D := D) (ci := 5) (v := .ref lh) (C := RX5) (T := TX5) (N := 10) hx hb hts iwX5 hown hK.1 hP 0 rfl rfl 2 (by decide) fk26 (fun _ h9 => h9) rfl dX5_lose_22 ?_
      refine lv_iload_n hx hb dX5_lose_25 rfl (lv_at hl 2 rfl) ?_
      refine va_put (D := D) (ci := 1) (v := .int b) (ty := .int) (C := RX1) (T := TX1) (N := 3) hx hb hts iwX1 tyX1 tyX1_ok nmX1 hown hK.1 hP hD hS 1 rfl rfl 2 (by decide) fk152 (fun _ h9 => h9) rfl (by decide +kernel) rfl rfl (Nat.le_of_ble_eq_true rfl) dX5_lose_26 (fun H locs hP hD hS => ?_)
      have hP : va_P D vwCl [(xh, .inr (5, [.ref ph, .ref mh, .ref lh, .ref kh, .ref jh, .ref qh, .ref dh, .int ik, .int mr, .int pn])), (lh, .inr (1, [.ref l0, .int hd, .int b])), (l0, .inl (cI, 4, .inl tm))] H := hP
      have hD : va_D A [(xh, .inr (5, [.ref ph, .ref mh, .ref lh, .ref kh, .ref jh, .ref qh, .ref dh, .int ik, .int mr, .int pn])), (lh, .inr (1, [.ref l0, .int hd, .int b])), (l0, .inl (cI, 4, .inl tm))] := hD
      refine lv_iload_n hx hb dX5_lose_29 rfl (lv_at hl 0 rfl) ?_
      have eG : f_X5_lose lo b = (lo, b) := (if_neg c_1).trans (if_pos c_2)
      exact retWi (u := ()) hx hb hr hlocks (by rw [eG]) (by rw [eG]; exact hP) (by rw [eG]; exact hD) hS dX5_lose_30
    · refine lv_bipush (v := (-102)) hx hb dX5_lose_10 (by decide) ?_
      have eG : f_X5_lose lo b = ((-102), lo) := (if_neg c_1).trans (if_neg c_2)
      exact retWi (u := ()) hx hb hr hlocks (by rw [eG]) (by rw [eG]; exact hP) (by rw [eG]; exact hD) hS dX5_lose_12
set_option maxHeartbeats 4000000 in
set_option maxRecDepth 100000 in
theorem c_X5_clear (l : Launch) (D : va_G) (cB cC cI : ClassId) (xh : Nat) (ph : Nat) (mh : Nat) (lh : Nat) (kh : Nat) (jh : Nat) (qh : Nat) (dh : Nat) (ik : Int32) (mr : Int32) (pn : Int32) (l0 : Nat) (tm : Nat → Int32) (hd : Int32) (lo : Int32) (sz : Nat)  : Met l yX5_clear wsX5_clear ({ frames := 1, cells := 0, slots := 0, locals := 21 }) (gPw D cB cC cI [.ref xh] [(xh, .inr (5, [.ref ph, .ref mh, .ref lh, .ref kh, .ref jh, .ref qh, .ref dh, .int ik, .int mr, .int pn])), (lh, .inr (1, [.ref l0, .int hd, .int lo])), (l0, .inl (cI, 4, .inl tm))] sz) (QWi D hd [(xh, .inr (5, [.ref ph, .ref mh, .ref lh, .ref kh, .ref jh, .ref qh, .ref dh, .int ik, .int mr, .int pn])), (lh, .inr (1, [.ref l0, .int 0, .int 0])), (l0, .inl (cI, 4, .inl (fun _ => 0)))] (va_A [(xh, .inr (5, [.ref ph, .ref mh, .ref lh, .ref kh, .ref jh, .ref qh, .ref dh, .int ik, .int mr, .int pn])), (lh, .inr (1, [.ref l0, .int hd, .int lo])), (l0, .inl (cI, 4, .inl tm))] sz)) 0 0 (va_A [(xh, .inr (5, [.ref ph, .ref mh, .ref lh, .ref kh, .ref jh, .ref qh, .ref dh, .int ik, .int mr, .int pn])), (lh, .inr (1, [.ref l0, .int hd, .int lo])), (l0, .inl (cI, 4, .inl tm))] sz) := by
  refine metW (cc := cX5_clear) (maxL := 2) (ret := (some .int)) (QA := fun A => (QWi D hd [(xh, .inr (5, [.ref ph, .ref mh, .ref lh, .ref kh, .ref jh, .ref qh, .ref dh, .int ik, .int mr, .int pn])), (lh, .inr (1, [.ref l0, .int 0, .int 0])), (l0, .inl (cI, 4, .inl (fun _ => 0)))] A)) RX5 rfl (by decide) rfl (Nat.le_of_ble_eq_true rfl) ?_
  intro p e s m below meth c A hx hb hr hml hown hts hlocks hin hP hK hD hA hS ls hl
  have iwX5 : ∀ w ∈ wsX50, w ∈ wsX5_clear := by decide +kernel
  have iwX1 : ∀ w ∈ wsX10, w ∈ wsX5_clear := by decide +kernel
  have fk26 := hts (.fieldLink RX5 26 "BuyersWeights" "ledger" "LBuyersWeights$Ledger;") (by decide +kernel)
  have fk146 := hts (.fieldLink RX5 146 "BuyersWeights$Ledger" "hands" "I") (by decide +kernel)
  have hl : lv_has ls 2 [(0, .ref xh)] := hl
  refine lv_aload_n hx hb dX5_clear_0 rfl (lv_at hl 0 rfl) ?_
  refine va_get (D := D) (ci := 5) (v := .ref lh) (C := RX5) (T := TX5) (N := 10) hx hb hts iwX5 hown hK.1 hP 0 rfl rfl 2 (by decide) fk26 (fun _ h9 => h9) rfl dX5_clear_1 ?_
  refine va_get (D := D) (ci := 1) (v := .int hd) (C := RX1) (T := TX1) (N := 3) hx hb hts iwX1 hown hK.1 hP 1 rfl rfl 1 (by decide) fk146 (fun _ h9 => h9) rfl dX5_clear_4 ?_
  refine lv_istore_n (lv' := [(1, .int hd), (0, .ref xh)]) hx hb dX5_clear_7 rfl hl (by decide) rfl (fun ls hl => ?_)
  refine lv_aload_n hx hb dX5_clear_8 rfl (lv_at hl 1 rfl) ?_
  refine va_get (D := D) (ci := 5) (v := .ref lh) (C := RX5) (T := TX5) (N := 10) hx hb hts iwX5 hown hK.1 hP 0 rfl rfl 2 (by decide) fk26 (fun _ h9 => h9) rfl dX5_clear_9 ?_
  refine wcVv1 (As := []) (rest := []) (wr := [(xh, .inr (5, [.ref ph, .ref mh, .ref lh, .ref kh, .ref jh, .ref qh, .ref dh, .int ik, .int mr, .int pn]))]) (w2 := [(xh, .inr (5, [.ref ph, .ref mh, .ref lh, .ref kh, .ref jh, .ref qh, .ref dh, .int ik, .int mr, .int pn])), (lh, .inr (1, [.ref l0, .int 0, .int 0])), (l0, .inl (cI, 4, .inl (fun _ => 0)))]) ⟨hx, hb, hml, hown, hts⟩ (c_X1_forget l D cB cC cI lh l0 tm hd lo _) (cwV 0 hts gX5_clear_X1_forget rfl rfl rfl (by decide +kernel) ⟨Nat.le_of_ble_eq_true rfl, Nat.le_of_ble_eq_true rfl⟩) hK hP hD hS hA [1, 2] [0] [0, 1, 2] (by decide) rfl rfl (by decide) (by decide) (by decide) rfl rfl 1 rfl rfl hl.1 rfl (Nat.le_of_ble_eq_true rfl) dX5_clear_12 ⟨Nat.zero_le _, Nat.zero_le _⟩ (fun H locs hP hD hS => ?_)
  refine lv_iload_n hx hb dX5_clear_15 rfl (lv_at hl 0 rfl) ?_
  exact retWi (u := ()) hx hb hr hlocks rfl hP hD hS dX5_clear_16
def f_X5_rubbed (n : Nat) (tm : Nat → Int32) (lo : Int32) (w : Int32) : Int32 := if w < 0 then (-102) else if w ≤ 2 then (if (f_X2_isOpen n) = 0 then (-103) else if w = 0 then hms tm lo n 0 else if w = 1 then leastL (EX tm lo n) (2 ^ n) 0 else andU (EX tm lo n) (2 ^ n)) else (-102)
set_option maxHeartbeats 4000000 in
set_option maxRecDepth 100000 in
theorem c_X5_rubbed (l : Launch) (D : va_G) (cB cC cI : ClassId) (xh : Nat) (ph : Nat) (mh : Nat) (lh : Nat) (kh : Nat) (jh : Nat) (qh : Nat) (dh : Nat) (ik : Int32) (mr : Int32) (pn : Int32) (m0 : Nat) (m1 : Nat) (m2 : Nat) (m3 : Nat) (m4 : Nat) (m5 : Nat) (m6 : Nat) (kd : Nat → Int32) (st : Nat → Int32) (co : Nat → Int32) (gt : Nat → Int32) (pd : Nat → Int32) (de : Nat → Int32) (us : Nat → Int32) (n : Nat) (tl : Int32) (ho : Int32) (sl : Int32) (l0 : Nat) (tm : Nat → Int32) (hd : Int32) (lo : Int32) (w : Int32) (hn : n ≤ 4) : Met l yX5_rubbed wsX5_rubbed ({ frames := 3, cells := 0, slots := 0, locals := 69 }) (gPr D cB cC cI [.ref xh, .int w] [(xh, .inr (5, [.ref ph, .ref mh, .ref lh, .ref kh, .ref jh, .ref qh, .ref dh, .int ik, .int mr, .int pn])), (mh, .inr (2, [.ref m0, .ref m1, .ref m2, .ref m3, .ref m4, .ref m5, .ref m6, .int (nI n), .int tl, .int ho, .int sl])), (m0, .inl (cI, 4, .inl kd)), (m1, .inl (cI, 4, .inl st)), (m2, .inl (cI, 4, .inl co)), (m3, .inl (cI, 4, .inl gt)), (m4, .inl (cI, 4, .inl pd)), (m5, .inl (cI, 4, .inl de)), (m6, .inl (cI, 4, .inl us)), (lh, .inr (1, [.ref l0, .int hd, .int lo])), (l0, .inl (cI, 4, .inl tm))]) (vp_Si (fun r => r = (f_X5_rubbed n tm lo w))) 0 0 (fun _ => False) := by
  refine metR (cc := cX5_rubbed) (maxL := 2) (ret := (some .int)) RX5 rfl (by decide) rfl (Nat.le_of_ble_eq_true rfl) ?_
  intro p e s m below meth c hx hb hr hml hown hts hlocks hP hK ls hl
  have iwX5 : ∀ w ∈ wsX50, w ∈ wsX5_rubbed := by decide +kernel
  have iwX2 : ∀ w ∈ wsX20, w ∈ wsX5_rubbed := by decide +kernel
  have fk19 := hts (.fieldLink RX5 19 "BuyersWeights" "market" "LBuyersWeights$Market;") (by decide +kernel)
  have fk26 := hts (.fieldLink RX5 26 "BuyersWeights" "ledger" "LBuyersWeights$Ledger;") (by decide +kernel)
  have fk86 := hts (.fieldLink RX5 86 "BuyersWeights$Market" "houses" "I") (by decide +kernel)
  have hl : lv_has ls 2 [(0, .ref xh), (1, .int w)] := hl
  refine lv_iload_n hx hb dX5_rubbed_0 rfl (lv_at hl 1 rfl) ?_
  refine lv_if_lt (tgt := 9) hx hb dX5_rubbed_1 (by decide) (fun c_1 => ?_) (fun c_1 => ?_)
  · refine lv_bipush (v := (-102)) hx hb dX5_rubbed_9 (by decide) ?_
    have eG : f_X5_rubbed n tm lo w = (-102) := if_pos c_1
    exact retRi hx hb hr hlocks eG.symm dX5_rubbed_11
  · refine lv_iload_n hx hb dX5_rubbed_4 rfl (lv_at hl 1 rfl) ?_
    refine lv_iconst (v := 2) hx hb dX5_rubbed_5 (by decide) ?_
    refine lv_icmp_le (tgt := 12) hx hb dX5_rubbed_6 (by decide) (fun c_2 => ?_) (fun c_2 => ?_)
    · refine lv_aload_n hx hb dX5_rubbed_12 rfl (lv_at hl 0 rfl) ?_
      refine va_get (D := D) (ci := 5) (v := .ref mh) (C := RX5) (T := TX5) (N := 10) hx hb hts iwX5 hown hK.1 hP 0 rfl rfl 1 (by decide) fk19 (fun _ h9 => h9) rfl dX5_rubbed_13 ?_
      refine rcVi (As := []) (rest := []) ⟨hx, hb, hml, hown, hts⟩ (c_X2_isOpen l D cB cC cI mh m0 m1 m2 m3 m4 m5 m6 kd st co gt pd de us n tl ho sl) (cwV 0 hts gX5_rubbed_X2_isOpen rfl rfl rfl (by decide +kernel) ⟨Nat.le_of_ble_eq_true rfl, Nat.le_of_ble_eq_true rfl⟩) hK hP [1, 2, 3, 4, 5, 6, 7, 8] rfl rfl 1 rfl rfl hl.1 rfl (Nat.le_of_ble_eq_true rfl) dX5_rubbed_16 ⟨Nat.zero_le _, Nat.zero_le _⟩ ?_
      refine lv_if_ne (tgt := 25) hx hb dX5_rubbed_19 (by decide) (fun c_3 => ?_) (fun c_3 => ?_)
      · refine lv_iload_n hx hb dX5_rubbed_25 rfl (lv_at hl 1 rfl) ?_
        refine lv_if_ne (tgt := 44) hx hb dX5_rubbed_26 (by decide) (fun c_4 => ?_) (fun c_4 => ?_)
        · refine lv_iload_n hx hb dX5_rubbed_44 rfl (lv_at hl 1 rfl) ?_
          refine lv_iconst (v := 1) hx hb dX5_rubbed_45 (by decide) ?_
          refine lv_icmp_ne (tgt := 66) hx hb dX5_rubbed_46 (by decide) (fun c_5 => ?_) (fun c_5 => ?_)
          · refine lv_aload_n hx hb dX5_rubbed_66 rfl (lv_at hl 0 rfl) ?_
            refine va_get (D := D) (ci := 5) (v := .ref lh) (C := RX5) (T := TX5) (N := 10) hx hb hts iwX5 hown hK.1 hP 0 rfl rfl 2 (by decide) fk26 (fun _ h9 => h9) rfl dX5_rubbed_67 ?_
            refine lv_aload_n hx hb dX5_rubbed_70 rfl (lv_at hl 0 rfl) ?_
            refine va_get (D := D) (ci := 5) (v := .ref mh) (C := RX5) (T := TX5) (N := 10) hx hb hts iwX5 hown hK.1 hP 0 rfl rfl 1 (by decide) fk19 (fun _ h9 => h9) rfl dX5_rubbed_71 ?_
            refine va_get (D := D) (ci := 2) (v := .int (nI n)) (C := RX2) (T := TX2) (N := 11) hx hb hts iwX2 hown hK.1 hP 1 rfl rfl 7 (by decide) fk86 (fun _ h9 => h9) rfl dX5_rubbed_74 ?_
            refine rcVi (As := [.int (nI n)]) (rest := []) ⟨hx, hb, hml, hown, hts⟩ (c_X1_inAllSets l D cB cC cI lh l0 tm hd lo n (by first | assumption | omega | decide)) (cwV 1 hts gX5_rubbed_X1_inAllSets rfl rfl rfl (by decide +kernel) ⟨Nat.le_of_ble_eq_true rfl, Nat.le_of_ble_eq_true rfl⟩) hK hP [9, 10] rfl rfl 9 rfl rfl hl.1 rfl (Nat.le_of_ble_eq_true rfl) dX5_rubbed_77 ⟨Nat.zero_le _, Nat.zero_le _⟩ ?_
            have eG : f_X5_rubbed n tm lo w = andU (EX tm lo n) (2 ^ n) := (if_neg c_1).trans ((if_pos c_2).trans ((if_neg c_3).trans ((if_neg c_4).trans (if_neg c_5))))
            exact retRi hx hb hr hlocks eG.symm dX5_rubbed_80
          · refine lv_aload_n hx hb dX5_rubbed_49 rfl (lv_at hl 0 rfl) ?_
            refine va_get (D := D) (ci := 5) (v := .ref lh) (C := RX5) (T := TX5) (N := 10) hx hb hts iwX5 hown hK.1 hP 0 rfl rfl 2 (by decide) fk26 (fun _ h9 => h9) rfl dX5_rubbed_50 ?_
            refine lv_aload_n hx hb dX5_rubbed_53 rfl (lv_at hl 0 rfl) ?_
            refine va_get (D := D) (ci := 5) (v := .ref mh) (C := RX5) (T := TX5) (N := 10) hx hb hts iwX5 hown hK.1 hP 0 rfl rfl 1 (by decide) fk19 (fun _ h9 => h9) rfl dX5_rubbed_54 ?_
            refine va_get (D := D) (ci := 2) (v := .int (nI n)) (C := RX2) (T := TX2) (N := 11) hx hb hts iwX2 hown hK.1 hP 1 rfl rfl 7 (by decide) fk86 (fun _ h9 => h9) rfl dX5_rubbed_57 ?_
            refine rcVi (As := [.int (nI n)]) (rest := []) ⟨hx, hb, hml, hown, hts⟩ (c_X1_leastSet l D cB cC cI lh l0 tm hd lo n (by first | assumption | omega | decide)) (cwV 1 hts gX5_rubbed_X1_leastSet rfl rfl rfl (by decide +kernel) ⟨Nat.le_of_ble_eq_true rfl, Nat.le_of_ble_eq_true rfl⟩) hK hP [9, 10] rfl rfl 9 rfl rfl hl.1 rfl (Nat.le_of_ble_eq_true rfl) dX5_rubbed_60 ⟨Nat.zero_le _, Nat.zero_le _⟩ ?_
            refine lv_goto (tgt := 80) hx hb dX5_rubbed_63 (by decide) ?_
            have eG : f_X5_rubbed n tm lo w = leastL (EX tm lo n) (2 ^ n) 0 := (if_neg c_1).trans ((if_pos c_2).trans ((if_neg c_3).trans ((if_neg c_4).trans (if_pos c_5))))
            exact retRi hx hb hr hlocks eG.symm dX5_rubbed_80
        · refine lv_aload_n hx hb dX5_rubbed_29 rfl (lv_at hl 0 rfl) ?_
          refine va_get (D := D) (ci := 5) (v := .ref lh) (C := RX5) (T := TX5) (N := 10) hx hb hts iwX5 hown hK.1 hP 0 rfl rfl 2 (by decide) fk26 (fun _ h9 => h9) rfl dX5_rubbed_30 ?_
          refine lv_aload_n hx hb dX5_rubbed_33 rfl (lv_at hl 0 rfl) ?_
          refine va_get (D := D) (ci := 5) (v := .ref mh) (C := RX5) (T := TX5) (N := 10) hx hb hts iwX5 hown hK.1 hP 0 rfl rfl 1 (by decide) fk19 (fun _ h9 => h9) rfl dX5_rubbed_34 ?_
          refine va_get (D := D) (ci := 2) (v := .int (nI n)) (C := RX2) (T := TX2) (N := 11) hx hb hts iwX2 hown hK.1 hP 1 rfl rfl 7 (by decide) fk86 (fun _ h9 => h9) rfl dX5_rubbed_37 ?_
          refine rcVi (As := [.int (nI n)]) (rest := []) ⟨hx, hb, hml, hown, hts⟩ (c_X1_howManySets l D cB cC cI lh l0 tm hd lo n (by first | assumption | omega | decide)) (cwV 1 hts gX5_rubbed_X1_howManySets rfl rfl rfl (by decide +kernel) ⟨Nat.le_of_ble_eq_true rfl, Nat.le_of_ble_eq_true rfl⟩) hK hP [9, 10] rfl rfl 9 rfl rfl hl.1 rfl (Nat.le_of_ble_eq_true rfl) dX5_rubbed_40 ⟨Nat.zero_le _, Nat.zero_le _⟩ ?_
          have eG : f_X5_rubbed n tm lo w = hms tm lo n 0 := (if_neg c_1).trans ((if_pos c_2).trans ((if_neg c_3).trans (if_pos c_4)))
          exact retRi hx hb hr hlocks eG.symm dX5_rubbed_43
      · refine lv_bipush (v := (-103)) hx hb dX5_rubbed_22 (by decide) ?_
        have eG : f_X5_rubbed n tm lo w = (-103) := (if_neg c_1).trans ((if_pos c_2).trans (if_pos c_3))
        exact retRi hx hb hr hlocks eG.symm dX5_rubbed_24
    · refine lv_bipush (v := (-102)) hx hb dX5_rubbed_9 (by decide) ?_
      have eG : f_X5_rubbed n tm lo w = (-102) := (if_neg c_1).trans (if_neg c_2)
      exact retRi hx hb hr hlocks eG.symm dX5_rubbed_11
def f_X5_watch (n : Nat) (tm : Nat → Int32) (lo : Int32) : Int32 := if (f_X2_isOpen n) = 0 then (-103) else watR tm lo n
set_option maxHeartbeats 4000000 in
set_option maxRecDepth 100000 in
theorem c_X5_watch (l : Launch) (D : va_G) (cB cC cI : ClassId) (xh : Nat) (ph : Nat) (mh : Nat) (lh : Nat) (kh : Nat) (jh : Nat) (qh : Nat) (dh : Nat) (ik : Int32) (mr : Int32) (pn : Int32) (m0 : Nat) (m1 : Nat) (m2 : Nat) (m3 : Nat) (m4 : Nat) (m5 : Nat) (m6 : Nat) (kd : Nat → Int32) (st : Nat → Int32) (co : Nat → Int32) (gt : Nat → Int32) (pd : Nat → Int32) (de : Nat → Int32) (us : Nat → Int32) (n : Nat) (tl : Int32) (ho : Int32) (sl : Int32) (l0 : Nat) (tm : Nat → Int32) (hd : Int32) (lo : Int32) (hn : n ≤ 4) : Met l yX5_watch wsX5_watch ({ frames := 4, cells := 0, slots := 0, locals := 96 }) (gPr D cB cC cI [.ref xh] [(xh, .inr (5, [.ref ph, .ref mh, .ref lh, .ref kh, .ref jh, .ref qh, .ref dh, .int ik, .int mr, .int pn])), (mh, .inr (2, [.ref m0, .ref m1, .ref m2, .ref m3, .ref m4, .ref m5, .ref m6, .int (nI n), .int tl, .int ho, .int sl])), (m0, .inl (cI, 4, .inl kd)), (m1, .inl (cI, 4, .inl st)), (m2, .inl (cI, 4, .inl co)), (m3, .inl (cI, 4, .inl gt)), (m4, .inl (cI, 4, .inl pd)), (m5, .inl (cI, 4, .inl de)), (m6, .inl (cI, 4, .inl us)), (lh, .inr (1, [.ref l0, .int hd, .int lo])), (l0, .inl (cI, 4, .inl tm))]) (vp_Si (fun r => r = (f_X5_watch n tm lo))) 0 0 (fun _ => False) := by
  refine metR (cc := cX5_watch) (maxL := 1) (ret := (some .int)) RX5 rfl (by decide) rfl (Nat.le_of_ble_eq_true rfl) ?_
  intro p e s m below meth c hx hb hr hml hown hts hlocks hP hK ls hl
  have iwX5 : ∀ w ∈ wsX50, w ∈ wsX5_watch := by decide +kernel
  have iwX2 : ∀ w ∈ wsX20, w ∈ wsX5_watch := by decide +kernel
  have fk19 := hts (.fieldLink RX5 19 "BuyersWeights" "market" "LBuyersWeights$Market;") (by decide +kernel)
  have fk26 := hts (.fieldLink RX5 26 "BuyersWeights" "ledger" "LBuyersWeights$Ledger;") (by decide +kernel)
  have fk86 := hts (.fieldLink RX5 86 "BuyersWeights$Market" "houses" "I") (by decide +kernel)
  have hl : lv_has ls 1 [(0, .ref xh)] := hl
  refine lv_aload_n hx hb dX5_watch_0 rfl (lv_at hl 0 rfl) ?_
  refine va_get (D := D) (ci := 5) (v := .ref mh) (C := RX5) (T := TX5) (N := 10) hx hb hts iwX5 hown hK.1 hP 0 rfl rfl 1 (by decide) fk19 (fun _ h9 => h9) rfl dX5_watch_1 ?_
  refine rcVi (As := []) (rest := []) ⟨hx, hb, hml, hown, hts⟩ (c_X2_isOpen l D cB cC cI mh m0 m1 m2 m3 m4 m5 m6 kd st co gt pd de us n tl ho sl) (cwV 0 hts gX5_watch_X2_isOpen rfl rfl rfl (by decide +kernel) ⟨Nat.le_of_ble_eq_true rfl, Nat.le_of_ble_eq_true rfl⟩) hK hP [1, 2, 3, 4, 5, 6, 7, 8] rfl rfl 1 rfl rfl hl.1 rfl (Nat.le_of_ble_eq_true rfl) dX5_watch_4 ⟨Nat.zero_le _, Nat.zero_le _⟩ ?_
  refine lv_if_ne (tgt := 13) hx hb dX5_watch_7 (by decide) (fun c_1 => ?_) (fun c_1 => ?_)
  · refine lv_aload_n hx hb dX5_watch_13 rfl (lv_at hl 0 rfl) ?_
    refine va_get (D := D) (ci := 5) (v := .ref lh) (C := RX5) (T := TX5) (N := 10) hx hb hts iwX5 hown hK.1 hP 0 rfl rfl 2 (by decide) fk26 (fun _ h9 => h9) rfl dX5_watch_14 ?_
    refine lv_aload_n hx hb dX5_watch_17 rfl (lv_at hl 0 rfl) ?_
    refine va_get (D := D) (ci := 5) (v := .ref mh) (C := RX5) (T := TX5) (N := 10) hx hb hts iwX5 hown hK.1 hP 0 rfl rfl 1 (by decide) fk19 (fun _ h9 => h9) rfl dX5_watch_18 ?_
    refine va_get (D := D) (ci := 2) (v := .int (nI n)) (C := RX2) (T := TX2) (N := 11) hx hb hts iwX2 hown hK.1 hP 1 rfl rfl 7 (by decide) fk86 (fun _ h9 => h9) rfl dX5_watch_21 ?_
    refine rcVi (As := [.int (nI n)]) (rest := []) ⟨hx, hb, hml, hown, hts⟩ (c_X1_houseToWatch l D cB cC cI lh l0 tm hd lo n (by first | assumption | omega | decide)) (cwV 1 hts gX5_watch_X1_houseToWatch rfl rfl rfl (by decide +kernel) ⟨Nat.le_of_ble_eq_true rfl, Nat.le_of_ble_eq_true rfl⟩) hK hP [9, 10] rfl rfl 9 rfl rfl hl.1 rfl (Nat.le_of_ble_eq_true rfl) dX5_watch_24 ⟨Nat.zero_le _, Nat.zero_le _⟩ ?_
    have eG : f_X5_watch n tm lo = watR tm lo n := if_neg c_1
    exact retRi hx hb hr hlocks eG.symm dX5_watch_27
  · refine lv_bipush (v := (-103)) hx hb dX5_watch_10 (by decide) ?_
    have eG : f_X5_watch n tm lo = (-103) := if_pos c_1
    exact retRi hx hb hr hlocks eG.symm dX5_watch_12
def f_X5_count (mr : Int32) (pn : Int32) (st : Nat → Int32) (gt : Nat → Int32) (pd : Nat → Int32) (n : Nat) (tl : Int32) (ho : Int32) (sl : Int32) (hd : Int32) (lo : Int32) (k : Nat) (w : Int32) : Int32 := if w = 0 then nI n else if w = 1 then tl else if w = 2 then ho else if w = 3 then sl else if w = 4 then sumL gt n else if w = 5 then sumL pd n else if w = 6 then sumL st n else if w = 7 then hd else if w = 8 then lo else if w = 9 then nI k else if w = 10 then mr else if w = 11 then pn else (-102)
set_option maxHeartbeats 4000000 in
set_option maxRecDepth 100000 in
theorem c_X5_count (l : Launch) (D : va_G) (cB cC cI : ClassId) (xh : Nat) (ph : Nat) (mh : Nat) (lh : Nat) (kh : Nat) (jh : Nat) (qh : Nat) (dh : Nat) (ik : Int32) (mr : Int32) (pn : Int32) (m0 : Nat) (m1 : Nat) (m2 : Nat) (m3 : Nat) (m4 : Nat) (m5 : Nat) (m6 : Nat) (kd : Nat → Int32) (st : Nat → Int32) (co : Nat → Int32) (gt : Nat → Int32) (pd : Nat → Int32) (de : Nat → Int32) (us : Nat → Int32) (n : Nat) (tl : Int32) (ho : Int32) (sl : Int32) (l0 : Nat) (tm : Nat → Int32) (hd : Int32) (lo : Int32) (p0 : Nat) (lt : Nat → Int32) (k : Nat) (w : Int32) (hn : n ≤ 4) : Met l yX5_count wsX5_count ({ frames := 1, cells := 0, slots := 0, locals := 23 }) (gPr D cB cC cI [.ref xh, .int w] [(xh, .inr (5, [.ref ph, .ref mh, .ref lh, .ref kh, .ref jh, .ref qh, .ref dh, .int ik, .int mr, .int pn])), (mh, .inr (2, [.ref m0, .ref m1, .ref m2, .ref m3, .ref m4, .ref m5, .ref m6, .int (nI n), .int tl, .int ho, .int sl])), (m0, .inl (cI, 4, .inl kd)), (m1, .inl (cI, 4, .inl st)), (m2, .inl (cI, 4, .inl co)), (m3, .inl (cI, 4, .inl gt)), (m4, .inl (cI, 4, .inl pd)), (m5, .inl (cI, 4, .inl de)), (m6, .inl (cI, 4, .inl us)), (lh, .inr (1, [.ref l0, .int hd, .int lo])), (l0, .inl (cI, 4, .inl tm)), (ph, .inr (3, [.ref p0, .int (nI k)])), (p0, .inl (cC, 18, .inl lt))]) (vp_Si (fun r => r = (f_X5_count mr pn st gt pd n tl ho sl hd lo k w))) 0 0 (fun _ => False) := by
  refine metR (cc := cX5_count) (maxL := 2) (ret := (some .int)) RX5 rfl (by decide) rfl (Nat.le_of_ble_eq_true rfl) ?_
  intro p e s m below meth c hx hb hr hml hown hts hlocks hP hK ls hl
  have iwX5 : ∀ w ∈ wsX50, w ∈ wsX5_count := by decide +kernel
  have iwX2 : ∀ w ∈ wsX20, w ∈ wsX5_count := by decide +kernel
  have iwX1 : ∀ w ∈ wsX10, w ∈ wsX5_count := by decide +kernel
  have iwX3 : ∀ w ∈ wsX30, w ∈ wsX5_count := by decide +kernel
  have fk19 := hts (.fieldLink RX5 19 "BuyersWeights" "market" "LBuyersWeights$Market;") (by decide +kernel)
  have fk86 := hts (.fieldLink RX5 86 "BuyersWeights$Market" "houses" "I") (by decide +kernel)
  have fk189 := hts (.fieldLink RX5 189 "BuyersWeights$Market" "tilt" "I") (by decide +kernel)
  have fk117 := hts (.fieldLink RX5 117 "BuyersWeights$Market" "hourNow" "I") (by decide +kernel)
  have fk124 := hts (.fieldLink RX5 124 "BuyersWeights$Market" "sales" "I") (by decide +kernel)
  have fk192 := hts (.fieldLink RX5 192 "BuyersWeights$Market" "got" "[I") (by decide +kernel)
  have fk195 := hts (.fieldLink RX5 195 "BuyersWeights$Market" "paid" "[I") (by decide +kernel)
  have fk114 := hts (.fieldLink RX5 114 "BuyersWeights$Market" "stones" "[I") (by decide +kernel)
  have fk26 := hts (.fieldLink RX5 26 "BuyersWeights" "ledger" "LBuyersWeights$Ledger;") (by decide +kernel)
  have fk146 := hts (.fieldLink RX5 146 "BuyersWeights$Ledger" "hands" "I") (by decide +kernel)
  have fk152 := hts (.fieldLink RX5 152 "BuyersWeights$Ledger" "lost" "I") (by decide +kernel)
  have fk10 := hts (.fieldLink RX5 10 "BuyersWeights" "page" "LBuyersWeights$Page;") (by decide +kernel)
  have fk61 := hts (.fieldLink RX5 61 "BuyersWeights$Page" "length" "I") (by decide +kernel)
  have fk54 := hts (.fieldLink RX5 54 "BuyersWeights" "marketsRead" "I") (by decide +kernel)
  have fk58 := hts (.fieldLink RX5 58 "BuyersWeights" "plansDone" "I") (by decide +kernel)
  have hl : lv_has ls 2 [(0, .ref xh), (1, .int w)] := hl
  refine lv_iload_n hx hb dX5_count_0 rfl (lv_at hl 1 rfl) ?_
  by_cases k_1 : w = 0
  · refine lv_tableIn (off := 63) (tgt := 64) hx hb dX5_count_1 (by rw [k_1]; decide) (by rw [k_1]; decide) (by rw [k_1]; decide +kernel) (by decide) ?_
    refine lv_aload_n hx hb dX5_count_64 rfl (lv_at hl 0 rfl) ?_
    refine va_get (D := D) (ci := 5) (v := .ref mh) (C := RX5) (T := TX5) (N := 10) hx hb hts iwX5 hown hK.1 hP 0 rfl rfl 1 (by decide) fk19 (fun _ h9 => h9) rfl dX5_count_65 ?_
    refine va_get (D := D) (ci := 2) (v := .int (nI n)) (C := RX2) (T := TX2) (N := 11) hx hb hts iwX2 hown hK.1 hP 1 rfl rfl 7 (by decide) fk86 (fun _ h9 => h9) rfl dX5_count_68 ?_
    have eG : f_X5_count mr pn st gt pd n tl ho sl hd lo k w = nI n := if_pos k_1
    exact retRi hx hb hr hlocks eG.symm dX5_count_71
  · by_cases k_2 : w = 1
    · refine lv_tableIn (off := 71) (tgt := 72) hx hb dX5_count_1 (by rw [k_2]; decide) (by rw [k_2]; decide) (by rw [k_2]; decide +kernel) (by decide) ?_
      refine lv_aload_n hx hb dX5_count_72 rfl (lv_at hl 0 rfl) ?_
      refine va_get (D := D) (ci := 5) (v := .ref mh) (C := RX5) (T := TX5) (N := 10) hx hb hts iwX5 hown hK.1 hP 0 rfl rfl 1 (by decide) fk19 (fun _ h9 => h9) rfl dX5_count_73 ?_
      refine va_get (D := D) (ci := 2) (v := .int tl) (C := RX2) (T := TX2) (N := 11) hx hb hts iwX2 hown hK.1 hP 1 rfl rfl 8 (by decide) fk189 (fun _ h9 => h9) rfl dX5_count_76 ?_
      have eG : f_X5_count mr pn st gt pd n tl ho sl hd lo k w = tl := (if_neg k_1).trans (if_pos k_2)
      exact retRi hx hb hr hlocks eG.symm dX5_count_79
    · by_cases k_3 : w = 2
      · refine lv_tableIn (off := 79) (tgt := 80) hx hb dX5_count_1 (by rw [k_3]; decide) (by rw [k_3]; decide) (by rw [k_3]; decide +kernel) (by decide) ?_
        refine lv_aload_n hx hb dX5_count_80 rfl (lv_at hl 0 rfl) ?_
        refine va_get (D := D) (ci := 5) (v := .ref mh) (C := RX5) (T := TX5) (N := 10) hx hb hts iwX5 hown hK.1 hP 0 rfl rfl 1 (by decide) fk19 (fun _ h9 => h9) rfl dX5_count_81 ?_
        refine va_get (D := D) (ci := 2) (v := .int ho) (C := RX2) (T := TX2) (N := 11) hx hb hts iwX2 hown hK.1 hP 1 rfl rfl 9 (by decide) fk117 (fun _ h9 => h9) rfl dX5_count_84 ?_
        have eG : f_X5_count mr pn st gt pd n tl ho sl hd lo k w = ho := (if_neg k_1).trans ((if_neg k_2).trans (if_pos k_3))
        exact retRi hx hb hr hlocks eG.symm dX5_count_87
      · by_cases k_4 : w = 3
        · refine lv_tableIn (off := 87) (tgt := 88) hx hb dX5_count_1 (by rw [k_4]; decide) (by rw [k_4]; decide) (by rw [k_4]; decide +kernel) (by decide) ?_
          refine lv_aload_n hx hb dX5_count_88 rfl (lv_at hl 0 rfl) ?_
          refine va_get (D := D) (ci := 5) (v := .ref mh) (C := RX5) (T := TX5) (N := 10) hx hb hts iwX5 hown hK.1 hP 0 rfl rfl 1 (by decide) fk19 (fun _ h9 => h9) rfl dX5_count_89 ?_
          refine va_get (D := D) (ci := 2) (v := .int sl) (C := RX2) (T := TX2) (N := 11) hx hb hts iwX2 hown hK.1 hP 1 rfl rfl 10 (by decide) fk124 (fun _ h9 => h9) rfl dX5_count_92 ?_
          have eG : f_X5_count mr pn st gt pd n tl ho sl hd lo k w = sl := (if_neg k_1).trans ((if_neg k_2).trans ((if_neg k_3).trans (if_pos k_4)))
          exact retRi hx hb hr hlocks eG.symm dX5_count_95
        · by_cases k_5 : w = 4
          · refine lv_tableIn (off := 95) (tgt := 96) hx hb dX5_count_1 (by rw [k_5]; decide) (by rw [k_5]; decide) (by rw [k_5]; decide +kernel) (by decide) ?_
            refine lv_aload_n hx hb dX5_count_96 rfl (lv_at hl 0 rfl) ?_
            refine va_get (D := D) (ci := 5) (v := .ref mh) (C := RX5) (T := TX5) (N := 10) hx hb hts iwX5 hown hK.1 hP 0 rfl rfl 1 (by decide) fk19 (fun _ h9 => h9) rfl dX5_count_97 ?_
            refine lv_aload_n hx hb dX5_count_100 rfl (lv_at hl 0 rfl) ?_
            refine va_get (D := D) (ci := 5) (v := .ref mh) (C := RX5) (T := TX5) (N := 10) hx hb hts iwX5 hown hK.1 hP 0 rfl rfl 1 (by decide) fk19 (fun _ h9 => h9) rfl dX5_count_101 ?_
            refine va_get (D := D) (ci := 2) (v := .ref m3) (C := RX2) (T := TX2) (N := 11) hx hb hts iwX2 hown hK.1 hP 1 rfl rfl 3 (by decide) fk192 (fun _ h9 => h9) rfl dX5_count_104 ?_
            refine rcVi (As := [.ref m3]) (rest := []) ⟨hx, hb, hml, hown, hts⟩ (c_X2_sum l D cB cC cI mh m0 m1 m2 m3 m4 m5 m6 m3 gt n tl ho sl (by first | assumption | omega | decide)) (cwV 1 hts gX5_count_X2_sum rfl rfl rfl (by decide +kernel) ⟨Nat.le_of_ble_eq_true rfl, Nat.le_of_ble_eq_true rfl⟩) hK hP [1, 5] rfl rfl 1 rfl rfl hl.1 rfl (Nat.le_of_ble_eq_true rfl) dX5_count_107 ⟨Nat.zero_le _, Nat.zero_le _⟩ ?_
            have eG : f_X5_count mr pn st gt pd n tl ho sl hd lo k w = sumL gt n := (if_neg k_1).trans ((if_neg k_2).trans ((if_neg k_3).trans ((if_neg k_4).trans (if_pos k_5))))
            exact retRi hx hb hr hlocks eG.symm dX5_count_110
          · by_cases k_6 : w = 5
            · refine lv_tableIn (off := 110) (tgt := 111) hx hb dX5_count_1 (by rw [k_6]; decide) (by rw [k_6]; decide) (by rw [k_6]; decide +kernel) (by decide) ?_
              refine lv_aload_n hx hb dX5_count_111 rfl (lv_at hl 0 rfl) ?_
              refine va_get (D := D) (ci := 5) (v := .ref mh) (C := RX5) (T := TX5) (N := 10) hx hb hts iwX5 hown hK.1 hP 0 rfl rfl 1 (by decide) fk19 (fun _ h9 => h9) rfl dX5_count_112 ?_
              refine lv_aload_n hx hb dX5_count_115 rfl (lv_at hl 0 rfl) ?_
              refine va_get (D := D) (ci := 5) (v := .ref mh) (C := RX5) (T := TX5) (N := 10) hx hb hts iwX5 hown hK.1 hP 0 rfl rfl 1 (by decide) fk19 (fun _ h9 => h9) rfl dX5_count_116 ?_
              refine va_get (D := D) (ci := 2) (v := .ref m4) (C := RX2) (T := TX2) (N := 11) hx hb hts iwX2 hown hK.1 hP 1 rfl rfl 4 (by decide) fk195 (fun _ h9 => h9) rfl dX5_count_119 ?_
              refine rcVi (As := [.ref m4]) (rest := []) ⟨hx, hb, hml, hown, hts⟩ (c_X2_sum l D cB cC cI mh m0 m1 m2 m3 m4 m5 m6 m4 pd n tl ho sl (by first | assumption | omega | decide)) (cwV 1 hts gX5_count_X2_sum rfl rfl rfl (by decide +kernel) ⟨Nat.le_of_ble_eq_true rfl, Nat.le_of_ble_eq_true rfl⟩) hK hP [1, 6] rfl rfl 1 rfl rfl hl.1 rfl (Nat.le_of_ble_eq_true rfl) dX5_count_122 ⟨Nat.zero_le _, Nat.zero_le _⟩ ?_
              have eG : f_X5_count mr pn st gt pd n tl ho sl hd lo k w = sumL pd n := (if_neg k_1).trans ((if_neg k_2).trans ((if_neg k_3).trans ((if_neg k_4).trans ((if_neg k_5).trans (if_pos k_6)))))
              exact retRi hx hb hr hlocks eG.symm dX5_count_125
            · by_cases k_7 : w = 6
              · refine lv_tableIn (off := 125) (tgt := 126) hx hb dX5_count_1 (by rw [k_7]; decide) (by rw [k_7]; decide) (by rw [k_7]; decide +kernel) (by decide) ?_
                refine lv_aload_n hx hb dX5_count_126 rfl (lv_at hl 0 rfl) ?_
                refine va_get (D := D) (ci := 5) (v := .ref mh) (C := RX5) (T := TX5) (N := 10) hx hb hts iwX5 hown hK.1 hP 0 rfl rfl 1 (by decide) fk19 (fun _ h9 => h9) rfl dX5_count_127 ?_
                refine lv_aload_n hx hb dX5_count_130 rfl (lv_at hl 0 rfl) ?_
                refine va_get (D := D) (ci := 5) (v := .ref mh) (C := RX5) (T := TX5) (N := 10) hx hb hts iwX5 hown hK.1 hP 0 rfl rfl 1 (by decide) fk19 (fun _ h9 => h9) rfl dX5_count_131 ?_
                refine va_get (D := D) (ci := 2) (v := .ref m1) (C := RX2) (T := TX2) (N := 11) hx hb hts iwX2 hown hK.1 hP 1 rfl rfl 1 (by decide) fk114 (fun _ h9 => h9) rfl dX5_count_134 ?_
                refine rcVi (As := [.ref m1]) (rest := []) ⟨hx, hb, hml, hown, hts⟩ (c_X2_sum l D cB cC cI mh m0 m1 m2 m3 m4 m5 m6 m1 st n tl ho sl (by first | assumption | omega | decide)) (cwV 1 hts gX5_count_X2_sum rfl rfl rfl (by decide +kernel) ⟨Nat.le_of_ble_eq_true rfl, Nat.le_of_ble_eq_true rfl⟩) hK hP [1, 3] rfl rfl 1 rfl rfl hl.1 rfl (Nat.le_of_ble_eq_true rfl) dX5_count_137 ⟨Nat.zero_le _, Nat.zero_le _⟩ ?_
                have eG : f_X5_count mr pn st gt pd n tl ho sl hd lo k w = sumL st n := (if_neg k_1).trans ((if_neg k_2).trans ((if_neg k_3).trans ((if_neg k_4).trans ((if_neg k_5).trans ((if_neg k_6).trans (if_pos k_7))))))
                exact retRi hx hb hr hlocks eG.symm dX5_count_140
              · by_cases k_8 : w = 7
                · refine lv_tableIn (off := 140) (tgt := 141) hx hb dX5_count_1 (by rw [k_8]; decide) (by rw [k_8]; decide) (by rw [k_8]; decide +kernel) (by decide) ?_
                  refine lv_aload_n hx hb dX5_count_141 rfl (lv_at hl 0 rfl) ?_
                  refine va_get (D := D) (ci := 5) (v := .ref lh) (C := RX5) (T := TX5) (N := 10) hx hb hts iwX5 hown hK.1 hP 0 rfl rfl 2 (by decide) fk26 (fun _ h9 => h9) rfl dX5_count_142 ?_
                  refine va_get (D := D) (ci := 1) (v := .int hd) (C := RX1) (T := TX1) (N := 3) hx hb hts iwX1 hown hK.1 hP 9 rfl rfl 1 (by decide) fk146 (fun _ h9 => h9) rfl dX5_count_145 ?_
                  have eG : f_X5_count mr pn st gt pd n tl ho sl hd lo k w = hd := (if_neg k_1).trans ((if_neg k_2).trans ((if_neg k_3).trans ((if_neg k_4).trans ((if_neg k_5).trans ((if_neg k_6).trans ((if_neg k_7).trans (if_pos k_8)))))))
                  exact retRi hx hb hr hlocks eG.symm dX5_count_148
                · by_cases k_9 : w = 8
                  · refine lv_tableIn (off := 148) (tgt := 149) hx hb dX5_count_1 (by rw [k_9]; decide) (by rw [k_9]; decide) (by rw [k_9]; decide +kernel) (by decide) ?_
                    refine lv_aload_n hx hb dX5_count_149 rfl (lv_at hl 0 rfl) ?_
                    refine va_get (D := D) (ci := 5) (v := .ref lh) (C := RX5) (T := TX5) (N := 10) hx hb hts iwX5 hown hK.1 hP 0 rfl rfl 2 (by decide) fk26 (fun _ h9 => h9) rfl dX5_count_150 ?_
                    refine va_get (D := D) (ci := 1) (v := .int lo) (C := RX1) (T := TX1) (N := 3) hx hb hts iwX1 hown hK.1 hP 9 rfl rfl 2 (by decide) fk152 (fun _ h9 => h9) rfl dX5_count_153 ?_
                    have eG : f_X5_count mr pn st gt pd n tl ho sl hd lo k w = lo := (if_neg k_1).trans ((if_neg k_2).trans ((if_neg k_3).trans ((if_neg k_4).trans ((if_neg k_5).trans ((if_neg k_6).trans ((if_neg k_7).trans ((if_neg k_8).trans (if_pos k_9))))))))
                    exact retRi hx hb hr hlocks eG.symm dX5_count_156
                  · by_cases k_10 : w = 9
                    · refine lv_tableIn (off := 156) (tgt := 157) hx hb dX5_count_1 (by rw [k_10]; decide) (by rw [k_10]; decide) (by rw [k_10]; decide +kernel) (by decide) ?_
                      refine lv_aload_n hx hb dX5_count_157 rfl (lv_at hl 0 rfl) ?_
                      refine va_get (D := D) (ci := 5) (v := .ref ph) (C := RX5) (T := TX5) (N := 10) hx hb hts iwX5 hown hK.1 hP 0 rfl rfl 0 (by decide) fk10 (fun _ h9 => h9) rfl dX5_count_158 ?_
                      refine va_get (D := D) (ci := 3) (v := .int (nI k)) (C := RX3) (T := TX3) (N := 2) hx hb hts iwX3 hown hK.1 hP 11 rfl rfl 1 (by decide) fk61 (fun _ h9 => h9) rfl dX5_count_161 ?_
                      have eG : f_X5_count mr pn st gt pd n tl ho sl hd lo k w = nI k := (if_neg k_1).trans ((if_neg k_2).trans ((if_neg k_3).trans ((if_neg k_4).trans ((if_neg k_5).trans ((if_neg k_6).trans ((if_neg k_7).trans ((if_neg k_8).trans ((if_neg k_9).trans (if_pos k_10)))))))))
                      exact retRi hx hb hr hlocks eG.symm dX5_count_164
                    · by_cases k_11 : w = 10
                      · refine lv_tableIn (off := 164) (tgt := 165) hx hb dX5_count_1 (by rw [k_11]; decide) (by rw [k_11]; decide) (by rw [k_11]; decide +kernel) (by decide) ?_
                        refine lv_aload_n hx hb dX5_count_165 rfl (lv_at hl 0 rfl) ?_
                        refine va_get (D := D) (ci := 5) (v := .int mr) (C := RX5) (T := TX5) (N := 10) hx hb hts iwX5 hown hK.1 hP 0 rfl rfl 8 (by decide) fk54 (fun _ h9 => h9) rfl dX5_count_166 ?_
                        have eG : f_X5_count mr pn st gt pd n tl ho sl hd lo k w = mr := (if_neg k_1).trans ((if_neg k_2).trans ((if_neg k_3).trans ((if_neg k_4).trans ((if_neg k_5).trans ((if_neg k_6).trans ((if_neg k_7).trans ((if_neg k_8).trans ((if_neg k_9).trans ((if_neg k_10).trans (if_pos k_11))))))))))
                        exact retRi hx hb hr hlocks eG.symm dX5_count_169
                      · by_cases k_12 : w = 11
                        · refine lv_tableIn (off := 169) (tgt := 170) hx hb dX5_count_1 (by rw [k_12]; decide) (by rw [k_12]; decide) (by rw [k_12]; decide +kernel) (by decide) ?_
                          refine lv_aload_n hx hb dX5_count_170 rfl (lv_at hl 0 rfl) ?_
                          refine va_get (D := D) (ci := 5) (v := .int pn) (C := RX5) (T := TX5) (N := 10) hx hb hts iwX5 hown hK.1 hP 0 rfl rfl 9 (by decide) fk58 (fun _ h9 => h9) rfl dX5_count_171 ?_
                          have eG : f_X5_count mr pn st gt pd n tl ho sl hd lo k w = pn := (if_neg k_1).trans ((if_neg k_2).trans ((if_neg k_3).trans ((if_neg k_4).trans ((if_neg k_5).trans ((if_neg k_6).trans ((if_neg k_7).trans ((if_neg k_8).trans ((if_neg k_9).trans ((if_neg k_10).trans ((if_neg k_11).trans (if_pos k_12)))))))))))
                          exact retRi hx hb hr hlocks eG.symm dX5_count_174
                        · have hout : w.toInt < 0 ∨ 11 < w.toInt := by
                            have q0 := lv_neT (a := 0) k_1 (by decide)
                            have q1 := lv_neT (a := 1) k_2 (by decide)
                            have q2 := lv_neT (a := 2) k_3 (by decide)
                            have q3 := lv_neT (a := 3) k_4 (by decide)
                            have q4 := lv_neT (a := 4) k_5 (by decide)
                            have q5 := lv_neT (a := 5) k_6 (by decide)
                            have q6 := lv_neT (a := 6) k_7 (by decide)
                            have q7 := lv_neT (a := 7) k_8 (by decide)
                            have q8 := lv_neT (a := 8) k_9 (by decide)
                            have q9 := lv_neT (a := 9) k_10 (by decide)
                            have q10 := lv_neT (a := 10) k_11 (by decide)
                            have q11 := lv_neT (a := 11) k_12 (by decide)
                            omega
                          refine lv_tableOut (tgt := 175) hx hb dX5_count_1 hout (by decide) ?_
                          refine lv_bipush (v := (-102)) hx hb dX5_count_175 (by decide) ?_
                          have eG : f_X5_count mr pn st gt pd n tl ho sl hd lo k w = (-102) := (if_neg k_1).trans ((if_neg k_2).trans ((if_neg k_3).trans ((if_neg k_4).trans ((if_neg k_5).trans ((if_neg k_6).trans ((if_neg k_7).trans ((if_neg k_8).trans ((if_neg k_9).trans ((if_neg k_10).trans ((if_neg k_11).trans (if_neg k_12)))))))))))
                          exact retRi hx hb hr hlocks eG.symm dX5_count_177
def f_X5_image (ik : Int32) (st : Nat → Int32) (gt : Nat → Int32) (pd : Nat → Int32) (de : Nat → Int32) (us : Nat → Int32) (n : Nat) (ho : Int32) (sl : Int32) (tm : Nat → Int32) (hd : Int32) (lo : Int32) (kst : Nat → Int32) (kgt : Nat → Int32) (kpd : Nat → Int32) (kde : Nat → Int32) (kus : Nat → Int32) (kho : Int32) (ksl : Int32) (jm : Nat → Int32) (jd : Int32) (jo : Int32) : Int32 × Int32 × Int32 × Int32 × Int32 × (Nat → Int32) × (Nat → Int32) × (Nat → Int32) × (Nat → Int32) × (Nat → Int32) × Int32 × Int32 × (Nat → Int32) := if (f_X2_isOpen n) = 0 then ((-103), ik, nI n, kho, ksl, kst, kgt, kpd, kde, kus, jd, jo, jm) else (ho, 1, (nI n), ho, sl, st, gt, pd, de, us, hd, lo, tm)
set_option maxHeartbeats 4000000 in
set_option maxRecDepth 100000 in
theorem c_X5_image (l : Launch) (D : va_G) (cB cC cI : ClassId) (xh : Nat) (ph : Nat) (mh : Nat) (lh : Nat) (kh : Nat) (jh : Nat) (qh : Nat) (dh : Nat) (ik : Int32) (mr : Int32) (pn : Int32) (m0 : Nat) (m1 : Nat) (m2 : Nat) (m3 : Nat) (m4 : Nat) (m5 : Nat) (m6 : Nat) (kd : Nat → Int32) (st : Nat → Int32) (co : Nat → Int32) (gt : Nat → Int32) (pd : Nat → Int32) (de : Nat → Int32) (us : Nat → Int32) (n : Nat) (tl : Int32) (ho : Int32) (sl : Int32) (l0 : Nat) (tm : Nat → Int32) (hd : Int32) (lo : Int32) (k0 : Nat) (k1 : Nat) (k2 : Nat) (k3 : Nat) (k4 : Nat) (k5 : Nat) (k6 : Nat) (kkd : Nat → Int32) (kst : Nat → Int32) (kco : Nat → Int32) (kgt : Nat → Int32) (kpd : Nat → Int32) (kde : Nat → Int32) (kus : Nat → Int32) (kn : Int32) (ktl : Int32) (kho : Int32) (ksl : Int32) (j0 : Nat) (jm : Nat → Int32) (jd : Int32) (jo : Int32) (sz : Nat)  : Met l yX5_image wsX5_image ({ frames := 3, cells := 0, slots := 0, locals := 72 }) (gPw D cB cC cI [.ref xh] [(xh, .inr (5, [.ref ph, .ref mh, .ref lh, .ref kh, .ref jh, .ref qh, .ref dh, .int ik, .int mr, .int pn])), (mh, .inr (2, [.ref m0, .ref m1, .ref m2, .ref m3, .ref m4, .ref m5, .ref m6, .int (nI n), .int tl, .int ho, .int sl])), (m0, .inl (cI, 4, .inl kd)), (m1, .inl (cI, 4, .inl st)), (m2, .inl (cI, 4, .inl co)), (m3, .inl (cI, 4, .inl gt)), (m4, .inl (cI, 4, .inl pd)), (m5, .inl (cI, 4, .inl de)), (m6, .inl (cI, 4, .inl us)), (lh, .inr (1, [.ref l0, .int hd, .int lo])), (l0, .inl (cI, 4, .inl tm)), (kh, .inr (2, [.ref k0, .ref k1, .ref k2, .ref k3, .ref k4, .ref k5, .ref k6, .int kn, .int ktl, .int kho, .int ksl])), (k0, .inl (cI, 4, .inl kkd)), (k1, .inl (cI, 4, .inl kst)), (k2, .inl (cI, 4, .inl kco)), (k3, .inl (cI, 4, .inl kgt)), (k4, .inl (cI, 4, .inl kpd)), (k5, .inl (cI, 4, .inl kde)), (k6, .inl (cI, 4, .inl kus)), (jh, .inr (1, [.ref j0, .int jd, .int jo])), (j0, .inl (cI, 4, .inl jm))] sz) (QWi D ((f_X5_image ik st gt pd de us n ho sl tm hd lo kst kgt kpd kde kus kho ksl jm jd jo).1) [(xh, .inr (5, [.ref ph, .ref mh, .ref lh, .ref kh, .ref jh, .ref qh, .ref dh, .int ((f_X5_image ik st gt pd de us n ho sl tm hd lo kst kgt kpd kde kus kho ksl jm jd jo).2.1), .int mr, .int pn])), (mh, .inr (2, [.ref m0, .ref m1, .ref m2, .ref m3, .ref m4, .ref m5, .ref m6, .int ((f_X5_image ik st gt pd de us n ho sl tm hd lo kst kgt kpd kde kus kho ksl jm jd jo).2.2.1), .int tl, .int ho, .int sl])), (m0, .inl (cI, 4, .inl kd)), (m1, .inl (cI, 4, .inl st)), (m2, .inl (cI, 4, .inl co)), (m3, .inl (cI, 4, .inl gt)), (m4, .inl (cI, 4, .inl pd)), (m5, .inl (cI, 4, .inl de)), (m6, .inl (cI, 4, .inl us)), (lh, .inr (1, [.ref l0, .int hd, .int lo])), (l0, .inl (cI, 4, .inl tm)), (kh, .inr (2, [.ref k0, .ref k1, .ref k2, .ref k3, .ref k4, .ref k5, .ref k6, .int kn, .int ktl, .int ((f_X5_image ik st gt pd de us n ho sl tm hd lo kst kgt kpd kde kus kho ksl jm jd jo).2.2.2.1), .int ((f_X5_image ik st gt pd de us n ho sl tm hd lo kst kgt kpd kde kus kho ksl jm jd jo).2.2.2.2.1)])), (k0, .inl (cI, 4, .inl kkd)), (k1, .inl (cI, 4, .inl ((f_X5_image ik st gt pd de us n ho sl tm hd lo kst kgt kpd kde kus kho ksl jm jd jo).2.2.2.2.2.1))), (k2, .inl (cI, 4, .inl kco)), (k3, .inl (cI, 4, .inl ((f_X5_image ik st gt pd de us n ho sl tm hd lo kst kgt kpd kde kus kho ksl jm jd jo).2.2.2.2.2.2.1))), (k4, .inl (cI, 4, .inl ((f_X5_image ik st gt pd de us n ho sl tm hd lo kst kgt kpd kde kus kho ksl jm jd jo).2.2.2.2.2.2.2.1))), (k5, .inl (cI, 4, .inl ((f_X5_image ik st gt pd de us n ho sl tm hd lo kst kgt kpd kde kus kho ksl jm jd jo).2.2.2.2.2.2.2.2.1))), (k6, .inl (cI, 4, .inl ((f_X5_image ik st gt pd de us n ho sl tm hd lo kst kgt kpd kde kus kho ksl jm jd jo).2.2.2.2.2.2.2.2.2.1))), (jh, .inr (1, [.ref j0, .int ((f_X5_image ik st gt pd de us n ho sl tm hd lo kst kgt kpd kde kus kho ksl jm jd jo).2.2.2.2.2.2.2.2.2.2.1), .int ((f_X5_image ik st gt pd de us n ho sl tm hd lo kst kgt kpd kde kus kho ksl jm jd jo).2.2.2.2.2.2.2.2.2.2.2.1)])), (j0, .inl (cI, 4, .inl ((f_X5_image ik st gt pd de us n ho sl tm hd lo kst kgt kpd kde kus kho ksl jm jd jo).2.2.2.2.2.2.2.2.2.2.2.2)))] (va_A [(xh, .inr (5, [.ref ph, .ref mh, .ref lh, .ref kh, .ref jh, .ref qh, .ref dh, .int ik, .int mr, .int pn])), (mh, .inr (2, [.ref m0, .ref m1, .ref m2, .ref m3, .ref m4, .ref m5, .ref m6, .int (nI n), .int tl, .int ho, .int sl])), (m0, .inl (cI, 4, .inl kd)), (m1, .inl (cI, 4, .inl st)), (m2, .inl (cI, 4, .inl co)), (m3, .inl (cI, 4, .inl gt)), (m4, .inl (cI, 4, .inl pd)), (m5, .inl (cI, 4, .inl de)), (m6, .inl (cI, 4, .inl us)), (lh, .inr (1, [.ref l0, .int hd, .int lo])), (l0, .inl (cI, 4, .inl tm)), (kh, .inr (2, [.ref k0, .ref k1, .ref k2, .ref k3, .ref k4, .ref k5, .ref k6, .int kn, .int ktl, .int kho, .int ksl])), (k0, .inl (cI, 4, .inl kkd)), (k1, .inl (cI, 4, .inl kst)), (k2, .inl (cI, 4, .inl kco)), (k3, .inl (cI, 4, .inl kgt)), (k4, .inl (cI, 4, .inl kpd)), (k5, .inl (cI, 4, .inl kde)), (k6, .inl (cI, 4, .inl kus)), (jh, .inr (1, [.ref j0, .int jd, .int jo])), (j0, .inl (cI, 4, .inl jm))] sz)) 0 0 (va_A [(xh, .inr (5, [.ref ph, .ref mh, .ref lh, .ref kh, .ref jh, .ref qh, .ref dh, .int ik, .int mr, .int pn])), (mh, .inr (2, [.ref m0, .ref m1, .ref m2, .ref m3, .ref m4, .ref m5, .ref m6, .int (nI n), .int tl, .int ho, .int sl])), (m0, .inl (cI, 4, .inl kd)), (m1, .inl (cI, 4, .inl st)), (m2, .inl (cI, 4, .inl co)), (m3, .inl (cI, 4, .inl gt)), (m4, .inl (cI, 4, .inl pd)), (m5, .inl (cI, 4, .inl de)), (m6, .inl (cI, 4, .inl us)), (lh, .inr (1, [.ref l0, .int hd, .int lo])), (l0, .inl (cI, 4, .inl tm)), (kh, .inr (2, [.ref k0, .ref k1, .ref k2, .ref k3, .ref k4, .ref k5, .ref k6, .int kn, .int ktl, .int kho, .int ksl])), (k0, .inl (cI, 4, .inl kkd)), (k1, .inl (cI, 4, .inl kst)), (k2, .inl (cI, 4, .inl kco)), (k3, .inl (cI, 4, .inl kgt)), (k4, .inl (cI, 4, .inl kpd)), (k5, .inl (cI, 4, .inl kde)), (k6, .inl (cI, 4, .inl kus)), (jh, .inr (1, [.ref j0, .int jd, .int jo])), (j0, .inl (cI, 4, .inl jm))] sz) := by
  refine metW (cc := cX5_image) (maxL := 1) (ret := (some .int)) (QA := fun A => (QWi D ((f_X5_image ik st gt pd de us n ho sl tm hd lo kst kgt kpd kde kus kho ksl jm jd jo).1) [(xh, .inr (5, [.ref ph, .ref mh, .ref lh, .ref kh, .ref jh, .ref qh, .ref dh, .int ((f_X5_image ik st gt pd de us n ho sl tm hd lo kst kgt kpd kde kus kho ksl jm jd jo).2.1), .int mr, .int pn])), (mh, .inr (2, [.ref m0, .ref m1, .ref m2, .ref m3, .ref m4, .ref m5, .ref m6, .int ((f_X5_image ik st gt pd de us n ho sl tm hd lo kst kgt kpd kde kus kho ksl jm jd jo).2.2.1), .int tl, .int ho, .int sl])), (m0, .inl (cI, 4, .inl kd)), (m1, .inl (cI, 4, .inl st)), (m2, .inl (cI, 4, .inl co)), (m3, .inl (cI, 4, .inl gt)), (m4, .inl (cI, 4, .inl pd)), (m5, .inl (cI, 4, .inl de)), (m6, .inl (cI, 4, .inl us)), (lh, .inr (1, [.ref l0, .int hd, .int lo])), (l0, .inl (cI, 4, .inl tm)), (kh, .inr (2, [.ref k0, .ref k1, .ref k2, .ref k3, .ref k4, .ref k5, .ref k6, .int kn, .int ktl, .int ((f_X5_image ik st gt pd de us n ho sl tm hd lo kst kgt kpd kde kus kho ksl jm jd jo).2.2.2.1), .int ((f_X5_image ik st gt pd de us n ho sl tm hd lo kst kgt kpd kde kus kho ksl jm jd jo).2.2.2.2.1)])), (k0, .inl (cI, 4, .inl kkd)), (k1, .inl (cI, 4, .inl ((f_X5_image ik st gt pd de us n ho sl tm hd lo kst kgt kpd kde kus kho ksl jm jd jo).2.2.2.2.2.1))), (k2, .inl (cI, 4, .inl kco)), (k3, .inl (cI, 4, .inl ((f_X5_image ik st gt pd de us n ho sl tm hd lo kst kgt kpd kde kus kho ksl jm jd jo).2.2.2.2.2.2.1))), (k4, .inl (cI, 4, .inl ((f_X5_image ik st gt pd de us n ho sl tm hd lo kst kgt kpd kde kus kho ksl jm jd jo).2.2.2.2.2.2.2.1))), (k5, .inl (cI, 4, .inl ((f_X5_image ik st gt pd de us n ho sl tm hd lo kst kgt kpd kde kus kho ksl jm jd jo).2.2.2.2.2.2.2.2.1))), (k6, .inl (cI, 4, .inl ((f_X5_image ik st gt pd de us n ho sl tm hd lo kst kgt kpd kde kus kho ksl jm jd jo).2.2.2.2.2.2.2.2.2.1))), (jh, .inr (1, [.ref j0, .int ((f_X5_image ik st gt pd de us n ho sl tm hd lo kst kgt kpd kde kus kho ksl jm jd jo).2.2.2.2.2.2.2.2.2.2.1), .int ((f_X5_image ik st gt pd de us n ho sl tm hd lo kst kgt kpd kde kus kho ksl jm jd jo).2.2.2.2.2.2.2.2.2.2.2.1)])), (j0, .inl (cI, 4, .inl ((f_X5_image ik st gt pd de us n ho sl tm hd lo kst kgt kpd kde kus kho ksl jm jd jo).2.2.2.2.2.2.2.2.2.2.2.2)))] A)) RX5 rfl (by decide) rfl (Nat.le_of_ble_eq_true rfl) ?_
  intro p e s m below meth c A hx hb hr hml hown hts hlocks hin hP hK hD hA hS ls hl
  have iwX5 : ∀ w ∈ wsX50, w ∈ wsX5_image := by decide +kernel
  have iwX2 : ∀ w ∈ wsX20, w ∈ wsX5_image := by decide +kernel
  have fk19 := hts (.fieldLink RX5 19 "BuyersWeights" "market" "LBuyersWeights$Market;") (by decide +kernel)
  have fk30 := hts (.fieldLink RX5 30 "BuyersWeights" "keptMarket" "LBuyersWeights$Market;") (by decide +kernel)
  have fk33 := hts (.fieldLink RX5 33 "BuyersWeights" "keptLedger" "LBuyersWeights$Ledger;") (by decide +kernel)
  have fk26 := hts (.fieldLink RX5 26 "BuyersWeights" "ledger" "LBuyersWeights$Ledger;") (by decide +kernel)
  have fk50 := hts (.fieldLink RX5 50 "BuyersWeights" "imageKept" "Z") (by decide +kernel)
  have fk117 := hts (.fieldLink RX5 117 "BuyersWeights$Market" "hourNow" "I") (by decide +kernel)
  have hl : lv_has ls 1 [(0, .ref xh)] := hl
  refine lv_aload_n hx hb dX5_image_0 rfl (lv_at hl 0 rfl) ?_
  refine va_get (D := D) (ci := 5) (v := .ref mh) (C := RX5) (T := TX5) (N := 10) hx hb hts iwX5 hown hK.1 hP 0 rfl rfl 1 (by decide) fk19 (fun _ h9 => h9) rfl dX5_image_1 ?_
  refine rcVi (As := []) (rest := []) ⟨hx, hb, hml, hown, hts⟩ (c_X2_isOpen l D cB cC cI mh m0 m1 m2 m3 m4 m5 m6 kd st co gt pd de us n tl ho sl) (cwV 0 hts gX5_image_X2_isOpen rfl rfl rfl (by decide +kernel) ⟨Nat.le_of_ble_eq_true rfl, Nat.le_of_ble_eq_true rfl⟩) hK hP [1, 2, 3, 4, 5, 6, 7, 8] rfl rfl 1 rfl rfl hl.1 rfl (Nat.le_of_ble_eq_true rfl) dX5_image_4 ⟨Nat.zero_le _, Nat.zero_le _⟩ ?_
  refine lv_if_ne (tgt := 13) hx hb dX5_image_7 (by decide) (fun c_1 => ?_) (fun c_1 => ?_)
  · refine lv_aload_n hx hb dX5_image_13 rfl (lv_at hl 0 rfl) ?_
    refine va_get (D := D) (ci := 5) (v := .ref kh) (C := RX5) (T := TX5) (N := 10) hx hb hts iwX5 hown hK.1 hP 0 rfl rfl 3 (by decide) fk30 (fun _ h9 => h9) rfl dX5_image_14 ?_
    refine lv_aload_n hx hb dX5_image_17 rfl (lv_at hl 0 rfl) ?_
    refine va_get (D := D) (ci := 5) (v := .ref mh) (C := RX5) (T := TX5) (N := 10) hx hb hts iwX5 hown hK.1 hP 0 rfl rfl 1 (by decide) fk19 (fun _ h9 => h9) rfl dX5_image_18 ?_
    refine wcVv1 (As := [.ref mh]) (rest := []) (wr := [(xh, .inr (5, [.ref ph, .ref mh, .ref lh, .ref kh, .ref jh, .ref qh, .ref dh, .int ik, .int mr, .int pn])), (lh, .inr (1, [.ref l0, .int hd, .int lo])), (l0, .inl (cI, 4, .inl tm)), (jh, .inr (1, [.ref j0, .int jd, .int jo])), (j0, .inl (cI, 4, .inl jm))]) (w2 := [(xh, .inr (5, [.ref ph, .ref mh, .ref lh, .ref kh, .ref jh, .ref qh, .ref dh, .int ik, .int mr, .int pn])), (mh, .inr (2, [.ref m0, .ref m1, .ref m2, .ref m3, .ref m4, .ref m5, .ref m6, .int (nI n), .int tl, .int ho, .int sl])), (m0, .inl (cI, 4, .inl kd)), (m1, .inl (cI, 4, .inl st)), (m2, .inl (cI, 4, .inl co)), (m3, .inl (cI, 4, .inl gt)), (m4, .inl (cI, 4, .inl pd)), (m5, .inl (cI, 4, .inl de)), (m6, .inl (cI, 4, .inl us)), (lh, .inr (1, [.ref l0, .int hd, .int lo])), (l0, .inl (cI, 4, .inl tm)), (kh, .inr (2, [.ref k0, .ref k1, .ref k2, .ref k3, .ref k4, .ref k5, .ref k6, .int kn, .int ktl, .int ho, .int sl])), (k0, .inl (cI, 4, .inl kkd)), (k1, .inl (cI, 4, .inl st)), (k2, .inl (cI, 4, .inl kco)), (k3, .inl (cI, 4, .inl gt)), (k4, .inl (cI, 4, .inl pd)), (k5, .inl (cI, 4, .inl de)), (k6, .inl (cI, 4, .inl us)), (jh, .inr (1, [.ref j0, .int jd, .int jo])), (j0, .inl (cI, 4, .inl jm))]) ⟨hx, hb, hml, hown, hts⟩ (c_X2_copyDoingsOf l D cB cC cI kh k0 k1 k2 k3 k4 k5 k6 kkd kst kco kgt kpd kde kus kn ktl kho ksl mh m0 m1 m2 m3 m4 m5 m6 kd st co gt pd de us (nI n) tl ho sl _) (cwV 1 hts gX5_image_X2_copyDoingsOf rfl rfl rfl (by decide +kernel) ⟨Nat.le_of_ble_eq_true rfl, Nat.le_of_ble_eq_true rfl⟩) hK hP hD hS hA [11, 12, 13, 14, 15, 16, 17, 18, 1, 2, 3, 4, 5, 6, 7, 8] [0, 9, 10, 19, 20] [0, 13, 14, 15, 16, 17, 18, 19, 20, 1, 2, 5, 6, 7, 8, 9, 10, 11, 12, 3, 4] (by decide) rfl rfl (by decide) (by decide) (by decide) rfl rfl 11 rfl rfl hl.1 rfl (Nat.le_of_ble_eq_true rfl) dX5_image_21 ⟨Nat.zero_le _, Nat.zero_le _⟩ (fun H locs hP hD hS => ?_)
    refine lv_aload_n hx hb dX5_image_24 rfl (lv_at hl 0 rfl) ?_
    refine va_get (D := D) (ci := 5) (v := .ref jh) (C := RX5) (T := TX5) (N := 10) hx hb hts iwX5 hown hK.1 hP 0 rfl rfl 4 (by decide) fk33 (fun _ h9 => h9) rfl dX5_image_25 ?_
    refine lv_aload_n hx hb dX5_image_28 rfl (lv_at hl 0 rfl) ?_
    refine va_get (D := D) (ci := 5) (v := .ref lh) (C := RX5) (T := TX5) (N := 10) hx hb hts iwX5 hown hK.1 hP 0 rfl rfl 2 (by decide) fk26 (fun _ h9 => h9) rfl dX5_image_29 ?_
    refine wcVv1 (As := [.ref lh]) (rest := []) (wr := [(xh, .inr (5, [.ref ph, .ref mh, .ref lh, .ref kh, .ref jh, .ref qh, .ref dh, .int ik, .int mr, .int pn])), (mh, .inr (2, [.ref m0, .ref m1, .ref m2, .ref m3, .ref m4, .ref m5, .ref m6, .int (nI n), .int tl, .int ho, .int sl])), (m0, .inl (cI, 4, .inl kd)), (m1, .inl (cI, 4, .inl st)), (m2, .inl (cI, 4, .inl co)), (m3, .inl (cI, 4, .inl gt)), (m4, .inl (cI, 4, .inl pd)), (m5, .inl (cI, 4, .inl de)), (m6, .inl (cI, 4, .inl us)), (kh, .inr (2, [.ref k0, .ref k1, .ref k2, .ref k3, .ref k4, .ref k5, .ref k6, .int kn, .int ktl, .int ho, .int sl])), (k0, .inl (cI, 4, .inl kkd)), (k1, .inl (cI, 4, .inl st)), (k2, .inl (cI, 4, .inl kco)), (k3, .inl (cI, 4, .inl gt)), (k4, .inl (cI, 4, .inl pd)), (k5, .inl (cI, 4, .inl de)), (k6, .inl (cI, 4, .inl us))]) (w2 := [(xh, .inr (5, [.ref ph, .ref mh, .ref lh, .ref kh, .ref jh, .ref qh, .ref dh, .int ik, .int mr, .int pn])), (mh, .inr (2, [.ref m0, .ref m1, .ref m2, .ref m3, .ref m4, .ref m5, .ref m6, .int (nI n), .int tl, .int ho, .int sl])), (m0, .inl (cI, 4, .inl kd)), (m1, .inl (cI, 4, .inl st)), (m2, .inl (cI, 4, .inl co)), (m3, .inl (cI, 4, .inl gt)), (m4, .inl (cI, 4, .inl pd)), (m5, .inl (cI, 4, .inl de)), (m6, .inl (cI, 4, .inl us)), (lh, .inr (1, [.ref l0, .int hd, .int lo])), (l0, .inl (cI, 4, .inl tm)), (kh, .inr (2, [.ref k0, .ref k1, .ref k2, .ref k3, .ref k4, .ref k5, .ref k6, .int kn, .int ktl, .int ho, .int sl])), (k0, .inl (cI, 4, .inl kkd)), (k1, .inl (cI, 4, .inl st)), (k2, .inl (cI, 4, .inl kco)), (k3, .inl (cI, 4, .inl gt)), (k4, .inl (cI, 4, .inl pd)), (k5, .inl (cI, 4, .inl de)), (k6, .inl (cI, 4, .inl us)), (jh, .inr (1, [.ref j0, .int hd, .int lo])), (j0, .inl (cI, 4, .inl tm))]) ⟨hx, hb, hml, hown, hts⟩ (c_X1_copyFrom l D cB cC cI jh j0 jm jd jo lh l0 tm hd lo _) (cwV 1 hts gX5_image_X1_copyFrom rfl rfl rfl (by decide +kernel) ⟨Nat.le_of_ble_eq_true rfl, Nat.le_of_ble_eq_true rfl⟩) hK hP hD hS hA [19, 20, 9, 10] [0, 1, 2, 3, 4, 5, 6, 7, 8, 11, 12, 13, 14, 15, 16, 17, 18] [0, 1, 2, 3, 4, 5, 6, 7, 8, 19, 20, 9, 10, 11, 12, 13, 14, 15, 16, 17, 18] (by decide) rfl rfl (by decide) (by decide) (by decide) rfl rfl 19 rfl rfl hl.1 rfl (Nat.le_of_ble_eq_true rfl) dX5_image_32 ⟨Nat.zero_le _, Nat.zero_le _⟩ (fun H locs hP hD hS => ?_)
    refine lv_aload_n hx hb dX5_image_35 rfl (lv_at hl 0 rfl) ?_
    refine lv_iconst (v := 1) hx hb dX5_image_36 (by decide) ?_
    refine va_put (D := D) (ci := 5) (v := .int 1) (ty := .boolean) (C := RX5) (T := TX5) (N := 10) hx hb hts iwX5 tyX5 tyX5_ok nmX5 hown hK.1 hP hD hS 0 rfl rfl 7 (by decide) fk50 (fun _ h9 => h9) rfl (by decide +kernel) rfl rfl (Nat.le_of_ble_eq_true rfl) dX5_image_37 (fun H locs hP hD hS => ?_)
    have hP : va_P D vwCl [(xh, .inr (5, [.ref ph, .ref mh, .ref lh, .ref kh, .ref jh, .ref qh, .ref dh, .int 1, .int mr, .int pn])), (mh, .inr (2, [.ref m0, .ref m1, .ref m2, .ref m3, .ref m4, .ref m5, .ref m6, .int (nI n), .int tl, .int ho, .int sl])), (m0, .inl (cI, 4, .inl kd)), (m1, .inl (cI, 4, .inl st)), (m2, .inl (cI, 4, .inl co)), (m3, .inl (cI, 4, .inl gt)), (m4, .inl (cI, 4, .inl pd)), (m5, .inl (cI, 4, .inl de)), (m6, .inl (cI, 4, .inl us)), (lh, .inr (1, [.ref l0, .int hd, .int lo])), (l0, .inl (cI, 4, .inl tm)), (kh, .inr (2, [.ref k0, .ref k1, .ref k2, .ref k3, .ref k4, .ref k5, .ref k6, .int kn, .int ktl, .int ho, .int sl])), (k0, .inl (cI, 4, .inl kkd)), (k1, .inl (cI, 4, .inl st)), (k2, .inl (cI, 4, .inl kco)), (k3, .inl (cI, 4, .inl gt)), (k4, .inl (cI, 4, .inl pd)), (k5, .inl (cI, 4, .inl de)), (k6, .inl (cI, 4, .inl us)), (jh, .inr (1, [.ref j0, .int hd, .int lo])), (j0, .inl (cI, 4, .inl tm))] H := hP
    have hD : va_D A [(xh, .inr (5, [.ref ph, .ref mh, .ref lh, .ref kh, .ref jh, .ref qh, .ref dh, .int 1, .int mr, .int pn])), (mh, .inr (2, [.ref m0, .ref m1, .ref m2, .ref m3, .ref m4, .ref m5, .ref m6, .int (nI n), .int tl, .int ho, .int sl])), (m0, .inl (cI, 4, .inl kd)), (m1, .inl (cI, 4, .inl st)), (m2, .inl (cI, 4, .inl co)), (m3, .inl (cI, 4, .inl gt)), (m4, .inl (cI, 4, .inl pd)), (m5, .inl (cI, 4, .inl de)), (m6, .inl (cI, 4, .inl us)), (lh, .inr (1, [.ref l0, .int hd, .int lo])), (l0, .inl (cI, 4, .inl tm)), (kh, .inr (2, [.ref k0, .ref k1, .ref k2, .ref k3, .ref k4, .ref k5, .ref k6, .int kn, .int ktl, .int ho, .int sl])), (k0, .inl (cI, 4, .inl kkd)), (k1, .inl (cI, 4, .inl st)), (k2, .inl (cI, 4, .inl kco)), (k3, .inl (cI, 4, .inl gt)), (k4, .inl (cI, 4, .inl pd)), (k5, .inl (cI, 4, .inl de)), (k6, .inl (cI, 4, .inl us)), (jh, .inr (1, [.ref j0, .int hd, .int lo])), (j0, .inl (cI, 4, .inl tm))] := hD
    refine lv_aload_n hx hb dX5_image_40 rfl (lv_at hl 0 rfl) ?_
    refine va_get (D := D) (ci := 5) (v := .ref mh) (C := RX5) (T := TX5) (N := 10) hx hb hts iwX5 hown hK.1 hP 0 rfl rfl 1 (by decide) fk19 (fun _ h9 => h9) rfl dX5_image_41 ?_
    refine va_get (D := D) (ci := 2) (v := .int ho) (C := RX2) (T := TX2) (N := 11) hx hb hts iwX2 hown hK.1 hP 1 rfl rfl 9 (by decide) fk117 (fun _ h9 => h9) rfl dX5_image_44 ?_
    have eG : f_X5_image ik st gt pd de us n ho sl tm hd lo kst kgt kpd kde kus kho ksl jm jd jo = (ho, 1, (nI n), ho, sl, st, gt, pd, de, us, hd, lo, tm) := if_neg c_1
    exact retWi (u := ()) hx hb hr hlocks (by rw [eG]) (by rw [eG]; exact hP) (by rw [eG]; exact hD) hS dX5_image_47
  · refine lv_bipush (v := (-103)) hx hb dX5_image_10 (by decide) ?_
    have eG : f_X5_image ik st gt pd de us n ho sl tm hd lo kst kgt kpd kde kus kho ksl jm jd jo = ((-103), ik, nI n, kho, ksl, kst, kgt, kpd, kde, kus, jd, jo, jm) := if_pos c_1
    exact retWi (u := ()) hx hb hr hlocks (by rw [eG]) (by rw [eG]; exact hP) (by rw [eG]; exact hD) hS dX5_image_12
def f_X5_restore (ik : Int32) (st : Nat → Int32) (gt : Nat → Int32) (pd : Nat → Int32) (de : Nat → Int32) (us : Nat → Int32) (n : Nat) (ho : Int32) (sl : Int32) (tm : Nat → Int32) (hd : Int32) (lo : Int32) (kst : Nat → Int32) (kgt : Nat → Int32) (kpd : Nat → Int32) (kde : Nat → Int32) (kus : Nat → Int32) (kho : Int32) (ksl : Int32) (jm : Nat → Int32) (jd : Int32) (jo : Int32) : Int32 × Int32 × Int32 × Int32 × (Nat → Int32) × (Nat → Int32) × (Nat → Int32) × (Nat → Int32) × (Nat → Int32) × Int32 × Int32 × (Nat → Int32) := if ik = 0 then ((-103), nI n, ho, sl, st, gt, pd, de, us, hd, lo, tm) else (kho, (nI n), kho, ksl, kst, kgt, kpd, kde, kus, jd, jo, jm)
set_option maxHeartbeats 4000000 in
set_option maxRecDepth 100000 in
theorem c_X5_restore (l : Launch) (D : va_G) (cB cC cI : ClassId) (xh : Nat) (ph : Nat) (mh : Nat) (lh : Nat) (kh : Nat) (jh : Nat) (qh : Nat) (dh : Nat) (ik : Int32) (mr : Int32) (pn : Int32) (m0 : Nat) (m1 : Nat) (m2 : Nat) (m3 : Nat) (m4 : Nat) (m5 : Nat) (m6 : Nat) (kd : Nat → Int32) (st : Nat → Int32) (co : Nat → Int32) (gt : Nat → Int32) (pd : Nat → Int32) (de : Nat → Int32) (us : Nat → Int32) (n : Nat) (tl : Int32) (ho : Int32) (sl : Int32) (l0 : Nat) (tm : Nat → Int32) (hd : Int32) (lo : Int32) (k0 : Nat) (k1 : Nat) (k2 : Nat) (k3 : Nat) (k4 : Nat) (k5 : Nat) (k6 : Nat) (kkd : Nat → Int32) (kst : Nat → Int32) (kco : Nat → Int32) (kgt : Nat → Int32) (kpd : Nat → Int32) (kde : Nat → Int32) (kus : Nat → Int32) (kn : Int32) (ktl : Int32) (kho : Int32) (ksl : Int32) (j0 : Nat) (jm : Nat → Int32) (jd : Int32) (jo : Int32) (sz : Nat)  : Met l yX5_restore wsX5_restore ({ frames := 3, cells := 0, slots := 0, locals := 72 }) (gPw D cB cC cI [.ref xh] [(xh, .inr (5, [.ref ph, .ref mh, .ref lh, .ref kh, .ref jh, .ref qh, .ref dh, .int ik, .int mr, .int pn])), (mh, .inr (2, [.ref m0, .ref m1, .ref m2, .ref m3, .ref m4, .ref m5, .ref m6, .int (nI n), .int tl, .int ho, .int sl])), (m0, .inl (cI, 4, .inl kd)), (m1, .inl (cI, 4, .inl st)), (m2, .inl (cI, 4, .inl co)), (m3, .inl (cI, 4, .inl gt)), (m4, .inl (cI, 4, .inl pd)), (m5, .inl (cI, 4, .inl de)), (m6, .inl (cI, 4, .inl us)), (lh, .inr (1, [.ref l0, .int hd, .int lo])), (l0, .inl (cI, 4, .inl tm)), (kh, .inr (2, [.ref k0, .ref k1, .ref k2, .ref k3, .ref k4, .ref k5, .ref k6, .int kn, .int ktl, .int kho, .int ksl])), (k0, .inl (cI, 4, .inl kkd)), (k1, .inl (cI, 4, .inl kst)), (k2, .inl (cI, 4, .inl kco)), (k3, .inl (cI, 4, .inl kgt)), (k4, .inl (cI, 4, .inl kpd)), (k5, .inl (cI, 4, .inl kde)), (k6, .inl (cI, 4, .inl kus)), (jh, .inr (1, [.ref j0, .int jd, .int jo])), (j0, .inl (cI, 4, .inl jm))] sz) (QWi D ((f_X5_restore ik st gt pd de us n ho sl tm hd lo kst kgt kpd kde kus kho ksl jm jd jo).1) [(xh, .inr (5, [.ref ph, .ref mh, .ref lh, .ref kh, .ref jh, .ref qh, .ref dh, .int ik, .int mr, .int pn])), (mh, .inr (2, [.ref m0, .ref m1, .ref m2, .ref m3, .ref m4, .ref m5, .ref m6, .int ((f_X5_restore ik st gt pd de us n ho sl tm hd lo kst kgt kpd kde kus kho ksl jm jd jo).2.1), .int tl, .int ((f_X5_restore ik st gt pd de us n ho sl tm hd lo kst kgt kpd kde kus kho ksl jm jd jo).2.2.1), .int ((f_X5_restore ik st gt pd de us n ho sl tm hd lo kst kgt kpd kde kus kho ksl jm jd jo).2.2.2.1)])), (m0, .inl (cI, 4, .inl kd)), (m1, .inl (cI, 4, .inl ((f_X5_restore ik st gt pd de us n ho sl tm hd lo kst kgt kpd kde kus kho ksl jm jd jo).2.2.2.2.1))), (m2, .inl (cI, 4, .inl co)), (m3, .inl (cI, 4, .inl ((f_X5_restore ik st gt pd de us n ho sl tm hd lo kst kgt kpd kde kus kho ksl jm jd jo).2.2.2.2.2.1))), (m4, .inl (cI, 4, .inl ((f_X5_restore ik st gt pd de us n ho sl tm hd lo kst kgt kpd kde kus kho ksl jm jd jo).2.2.2.2.2.2.1))), (m5, .inl (cI, 4, .inl ((f_X5_restore ik st gt pd de us n ho sl tm hd lo kst kgt kpd kde kus kho ksl jm jd jo).2.2.2.2.2.2.2.1))), (m6, .inl (cI, 4, .inl ((f_X5_restore ik st gt pd de us n ho sl tm hd lo kst kgt kpd kde kus kho ksl jm jd jo).2.2.2.2.2.2.2.2.1))), (lh, .inr (1, [.ref l0, .int ((f_X5_restore ik st gt pd de us n ho sl tm hd lo kst kgt kpd kde kus kho ksl jm jd jo).2.2.2.2.2.2.2.2.2.1), .int ((f_X5_restore ik st gt pd de us n ho sl tm hd lo kst kgt kpd kde kus kho ksl jm jd jo).2.2.2.2.2.2.2.2.2.2.1)])), (l0, .inl (cI, 4, .inl ((f_X5_restore ik st gt pd de us n ho sl tm hd lo kst kgt kpd kde kus kho ksl jm jd jo).2.2.2.2.2.2.2.2.2.2.2))), (kh, .inr (2, [.ref k0, .ref k1, .ref k2, .ref k3, .ref k4, .ref k5, .ref k6, .int kn, .int ktl, .int kho, .int ksl])), (k0, .inl (cI, 4, .inl kkd)), (k1, .inl (cI, 4, .inl kst)), (k2, .inl (cI, 4, .inl kco)), (k3, .inl (cI, 4, .inl kgt)), (k4, .inl (cI, 4, .inl kpd)), (k5, .inl (cI, 4, .inl kde)), (k6, .inl (cI, 4, .inl kus)), (jh, .inr (1, [.ref j0, .int jd, .int jo])), (j0, .inl (cI, 4, .inl jm))] (va_A [(xh, .inr (5, [.ref ph, .ref mh, .ref lh, .ref kh, .ref jh, .ref qh, .ref dh, .int ik, .int mr, .int pn])), (mh, .inr (2, [.ref m0, .ref m1, .ref m2, .ref m3, .ref m4, .ref m5, .ref m6, .int (nI n), .int tl, .int ho, .int sl])), (m0, .inl (cI, 4, .inl kd)), (m1, .inl (cI, 4, .inl st)), (m2, .inl (cI, 4, .inl co)), (m3, .inl (cI, 4, .inl gt)), (m4, .inl (cI, 4, .inl pd)), (m5, .inl (cI, 4, .inl de)), (m6, .inl (cI, 4, .inl us)), (lh, .inr (1, [.ref l0, .int hd, .int lo])), (l0, .inl (cI, 4, .inl tm)), (kh, .inr (2, [.ref k0, .ref k1, .ref k2, .ref k3, .ref k4, .ref k5, .ref k6, .int kn, .int ktl, .int kho, .int ksl])), (k0, .inl (cI, 4, .inl kkd)), (k1, .inl (cI, 4, .inl kst)), (k2, .inl (cI, 4, .inl kco)), (k3, .inl (cI, 4, .inl kgt)), (k4, .inl (cI, 4, .inl kpd)), (k5, .inl (cI, 4, .inl kde)), (k6, .inl (cI, 4, .inl kus)), (jh, .inr (1, [.ref j0, .int jd, .int jo])), (j0, .inl (cI, 4, .inl jm))] sz)) 0 0 (va_A [(xh, .inr (5, [.ref ph, .ref mh, .ref lh, .ref kh, .ref jh, .ref qh, .ref dh, .int ik, .int mr, .int pn])), (mh, .inr (2, [.ref m0, .ref m1, .ref m2, .ref m3, .ref m4, .ref m5, .ref m6, .int (nI n), .int tl, .int ho, .int sl])), (m0, .inl (cI, 4, .inl kd)), (m1, .inl (cI, 4, .inl st)), (m2, .inl (cI, 4, .inl co)), (m3, .inl (cI, 4, .inl gt)), (m4, .inl (cI, 4, .inl pd)), (m5, .inl (cI, 4, .inl de)), (m6, .inl (cI, 4, .inl us)), (lh, .inr (1, [.ref l0, .int hd, .int lo])), (l0, .inl (cI, 4, .inl tm)), (kh, .inr (2, [.ref k0, .ref k1, .ref k2, .ref k3, .ref k4, .ref k5, .ref k6, .int kn, .int ktl, .int kho, .int ksl])), (k0, .inl (cI, 4, .inl kkd)), (k1, .inl (cI, 4, .inl kst)), (k2, .inl (cI, 4, .inl kco)), (k3, .inl (cI, 4, .inl kgt)), (k4, .inl (cI, 4, .inl kpd)), (k5, .inl (cI, 4, .inl kde)), (k6, .inl (cI, 4, .inl kus)), (jh, .inr (1, [.ref j0, .int jd, .int jo])), (j0, .inl (cI, 4, .inl jm))] sz) := by
  refine metW (cc := cX5_restore) (maxL := 1) (ret := (some .int)) (QA := fun A => (QWi D ((f_X5_restore ik st gt pd de us n ho sl tm hd lo kst kgt kpd kde kus kho ksl jm jd jo).1) [(xh, .inr (5, [.ref ph, .ref mh, .ref lh, .ref kh, .ref jh, .ref qh, .ref dh, .int ik, .int mr, .int pn])), (mh, .inr (2, [.ref m0, .ref m1, .ref m2, .ref m3, .ref m4, .ref m5, .ref m6, .int ((f_X5_restore ik st gt pd de us n ho sl tm hd lo kst kgt kpd kde kus kho ksl jm jd jo).2.1), .int tl, .int ((f_X5_restore ik st gt pd de us n ho sl tm hd lo kst kgt kpd kde kus kho ksl jm jd jo).2.2.1), .int ((f_X5_restore ik st gt pd de us n ho sl tm hd lo kst kgt kpd kde kus kho ksl jm jd jo).2.2.2.1)])), (m0, .inl (cI, 4, .inl kd)), (m1, .inl (cI, 4, .inl ((f_X5_restore ik st gt pd de us n ho sl tm hd lo kst kgt kpd kde kus kho ksl jm jd jo).2.2.2.2.1))), (m2, .inl (cI, 4, .inl co)), (m3, .inl (cI, 4, .inl ((f_X5_restore ik st gt pd de us n ho sl tm hd lo kst kgt kpd kde kus kho ksl jm jd jo).2.2.2.2.2.1))), (m4, .inl (cI, 4, .inl ((f_X5_restore ik st gt pd de us n ho sl tm hd lo kst kgt kpd kde kus kho ksl jm jd jo).2.2.2.2.2.2.1))), (m5, .inl (cI, 4, .inl ((f_X5_restore ik st gt pd de us n ho sl tm hd lo kst kgt kpd kde kus kho ksl jm jd jo).2.2.2.2.2.2.2.1))), (m6, .inl (cI, 4, .inl ((f_X5_restore ik st gt pd de us n ho sl tm hd lo kst kgt kpd kde kus kho ksl jm jd jo).2.2.2.2.2.2.2.2.1))), (lh, .inr (1, [.ref l0, .int ((f_X5_restore ik st gt pd de us n ho sl tm hd lo kst kgt kpd kde kus kho ksl jm jd jo).2.2.2.2.2.2.2.2.2.1), .int ((f_X5_restore ik st gt pd de us n ho sl tm hd lo kst kgt kpd kde kus kho ksl jm jd jo).2.2.2.2.2.2.2.2.2.2.1)])), (l0, .inl (cI, 4, .inl ((f_X5_restore ik st gt pd de us n ho sl tm hd lo kst kgt kpd kde kus kho ksl jm jd jo).2.2.2.2.2.2.2.2.2.2.2))), (kh, .inr (2, [.ref k0, .ref k1, .ref k2, .ref k3, .ref k4, .ref k5, .ref k6, .int kn, .int ktl, .int kho, .int ksl])), (k0, .inl (cI, 4, .inl kkd)), (k1, .inl (cI, 4, .inl kst)), (k2, .inl (cI, 4, .inl kco)), (k3, .inl (cI, 4, .inl kgt)), (k4, .inl (cI, 4, .inl kpd)), (k5, .inl (cI, 4, .inl kde)), (k6, .inl (cI, 4, .inl kus)), (jh, .inr (1, [.ref j0, .int jd, .int jo])), (j0, .inl (cI, 4, .inl jm))] A)) RX5 rfl (by decide) rfl (Nat.le_of_ble_eq_true rfl) ?_
  intro p e s m below meth c A hx hb hr hml hown hts hlocks hin hP hK hD hA hS ls hl
  have iwX5 : ∀ w ∈ wsX50, w ∈ wsX5_restore := by decide +kernel
  have iwX2 : ∀ w ∈ wsX20, w ∈ wsX5_restore := by decide +kernel
  have fk50 := hts (.fieldLink RX5 50 "BuyersWeights" "imageKept" "Z") (by decide +kernel)
  have fk19 := hts (.fieldLink RX5 19 "BuyersWeights" "market" "LBuyersWeights$Market;") (by decide +kernel)
  have fk30 := hts (.fieldLink RX5 30 "BuyersWeights" "keptMarket" "LBuyersWeights$Market;") (by decide +kernel)
  have fk26 := hts (.fieldLink RX5 26 "BuyersWeights" "ledger" "LBuyersWeights$Ledger;") (by decide +kernel)
  have fk33 := hts (.fieldLink RX5 33 "BuyersWeights" "keptLedger" "LBuyersWeights$Ledger;") (by decide +kernel)
  have fk117 := hts (.fieldLink RX5 117 "BuyersWeights$Market" "hourNow" "I") (by decide +kernel)
  have hl : lv_has ls 1 [(0, .ref xh)] := hl
  refine lv_aload_n hx hb dX5_restore_0 rfl (lv_at hl 0 rfl) ?_
  refine va_get (D := D) (ci := 5) (v := .int ik) (C := RX5) (T := TX5) (N := 10) hx hb hts iwX5 hown hK.1 hP 0 rfl rfl 7 (by decide) fk50 (fun _ h9 => h9) rfl dX5_restore_1 ?_
  refine lv_if_ne (tgt := 10) hx hb dX5_restore_4 (by decide) (fun c_1 => ?_) (fun c_1 => ?_)
  · refine lv_aload_n hx hb dX5_restore_10 rfl (lv_at hl 0 rfl) ?_
    refine va_get (D := D) (ci := 5) (v := .ref mh) (C := RX5) (T := TX5) (N := 10) hx hb hts iwX5 hown hK.1 hP 0 rfl rfl 1 (by decide) fk19 (fun _ h9 => h9) rfl dX5_restore_11 ?_
    refine lv_aload_n hx hb dX5_restore_14 rfl (lv_at hl 0 rfl) ?_
    refine va_get (D := D) (ci := 5) (v := .ref kh) (C := RX5) (T := TX5) (N := 10) hx hb hts iwX5 hown hK.1 hP 0 rfl rfl 3 (by decide) fk30 (fun _ h9 => h9) rfl dX5_restore_15 ?_
    refine wcVv1 (As := [.ref kh]) (rest := []) (wr := [(xh, .inr (5, [.ref ph, .ref mh, .ref lh, .ref kh, .ref jh, .ref qh, .ref dh, .int ik, .int mr, .int pn])), (lh, .inr (1, [.ref l0, .int hd, .int lo])), (l0, .inl (cI, 4, .inl tm)), (jh, .inr (1, [.ref j0, .int jd, .int jo])), (j0, .inl (cI, 4, .inl jm))]) (w2 := [(xh, .inr (5, [.ref ph, .ref mh, .ref lh, .ref kh, .ref jh, .ref qh, .ref dh, .int ik, .int mr, .int pn])), (mh, .inr (2, [.ref m0, .ref m1, .ref m2, .ref m3, .ref m4, .ref m5, .ref m6, .int (nI n), .int tl, .int kho, .int ksl])), (m0, .inl (cI, 4, .inl kd)), (m1, .inl (cI, 4, .inl kst)), (m2, .inl (cI, 4, .inl co)), (m3, .inl (cI, 4, .inl kgt)), (m4, .inl (cI, 4, .inl kpd)), (m5, .inl (cI, 4, .inl kde)), (m6, .inl (cI, 4, .inl kus)), (lh, .inr (1, [.ref l0, .int hd, .int lo])), (l0, .inl (cI, 4, .inl tm)), (kh, .inr (2, [.ref k0, .ref k1, .ref k2, .ref k3, .ref k4, .ref k5, .ref k6, .int kn, .int ktl, .int kho, .int ksl])), (k0, .inl (cI, 4, .inl kkd)), (k1, .inl (cI, 4, .inl kst)), (k2, .inl (cI, 4, .inl kco)), (k3, .inl (cI, 4, .inl kgt)), (k4, .inl (cI, 4, .inl kpd)), (k5, .inl (cI, 4, .inl kde)), (k6, .inl (cI, 4, .inl kus)), (jh, .inr (1, [.ref j0, .int jd, .int jo])), (j0, .inl (cI, 4, .inl jm))]) ⟨hx, hb, hml, hown, hts⟩ (c_X2_copyDoingsOf l D cB cC cI mh m0 m1 m2 m3 m4 m5 m6 kd st co gt pd de us (nI n) tl ho sl kh k0 k1 k2 k3 k4 k5 k6 kkd kst kco kgt kpd kde kus kn ktl kho ksl _) (cwV 1 hts gX5_restore_X2_copyDoingsOf rfl rfl rfl (by decide +kernel) ⟨Nat.le_of_ble_eq_true rfl, Nat.le_of_ble_eq_true rfl⟩) hK hP hD hS hA [1, 2, 3, 4, 5, 6, 7, 8, 11, 12, 13, 14, 15, 16, 17, 18] [0, 9, 10, 19, 20] [0, 5, 6, 7, 8, 9, 10, 11, 12, 1, 2, 13, 14, 15, 16, 17, 18, 19, 20, 3, 4] (by decide) rfl rfl (by decide) (by decide) (by decide) rfl rfl 1 rfl rfl hl.1 rfl (Nat.le_of_ble_eq_true rfl) dX5_restore_18 ⟨Nat.zero_le _, Nat.zero_le _⟩ (fun H locs hP hD hS => ?_)
    refine lv_aload_n hx hb dX5_restore_21 rfl (lv_at hl 0 rfl) ?_
    refine va_get (D := D) (ci := 5) (v := .ref lh) (C := RX5) (T := TX5) (N := 10) hx hb hts iwX5 hown hK.1 hP 0 rfl rfl 2 (by decide) fk26 (fun _ h9 => h9) rfl dX5_restore_22 ?_
    refine lv_aload_n hx hb dX5_restore_25 rfl (lv_at hl 0 rfl) ?_
    refine va_get (D := D) (ci := 5) (v := .ref jh) (C := RX5) (T := TX5) (N := 10) hx hb hts iwX5 hown hK.1 hP 0 rfl rfl 4 (by decide) fk33 (fun _ h9 => h9) rfl dX5_restore_26 ?_
    refine wcVv1 (As := [.ref jh]) (rest := []) (wr := [(xh, .inr (5, [.ref ph, .ref mh, .ref lh, .ref kh, .ref jh, .ref qh, .ref dh, .int ik, .int mr, .int pn])), (mh, .inr (2, [.ref m0, .ref m1, .ref m2, .ref m3, .ref m4, .ref m5, .ref m6, .int (nI n), .int tl, .int kho, .int ksl])), (m0, .inl (cI, 4, .inl kd)), (m1, .inl (cI, 4, .inl kst)), (m2, .inl (cI, 4, .inl co)), (m3, .inl (cI, 4, .inl kgt)), (m4, .inl (cI, 4, .inl kpd)), (m5, .inl (cI, 4, .inl kde)), (m6, .inl (cI, 4, .inl kus)), (kh, .inr (2, [.ref k0, .ref k1, .ref k2, .ref k3, .ref k4, .ref k5, .ref k6, .int kn, .int ktl, .int kho, .int ksl])), (k0, .inl (cI, 4, .inl kkd)), (k1, .inl (cI, 4, .inl kst)), (k2, .inl (cI, 4, .inl kco)), (k3, .inl (cI, 4, .inl kgt)), (k4, .inl (cI, 4, .inl kpd)), (k5, .inl (cI, 4, .inl kde)), (k6, .inl (cI, 4, .inl kus))]) (w2 := [(xh, .inr (5, [.ref ph, .ref mh, .ref lh, .ref kh, .ref jh, .ref qh, .ref dh, .int ik, .int mr, .int pn])), (mh, .inr (2, [.ref m0, .ref m1, .ref m2, .ref m3, .ref m4, .ref m5, .ref m6, .int (nI n), .int tl, .int kho, .int ksl])), (m0, .inl (cI, 4, .inl kd)), (m1, .inl (cI, 4, .inl kst)), (m2, .inl (cI, 4, .inl co)), (m3, .inl (cI, 4, .inl kgt)), (m4, .inl (cI, 4, .inl kpd)), (m5, .inl (cI, 4, .inl kde)), (m6, .inl (cI, 4, .inl kus)), (lh, .inr (1, [.ref l0, .int jd, .int jo])), (l0, .inl (cI, 4, .inl jm)), (kh, .inr (2, [.ref k0, .ref k1, .ref k2, .ref k3, .ref k4, .ref k5, .ref k6, .int kn, .int ktl, .int kho, .int ksl])), (k0, .inl (cI, 4, .inl kkd)), (k1, .inl (cI, 4, .inl kst)), (k2, .inl (cI, 4, .inl kco)), (k3, .inl (cI, 4, .inl kgt)), (k4, .inl (cI, 4, .inl kpd)), (k5, .inl (cI, 4, .inl kde)), (k6, .inl (cI, 4, .inl kus)), (jh, .inr (1, [.ref j0, .int jd, .int jo])), (j0, .inl (cI, 4, .inl jm))]) ⟨hx, hb, hml, hown, hts⟩ (c_X1_copyFrom l D cB cC cI lh l0 tm hd lo jh j0 jm jd jo _) (cwV 1 hts gX5_restore_X1_copyFrom rfl rfl rfl (by decide +kernel) ⟨Nat.le_of_ble_eq_true rfl, Nat.le_of_ble_eq_true rfl⟩) hK hP hD hS hA [9, 10, 19, 20] [0, 1, 2, 3, 4, 5, 6, 7, 8, 11, 12, 13, 14, 15, 16, 17, 18] [0, 1, 2, 3, 4, 5, 6, 7, 8, 17, 18, 9, 10, 11, 12, 13, 14, 15, 16, 19, 20] (by decide) rfl rfl (by decide) (by decide) (by decide) rfl rfl 9 rfl rfl hl.1 rfl (Nat.le_of_ble_eq_true rfl) dX5_restore_29 ⟨Nat.zero_le _, Nat.zero_le _⟩ (fun H locs hP hD hS => ?_)
    refine lv_aload_n hx hb dX5_restore_32 rfl (lv_at hl 0 rfl) ?_
    refine va_get (D := D) (ci := 5) (v := .ref mh) (C := RX5) (T := TX5) (N := 10) hx hb hts iwX5 hown hK.1 hP 0 rfl rfl 1 (by decide) fk19 (fun _ h9 => h9) rfl dX5_restore_33 ?_
    refine va_get (D := D) (ci := 2) (v := .int kho) (C := RX2) (T := TX2) (N := 11) hx hb hts iwX2 hown hK.1 hP 1 rfl rfl 9 (by decide) fk117 (fun _ h9 => h9) rfl dX5_restore_36 ?_
    have eG : f_X5_restore ik st gt pd de us n ho sl tm hd lo kst kgt kpd kde kus kho ksl jm jd jo = (kho, (nI n), kho, ksl, kst, kgt, kpd, kde, kus, jd, jo, jm) := if_neg c_1
    exact retWi (u := ()) hx hb hr hlocks (by rw [eG]) (by rw [eG]; exact hP) (by rw [eG]; exact hD) hS dX5_restore_39
  · refine lv_bipush (v := (-103)) hx hb dX5_restore_7 (by decide) ?_
    have eG : f_X5_restore ik st gt pd de us n ho sl tm hd lo kst kgt kpd kde kus kho ksl jm jd jo = ((-103), nI n, ho, sl, st, gt, pd, de, us, hd, lo, tm) := if_pos c_1
    exact retWi (u := ()) hx hb hr hlocks (by rw [eG]) (by rw [eG]; exact hP) (by rw [eG]; exact hD) hS dX5_restore_9
def f_X5_market (ik : Int32) (mr : Int32) (kd : Nat → Int32) (st : Nat → Int32) (co : Nat → Int32) (gt : Nat → Int32) (pd : Nat → Int32) (de : Nat → Int32) (us : Nat → Int32) (n : Nat) (tl : Int32) (ho : Int32) (sl : Int32) (tm : Nat → Int32) (hd : Int32) (lo : Int32) (lt : Nat → Int32) (k : Nat) : Int32 × Int32 × Int32 × Int32 × Int32 × Int32 × Int32 × (Nat → Int32) × (Nat → Int32) × (Nat → Int32) × (Nat → Int32) × (Nat → Int32) × (Nat → Int32) × (Nat → Int32) × Int32 × Int32 × (Nat → Int32) × Int32 := if (f_X3_isMarket lt k) = 0 then ((-103), ik, mr, nI n, tl, ho, sl, kd, st, co, gt, pd, de, us, hd, lo, tm, nI k) else (nI (k / 4), 0, mr + 1, nI (k / 4), lt (k - 1) - 48, 1, 0, fillN (opK lt) kd (k / 4), fillN (opS lt) st (k / 4), fillN (opC lt) co (k / 4), fillN ze gt (k / 4), fillN ze pd (k / 4), fillN ze de (k / 4), fillN ze us (k / 4), 0, 0, (fun _ => 0), 0)
set_option maxHeartbeats 4000000 in
set_option maxRecDepth 100000 in
theorem c_X5_market (l : Launch) (D : va_G) (cB cC cI : ClassId) (ka va : Nat) (xh : Nat) (ph : Nat) (mh : Nat) (lh : Nat) (kh : Nat) (jh : Nat) (qh : Nat) (dh : Nat) (ik : Int32) (mr : Int32) (pn : Int32) (m0 : Nat) (m1 : Nat) (m2 : Nat) (m3 : Nat) (m4 : Nat) (m5 : Nat) (m6 : Nat) (kd : Nat → Int32) (st : Nat → Int32) (co : Nat → Int32) (gt : Nat → Int32) (pd : Nat → Int32) (de : Nat → Int32) (us : Nat → Int32) (n : Nat) (tl : Int32) (ho : Int32) (sl : Int32) (l0 : Nat) (tm : Nat → Int32) (hd : Int32) (lo : Int32) (p0 : Nat) (lt : Nat → Int32) (k : Nat) (sz : Nat) (hk : k ≤ 18) : Met l yX5_market wsX5_market ({ frames := 7, cells := 0, slots := 0, locals := 157 }) (gPwS D cB cC cI ka va [.ref xh] [(xh, .inr (5, [.ref ph, .ref mh, .ref lh, .ref kh, .ref jh, .ref qh, .ref dh, .int ik, .int mr, .int pn])), (mh, .inr (2, [.ref m0, .ref m1, .ref m2, .ref m3, .ref m4, .ref m5, .ref m6, .int (nI n), .int tl, .int ho, .int sl])), (m0, .inl (cI, 4, .inl kd)), (m1, .inl (cI, 4, .inl st)), (m2, .inl (cI, 4, .inl co)), (m3, .inl (cI, 4, .inl gt)), (m4, .inl (cI, 4, .inl pd)), (m5, .inl (cI, 4, .inl de)), (m6, .inl (cI, 4, .inl us)), (lh, .inr (1, [.ref l0, .int hd, .int lo])), (l0, .inl (cI, 4, .inl tm)), (ph, .inr (3, [.ref p0, .int (nI k)])), (p0, .inl (cC, 18, .inl lt))] sz) (QWi D ((f_X5_market ik mr kd st co gt pd de us n tl ho sl tm hd lo lt k).1) [(xh, .inr (5, [.ref ph, .ref mh, .ref lh, .ref kh, .ref jh, .ref qh, .ref dh, .int ((f_X5_market ik mr kd st co gt pd de us n tl ho sl tm hd lo lt k).2.1), .int ((f_X5_market ik mr kd st co gt pd de us n tl ho sl tm hd lo lt k).2.2.1), .int pn])), (mh, .inr (2, [.ref m0, .ref m1, .ref m2, .ref m3, .ref m4, .ref m5, .ref m6, .int ((f_X5_market ik mr kd st co gt pd de us n tl ho sl tm hd lo lt k).2.2.2.1), .int ((f_X5_market ik mr kd st co gt pd de us n tl ho sl tm hd lo lt k).2.2.2.2.1), .int ((f_X5_market ik mr kd st co gt pd de us n tl ho sl tm hd lo lt k).2.2.2.2.2.1), .int ((f_X5_market ik mr kd st co gt pd de us n tl ho sl tm hd lo lt k).2.2.2.2.2.2.1)])), (m0, .inl (cI, 4, .inl ((f_X5_market ik mr kd st co gt pd de us n tl ho sl tm hd lo lt k).2.2.2.2.2.2.2.1))), (m1, .inl (cI, 4, .inl ((f_X5_market ik mr kd st co gt pd de us n tl ho sl tm hd lo lt k).2.2.2.2.2.2.2.2.1))), (m2, .inl (cI, 4, .inl ((f_X5_market ik mr kd st co gt pd de us n tl ho sl tm hd lo lt k).2.2.2.2.2.2.2.2.2.1))), (m3, .inl (cI, 4, .inl ((f_X5_market ik mr kd st co gt pd de us n tl ho sl tm hd lo lt k).2.2.2.2.2.2.2.2.2.2.1))), (m4, .inl (cI, 4, .inl ((f_X5_market ik mr kd st co gt pd de us n tl ho sl tm hd lo lt k).2.2.2.2.2.2.2.2.2.2.2.1))), (m5, .inl (cI, 4, .inl ((f_X5_market ik mr kd st co gt pd de us n tl ho sl tm hd lo lt k).2.2.2.2.2.2.2.2.2.2.2.2.1))), (m6, .inl (cI, 4, .inl ((f_X5_market ik mr kd st co gt pd de us n tl ho sl tm hd lo lt k).2.2.2.2.2.2.2.2.2.2.2.2.2.1))), (lh, .inr (1, [.ref l0, .int ((f_X5_market ik mr kd st co gt pd de us n tl ho sl tm hd lo lt k).2.2.2.2.2.2.2.2.2.2.2.2.2.2.1), .int ((f_X5_market ik mr kd st co gt pd de us n tl ho sl tm hd lo lt k).2.2.2.2.2.2.2.2.2.2.2.2.2.2.2.1)])), (l0, .inl (cI, 4, .inl ((f_X5_market ik mr kd st co gt pd de us n tl ho sl tm hd lo lt k).2.2.2.2.2.2.2.2.2.2.2.2.2.2.2.2.1))), (ph, .inr (3, [.ref p0, .int ((f_X5_market ik mr kd st co gt pd de us n tl ho sl tm hd lo lt k).2.2.2.2.2.2.2.2.2.2.2.2.2.2.2.2.2)])), (p0, .inl (cC, 18, .inl lt))] (va_A [(xh, .inr (5, [.ref ph, .ref mh, .ref lh, .ref kh, .ref jh, .ref qh, .ref dh, .int ik, .int mr, .int pn])), (mh, .inr (2, [.ref m0, .ref m1, .ref m2, .ref m3, .ref m4, .ref m5, .ref m6, .int (nI n), .int tl, .int ho, .int sl])), (m0, .inl (cI, 4, .inl kd)), (m1, .inl (cI, 4, .inl st)), (m2, .inl (cI, 4, .inl co)), (m3, .inl (cI, 4, .inl gt)), (m4, .inl (cI, 4, .inl pd)), (m5, .inl (cI, 4, .inl de)), (m6, .inl (cI, 4, .inl us)), (lh, .inr (1, [.ref l0, .int hd, .int lo])), (l0, .inl (cI, 4, .inl tm)), (ph, .inr (3, [.ref p0, .int (nI k)])), (p0, .inl (cC, 18, .inl lt))] sz)) 0 0 (va_A [(xh, .inr (5, [.ref ph, .ref mh, .ref lh, .ref kh, .ref jh, .ref qh, .ref dh, .int ik, .int mr, .int pn])), (mh, .inr (2, [.ref m0, .ref m1, .ref m2, .ref m3, .ref m4, .ref m5, .ref m6, .int (nI n), .int tl, .int ho, .int sl])), (m0, .inl (cI, 4, .inl kd)), (m1, .inl (cI, 4, .inl st)), (m2, .inl (cI, 4, .inl co)), (m3, .inl (cI, 4, .inl gt)), (m4, .inl (cI, 4, .inl pd)), (m5, .inl (cI, 4, .inl de)), (m6, .inl (cI, 4, .inl us)), (lh, .inr (1, [.ref l0, .int hd, .int lo])), (l0, .inl (cI, 4, .inl tm)), (ph, .inr (3, [.ref p0, .int (nI k)])), (p0, .inl (cC, 18, .inl lt))] sz) := by
  refine metWS (cc := cX5_market) (maxL := 1) (ret := (some .int)) (QA := fun A => (QWi D ((f_X5_market ik mr kd st co gt pd de us n tl ho sl tm hd lo lt k).1) [(xh, .inr (5, [.ref ph, .ref mh, .ref lh, .ref kh, .ref jh, .ref qh, .ref dh, .int ((f_X5_market ik mr kd st co gt pd de us n tl ho sl tm hd lo lt k).2.1), .int ((f_X5_market ik mr kd st co gt pd de us n tl ho sl tm hd lo lt k).2.2.1), .int pn])), (mh, .inr (2, [.ref m0, .ref m1, .ref m2, .ref m3, .ref m4, .ref m5, .ref m6, .int ((f_X5_market ik mr kd st co gt pd de us n tl ho sl tm hd lo lt k).2.2.2.1), .int ((f_X5_market ik mr kd st co gt pd de us n tl ho sl tm hd lo lt k).2.2.2.2.1), .int ((f_X5_market ik mr kd st co gt pd de us n tl ho sl tm hd lo lt k).2.2.2.2.2.1), .int ((f_X5_market ik mr kd st co gt pd de us n tl ho sl tm hd lo lt k).2.2.2.2.2.2.1)])), (m0, .inl (cI, 4, .inl ((f_X5_market ik mr kd st co gt pd de us n tl ho sl tm hd lo lt k).2.2.2.2.2.2.2.1))), (m1, .inl (cI, 4, .inl ((f_X5_market ik mr kd st co gt pd de us n tl ho sl tm hd lo lt k).2.2.2.2.2.2.2.2.1))), (m2, .inl (cI, 4, .inl ((f_X5_market ik mr kd st co gt pd de us n tl ho sl tm hd lo lt k).2.2.2.2.2.2.2.2.2.1))), (m3, .inl (cI, 4, .inl ((f_X5_market ik mr kd st co gt pd de us n tl ho sl tm hd lo lt k).2.2.2.2.2.2.2.2.2.2.1))), (m4, .inl (cI, 4, .inl ((f_X5_market ik mr kd st co gt pd de us n tl ho sl tm hd lo lt k).2.2.2.2.2.2.2.2.2.2.2.1))), (m5, .inl (cI, 4, .inl ((f_X5_market ik mr kd st co gt pd de us n tl ho sl tm hd lo lt k).2.2.2.2.2.2.2.2.2.2.2.2.1))), (m6, .inl (cI, 4, .inl ((f_X5_market ik mr kd st co gt pd de us n tl ho sl tm hd lo lt k).2.2.2.2.2.2.2.2.2.2.2.2.2.1))), (lh, .inr (1, [.ref l0, .int ((f_X5_market ik mr kd st co gt pd de us n tl ho sl tm hd lo lt k).2.2.2.2.2.2.2.2.2.2.2.2.2.2.1), .int ((f_X5_market ik mr kd st co gt pd de us n tl ho sl tm hd lo lt k).2.2.2.2.2.2.2.2.2.2.2.2.2.2.2.1)])), (l0, .inl (cI, 4, .inl ((f_X5_market ik mr kd st co gt pd de us n tl ho sl tm hd lo lt k).2.2.2.2.2.2.2.2.2.2.2.2.2.2.2.2.1))), (ph, .inr (3, [.ref p0, .int ((f_X5_market ik mr kd st co gt pd de us n tl ho sl tm hd lo lt k).2.2.2.2.2.2.2.2.2.2.2.2.2.2.2.2.2)])), (p0, .inl (cC, 18, .inl lt))] A)) RX5 rfl (by decide) rfl (Nat.le_of_ble_eq_true rfl) ?_
  intro p e s m below meth c A hx hb hr hml hown hts hlocks hin hP hK hD hA hS hG ls hl
  have iwX5 : ∀ w ∈ wsX50, w ∈ wsX5_market := by decide +kernel
  have iwX2 : ∀ w ∈ wsX20, w ∈ wsX5_market := by decide +kernel
  have fk10 := hts (.fieldLink RX5 10 "BuyersWeights" "page" "LBuyersWeights$Page;") (by decide +kernel)
  have fk19 := hts (.fieldLink RX5 19 "BuyersWeights" "market" "LBuyersWeights$Market;") (by decide +kernel)
  have fk26 := hts (.fieldLink RX5 26 "BuyersWeights" "ledger" "LBuyersWeights$Ledger;") (by decide +kernel)
  have fk50 := hts (.fieldLink RX5 50 "BuyersWeights" "imageKept" "Z") (by decide +kernel)
  have fk54 := hts (.fieldLink RX5 54 "BuyersWeights" "marketsRead" "I") (by decide +kernel)
  have fk86 := hts (.fieldLink RX5 86 "BuyersWeights$Market" "houses" "I") (by decide +kernel)
  have hl : lv_has ls 1 [(0, .ref xh)] := hl
  refine lv_aload_n hx hb dX5_market_0 rfl (lv_at hl 0 rfl) ?_
  refine va_get (D := D) (ci := 5) (v := .ref ph) (C := RX5) (T := TX5) (N := 10) hx hb hts iwX5 hown hK.1 hP 0 rfl rfl 0 (by decide) fk10 (fun _ h9 => h9) rfl dX5_market_1 ?_
  refine rcViS (As := []) (rest := []) ⟨hx, hb, hml, hown, hts⟩ (c_X3_isMarket l D cB cC cI ka va ph p0 lt k (by first | assumption | omega | decide)) (cwV 0 hts gX5_market_X3_isMarket rfl rfl rfl (by decide +kernel) ⟨Nat.le_of_ble_eq_true rfl, Nat.le_of_ble_eq_true rfl⟩) ((hG.kept hS.2.1).narrow (fun _ h => h.elim)) hK hP [11, 12] rfl rfl 11 rfl rfl hl.1 rfl (Nat.le_of_ble_eq_true rfl) dX5_market_4 ⟨Nat.zero_le _, Nat.zero_le _⟩ ?_
  refine lv_if_ne (tgt := 13) hx hb dX5_market_7 (by decide) (fun c_1 => ?_) (fun c_1 => ?_)
  · have hM := isM_k hk c_1
    refine lv_aload_n hx hb dX5_market_13 rfl (lv_at hl 0 rfl) ?_
    refine va_get (D := D) (ci := 5) (v := .ref mh) (C := RX5) (T := TX5) (N := 10) hx hb hts iwX5 hown hK.1 hP 0 rfl rfl 1 (by decide) fk19 (fun _ h9 => h9) rfl dX5_market_14 ?_
    refine lv_aload_n hx hb dX5_market_17 rfl (lv_at hl 0 rfl) ?_
    refine va_get (D := D) (ci := 5) (v := .ref ph) (C := RX5) (T := TX5) (N := 10) hx hb hts iwX5 hown hK.1 hP 0 rfl rfl 0 (by decide) fk10 (fun _ h9 => h9) rfl dX5_market_18 ?_
    refine wcVv1S (As := [.ref ph]) (rest := []) (wr := [(xh, .inr (5, [.ref ph, .ref mh, .ref lh, .ref kh, .ref jh, .ref qh, .ref dh, .int ik, .int mr, .int pn])), (lh, .inr (1, [.ref l0, .int hd, .int lo])), (l0, .inl (cI, 4, .inl tm))]) (w2 := [(xh, .inr (5, [.ref ph, .ref mh, .ref lh, .ref kh, .ref jh, .ref qh, .ref dh, .int ik, .int mr, .int pn])), (mh, .inr (2, [.ref m0, .ref m1, .ref m2, .ref m3, .ref m4, .ref m5, .ref m6, .int (nI (k / 4)), .int (lt (k - 1) - 48), .int 1, .int 0])), (m0, .inl (cI, 4, .inl (fillN (opK lt) kd (k / 4)))), (m1, .inl (cI, 4, .inl (fillN (opS lt) st (k / 4)))), (m2, .inl (cI, 4, .inl (fillN (opC lt) co (k / 4)))), (m3, .inl (cI, 4, .inl (fillN ze gt (k / 4)))), (m4, .inl (cI, 4, .inl (fillN ze pd (k / 4)))), (m5, .inl (cI, 4, .inl (fillN ze de (k / 4)))), (m6, .inl (cI, 4, .inl (fillN ze us (k / 4)))), (lh, .inr (1, [.ref l0, .int hd, .int lo])), (l0, .inl (cI, 4, .inl tm)), (ph, .inr (3, [.ref p0, .int (nI k)])), (p0, .inl (cC, 18, .inl lt))]) ⟨hx, hb, hml, hown, hts⟩ (c_X2_open l D cB cC cI ka va mh m0 m1 m2 m3 m4 m5 m6 kd st co gt pd de us (nI n) tl ho sl ph p0 lt k (k / 4) _ hM.1 hM.2.2.1) (cwV 1 hts gX5_market_X2_open rfl rfl rfl (by decide +kernel) ⟨Nat.le_of_ble_eq_true rfl, Nat.le_of_ble_eq_true rfl⟩) (hG.kept hS.2.1) hK hP hD hS hA [1, 2, 3, 4, 5, 6, 7, 8, 11, 12] [0, 9, 10] [0, 3, 4, 5, 6, 7, 8, 9, 10, 1, 2, 11, 12] (by decide) rfl rfl (by decide) (by decide) (by decide) rfl rfl 1 rfl rfl hl.1 rfl (Nat.le_of_ble_eq_true rfl) dX5_market_21 ⟨Nat.zero_le _, Nat.zero_le _⟩ (fun H locs hP hD hS => ?_)
    refine lv_aload_n hx hb dX5_market_24 rfl (lv_at hl 0 rfl) ?_
    refine va_get (D := D) (ci := 5) (v := .ref ph) (C := RX5) (T := TX5) (N := 10) hx hb hts iwX5 hown hK.1 hP 0 rfl rfl 0 (by decide) fk10 (fun _ h9 => h9) rfl dX5_market_25 ?_
    refine wcVv1 (As := []) (rest := []) (wr := [(xh, .inr (5, [.ref ph, .ref mh, .ref lh, .ref kh, .ref jh, .ref qh, .ref dh, .int ik, .int mr, .int pn])), (mh, .inr (2, [.ref m0, .ref m1, .ref m2, .ref m3, .ref m4, .ref m5, .ref m6, .int (nI (k / 4)), .int (lt (k - 1) - 48), .int 1, .int 0])), (m0, .inl (cI, 4, .inl (fillN (opK lt) kd (k / 4)))), (m1, .inl (cI, 4, .inl (fillN (opS lt) st (k / 4)))), (m2, .inl (cI, 4, .inl (fillN (opC lt) co (k / 4)))), (m3, .inl (cI, 4, .inl (fillN ze gt (k / 4)))), (m4, .inl (cI, 4, .inl (fillN ze pd (k / 4)))), (m5, .inl (cI, 4, .inl (fillN ze de (k / 4)))), (m6, .inl (cI, 4, .inl (fillN ze us (k / 4)))), (lh, .inr (1, [.ref l0, .int hd, .int lo])), (l0, .inl (cI, 4, .inl tm))]) (w2 := [(xh, .inr (5, [.ref ph, .ref mh, .ref lh, .ref kh, .ref jh, .ref qh, .ref dh, .int ik, .int mr, .int pn])), (mh, .inr (2, [.ref m0, .ref m1, .ref m2, .ref m3, .ref m4, .ref m5, .ref m6, .int (nI (k / 4)), .int (lt (k - 1) - 48), .int 1, .int 0])), (m0, .inl (cI, 4, .inl (fillN (opK lt) kd (k / 4)))), (m1, .inl (cI, 4, .inl (fillN (opS lt) st (k / 4)))), (m2, .inl (cI, 4, .inl (fillN (opC lt) co (k / 4)))), (m3, .inl (cI, 4, .inl (fillN ze gt (k / 4)))), (m4, .inl (cI, 4, .inl (fillN ze pd (k / 4)))), (m5, .inl (cI, 4, .inl (fillN ze de (k / 4)))), (m6, .inl (cI, 4, .inl (fillN ze us (k / 4)))), (lh, .inr (1, [.ref l0, .int hd, .int lo])), (l0, .inl (cI, 4, .inl tm)), (ph, .inr (3, [.ref p0, .int 0])), (p0, .inl (cC, 18, .inl lt))]) ⟨hx, hb, hml, hown, hts⟩ (c_X3_empty l D cB cC cI ph p0 lt k _) (cwV 0 hts gX5_market_X3_empty rfl rfl rfl (by decide +kernel) ⟨Nat.le_of_ble_eq_true rfl, Nat.le_of_ble_eq_true rfl⟩) hK hP hD hS hA [11, 12] [0, 1, 2, 3, 4, 5, 6, 7, 8, 9, 10] [0, 1, 2, 3, 4, 5, 6, 7, 8, 9, 10, 11, 12] (by decide) rfl rfl (by decide) (by decide) (by decide) rfl rfl 11 rfl rfl hl.1 rfl (Nat.le_of_ble_eq_true rfl) dX5_market_28 ⟨Nat.zero_le _, Nat.zero_le _⟩ (fun H locs hP hD hS => ?_)
    refine lv_aload_n hx hb dX5_market_31 rfl (lv_at hl 0 rfl) ?_
    refine va_get (D := D) (ci := 5) (v := .ref lh) (C := RX5) (T := TX5) (N := 10) hx hb hts iwX5 hown hK.1 hP 0 rfl rfl 2 (by decide) fk26 (fun _ h9 => h9) rfl dX5_market_32 ?_
    refine wcVv1 (As := []) (rest := []) (wr := [(xh, .inr (5, [.ref ph, .ref mh, .ref lh, .ref kh, .ref jh, .ref qh, .ref dh, .int ik, .int mr, .int pn])), (mh, .inr (2, [.ref m0, .ref m1, .ref m2, .ref m3, .ref m4, .ref m5, .ref m6, .int (nI (k / 4)), .int (lt (k - 1) - 48), .int 1, .int 0])), (m0, .inl (cI, 4, .inl (fillN (opK lt) kd (k / 4)))), (m1, .inl (cI, 4, .inl (fillN (opS lt) st (k / 4)))), (m2, .inl (cI, 4, .inl (fillN (opC lt) co (k / 4)))), (m3, .inl (cI, 4, .inl (fillN ze gt (k / 4)))), (m4, .inl (cI, 4, .inl (fillN ze pd (k / 4)))), (m5, .inl (cI, 4, .inl (fillN ze de (k / 4)))), (m6, .inl (cI, 4, .inl (fillN ze us (k / 4)))), (ph, .inr (3, [.ref p0, .int 0])), (p0, .inl (cC, 18, .inl lt))]) (w2 := [(xh, .inr (5, [.ref ph, .ref mh, .ref lh, .ref kh, .ref jh, .ref qh, .ref dh, .int ik, .int mr, .int pn])), (mh, .inr (2, [.ref m0, .ref m1, .ref m2, .ref m3, .ref m4, .ref m5, .ref m6, .int (nI (k / 4)), .int (lt (k - 1) - 48), .int 1, .int 0])), (m0, .inl (cI, 4, .inl (fillN (opK lt) kd (k / 4)))), (m1, .inl (cI, 4, .inl (fillN (opS lt) st (k / 4)))), (m2, .inl (cI, 4, .inl (fillN (opC lt) co (k / 4)))), (m3, .inl (cI, 4, .inl (fillN ze gt (k / 4)))), (m4, .inl (cI, 4, .inl (fillN ze pd (k / 4)))), (m5, .inl (cI, 4, .inl (fillN ze de (k / 4)))), (m6, .inl (cI, 4, .inl (fillN ze us (k / 4)))), (lh, .inr (1, [.ref l0, .int 0, .int 0])), (l0, .inl (cI, 4, .inl (fun _ => 0))), (ph, .inr (3, [.ref p0, .int 0])), (p0, .inl (cC, 18, .inl lt))]) ⟨hx, hb, hml, hown, hts⟩ (c_X1_forget l D cB cC cI lh l0 tm hd lo _) (cwV 0 hts gX5_market_X1_forget rfl rfl rfl (by decide +kernel) ⟨Nat.le_of_ble_eq_true rfl, Nat.le_of_ble_eq_true rfl⟩) hK hP hD hS hA [9, 10] [0, 1, 2, 3, 4, 5, 6, 7, 8, 11, 12] [0, 1, 2, 3, 4, 5, 6, 7, 8, 11, 12, 9, 10] (by decide) rfl rfl (by decide) (by decide) (by decide) rfl rfl 9 rfl rfl hl.1 rfl (Nat.le_of_ble_eq_true rfl) dX5_market_35 ⟨Nat.zero_le _, Nat.zero_le _⟩ (fun H locs hP hD hS => ?_)
    refine lv_aload_n hx hb dX5_market_38 rfl (lv_at hl 0 rfl) ?_
    refine lv_iconst (v := 0) hx hb dX5_market_39 (by decide) ?_
    refine va_put (D := D) (ci := 5) (v := .int 0) (ty := .boolean) (C := RX5) (T := TX5) (N := 10) hx hb hts iwX5 tyX5 tyX5_ok nmX5 hown hK.1 hP hD hS 0 rfl rfl 7 (by decide) fk50 (fun _ h9 => h9) rfl (by decide +kernel) rfl rfl (Nat.le_of_ble_eq_true rfl) dX5_market_40 (fun H locs hP hD hS => ?_)
    have hP : va_P D vwCl [(xh, .inr (5, [.ref ph, .ref mh, .ref lh, .ref kh, .ref jh, .ref qh, .ref dh, .int 0, .int mr, .int pn])), (mh, .inr (2, [.ref m0, .ref m1, .ref m2, .ref m3, .ref m4, .ref m5, .ref m6, .int (nI (k / 4)), .int (lt (k - 1) - 48), .int 1, .int 0])), (m0, .inl (cI, 4, .inl (fillN (opK lt) kd (k / 4)))), (m1, .inl (cI, 4, .inl (fillN (opS lt) st (k / 4)))), (m2, .inl (cI, 4, .inl (fillN (opC lt) co (k / 4)))), (m3, .inl (cI, 4, .inl (fillN ze gt (k / 4)))), (m4, .inl (cI, 4, .inl (fillN ze pd (k / 4)))), (m5, .inl (cI, 4, .inl (fillN ze de (k / 4)))), (m6, .inl (cI, 4, .inl (fillN ze us (k / 4)))), (lh, .inr (1, [.ref l0, .int 0, .int 0])), (l0, .inl (cI, 4, .inl (fun _ => 0))), (ph, .inr (3, [.ref p0, .int 0])), (p0, .inl (cC, 18, .inl lt))] H := hP
    have hD : va_D A [(xh, .inr (5, [.ref ph, .ref mh, .ref lh, .ref kh, .ref jh, .ref qh, .ref dh, .int 0, .int mr, .int pn])), (mh, .inr (2, [.ref m0, .ref m1, .ref m2, .ref m3, .ref m4, .ref m5, .ref m6, .int (nI (k / 4)), .int (lt (k - 1) - 48), .int 1, .int 0])), (m0, .inl (cI, 4, .inl (fillN (opK lt) kd (k / 4)))), (m1, .inl (cI, 4, .inl (fillN (opS lt) st (k / 4)))), (m2, .inl (cI, 4, .inl (fillN (opC lt) co (k / 4)))), (m3, .inl (cI, 4, .inl (fillN ze gt (k / 4)))), (m4, .inl (cI, 4, .inl (fillN ze pd (k / 4)))), (m5, .inl (cI, 4, .inl (fillN ze de (k / 4)))), (m6, .inl (cI, 4, .inl (fillN ze us (k / 4)))), (lh, .inr (1, [.ref l0, .int 0, .int 0])), (l0, .inl (cI, 4, .inl (fun _ => 0))), (ph, .inr (3, [.ref p0, .int 0])), (p0, .inl (cC, 18, .inl lt))] := hD
    refine lv_aload_n hx hb dX5_market_43 rfl (lv_at hl 0 rfl) ?_
    refine lv_dup hx hb dX5_market_44 rfl ?_
    refine va_get (D := D) (ci := 5) (v := .int mr) (C := RX5) (T := TX5) (N := 10) hx hb hts iwX5 hown hK.1 hP 0 rfl rfl 8 (by decide) fk54 (fun _ h9 => h9) rfl dX5_market_45 ?_
    refine lv_iconst (v := 1) hx hb dX5_market_48 (by decide) ?_
    refine lv_iadd hx hb dX5_market_49 ?_
    refine va_put (D := D) (ci := 5) (v := .int (mr + 1)) (ty := .int) (C := RX5) (T := TX5) (N := 10) hx hb hts iwX5 tyX5 tyX5_ok nmX5 hown hK.1 hP hD hS 0 rfl rfl 8 (by decide) fk54 (fun _ h9 => h9) rfl (by decide +kernel) rfl rfl (Nat.le_of_ble_eq_true rfl) dX5_market_50 (fun H locs hP hD hS => ?_)
    have hP : va_P D vwCl [(xh, .inr (5, [.ref ph, .ref mh, .ref lh, .ref kh, .ref jh, .ref qh, .ref dh, .int 0, .int (mr + 1), .int pn])), (mh, .inr (2, [.ref m0, .ref m1, .ref m2, .ref m3, .ref m4, .ref m5, .ref m6, .int (nI (k / 4)), .int (lt (k - 1) - 48), .int 1, .int 0])), (m0, .inl (cI, 4, .inl (fillN (opK lt) kd (k / 4)))), (m1, .inl (cI, 4, .inl (fillN (opS lt) st (k / 4)))), (m2, .inl (cI, 4, .inl (fillN (opC lt) co (k / 4)))), (m3, .inl (cI, 4, .inl (fillN ze gt (k / 4)))), (m4, .inl (cI, 4, .inl (fillN ze pd (k / 4)))), (m5, .inl (cI, 4, .inl (fillN ze de (k / 4)))), (m6, .inl (cI, 4, .inl (fillN ze us (k / 4)))), (lh, .inr (1, [.ref l0, .int 0, .int 0])), (l0, .inl (cI, 4, .inl (fun _ => 0))), (ph, .inr (3, [.ref p0, .int 0])), (p0, .inl (cC, 18, .inl lt))] H := hP
    have hD : va_D A [(xh, .inr (5, [.ref ph, .ref mh, .ref lh, .ref kh, .ref jh, .ref qh, .ref dh, .int 0, .int (mr + 1), .int pn])), (mh, .inr (2, [.ref m0, .ref m1, .ref m2, .ref m3, .ref m4, .ref m5, .ref m6, .int (nI (k / 4)), .int (lt (k - 1) - 48), .int 1, .int 0])), (m0, .inl (cI, 4, .inl (fillN (opK lt) kd (k / 4)))), (m1, .inl (cI, 4, .inl (fillN (opS lt) st (k / 4)))), (m2, .inl (cI, 4, .inl (fillN (opC lt) co (k / 4)))), (m3, .inl (cI, 4, .inl (fillN ze gt (k / 4)))), (m4, .inl (cI, 4, .inl (fillN ze pd (k / 4)))), (m5, .inl (cI, 4, .inl (fillN ze de (k / 4)))), (m6, .inl (cI, 4, .inl (fillN ze us (k / 4)))), (lh, .inr (1, [.ref l0, .int 0, .int 0])), (l0, .inl (cI, 4, .inl (fun _ => 0))), (ph, .inr (3, [.ref p0, .int 0])), (p0, .inl (cC, 18, .inl lt))] := hD
    refine lv_aload_n hx hb dX5_market_53 rfl (lv_at hl 0 rfl) ?_
    refine va_get (D := D) (ci := 5) (v := .ref mh) (C := RX5) (T := TX5) (N := 10) hx hb hts iwX5 hown hK.1 hP 0 rfl rfl 1 (by decide) fk19 (fun _ h9 => h9) rfl dX5_market_54 ?_
    refine va_get (D := D) (ci := 2) (v := .int (nI (k / 4))) (C := RX2) (T := TX2) (N := 11) hx hb hts iwX2 hown hK.1 hP 1 rfl rfl 7 (by decide) fk86 (fun _ h9 => h9) rfl dX5_market_57 ?_
    have eG : f_X5_market ik mr kd st co gt pd de us n tl ho sl tm hd lo lt k = (nI (k / 4), 0, mr + 1, nI (k / 4), lt (k - 1) - 48, 1, 0, fillN (opK lt) kd (k / 4), fillN (opS lt) st (k / 4), fillN (opC lt) co (k / 4), fillN ze gt (k / 4), fillN ze pd (k / 4), fillN ze de (k / 4), fillN ze us (k / 4), 0, 0, (fun _ => 0), 0) := if_neg c_1
    exact retWi (u := ()) hx hb hr hlocks (by rw [eG]) (by rw [eG]; exact hP) (by rw [eG]; exact hD) hS dX5_market_60
  · refine lv_bipush (v := (-103)) hx hb dX5_market_10 (by decide) ?_
    have eG : f_X5_market ik mr kd st co gt pd de us n tl ho sl tm hd lo lt k = ((-103), ik, mr, nI n, tl, ho, sl, kd, st, co, gt, pd, de, us, hd, lo, tm, nI k) := if_pos c_1
    exact retWi (u := ()) hx hb hr hlocks (by rw [eG]) (by rw [eG]; exact hP) (by rw [eG]; exact hD) hS dX5_market_12
def f_X5_plan (pn : Int32) (ps : Nat → Int32) (tr : Nat → Int32) (be : Nat → Int32) (bs1 : Int32) (bp1 : Int32) (bu1 : Int32) (wa1 : Int32) (kd : Nat → Int32) (st : Nat → Int32) (co : Nat → Int32) (n : Nat) (tl : Int32) (ho : Int32) (b : Int32) (a : Int32) (w : Int32) : Int32 × Int32 × Int32 × Int32 × Int32 × Int32 × (Nat → Int32) × (Nat → Int32) × (Nat → Int32) := if (f_X2_has n b) = 0 then ((-101), pn, bs1, bp1, bu1, wa1, ps, tr, be) else if a < 1 then ((-102), pn, bs1, bp1, bu1, wa1, ps, tr, be) else if 60 < a then ((-102), pn, bs1, bp1, bu1, wa1, ps, tr, be) else if (f_X5_isPlanQuestion w) = 0 then ((-102), pn, bs1, bp1, bu1, wa1, ps, tr, be) else if pn < 40 then ((f_X4_tell ((tsF kd co tl ho a b b.toNatClampNeg n 3 0 st 0 0 (0, 1000, tr, be)).2.2.2) ((tsF kd co tl ho a b b.toNatClampNeg n 3 0 st 0 0 (0, 1000, tr, be)).1) ((tsF kd co tl ho a b b.toNatClampNeg n 3 0 st 0 0 (0, 1000, tr, be)).2.1) w), pn + 1, (tsF kd co tl ho a b b.toNatClampNeg n 3 0 st 0 0 (0, 1000, tr, be)).1, (tsF kd co tl ho a b b.toNatClampNeg n 3 0 st 0 0 (0, 1000, tr, be)).2.1, b, a, st, (tsF kd co tl ho a b b.toNatClampNeg n 3 0 st 0 0 (0, 1000, tr, be)).2.2.1, (tsF kd co tl ho a b b.toNatClampNeg n 3 0 st 0 0 (0, 1000, tr, be)).2.2.2) else ((-103), pn, bs1, bp1, bu1, wa1, ps, tr, be)
set_option maxHeartbeats 4000000 in
set_option maxRecDepth 100000 in
theorem c_X5_plan (l : Launch) (D : va_G) (cB cC cI : ClassId) (xh : Nat) (ph : Nat) (mh : Nat) (lh : Nat) (kh : Nat) (jh : Nat) (qh : Nat) (dh : Nat) (ik : Int32) (mr : Int32) (pn : Int32) (q0 : Nat) (q1 : Nat) (q2 : Nat) (ps : Nat → Int32) (tr : Nat → Int32) (be : Nat → Int32) (bs1 : Int32) (bp1 : Int32) (bu1 : Int32) (wa1 : Int32) (m0 : Nat) (m1 : Nat) (m2 : Nat) (m3 : Nat) (m4 : Nat) (m5 : Nat) (m6 : Nat) (kd : Nat → Int32) (st : Nat → Int32) (co : Nat → Int32) (gt : Nat → Int32) (pd : Nat → Int32) (de : Nat → Int32) (us : Nat → Int32) (n : Nat) (tl : Int32) (ho : Int32) (sl : Int32) (b : Int32) (a : Int32) (w : Int32) (sz : Nat) (hn : n ≤ 4) : Met l yX5_plan wsX5_plan ({ frames := 9, cells := 0, slots := 0, locals := 240 }) (gPw D cB cC cI [.ref xh, .int b, .int a, .int w] [(xh, .inr (5, [.ref ph, .ref mh, .ref lh, .ref kh, .ref jh, .ref qh, .ref dh, .int ik, .int mr, .int pn])), (qh, .inr (4, [.ref q0, .ref q1, .ref q2, .int bs1, .int bp1, .int bu1, .int wa1])), (q0, .inl (cI, 4, .inl ps)), (q1, .inl (cI, 3, .inl tr)), (q2, .inl (cI, 3, .inl be)), (mh, .inr (2, [.ref m0, .ref m1, .ref m2, .ref m3, .ref m4, .ref m5, .ref m6, .int (nI n), .int tl, .int ho, .int sl])), (m0, .inl (cI, 4, .inl kd)), (m1, .inl (cI, 4, .inl st)), (m2, .inl (cI, 4, .inl co)), (m3, .inl (cI, 4, .inl gt)), (m4, .inl (cI, 4, .inl pd)), (m5, .inl (cI, 4, .inl de)), (m6, .inl (cI, 4, .inl us))] sz) (QWi D ((f_X5_plan pn ps tr be bs1 bp1 bu1 wa1 kd st co n tl ho b a w).1) [(xh, .inr (5, [.ref ph, .ref mh, .ref lh, .ref kh, .ref jh, .ref qh, .ref dh, .int ik, .int mr, .int ((f_X5_plan pn ps tr be bs1 bp1 bu1 wa1 kd st co n tl ho b a w).2.1)])), (qh, .inr (4, [.ref q0, .ref q1, .ref q2, .int ((f_X5_plan pn ps tr be bs1 bp1 bu1 wa1 kd st co n tl ho b a w).2.2.1), .int ((f_X5_plan pn ps tr be bs1 bp1 bu1 wa1 kd st co n tl ho b a w).2.2.2.1), .int ((f_X5_plan pn ps tr be bs1 bp1 bu1 wa1 kd st co n tl ho b a w).2.2.2.2.1), .int ((f_X5_plan pn ps tr be bs1 bp1 bu1 wa1 kd st co n tl ho b a w).2.2.2.2.2.1)])), (q0, .inl (cI, 4, .inl ((f_X5_plan pn ps tr be bs1 bp1 bu1 wa1 kd st co n tl ho b a w).2.2.2.2.2.2.1))), (q1, .inl (cI, 3, .inl ((f_X5_plan pn ps tr be bs1 bp1 bu1 wa1 kd st co n tl ho b a w).2.2.2.2.2.2.2.1))), (q2, .inl (cI, 3, .inl ((f_X5_plan pn ps tr be bs1 bp1 bu1 wa1 kd st co n tl ho b a w).2.2.2.2.2.2.2.2))), (mh, .inr (2, [.ref m0, .ref m1, .ref m2, .ref m3, .ref m4, .ref m5, .ref m6, .int (nI n), .int tl, .int ho, .int sl])), (m0, .inl (cI, 4, .inl kd)), (m1, .inl (cI, 4, .inl st)), (m2, .inl (cI, 4, .inl co)), (m3, .inl (cI, 4, .inl gt)), (m4, .inl (cI, 4, .inl pd)), (m5, .inl (cI, 4, .inl de)), (m6, .inl (cI, 4, .inl us))] (va_A [(xh, .inr (5, [.ref ph, .ref mh, .ref lh, .ref kh, .ref jh, .ref qh, .ref dh, .int ik, .int mr, .int pn])), (qh, .inr (4, [.ref q0, .ref q1, .ref q2, .int bs1, .int bp1, .int bu1, .int wa1])), (q0, .inl (cI, 4, .inl ps)), (q1, .inl (cI, 3, .inl tr)), (q2, .inl (cI, 3, .inl be)), (mh, .inr (2, [.ref m0, .ref m1, .ref m2, .ref m3, .ref m4, .ref m5, .ref m6, .int (nI n), .int tl, .int ho, .int sl])), (m0, .inl (cI, 4, .inl kd)), (m1, .inl (cI, 4, .inl st)), (m2, .inl (cI, 4, .inl co)), (m3, .inl (cI, 4, .inl gt)), (m4, .inl (cI, 4, .inl pd)), (m5, .inl (cI, 4, .inl de)), (m6, .inl (cI, 4, .inl us))] sz)) 0 0 (va_A [(xh, .inr (5, [.ref ph, .ref mh, .ref lh, .ref kh, .ref jh, .ref qh, .ref dh, .int ik, .int mr, .int pn])), (qh, .inr (4, [.ref q0, .ref q1, .ref q2, .int bs1, .int bp1, .int bu1, .int wa1])), (q0, .inl (cI, 4, .inl ps)), (q1, .inl (cI, 3, .inl tr)), (q2, .inl (cI, 3, .inl be)), (mh, .inr (2, [.ref m0, .ref m1, .ref m2, .ref m3, .ref m4, .ref m5, .ref m6, .int (nI n), .int tl, .int ho, .int sl])), (m0, .inl (cI, 4, .inl kd)), (m1, .inl (cI, 4, .inl st)), (m2, .inl (cI, 4, .inl co)), (m3, .inl (cI, 4, .inl gt)), (m4, .inl (cI, 4, .inl pd)), (m5, .inl (cI, 4, .inl de)), (m6, .inl (cI, 4, .inl us))] sz) := by
  refine metW (cc := cX5_plan) (maxL := 4) (ret := (some .int)) (QA := fun A => (QWi D ((f_X5_plan pn ps tr be bs1 bp1 bu1 wa1 kd st co n tl ho b a w).1) [(xh, .inr (5, [.ref ph, .ref mh, .ref lh, .ref kh, .ref jh, .ref qh, .ref dh, .int ik, .int mr, .int ((f_X5_plan pn ps tr be bs1 bp1 bu1 wa1 kd st co n tl ho b a w).2.1)])), (qh, .inr (4, [.ref q0, .ref q1, .ref q2, .int ((f_X5_plan pn ps tr be bs1 bp1 bu1 wa1 kd st co n tl ho b a w).2.2.1), .int ((f_X5_plan pn ps tr be bs1 bp1 bu1 wa1 kd st co n tl ho b a w).2.2.2.1), .int ((f_X5_plan pn ps tr be bs1 bp1 bu1 wa1 kd st co n tl ho b a w).2.2.2.2.1), .int ((f_X5_plan pn ps tr be bs1 bp1 bu1 wa1 kd st co n tl ho b a w).2.2.2.2.2.1)])), (q0, .inl (cI, 4, .inl ((f_X5_plan pn ps tr be bs1 bp1 bu1 wa1 kd st co n tl ho b a w).2.2.2.2.2.2.1))), (q1, .inl (cI, 3, .inl ((f_X5_plan pn ps tr be bs1 bp1 bu1 wa1 kd st co n tl ho b a w).2.2.2.2.2.2.2.1))), (q2, .inl (cI, 3, .inl ((f_X5_plan pn ps tr be bs1 bp1 bu1 wa1 kd st co n tl ho b a w).2.2.2.2.2.2.2.2))), (mh, .inr (2, [.ref m0, .ref m1, .ref m2, .ref m3, .ref m4, .ref m5, .ref m6, .int (nI n), .int tl, .int ho, .int sl])), (m0, .inl (cI, 4, .inl kd)), (m1, .inl (cI, 4, .inl st)), (m2, .inl (cI, 4, .inl co)), (m3, .inl (cI, 4, .inl gt)), (m4, .inl (cI, 4, .inl pd)), (m5, .inl (cI, 4, .inl de)), (m6, .inl (cI, 4, .inl us))] A)) RX5 rfl (by decide) rfl (Nat.le_of_ble_eq_true rfl) ?_
  intro p e s m below meth c A hx hb hr hml hown hts hlocks hin hP hK hD hA hS ls hl
  have iwX5 : ∀ w ∈ wsX50, w ∈ wsX5_plan := by decide +kernel
  have fk19 := hts (.fieldLink RX5 19 "BuyersWeights" "market" "LBuyersWeights$Market;") (by decide +kernel)
  have fk58 := hts (.fieldLink RX5 58 "BuyersWeights" "plansDone" "I") (by decide +kernel)
  have fk39 := hts (.fieldLink RX5 39 "BuyersWeights" "planner" "LBuyersWeights$Planner;") (by decide +kernel)
  have hl : lv_has ls 4 [(0, .ref xh), (1, .int b), (2, .int a), (3, .int w)] := hl
  refine lv_aload_n hx hb dX5_plan_0 rfl (lv_at hl 0 rfl) ?_
  refine va_get (D := D) (ci := 5) (v := .ref mh) (C := RX5) (T := TX5) (N := 10) hx hb hts iwX5 hown hK.1 hP 0 rfl rfl 1 (by decide) fk19 (fun _ h9 => h9) rfl dX5_plan_1 ?_
  refine lv_iload_n hx hb dX5_plan_4 rfl (lv_at hl 1 rfl) ?_
  refine rcVi (As := [.int b]) (rest := []) ⟨hx, hb, hml, hown, hts⟩ (c_X2_has l D cB cC cI mh m0 m1 m2 m3 m4 m5 m6 kd st co gt pd de us n tl ho sl b) (cwV 1 hts gX5_plan_X2_has rfl rfl rfl (by decide +kernel) ⟨Nat.le_of_ble_eq_true rfl, Nat.le_of_ble_eq_true rfl⟩) hK hP [5, 6, 7, 8, 9, 10, 11, 12] rfl rfl 5 rfl rfl hl.1 rfl (Nat.le_of_ble_eq_true rfl) dX5_plan_5 ⟨Nat.zero_le _, Nat.zero_le _⟩ ?_
  refine lv_if_ne (tgt := 14) hx hb dX5_plan_8 (by decide) (fun c_1 => ?_) (fun c_1 => ?_)
  · have hi := (has_ix hn c_1).up hn
    refine lv_iload_n hx hb dX5_plan_14 rfl (lv_at hl 2 rfl) ?_
    refine lv_iconst (v := 1) hx hb dX5_plan_15 (by decide) ?_
    refine lv_icmp_lt (tgt := 32) hx hb dX5_plan_16 (by decide) (fun c_2 => ?_) (fun c_2 => ?_)
    · refine lv_bipush (v := (-102)) hx hb dX5_plan_32 (by decide) ?_
      have eG : f_X5_plan pn ps tr be bs1 bp1 bu1 wa1 kd st co n tl ho b a w = ((-102), pn, bs1, bp1, bu1, wa1, ps, tr, be) := (if_neg c_1).trans (if_pos c_2)
      exact retWi (u := ()) hx hb hr hlocks (by rw [eG]) (by rw [eG]; exact hP) (by rw [eG]; exact hD) hS dX5_plan_34
    · refine lv_iload_n hx hb dX5_plan_19 rfl (lv_at hl 2 rfl) ?_
      refine lv_bipush (v := 60) hx hb dX5_plan_20 (by decide) ?_
      refine lv_icmp_gt (tgt := 32) hx hb dX5_plan_22 (by decide) (fun c_3 => ?_) (fun c_3 => ?_)
      · refine lv_bipush (v := (-102)) hx hb dX5_plan_32 (by decide) ?_
        have eG : f_X5_plan pn ps tr be bs1 bp1 bu1 wa1 kd st co n tl ho b a w = ((-102), pn, bs1, bp1, bu1, wa1, ps, tr, be) := (if_neg c_1).trans ((if_neg c_2).trans (if_pos c_3))
        exact retWi (u := ()) hx hb hr hlocks (by rw [eG]) (by rw [eG]; exact hP) (by rw [eG]; exact hD) hS dX5_plan_34
      · refine lv_iload_n hx hb dX5_plan_25 rfl (lv_at hl 3 rfl) ?_
        refine rcSi (As := [.int w]) (rest := []) ⟨hx, hb, hml, hown, hts⟩ (c_X5_isPlanQuestion l D cB cC cI w) (va_cwS 1 hts gX5_plan_X5_isPlanQuestion rfl rfl rfl (by decide +kernel) ⟨Nat.le_of_ble_eq_true rfl, Nat.le_of_ble_eq_true rfl⟩) hK hP [] rfl rfl hl.1 rfl (Nat.le_of_ble_eq_true rfl) dX5_plan_26 ⟨Nat.zero_le _, Nat.zero_le _⟩ ?_
        refine lv_if_ne (tgt := 35) hx hb dX5_plan_29 (by decide) (fun c_4 => ?_) (fun c_4 => ?_)
        · refine lv_aload_n hx hb dX5_plan_35 rfl (lv_at hl 0 rfl) ?_
          refine va_get (D := D) (ci := 5) (v := .int pn) (C := RX5) (T := TX5) (N := 10) hx hb hts iwX5 hown hK.1 hP 0 rfl rfl 9 (by decide) fk58 (fun _ h9 => h9) rfl dX5_plan_36 ?_
          refine lv_bipush (v := 40) hx hb dX5_plan_39 (by decide) ?_
          refine lv_icmp_lt (tgt := 47) hx hb dX5_plan_41 (by decide) (fun c_5 => ?_) (fun c_5 => ?_)
          · refine lv_aload_n hx hb dX5_plan_47 rfl (lv_at hl 0 rfl) ?_
            refine lv_dup hx hb dX5_plan_48 rfl ?_
            refine va_get (D := D) (ci := 5) (v := .int pn) (C := RX5) (T := TX5) (N := 10) hx hb hts iwX5 hown hK.1 hP 0 rfl rfl 9 (by decide) fk58 (fun _ h9 => h9) rfl dX5_plan_49 ?_
            refine lv_iconst (v := 1) hx hb dX5_plan_52 (by decide) ?_
            refine lv_iadd hx hb dX5_plan_53 ?_
            refine va_put (D := D) (ci := 5) (v := .int (pn + 1)) (ty := .int) (C := RX5) (T := TX5) (N := 10) hx hb hts iwX5 tyX5 tyX5_ok nmX5 hown hK.1 hP hD hS 0 rfl rfl 9 (by decide) fk58 (fun _ h9 => h9) rfl (by decide +kernel) rfl rfl (Nat.le_of_ble_eq_true rfl) dX5_plan_54 (fun H locs hP hD hS => ?_)
            have hP : va_P D vwCl [(xh, .inr (5, [.ref ph, .ref mh, .ref lh, .ref kh, .ref jh, .ref qh, .ref dh, .int ik, .int mr, .int (pn + 1)])), (qh, .inr (4, [.ref q0, .ref q1, .ref q2, .int bs1, .int bp1, .int bu1, .int wa1])), (q0, .inl (cI, 4, .inl ps)), (q1, .inl (cI, 3, .inl tr)), (q2, .inl (cI, 3, .inl be)), (mh, .inr (2, [.ref m0, .ref m1, .ref m2, .ref m3, .ref m4, .ref m5, .ref m6, .int (nI n), .int tl, .int ho, .int sl])), (m0, .inl (cI, 4, .inl kd)), (m1, .inl (cI, 4, .inl st)), (m2, .inl (cI, 4, .inl co)), (m3, .inl (cI, 4, .inl gt)), (m4, .inl (cI, 4, .inl pd)), (m5, .inl (cI, 4, .inl de)), (m6, .inl (cI, 4, .inl us))] H := hP
            have hD : va_D A [(xh, .inr (5, [.ref ph, .ref mh, .ref lh, .ref kh, .ref jh, .ref qh, .ref dh, .int ik, .int mr, .int (pn + 1)])), (qh, .inr (4, [.ref q0, .ref q1, .ref q2, .int bs1, .int bp1, .int bu1, .int wa1])), (q0, .inl (cI, 4, .inl ps)), (q1, .inl (cI, 3, .inl tr)), (q2, .inl (cI, 3, .inl be)), (mh, .inr (2, [.ref m0, .ref m1, .ref m2, .ref m3, .ref m4, .ref m5, .ref m6, .int (nI n), .int tl, .int ho, .int sl])), (m0, .inl (cI, 4, .inl kd)), (m1, .inl (cI, 4, .inl st)), (m2, .inl (cI, 4, .inl co)), (m3, .inl (cI, 4, .inl gt)), (m4, .inl (cI, 4, .inl pd)), (m5, .inl (cI, 4, .inl de)), (m6, .inl (cI, 4, .inl us))] := hD
            refine lv_aload_n hx hb dX5_plan_57 rfl (lv_at hl 0 rfl) ?_
            refine va_get (D := D) (ci := 5) (v := .ref qh) (C := RX5) (T := TX5) (N := 10) hx hb hts iwX5 hown hK.1 hP 0 rfl rfl 5 (by decide) fk39 (fun _ h9 => h9) rfl dX5_plan_58 ?_
            refine lv_aload_n hx hb dX5_plan_61 rfl (lv_at hl 0 rfl) ?_
            refine va_get (D := D) (ci := 5) (v := .ref mh) (C := RX5) (T := TX5) (N := 10) hx hb hts iwX5 hown hK.1 hP 0 rfl rfl 1 (by decide) fk19 (fun _ h9 => h9) rfl dX5_plan_62 ?_
            refine lv_iload_n hx hb dX5_plan_65 rfl (lv_at hl 1 rfl) ?_
            refine lv_iload_n hx hb dX5_plan_66 rfl (lv_at hl 2 rfl) ?_
            refine wcVv1 (As := [.ref mh, .int b, .int a]) (rest := []) (wr := [(xh, .inr (5, [.ref ph, .ref mh, .ref lh, .ref kh, .ref jh, .ref qh, .ref dh, .int ik, .int mr, .int (pn + 1)]))]) (w2 := [(xh, .inr (5, [.ref ph, .ref mh, .ref lh, .ref kh, .ref jh, .ref qh, .ref dh, .int ik, .int mr, .int (pn + 1)])), (qh, .inr (4, [.ref q0, .ref q1, .ref q2, .int ((tsF kd co tl ho a b b.toNatClampNeg n 3 0 st 0 0 (0, 1000, tr, be)).1), .int ((tsF kd co tl ho a b b.toNatClampNeg n 3 0 st 0 0 (0, 1000, tr, be)).2.1), .int b, .int a])), (q0, .inl (cI, 4, .inl st)), (q1, .inl (cI, 3, .inl ((tsF kd co tl ho a b b.toNatClampNeg n 3 0 st 0 0 (0, 1000, tr, be)).2.2.1))), (q2, .inl (cI, 3, .inl ((tsF kd co tl ho a b b.toNatClampNeg n 3 0 st 0 0 (0, 1000, tr, be)).2.2.2))), (mh, .inr (2, [.ref m0, .ref m1, .ref m2, .ref m3, .ref m4, .ref m5, .ref m6, .int (nI n), .int tl, .int ho, .int sl])), (m0, .inl (cI, 4, .inl kd)), (m1, .inl (cI, 4, .inl st)), (m2, .inl (cI, 4, .inl co)), (m3, .inl (cI, 4, .inl gt)), (m4, .inl (cI, 4, .inl pd)), (m5, .inl (cI, 4, .inl de)), (m6, .inl (cI, 4, .inl us))]) ⟨hx, hb, hml, hown, hts⟩ (c_X4_seek l D cB cC cI qh q0 q1 q2 ps tr be bs1 bp1 bu1 wa1 mh m0 m1 m2 m3 m4 m5 m6 kd st co gt pd de us n tl ho sl b b.toNatClampNeg a _ (by first | assumption | omega | decide) hi) (cwV 3 hts gX5_plan_X4_seek rfl rfl rfl (by decide +kernel) ⟨Nat.le_of_ble_eq_true rfl, Nat.le_of_ble_eq_true rfl⟩) hK hP hD hS hA [1, 2, 3, 4, 5, 6, 7, 8, 9, 10, 11, 12] [0] [0, 1, 2, 3, 4, 5, 6, 7, 8, 9, 10, 11, 12] (by decide) rfl rfl (by decide) (by decide) (by decide) rfl rfl 1 rfl rfl hl.1 rfl (Nat.le_of_ble_eq_true rfl) dX5_plan_67 ⟨Nat.zero_le _, Nat.zero_le _⟩ (fun H locs hP hD hS => ?_)
            refine lv_aload_n hx hb dX5_plan_70 rfl (lv_at hl 0 rfl) ?_
            refine va_get (D := D) (ci := 5) (v := .ref qh) (C := RX5) (T := TX5) (N := 10) hx hb hts iwX5 hown hK.1 hP 0 rfl rfl 5 (by decide) fk39 (fun _ h9 => h9) rfl dX5_plan_71 ?_
            refine lv_iload_n hx hb dX5_plan_74 rfl (lv_at hl 3 rfl) ?_
            refine rcVi (As := [.int w]) (rest := []) ⟨hx, hb, hml, hown, hts⟩ (c_X4_tell l D cB cC cI qh q0 q1 q2 st ((tsF kd co tl ho a b b.toNatClampNeg n 3 0 st 0 0 (0, 1000, tr, be)).2.2.1) ((tsF kd co tl ho a b b.toNatClampNeg n 3 0 st 0 0 (0, 1000, tr, be)).2.2.2) ((tsF kd co tl ho a b b.toNatClampNeg n 3 0 st 0 0 (0, 1000, tr, be)).1) ((tsF kd co tl ho a b b.toNatClampNeg n 3 0 st 0 0 (0, 1000, tr, be)).2.1) b a w (tsF_bs kd co tl ho a b b.toNatClampNeg n 3 0 st 0 0 (0, 1000, tr, be) (by decide) (show (0 : Int32).toInt ≤ 3 by decide))) (cwV 1 hts gX5_plan_X4_tell rfl rfl rfl (by decide +kernel) ⟨Nat.le_of_ble_eq_true rfl, Nat.le_of_ble_eq_true rfl⟩) hK hP [1, 2, 3, 4] rfl rfl 1 rfl rfl hl.1 rfl (Nat.le_of_ble_eq_true rfl) dX5_plan_75 ⟨Nat.zero_le _, Nat.zero_le _⟩ ?_
            have eG : f_X5_plan pn ps tr be bs1 bp1 bu1 wa1 kd st co n tl ho b a w = ((f_X4_tell ((tsF kd co tl ho a b b.toNatClampNeg n 3 0 st 0 0 (0, 1000, tr, be)).2.2.2) ((tsF kd co tl ho a b b.toNatClampNeg n 3 0 st 0 0 (0, 1000, tr, be)).1) ((tsF kd co tl ho a b b.toNatClampNeg n 3 0 st 0 0 (0, 1000, tr, be)).2.1) w), pn + 1, (tsF kd co tl ho a b b.toNatClampNeg n 3 0 st 0 0 (0, 1000, tr, be)).1, (tsF kd co tl ho a b b.toNatClampNeg n 3 0 st 0 0 (0, 1000, tr, be)).2.1, b, a, st, (tsF kd co tl ho a b b.toNatClampNeg n 3 0 st 0 0 (0, 1000, tr, be)).2.2.1, (tsF kd co tl ho a b b.toNatClampNeg n 3 0 st 0 0 (0, 1000, tr, be)).2.2.2) := (if_neg c_1).trans ((if_neg c_2).trans ((if_neg c_3).trans ((if_neg c_4).trans (if_pos c_5))))
            exact retWi (u := ()) hx hb hr hlocks (by rw [eG]) (by rw [eG]; exact hP) (by rw [eG]; exact hD) hS dX5_plan_78
          · refine lv_bipush (v := (-103)) hx hb dX5_plan_44 (by decide) ?_
            have eG : f_X5_plan pn ps tr be bs1 bp1 bu1 wa1 kd st co n tl ho b a w = ((-103), pn, bs1, bp1, bu1, wa1, ps, tr, be) := (if_neg c_1).trans ((if_neg c_2).trans ((if_neg c_3).trans ((if_neg c_4).trans (if_neg c_5))))
            exact retWi (u := ()) hx hb hr hlocks (by rw [eG]) (by rw [eG]; exact hP) (by rw [eG]; exact hD) hS dX5_plan_46
        · refine lv_bipush (v := (-102)) hx hb dX5_plan_32 (by decide) ?_
          have eG : f_X5_plan pn ps tr be bs1 bp1 bu1 wa1 kd st co n tl ho b a w = ((-102), pn, bs1, bp1, bu1, wa1, ps, tr, be) := (if_neg c_1).trans ((if_neg c_2).trans ((if_neg c_3).trans (if_pos c_4)))
          exact retWi (u := ()) hx hb hr hlocks (by rw [eG]) (by rw [eG]; exact hP) (by rw [eG]; exact hD) hS dX5_plan_34
  · refine lv_bipush (v := (-101)) hx hb dX5_plan_11 (by decide) ?_
    have eG : f_X5_plan pn ps tr be bs1 bp1 bu1 wa1 kd st co n tl ho b a w = ((-101), pn, bs1, bp1, bu1, wa1, ps, tr, be) := if_pos c_1
    exact retWi (u := ()) hx hb hr hlocks (by rw [eG]) (by rw [eG]; exact hP) (by rw [eG]; exact hD) hS dX5_plan_13
set_option maxRecDepth 100000 in
theorem c_X0_runA (l : Launch) (D : va_G) (cB cC cI : ClassId) (dh : Nat) (d0 : Nat) (ds : Nat → Int32) (sd : Int32) (og : Int32) (mh : Nat) (m0 : Nat) (m1 : Nat) (m2 : Nat) (m3 : Nat) (m4 : Nat) (m5 : Nat) (m6 : Nat) (kd : Nat → Int32) (st : Nat → Int32) (co : Nat → Int32) (gt : Nat → Int32) (pd : Nat → Int32) (de : Nat → Int32) (us : Nat → Int32) (n : Nat) (tl : Int32) (ho : Int32) (sl : Int32) (q : Nat) (y : Nat) (aq ay : Int32) (sz : Nat) (e1 : aq = nI q) (e2 : ay = nI y) (hy : y < 2147483648) (hq : q ≤ 60) (h0 : 0 < n) (hn : n ≤ 4) : Met l yX0_run wsX0_run ({ frames := 3, cells := 0, slots := 0, locals := 63 }) (gPw D cB cC cI [.ref dh, .ref mh, .int aq, .int ay] [(dh, .inr (0, [.ref d0, .int sd, .int og])), (d0, .inl (cI, 4, .inl ds)), (mh, .inr (2, [.ref m0, .ref m1, .ref m2, .ref m3, .ref m4, .ref m5, .ref m6, .int (nI n), .int tl, .int ho, .int sl])), (m0, .inl (cI, 4, .inl kd)), (m1, .inl (cI, 4, .inl st)), (m2, .inl (cI, 4, .inl co)), (m3, .inl (cI, 4, .inl gt)), (m4, .inl (cI, 4, .inl pd)), (m5, .inl (cI, 4, .inl de)), (m6, .inl (cI, 4, .inl us))] sz) (QWv D [(dh, .inr (0, [.ref d0, .int (nI (zN y q)), .int ((dsL st kd n tl ho y q).1)])), (d0, .inl (cI, 4, .inl ((dsL st kd n tl ho y q).2))), (mh, .inr (2, [.ref m0, .ref m1, .ref m2, .ref m3, .ref m4, .ref m5, .ref m6, .int (nI n), .int tl, .int ho, .int sl])), (m0, .inl (cI, 4, .inl kd)), (m1, .inl (cI, 4, .inl st)), (m2, .inl (cI, 4, .inl co)), (m3, .inl (cI, 4, .inl gt)), (m4, .inl (cI, 4, .inl pd)), (m5, .inl (cI, 4, .inl de)), (m6, .inl (cI, 4, .inl us))] (va_A [(dh, .inr (0, [.ref d0, .int sd, .int og])), (d0, .inl (cI, 4, .inl ds)), (mh, .inr (2, [.ref m0, .ref m1, .ref m2, .ref m3, .ref m4, .ref m5, .ref m6, .int (nI n), .int tl, .int ho, .int sl])), (m0, .inl (cI, 4, .inl kd)), (m1, .inl (cI, 4, .inl st)), (m2, .inl (cI, 4, .inl co)), (m3, .inl (cI, 4, .inl gt)), (m4, .inl (cI, 4, .inl pd)), (m5, .inl (cI, 4, .inl de)), (m6, .inl (cI, 4, .inl us))] sz)) 0 0 (va_A [(dh, .inr (0, [.ref d0, .int sd, .int og])), (d0, .inl (cI, 4, .inl ds)), (mh, .inr (2, [.ref m0, .ref m1, .ref m2, .ref m3, .ref m4, .ref m5, .ref m6, .int (nI n), .int tl, .int ho, .int sl])), (m0, .inl (cI, 4, .inl kd)), (m1, .inl (cI, 4, .inl st)), (m2, .inl (cI, 4, .inl co)), (m3, .inl (cI, 4, .inl gt)), (m4, .inl (cI, 4, .inl pd)), (m5, .inl (cI, 4, .inl de)), (m6, .inl (cI, 4, .inl us))] sz) := by
  subst e1
  subst e2
  exact c_X0_run l D cB cC cI dh d0 ds sd og mh m0 m1 m2 m3 m4 m5 m6 kd st co gt pd de us n tl ho sl q y sz hy hq h0 hn
theorem rng_nI {x : Int32} {N : Nat} (h0 : ¬ x < 0) (h1 : x.toInt ≤ N) : x = nI x.toNatClampNeg ∧ x.toNatClampNeg ≤ N := by
  obtain ⟨j, hj, rfl⟩ := nI_of h0
  rw [nI_toInt hj] at h1
  rw [nI_clamp hj]
  exact ⟨rfl, by omega⟩
theorem open_n {n : Nat} (h : ¬ f_X2_isOpen n = 0) : 0 < n := by
  rcases Nat.eq_zero_or_pos n with rfl | h0
  · exact absurd (by decide) h
  · exact h0
theorem i1_pos {x : Int32} (h : ¬ x < 1) : ¬ x < 0 := fun z => h (Int32.lt_iff_toInt_lt.mpr (by have := Int32.lt_iff_toInt_lt.mp z; simp at this ⊢; omega))
def f_X5_markets (kd : Nat → Int32) (st : Nat → Int32) (n : Nat) (tl : Int32) (ho : Int32) (ds : Nat → Int32) (sd : Int32) (og : Int32) (a : Int32) (b : Int32) (w : Int32) : Int32 × Int32 × Int32 × (Nat → Int32) := if a < 1 then ((-102), sd, og, ds) else if 60 < a then ((-102), sd, og, ds) else if b < 0 then ((-102), sd, og, ds) else if w < 0 then ((-102), sd, og, ds) else if w ≤ 2 then (if (f_X2_isOpen n) = 0 then ((-103), sd, og, ds) else if w = 0 then ((dsL st kd n tl ho b.toNatClampNeg a.toNatClampNeg).1, nI (zN b.toNatClampNeg a.toNatClampNeg), (dsL st kd n tl ho b.toNatClampNeg a.toNatClampNeg).1, (dsL st kd n tl ho b.toNatClampNeg a.toNatClampNeg).2) else if w = 1 then (sumL ((dsL st kd n tl ho b.toNatClampNeg a.toNatClampNeg).2) n, nI (zN b.toNatClampNeg a.toNatClampNeg), (dsL st kd n tl ho b.toNatClampNeg a.toNatClampNeg).1, (dsL st kd n tl ho b.toNatClampNeg a.toNatClampNeg).2) else (nI (zN b.toNatClampNeg a.toNatClampNeg), nI (zN b.toNatClampNeg a.toNatClampNeg), (dsL st kd n tl ho b.toNatClampNeg a.toNatClampNeg).1, (dsL st kd n tl ho b.toNatClampNeg a.toNatClampNeg).2)) else ((-102), sd, og, ds)
set_option maxHeartbeats 4000000 in
set_option maxRecDepth 100000 in
theorem c_X5_markets (l : Launch) (D : va_G) (cB cC cI : ClassId) (xh : Nat) (ph : Nat) (mh : Nat) (lh : Nat) (kh : Nat) (jh : Nat) (qh : Nat) (dh : Nat) (ik : Int32) (mr : Int32) (pn : Int32) (m0 : Nat) (m1 : Nat) (m2 : Nat) (m3 : Nat) (m4 : Nat) (m5 : Nat) (m6 : Nat) (kd : Nat → Int32) (st : Nat → Int32) (co : Nat → Int32) (gt : Nat → Int32) (pd : Nat → Int32) (de : Nat → Int32) (us : Nat → Int32) (n : Nat) (tl : Int32) (ho : Int32) (sl : Int32) (d0 : Nat) (ds : Nat → Int32) (sd : Int32) (og : Int32) (a : Int32) (b : Int32) (w : Int32) (sz : Nat) (hn : n ≤ 4) : Met l yX5_markets wsX5_markets ({ frames := 4, cells := 0, slots := 0, locals := 87 }) (gPw D cB cC cI [.ref xh, .int a, .int b, .int w] [(xh, .inr (5, [.ref ph, .ref mh, .ref lh, .ref kh, .ref jh, .ref qh, .ref dh, .int ik, .int mr, .int pn])), (mh, .inr (2, [.ref m0, .ref m1, .ref m2, .ref m3, .ref m4, .ref m5, .ref m6, .int (nI n), .int tl, .int ho, .int sl])), (m0, .inl (cI, 4, .inl kd)), (m1, .inl (cI, 4, .inl st)), (m2, .inl (cI, 4, .inl co)), (m3, .inl (cI, 4, .inl gt)), (m4, .inl (cI, 4, .inl pd)), (m5, .inl (cI, 4, .inl de)), (m6, .inl (cI, 4, .inl us)), (dh, .inr (0, [.ref d0, .int sd, .int og])), (d0, .inl (cI, 4, .inl ds))] sz) (QWi D ((f_X5_markets kd st n tl ho ds sd og a b w).1) [(xh, .inr (5, [.ref ph, .ref mh, .ref lh, .ref kh, .ref jh, .ref qh, .ref dh, .int ik, .int mr, .int pn])), (mh, .inr (2, [.ref m0, .ref m1, .ref m2, .ref m3, .ref m4, .ref m5, .ref m6, .int (nI n), .int tl, .int ho, .int sl])), (m0, .inl (cI, 4, .inl kd)), (m1, .inl (cI, 4, .inl st)), (m2, .inl (cI, 4, .inl co)), (m3, .inl (cI, 4, .inl gt)), (m4, .inl (cI, 4, .inl pd)), (m5, .inl (cI, 4, .inl de)), (m6, .inl (cI, 4, .inl us)), (dh, .inr (0, [.ref d0, .int ((f_X5_markets kd st n tl ho ds sd og a b w).2.1), .int ((f_X5_markets kd st n tl ho ds sd og a b w).2.2.1)])), (d0, .inl (cI, 4, .inl ((f_X5_markets kd st n tl ho ds sd og a b w).2.2.2)))] (va_A [(xh, .inr (5, [.ref ph, .ref mh, .ref lh, .ref kh, .ref jh, .ref qh, .ref dh, .int ik, .int mr, .int pn])), (mh, .inr (2, [.ref m0, .ref m1, .ref m2, .ref m3, .ref m4, .ref m5, .ref m6, .int (nI n), .int tl, .int ho, .int sl])), (m0, .inl (cI, 4, .inl kd)), (m1, .inl (cI, 4, .inl st)), (m2, .inl (cI, 4, .inl co)), (m3, .inl (cI, 4, .inl gt)), (m4, .inl (cI, 4, .inl pd)), (m5, .inl (cI, 4, .inl de)), (m6, .inl (cI, 4, .inl us)), (dh, .inr (0, [.ref d0, .int sd, .int og])), (d0, .inl (cI, 4, .inl ds))] sz)) 0 0 (va_A [(xh, .inr (5, [.ref ph, .ref mh, .ref lh, .ref kh, .ref jh, .ref qh, .ref dh, .int ik, .int mr, .int pn])), (mh, .inr (2, [.ref m0, .ref m1, .ref m2, .ref m3, .ref m4, .ref m5, .ref m6, .int (nI n), .int tl, .int ho, .int sl])), (m0, .inl (cI, 4, .inl kd)), (m1, .inl (cI, 4, .inl st)), (m2, .inl (cI, 4, .inl co)), (m3, .inl (cI, 4, .inl gt)), (m4, .inl (cI, 4, .inl pd)), (m5, .inl (cI, 4, .inl de)), (m6, .inl (cI, 4, .inl us)), (dh, .inr (0, [.ref d0, .int sd, .int og])), (d0, .inl (cI, 4, .inl ds))] sz) := by
  refine metW (cc := cX5_markets) (maxL := 4) (ret := (some .int)) (QA := fun A => (QWi D ((f_X5_markets kd st n tl ho ds sd og a b w).1) [(xh, .inr (5, [.ref ph, .ref mh, .ref lh, .ref kh, .ref jh, .ref qh, .ref dh, .int ik, .int mr, .int pn])), (mh, .inr (2, [.ref m0, .ref m1, .ref m2, .ref m3, .ref m4, .ref m5, .ref m6, .int (nI n), .int tl, .int ho, .int sl])), (m0, .inl (cI, 4, .inl kd)), (m1, .inl (cI, 4, .inl st)), (m2, .inl (cI, 4, .inl co)), (m3, .inl (cI, 4, .inl gt)), (m4, .inl (cI, 4, .inl pd)), (m5, .inl (cI, 4, .inl de)), (m6, .inl (cI, 4, .inl us)), (dh, .inr (0, [.ref d0, .int ((f_X5_markets kd st n tl ho ds sd og a b w).2.1), .int ((f_X5_markets kd st n tl ho ds sd og a b w).2.2.1)])), (d0, .inl (cI, 4, .inl ((f_X5_markets kd st n tl ho ds sd og a b w).2.2.2)))] A)) RX5 rfl (by decide) rfl (Nat.le_of_ble_eq_true rfl) ?_
  intro p e s m below meth c A hx hb hr hml hown hts hlocks hin hP hK hD hA hS ls hl
  have iwX5 : ∀ w ∈ wsX50, w ∈ wsX5_markets := by decide +kernel
  have iwX0 : ∀ w ∈ wsX00, w ∈ wsX5_markets := by decide +kernel
  have fk19 := hts (.fieldLink RX5 19 "BuyersWeights" "market" "LBuyersWeights$Market;") (by decide +kernel)
  have fk46 := hts (.fieldLink RX5 46 "BuyersWeights" "drawnSales" "LBuyersWeights$DrawnSales;") (by decide +kernel)
  have fk178 := hts (.fieldLink RX5 178 "BuyersWeights$DrawnSales" "seed" "I") (by decide +kernel)
  have fk173 := hts (.fieldLink RX5 173 "BuyersWeights$DrawnSales" "stones" "[I") (by decide +kernel)
  have fk170 := hts (.fieldLink RX5 170 "BuyersWeights$DrawnSales" "ouncesGot" "I") (by decide +kernel)
  have hl : lv_has ls 4 [(0, .ref xh), (1, .int a), (2, .int b), (3, .int w)] := hl
  refine lv_iload_n hx hb dX5_markets_0 rfl (lv_at hl 1 rfl) ?_
  refine lv_iconst (v := 1) hx hb dX5_markets_1 (by decide) ?_
  refine lv_icmp_lt (tgt := 24) hx hb dX5_markets_2 (by decide) (fun c_1 => ?_) (fun c_1 => ?_)
  · refine lv_bipush (v := (-102)) hx hb dX5_markets_24 (by decide) ?_
    have eG : f_X5_markets kd st n tl ho ds sd og a b w = ((-102), sd, og, ds) := if_pos c_1
    exact retWi (u := ()) hx hb hr hlocks (by rw [eG]) (by rw [eG]; exact hP) (by rw [eG]; exact hD) hS dX5_markets_26
  · have g1 := i1_pos c_1
    refine lv_iload_n hx hb dX5_markets_5 rfl (lv_at hl 1 rfl) ?_
    refine lv_bipush (v := 60) hx hb dX5_markets_6 (by decide) ?_
    refine lv_icmp_gt (tgt := 24) hx hb dX5_markets_8 (by decide) (fun c_2 => ?_) (fun c_2 => ?_)
    · refine lv_bipush (v := (-102)) hx hb dX5_markets_24 (by decide) ?_
      have eG : f_X5_markets kd st n tl ho ds sd og a b w = ((-102), sd, og, ds) := (if_neg c_1).trans (if_pos c_2)
      exact retWi (u := ()) hx hb hr hlocks (by rw [eG]) (by rw [eG]; exact hP) (by rw [eG]; exact hD) hS dX5_markets_26
    · have g2 := rng_nI (N := 60) g1 (by have := Int32.le_iff_toInt_le.mp (Int32.not_lt.mp c_2); simpa using this)
      refine lv_iload_n hx hb dX5_markets_11 rfl (lv_at hl 2 rfl) ?_
      refine lv_if_lt (tgt := 24) hx hb dX5_markets_12 (by decide) (fun c_3 => ?_) (fun c_3 => ?_)
      · refine lv_bipush (v := (-102)) hx hb dX5_markets_24 (by decide) ?_
        have eG : f_X5_markets kd st n tl ho ds sd og a b w = ((-102), sd, og, ds) := (if_neg c_1).trans ((if_neg c_2).trans (if_pos c_3))
        exact retWi (u := ()) hx hb hr hlocks (by rw [eG]) (by rw [eG]; exact hP) (by rw [eG]; exact hD) hS dX5_markets_26
      · have g3 := rng_nI (N := 2147483647) c_3 (by have := Int32.toInt_lt b; omega)
        refine lv_iload_n hx hb dX5_markets_15 rfl (lv_at hl 3 rfl) ?_
        refine lv_if_lt (tgt := 24) hx hb dX5_markets_16 (by decide) (fun c_4 => ?_) (fun c_4 => ?_)
        · refine lv_bipush (v := (-102)) hx hb dX5_markets_24 (by decide) ?_
          have eG : f_X5_markets kd st n tl ho ds sd og a b w = ((-102), sd, og, ds) := (if_neg c_1).trans ((if_neg c_2).trans ((if_neg c_3).trans (if_pos c_4)))
          exact retWi (u := ()) hx hb hr hlocks (by rw [eG]) (by rw [eG]; exact hP) (by rw [eG]; exact hD) hS dX5_markets_26
        · refine lv_iload_n hx hb dX5_markets_19 rfl (lv_at hl 3 rfl) ?_
          refine lv_iconst (v := 2) hx hb dX5_markets_20 (by decide) ?_
          refine lv_icmp_le (tgt := 27) hx hb dX5_markets_21 (by decide) (fun c_5 => ?_) (fun c_5 => ?_)
          · refine lv_aload_n hx hb dX5_markets_27 rfl (lv_at hl 0 rfl) ?_
            refine va_get (D := D) (ci := 5) (v := .ref mh) (C := RX5) (T := TX5) (N := 10) hx hb hts iwX5 hown hK.1 hP 0 rfl rfl 1 (by decide) fk19 (fun _ h9 => h9) rfl dX5_markets_28 ?_
            refine rcVi (As := []) (rest := []) ⟨hx, hb, hml, hown, hts⟩ (c_X2_isOpen l D cB cC cI mh m0 m1 m2 m3 m4 m5 m6 kd st co gt pd de us n tl ho sl) (cwV 0 hts gX5_markets_X2_isOpen rfl rfl rfl (by decide +kernel) ⟨Nat.le_of_ble_eq_true rfl, Nat.le_of_ble_eq_true rfl⟩) hK hP [1, 2, 3, 4, 5, 6, 7, 8] rfl rfl 1 rfl rfl hl.1 rfl (Nat.le_of_ble_eq_true rfl) dX5_markets_31 ⟨Nat.zero_le _, Nat.zero_le _⟩ ?_
            refine lv_if_ne (tgt := 40) hx hb dX5_markets_34 (by decide) (fun c_6 => ?_) (fun c_6 => ?_)
            · have g4 := open_n c_6
              refine lv_aload_n hx hb dX5_markets_40 rfl (lv_at hl 0 rfl) ?_
              refine va_get (D := D) (ci := 5) (v := .ref dh) (C := RX5) (T := TX5) (N := 10) hx hb hts iwX5 hown hK.1 hP 0 rfl rfl 6 (by decide) fk46 (fun _ h9 => h9) rfl dX5_markets_41 ?_
              refine lv_aload_n hx hb dX5_markets_44 rfl (lv_at hl 0 rfl) ?_
              refine va_get (D := D) (ci := 5) (v := .ref mh) (C := RX5) (T := TX5) (N := 10) hx hb hts iwX5 hown hK.1 hP 0 rfl rfl 1 (by decide) fk19 (fun _ h9 => h9) rfl dX5_markets_45 ?_
              refine lv_iload_n hx hb dX5_markets_48 rfl (lv_at hl 1 rfl) ?_
              refine lv_iload_n hx hb dX5_markets_49 rfl (lv_at hl 2 rfl) ?_
              refine wcVv1 (As := [.ref mh, .int a, .int b]) (rest := []) (wr := [(xh, .inr (5, [.ref ph, .ref mh, .ref lh, .ref kh, .ref jh, .ref qh, .ref dh, .int ik, .int mr, .int pn]))]) (w2 := [(xh, .inr (5, [.ref ph, .ref mh, .ref lh, .ref kh, .ref jh, .ref qh, .ref dh, .int ik, .int mr, .int pn])), (mh, .inr (2, [.ref m0, .ref m1, .ref m2, .ref m3, .ref m4, .ref m5, .ref m6, .int (nI n), .int tl, .int ho, .int sl])), (m0, .inl (cI, 4, .inl kd)), (m1, .inl (cI, 4, .inl st)), (m2, .inl (cI, 4, .inl co)), (m3, .inl (cI, 4, .inl gt)), (m4, .inl (cI, 4, .inl pd)), (m5, .inl (cI, 4, .inl de)), (m6, .inl (cI, 4, .inl us)), (dh, .inr (0, [.ref d0, .int (nI (zN b.toNatClampNeg a.toNatClampNeg)), .int ((dsL st kd n tl ho b.toNatClampNeg a.toNatClampNeg).1)])), (d0, .inl (cI, 4, .inl ((dsL st kd n tl ho b.toNatClampNeg a.toNatClampNeg).2)))]) ⟨hx, hb, hml, hown, hts⟩ (c_X0_runA l D cB cC cI dh d0 ds sd og mh m0 m1 m2 m3 m4 m5 m6 kd st co gt pd de us n tl ho sl a.toNatClampNeg b.toNatClampNeg a b _ g2.1 g3.1 (Nat.lt_succ_of_le g3.2) g2.2 g4 (by first | assumption | omega | decide)) (cwV 3 hts gX5_markets_X0_run rfl rfl rfl (by decide +kernel) ⟨Nat.le_of_ble_eq_true rfl, Nat.le_of_ble_eq_true rfl⟩) hK hP hD hS hA [9, 10, 1, 2, 3, 4, 5, 6, 7, 8] [0] [0, 3, 4, 5, 6, 7, 8, 9, 10, 1, 2] (by decide) rfl rfl (by decide) (by decide) (by decide) rfl rfl 9 rfl rfl hl.1 rfl (Nat.le_of_ble_eq_true rfl) dX5_markets_50 ⟨Nat.zero_le _, Nat.zero_le _⟩ (fun H locs hP hD hS => ?_)
              refine lv_iload_n hx hb dX5_markets_53 rfl (lv_at hl 3 rfl) ?_
              refine lv_if_ne (tgt := 67) hx hb dX5_markets_54 (by decide) (fun c_7 => ?_) (fun c_7 => ?_)
              · refine lv_iload_n hx hb dX5_markets_67 rfl (lv_at hl 3 rfl) ?_
                refine lv_iconst (v := 1) hx hb dX5_markets_68 (by decide) ?_
                refine lv_icmp_ne (tgt := 89) hx hb dX5_markets_69 (by decide) (fun c_8 => ?_) (fun c_8 => ?_)
                · refine lv_aload_n hx hb dX5_markets_89 rfl (lv_at hl 0 rfl) ?_
                  refine va_get (D := D) (ci := 5) (v := .ref dh) (C := RX5) (T := TX5) (N := 10) hx hb hts iwX5 hown hK.1 hP 0 rfl rfl 6 (by decide) fk46 (fun _ h9 => h9) rfl dX5_markets_90 ?_
                  refine va_get (D := D) (ci := 0) (v := .int (nI (zN b.toNatClampNeg a.toNatClampNeg))) (C := RX0) (T := TX0) (N := 3) hx hb hts iwX0 hown hK.1 hP 9 rfl rfl 1 (by decide) fk178 (fun _ h9 => h9) rfl dX5_markets_93 ?_
                  have eG : f_X5_markets kd st n tl ho ds sd og a b w = (nI (zN b.toNatClampNeg a.toNatClampNeg), nI (zN b.toNatClampNeg a.toNatClampNeg), (dsL st kd n tl ho b.toNatClampNeg a.toNatClampNeg).1, (dsL st kd n tl ho b.toNatClampNeg a.toNatClampNeg).2) := (if_neg c_1).trans ((if_neg c_2).trans ((if_neg c_3).trans ((if_neg c_4).trans ((if_pos c_5).trans ((if_neg c_6).trans ((if_neg c_7).trans (if_neg c_8)))))))
                  exact retWi (u := ()) hx hb hr hlocks (by rw [eG]) (by rw [eG]; exact hP) (by rw [eG]; exact hD) hS dX5_markets_96
                · refine lv_aload_n hx hb dX5_markets_72 rfl (lv_at hl 0 rfl) ?_
                  refine va_get (D := D) (ci := 5) (v := .ref mh) (C := RX5) (T := TX5) (N := 10) hx hb hts iwX5 hown hK.1 hP 0 rfl rfl 1 (by decide) fk19 (fun _ h9 => h9) rfl dX5_markets_73 ?_
                  refine lv_aload_n hx hb dX5_markets_76 rfl (lv_at hl 0 rfl) ?_
                  refine va_get (D := D) (ci := 5) (v := .ref dh) (C := RX5) (T := TX5) (N := 10) hx hb hts iwX5 hown hK.1 hP 0 rfl rfl 6 (by decide) fk46 (fun _ h9 => h9) rfl dX5_markets_77 ?_
                  refine va_get (D := D) (ci := 0) (v := .ref d0) (C := RX0) (T := TX0) (N := 3) hx hb hts iwX0 hown hK.1 hP 9 rfl rfl 0 (by decide) fk173 (fun _ h9 => h9) rfl dX5_markets_80 ?_
                  refine rcVi (As := [.ref d0]) (rest := []) ⟨hx, hb, hml, hown, hts⟩ (c_X2_sum l D cB cC cI mh m0 m1 m2 m3 m4 m5 m6 d0 ((dsL st kd n tl ho b.toNatClampNeg a.toNatClampNeg).2) n tl ho sl (by first | assumption | omega | decide)) (cwV 1 hts gX5_markets_X2_sum rfl rfl rfl (by decide +kernel) ⟨Nat.le_of_ble_eq_true rfl, Nat.le_of_ble_eq_true rfl⟩) hK hP [1, 10] rfl rfl 1 rfl rfl hl.1 rfl (Nat.le_of_ble_eq_true rfl) dX5_markets_83 ⟨Nat.zero_le _, Nat.zero_le _⟩ ?_
                  refine lv_goto (tgt := 96) hx hb dX5_markets_86 (by decide) ?_
                  have eG : f_X5_markets kd st n tl ho ds sd og a b w = (sumL ((dsL st kd n tl ho b.toNatClampNeg a.toNatClampNeg).2) n, nI (zN b.toNatClampNeg a.toNatClampNeg), (dsL st kd n tl ho b.toNatClampNeg a.toNatClampNeg).1, (dsL st kd n tl ho b.toNatClampNeg a.toNatClampNeg).2) := (if_neg c_1).trans ((if_neg c_2).trans ((if_neg c_3).trans ((if_neg c_4).trans ((if_pos c_5).trans ((if_neg c_6).trans ((if_neg c_7).trans (if_pos c_8)))))))
                  exact retWi (u := ()) hx hb hr hlocks (by rw [eG]) (by rw [eG]; exact hP) (by rw [eG]; exact hD) hS dX5_markets_96
              · refine lv_aload_n hx hb dX5_markets_57 rfl (lv_at hl 0 rfl) ?_
                refine va_get (D := D) (ci := 5) (v := .ref dh) (C := RX5) (T := TX5) (N := 10) hx hb hts iwX5 hown hK.1 hP 0 rfl rfl 6 (by decide) fk46 (fun _ h9 => h9) rfl dX5_markets_58 ?_
                refine va_get (D := D) (ci := 0) (v := .int ((dsL st kd n tl ho b.toNatClampNeg a.toNatClampNeg).1)) (C := RX0) (T := TX0) (N := 3) hx hb hts iwX0 hown hK.1 hP 9 rfl rfl 2 (by decide) fk170 (fun _ h9 => h9) rfl dX5_markets_61 ?_
                refine lv_goto (tgt := 96) hx hb dX5_markets_64 (by decide) ?_
                have eG : f_X5_markets kd st n tl ho ds sd og a b w = ((dsL st kd n tl ho b.toNatClampNeg a.toNatClampNeg).1, nI (zN b.toNatClampNeg a.toNatClampNeg), (dsL st kd n tl ho b.toNatClampNeg a.toNatClampNeg).1, (dsL st kd n tl ho b.toNatClampNeg a.toNatClampNeg).2) := (if_neg c_1).trans ((if_neg c_2).trans ((if_neg c_3).trans ((if_neg c_4).trans ((if_pos c_5).trans ((if_neg c_6).trans (if_pos c_7))))))
                exact retWi (u := ()) hx hb hr hlocks (by rw [eG]) (by rw [eG]; exact hP) (by rw [eG]; exact hD) hS dX5_markets_96
            · refine lv_bipush (v := (-103)) hx hb dX5_markets_37 (by decide) ?_
              have eG : f_X5_markets kd st n tl ho ds sd og a b w = ((-103), sd, og, ds) := (if_neg c_1).trans ((if_neg c_2).trans ((if_neg c_3).trans ((if_neg c_4).trans ((if_pos c_5).trans (if_pos c_6)))))
              exact retWi (u := ()) hx hb hr hlocks (by rw [eG]) (by rw [eG]; exact hP) (by rw [eG]; exact hD) hS dX5_markets_39
          · refine lv_bipush (v := (-102)) hx hb dX5_markets_24 (by decide) ?_
            have eG : f_X5_markets kd st n tl ho ds sd og a b w = ((-102), sd, og, ds) := (if_neg c_1).trans ((if_neg c_2).trans ((if_neg c_3).trans ((if_neg c_4).trans (if_neg c_5))))
            exact retWi (u := ()) hx hb hr hlocks (by rw [eG]) (by rw [eG]; exact hP) (by rw [eG]; exact hD) hS dX5_markets_26
def abG (kd : Nat → Int32) (st : Nat → Int32) (co : Nat → Int32) (gt : Nat → Int32) (pd : Nat → Int32) (de : Nat → Int32) (us : Nat → Int32) (n : Nat) (j i : Nat) : Int64 := ((f_X5_about kd st co gt pd de us n (nI j) (nI i))).toInt64
def faG (kd : Nat → Int32) (st : Nat → Int32) (co : Nat → Int32) (n : Nat) (tl : Int32) (ho : Int32) (j : Nat) (h : Int64) : Nat → Int64
  | 0 => h
  | i + 1 => if nI i = nI j then faG kd st co n tl ho j h i else 31 * faG kd st co n tl ho j h i + ((f_X5_fair kd st co n tl ho (nI j) (nI i))).toInt64
def fhF (kd : Nat → Int32) (st : Nat → Int32) (co : Nat → Int32) (gt : Nat → Int32) (pd : Nat → Int32) (de : Nat → Int32) (us : Nat → Int32) (n : Nat) (tl : Int32) (ho : Int32) (j : Nat) (h : Int64) : Int64 := faG kd st co n tl ho j (foldS (abG kd st co gt pd de us n j) 7 h) n
set_option maxHeartbeats 4000000 in
set_option maxRecDepth 100000 in
theorem c_X5_foldHouse (l : Launch) (D : va_G) (cB cC cI : ClassId) (xh : Nat) (ph : Nat) (mh : Nat) (lh : Nat) (kh : Nat) (jh : Nat) (qh : Nat) (dh : Nat) (ik : Int32) (mr : Int32) (pn : Int32) (m0 : Nat) (m1 : Nat) (m2 : Nat) (m3 : Nat) (m4 : Nat) (m5 : Nat) (m6 : Nat) (kd : Nat → Int32) (st : Nat → Int32) (co : Nat → Int32) (gt : Nat → Int32) (pd : Nat → Int32) (de : Nat → Int32) (us : Nat → Int32) (n : Nat) (tl : Int32) (ho : Int32) (sl : Int32) (hh : Int64) (j : Nat) (hn : n ≤ 4) : Met l yX5_foldHouse wsX5_foldHouse ({ frames := 4, cells := 0, slots := 0, locals := 84 }) (gPr D cB cC cI [.ref xh, .long hh, .int (nI j)] [(xh, .inr (5, [.ref ph, .ref mh, .ref lh, .ref kh, .ref jh, .ref qh, .ref dh, .int ik, .int mr, .int pn])), (mh, .inr (2, [.ref m0, .ref m1, .ref m2, .ref m3, .ref m4, .ref m5, .ref m6, .int (nI n), .int tl, .int ho, .int sl])), (m0, .inl (cI, 4, .inl kd)), (m1, .inl (cI, 4, .inl st)), (m2, .inl (cI, 4, .inl co)), (m3, .inl (cI, 4, .inl gt)), (m4, .inl (cI, 4, .inl pd)), (m5, .inl (cI, 4, .inl de)), (m6, .inl (cI, 4, .inl us))]) (vp_Sl (fun r => r = fhF kd st co gt pd de us n tl ho j hh)) 0 0 (fun _ => False) := by
  refine metR (cc := cX5_foldHouse) (maxL := 7) (ret := (some .long)) RX5 rfl (by decide) rfl (Nat.le_of_ble_eq_true rfl) ?_
  intro p e s m below meth c hx hb hr hml hown hts hlocks hP hK ls hl
  have iwX5 : ∀ w ∈ wsX50, w ∈ wsX5_foldHouse := by decide +kernel
  have iwX2 : ∀ w ∈ wsX20, w ∈ wsX5_foldHouse := by decide +kernel
  have fk19 := hts (.fieldLink RX5 19 "BuyersWeights" "market" "LBuyersWeights$Market;") (by decide +kernel)
  have fk86 := hts (.fieldLink RX5 86 "BuyersWeights$Market" "houses" "I") (by decide +kernel)
  have cut_37 : ∀ (fu : Nat) (i : Nat), i ≤ n → n - i < fu → ∀ (ls : Array Slot), lv_has ls 7 [(0, .ref xh), (3, .int (nI j)), (6, .int (nI i)), (4, .long (faG kd st co n tl ho j (foldS (abG kd st co gt pd de us n j) 7 hh) i))] → W p l e (headSpec wsX5_foldHouse ({ frames := 4, cells := 0, slots := 0, locals := 84 })).room s m ([.ref xh, .long hh, .int (nI j)] : List Value).toArray below meth c s.heap [] 0 0 (MQ below (vp_Sl (fun r => r = fhF kd st co gt pd de us n tl ho j hh)) ([.ref xh, .long hh, .int (nI j)] : List Value).toArray s 0 0 (fun _ => False)) (F0 m 37 ls []) := by
    intro fu
    induction fu with
    | zero => intro i hi hfu; exact absurd hfu (Nat.not_lt_zero _)
    | succ fu ih_37 =>
      intro i hi hfu ls hl
      refine lv_iload hx hb dX5_foldHouse_37 (lv_at hl 2 rfl) ?_
      refine lv_aload_n hx hb dX5_foldHouse_39 rfl (lv_at hl 0 rfl) ?_
      refine va_get (D := D) (ci := 5) (v := .ref mh) (C := RX5) (T := TX5) (N := 10) hx hb hts iwX5 hown hK.1 hP 0 rfl rfl 1 (by decide) fk19 (fun _ h9 => h9) rfl dX5_foldHouse_40 ?_
      refine va_get (D := D) (ci := 2) (v := .int (nI n)) (C := RX2) (T := TX2) (N := 11) hx hb hts iwX2 hown hK.1 hP 1 rfl rfl 7 (by decide) fk86 (fun _ h9 => h9) rfl dX5_foldHouse_43 ?_
      refine lv_icmp_ge (tgt := 76) hx hb dX5_foldHouse_46 (by decide) (fun c_1 => ?_) (fun c_1 => ?_)
      · have hge : n ≤ i := (nI_leI (by omega) (by omega)).mp c_1
        refine lv_lload hx hb dX5_foldHouse_76 (lv_at hl 3 rfl) ?_
        exact retRl hx hb hr hlocks (by rw [show i = n from by omega]; rfl) dX5_foldHouse_78
      · have hlt : i < n := Nat.lt_of_not_le fun z => c_1 ((nI_leI (by omega) (by omega)).mpr z)
        refine lv_iload hx hb dX5_foldHouse_49 (lv_at hl 2 rfl) ?_
        refine lv_iload_n hx hb dX5_foldHouse_51 rfl (lv_at hl 1 rfl) ?_
        refine lv_icmp_eq (tgt := 70) hx hb dX5_foldHouse_52 (by decide) (fun c_2 => ?_) (fun c_2 => ?_)
        · have er : faG kd st co n tl ho j (foldS (abG kd st co gt pd de us n j) 7 hh) (i + 1) = (faG kd st co n tl ho j (foldS (abG kd st co gt pd de us n j) 7 hh) i) := if_pos c_2
          refine lv_iinc (v := nI (i + 1)) (lv' := [(6, .int (nI (i + 1))), (0, .ref xh), (3, .int (nI j)), (4, .long (faG kd st co n tl ho j (foldS (abG kd st co gt pd de us n j) 7 hh) i))]) hx hb dX5_foldHouse_70 hl (k := 2) rfl (nI_1 i) (by decide) rfl (fun ls hl => ?_)
          refine lv_goto (tgt := 37) hx hb dX5_foldHouse_73 (by decide) ?_
          exact ih_37 (i + 1) (by first | assumption | omega | rfl | exact Nat.zero_le _ | decide) (by omega) ls (by rw [er]; exact lv_sub hl [1, 2, 0, 3] rfl)
        · have er : faG kd st co n tl ho j (foldS (abG kd st co gt pd de us n j) 7 hh) (i + 1) = 31 * (faG kd st co n tl ho j (foldS (abG kd st co gt pd de us n j) 7 hh) i) + ((f_X5_fair kd st co n tl ho (nI j) (nI i))).toInt64 := if_neg c_2
          refine lv_lload hx hb dX5_foldHouse_55 (lv_at hl 3 rfl) ?_
          refine lv_aload_n hx hb dX5_foldHouse_57 rfl (lv_at hl 0 rfl) ?_
          refine lv_iload_n hx hb dX5_foldHouse_58 rfl (lv_at hl 1 rfl) ?_
          refine lv_iload hx hb dX5_foldHouse_59 (lv_at hl 2 rfl) ?_
          refine rcVi (As := [.int (nI j), .int (nI i)]) (rest := [.long (faG kd st co n tl ho j (foldS (abG kd st co gt pd de us n j) 7 hh) i)]) ⟨hx, hb, hml, hown, hts⟩ (c_X5_fair l D cB cC cI xh ph mh lh kh jh qh dh ik mr pn m0 m1 m2 m3 m4 m5 m6 kd st co gt pd de us n tl ho sl (nI j) (nI i) (by first | assumption | omega | decide)) (cwV 2 hts gX5_foldHouse_X5_fair rfl rfl rfl (by decide +kernel) ⟨Nat.le_of_ble_eq_true rfl, Nat.le_of_ble_eq_true rfl⟩) hK hP [0, 1, 2, 3, 4, 5, 6, 7, 8] rfl rfl 0 rfl rfl hl.1 rfl (Nat.le_of_ble_eq_true rfl) dX5_foldHouse_61 ⟨Nat.zero_le _, Nat.zero_le _⟩ ?_
          refine lv_i2l (v := (f_X5_fair kd st co n tl ho (nI j) (nI i)).toInt64) hx hb dX5_foldHouse_64 rfl ?_
          refine rcSl (As := [.long (faG kd st co n tl ho j (foldS (abG kd st co gt pd de us n j) 7 hh) i), .long ((f_X5_fair kd st co n tl ho (nI j) (nI i)).toInt64)]) (rest := []) ⟨hx, hb, hml, hown, hts⟩ (c_X5_fold l D cB cC cI (faG kd st co n tl ho j (foldS (abG kd st co gt pd de us n j) 7 hh) i) ((f_X5_fair kd st co n tl ho (nI j) (nI i)).toInt64)) (va_cwS 2 hts gX5_foldHouse_X5_fold rfl rfl rfl (by decide +kernel) ⟨Nat.le_of_ble_eq_true rfl, Nat.le_of_ble_eq_true rfl⟩) hK hP [] rfl rfl hl.1 rfl (Nat.le_of_ble_eq_true rfl) dX5_foldHouse_65 ⟨Nat.zero_le _, Nat.zero_le _⟩ ?_
          refine lv_lstore (lv' := [(4, .long ((31 * (faG kd st co n tl ho j (foldS (abG kd st co gt pd de us n j) 7 hh) i)) + ((f_X5_fair kd st co n tl ho (nI j) (nI i)).toInt64))), (0, .ref xh), (3, .int (nI j)), (6, .int (nI i))]) hx hb dX5_foldHouse_68 hl (by decide) rfl (fun ls hl => ?_)
          refine lv_iinc (v := nI (i + 1)) (lv' := [(6, .int (nI (i + 1))), (4, .long ((31 * (faG kd st co n tl ho j (foldS (abG kd st co gt pd de us n j) 7 hh) i)) + ((f_X5_fair kd st co n tl ho (nI j) (nI i)).toInt64))), (0, .ref xh), (3, .int (nI j))]) hx hb dX5_foldHouse_70 hl (k := 3) rfl (nI_1 i) (by decide) rfl (fun ls hl => ?_)
          refine lv_goto (tgt := 37) hx hb dX5_foldHouse_73 (by decide) ?_
          exact ih_37 (i + 1) (by first | assumption | omega | rfl | exact Nat.zero_le _ | decide) (by omega) ls (by rw [er]; exact lv_sub hl [2, 3, 0, 1] rfl)
  have cut_6 : ∀ (fu : Nat) (i : Nat), i ≤ 7 → 7 - i < fu → ∀ (ls : Array Slot), lv_has ls 7 [(0, .ref xh), (3, .int (nI j)), (6, .int (nI i)), (4, .long (foldS (abG kd st co gt pd de us n j) i hh))] → W p l e (headSpec wsX5_foldHouse ({ frames := 4, cells := 0, slots := 0, locals := 84 })).room s m ([.ref xh, .long hh, .int (nI j)] : List Value).toArray below meth c s.heap [] 0 0 (MQ below (vp_Sl (fun r => r = fhF kd st co gt pd de us n tl ho j hh)) ([.ref xh, .long hh, .int (nI j)] : List Value).toArray s 0 0 (fun _ => False)) (F0 m 6 ls []) := by
    intro fu
    induction fu with
    | zero => intro i hi hfu; exact absurd hfu (Nat.not_lt_zero _)
    | succ fu ih_6 =>
      intro i hi hfu ls hl
      refine lv_iload hx hb dX5_foldHouse_6 (lv_at hl 2 rfl) ?_
      refine lv_bipush (v := 6) hx hb dX5_foldHouse_8 (by decide) ?_
      refine lv_icmp_gt (tgt := 34) hx hb dX5_foldHouse_10 (by decide) (fun c_3 => ?_) (fun c_3 => ?_)
      · have hge : 6 < i := (nI_ltI (a := 6) (by omega) (by omega)).mp c_3
        refine lv_iconst (v := 0) hx hb dX5_foldHouse_34 (by decide) ?_
        refine lv_istore (lv' := [(6, .int 0), (0, .ref xh), (3, .int (nI j)), (4, .long (foldS (abG kd st co gt pd de us n j) i hh))]) hx hb dX5_foldHouse_35 hl (by decide) rfl (fun ls hl => ?_)
        have e7 : i = 7 := by omega
        subst e7
        exact cut_37 ((n - 0) + 1) 0 (by first | assumption | omega | rfl | exact Nat.zero_le _ | decide) (Nat.lt_succ_self _) ls (lv_sub hl [1, 2, 0, 3] rfl)
      · have hlt : i < 7 := by
          have : ¬ 6 < i := fun z => c_3 ((nI_ltI (a := 6) (b := i) (by omega) (by omega)).mpr z)
          omega
        refine lv_lload hx hb dX5_foldHouse_13 (lv_at hl 3 rfl) ?_
        refine lv_aload_n hx hb dX5_foldHouse_15 rfl (lv_at hl 0 rfl) ?_
        refine lv_iload_n hx hb dX5_foldHouse_16 rfl (lv_at hl 1 rfl) ?_
        refine lv_iload hx hb dX5_foldHouse_17 (lv_at hl 2 rfl) ?_
        refine rcVi (As := [.int (nI j), .int (nI i)]) (rest := [.long (foldS (abG kd st co gt pd de us n j) i hh)]) ⟨hx, hb, hml, hown, hts⟩ (c_X5_about l D cB cC cI xh ph mh lh kh jh qh dh ik mr pn m0 m1 m2 m3 m4 m5 m6 kd st co gt pd de us n tl ho sl (nI j) (nI i) (by first | assumption | omega | decide)) (cwV 2 hts gX5_foldHouse_X5_about rfl rfl rfl (by decide +kernel) ⟨Nat.le_of_ble_eq_true rfl, Nat.le_of_ble_eq_true rfl⟩) hK hP [0, 1, 2, 3, 4, 5, 6, 7, 8] rfl rfl 0 rfl rfl hl.1 rfl (Nat.le_of_ble_eq_true rfl) dX5_foldHouse_19 ⟨Nat.zero_le _, Nat.zero_le _⟩ ?_
        refine lv_i2l (v := (f_X5_about kd st co gt pd de us n (nI j) (nI i)).toInt64) hx hb dX5_foldHouse_22 rfl ?_
        refine rcSl (As := [.long (foldS (abG kd st co gt pd de us n j) i hh), .long ((f_X5_about kd st co gt pd de us n (nI j) (nI i)).toInt64)]) (rest := []) ⟨hx, hb, hml, hown, hts⟩ (c_X5_fold l D cB cC cI (foldS (abG kd st co gt pd de us n j) i hh) ((f_X5_about kd st co gt pd de us n (nI j) (nI i)).toInt64)) (va_cwS 2 hts gX5_foldHouse_X5_fold rfl rfl rfl (by decide +kernel) ⟨Nat.le_of_ble_eq_true rfl, Nat.le_of_ble_eq_true rfl⟩) hK hP [] rfl rfl hl.1 rfl (Nat.le_of_ble_eq_true rfl) dX5_foldHouse_23 ⟨Nat.zero_le _, Nat.zero_le _⟩ ?_
        refine lv_lstore (lv' := [(4, .long ((31 * (foldS (abG kd st co gt pd de us n j) i hh)) + ((f_X5_about kd st co gt pd de us n (nI j) (nI i)).toInt64))), (0, .ref xh), (3, .int (nI j)), (6, .int (nI i))]) hx hb dX5_foldHouse_26 hl (by decide) rfl (fun ls hl => ?_)
        refine lv_iinc (v := nI (i + 1)) (lv' := [(6, .int (nI (i + 1))), (4, .long ((31 * (foldS (abG kd st co gt pd de us n j) i hh)) + ((f_X5_about kd st co gt pd de us n (nI j) (nI i)).toInt64))), (0, .ref xh), (3, .int (nI j))]) hx hb dX5_foldHouse_28 hl (k := 3) rfl (nI_1 i) (by decide) rfl (fun ls hl => ?_)
        refine lv_goto (tgt := 6) hx hb dX5_foldHouse_31 (by decide) ?_
        exact ih_6 (i + 1) (by first | assumption | omega | rfl | exact Nat.zero_le _ | decide) (by omega) ls (lv_sub hl [2, 3, 0, 1] rfl)
  have hl : lv_has ls 7 [(0, .ref xh), (1, .long hh), (3, .int (nI j))] := hl
  refine lv_lload_n hx hb dX5_foldHouse_0 rfl (lv_at hl 1 rfl) ?_
  refine lv_lstore (lv' := [(4, .long hh), (0, .ref xh), (1, .long hh), (3, .int (nI j))]) hx hb dX5_foldHouse_1 hl (by decide) rfl (fun ls hl => ?_)
  refine lv_iconst (v := 0) hx hb dX5_foldHouse_3 (by decide) ?_
  refine lv_istore (lv' := [(6, .int 0), (4, .long hh), (0, .ref xh), (1, .long hh), (3, .int (nI j))]) hx hb dX5_foldHouse_4 hl (by decide) rfl (fun ls hl => ?_)
  exact cut_6 ((7 - 0) + 1) 0 (by first | assumption | omega | rfl | exact Nat.zero_le _ | decide) (Nat.lt_succ_self _) ls (lv_sub hl [2, 4, 0, 1] rfl)
def rbG (n : Nat) (tm : Nat → Int32) (lo : Int32) (i : Nat) : Int64 := ((f_X5_rubbed n tm lo (nI i))).toInt64
def flF (n : Nat) (tm : Nat → Int32) (lo : Int32) (h : Int64) : Int64 := 31 * foldS (rbG n tm lo) 3 h + ((f_X5_watch n tm lo)).toInt64
set_option maxHeartbeats 4000000 in
set_option maxRecDepth 100000 in
theorem c_X5_foldLedger (l : Launch) (D : va_G) (cB cC cI : ClassId) (xh : Nat) (ph : Nat) (mh : Nat) (lh : Nat) (kh : Nat) (jh : Nat) (qh : Nat) (dh : Nat) (ik : Int32) (mr : Int32) (pn : Int32) (m0 : Nat) (m1 : Nat) (m2 : Nat) (m3 : Nat) (m4 : Nat) (m5 : Nat) (m6 : Nat) (kd : Nat → Int32) (st : Nat → Int32) (co : Nat → Int32) (gt : Nat → Int32) (pd : Nat → Int32) (de : Nat → Int32) (us : Nat → Int32) (n : Nat) (tl : Int32) (ho : Int32) (sl : Int32) (l0 : Nat) (tm : Nat → Int32) (hd : Int32) (lo : Int32) (hh : Int64) (hn : n ≤ 4) : Met l yX5_foldLedger wsX5_foldLedger ({ frames := 5, cells := 0, slots := 0, locals := 116 }) (gPr D cB cC cI [.ref xh, .long hh] [(xh, .inr (5, [.ref ph, .ref mh, .ref lh, .ref kh, .ref jh, .ref qh, .ref dh, .int ik, .int mr, .int pn])), (mh, .inr (2, [.ref m0, .ref m1, .ref m2, .ref m3, .ref m4, .ref m5, .ref m6, .int (nI n), .int tl, .int ho, .int sl])), (m0, .inl (cI, 4, .inl kd)), (m1, .inl (cI, 4, .inl st)), (m2, .inl (cI, 4, .inl co)), (m3, .inl (cI, 4, .inl gt)), (m4, .inl (cI, 4, .inl pd)), (m5, .inl (cI, 4, .inl de)), (m6, .inl (cI, 4, .inl us)), (lh, .inr (1, [.ref l0, .int hd, .int lo])), (l0, .inl (cI, 4, .inl tm))]) (vp_Sl (fun r => r = flF n tm lo hh)) 0 0 (fun _ => False) := by
  refine metR (cc := cX5_foldLedger) (maxL := 6) (ret := (some .long)) RX5 rfl (by decide) rfl (Nat.le_of_ble_eq_true rfl) ?_
  intro p e s m below meth c hx hb hr hml hown hts hlocks hP hK ls hl
  have cut_5 : ∀ (fu : Nat) (i : Nat), i ≤ 3 → 3 - i < fu → ∀ (ls : Array Slot), lv_has ls 6 [(0, .ref xh), (5, .int (nI i)), (3, .long (foldS (rbG n tm lo) i hh))] → W p l e (headSpec wsX5_foldLedger ({ frames := 5, cells := 0, slots := 0, locals := 116 })).room s m ([.ref xh, .long hh] : List Value).toArray below meth c s.heap [] 0 0 (MQ below (vp_Sl (fun r => r = flF n tm lo hh)) ([.ref xh, .long hh] : List Value).toArray s 0 0 (fun _ => False)) (F0 m 5 ls []) := by
    intro fu
    induction fu with
    | zero => intro i hi hfu; exact absurd hfu (Nat.not_lt_zero _)
    | succ fu ih_5 =>
      intro i hi hfu ls hl
      refine lv_iload hx hb dX5_foldLedger_5 (lv_at hl 1 rfl) ?_
      refine lv_iconst (v := 2) hx hb dX5_foldLedger_7 (by decide) ?_
      refine lv_icmp_gt (tgt := 29) hx hb dX5_foldLedger_8 (by decide) (fun c_1 => ?_) (fun c_1 => ?_)
      · have hge : 2 < i := (nI_ltI (a := 2) (by omega) (by omega)).mp c_1
        refine lv_lload_n hx hb dX5_foldLedger_29 rfl (lv_at hl 2 rfl) ?_
        refine lv_aload_n hx hb dX5_foldLedger_30 rfl (lv_at hl 0 rfl) ?_
        refine rcVi (As := []) (rest := [.long (foldS (rbG n tm lo) i hh)]) ⟨hx, hb, hml, hown, hts⟩ (c_X5_watch l D cB cC cI xh ph mh lh kh jh qh dh ik mr pn m0 m1 m2 m3 m4 m5 m6 kd st co gt pd de us n tl ho sl l0 tm hd lo (by first | assumption | omega | decide)) (cwV 0 hts gX5_foldLedger_X5_watch rfl rfl rfl (by decide +kernel) ⟨Nat.le_of_ble_eq_true rfl, Nat.le_of_ble_eq_true rfl⟩) hK hP [0, 1, 2, 3, 4, 5, 6, 7, 8, 9, 10] rfl rfl 0 rfl rfl hl.1 rfl (Nat.le_of_ble_eq_true rfl) dX5_foldLedger_31 ⟨Nat.zero_le _, Nat.zero_le _⟩ ?_
        refine lv_i2l (v := (f_X5_watch n tm lo).toInt64) hx hb dX5_foldLedger_34 rfl ?_
        refine rcSl (As := [.long (foldS (rbG n tm lo) i hh), .long ((f_X5_watch n tm lo).toInt64)]) (rest := []) ⟨hx, hb, hml, hown, hts⟩ (c_X5_fold l D cB cC cI (foldS (rbG n tm lo) i hh) ((f_X5_watch n tm lo).toInt64)) (va_cwS 2 hts gX5_foldLedger_X5_fold rfl rfl rfl (by decide +kernel) ⟨Nat.le_of_ble_eq_true rfl, Nat.le_of_ble_eq_true rfl⟩) hK hP [] rfl rfl hl.1 rfl (Nat.le_of_ble_eq_true rfl) dX5_foldLedger_35 ⟨Nat.zero_le _, Nat.zero_le _⟩ ?_
        exact retRl hx hb hr hlocks (by rw [show i = 3 from by omega]; rfl) dX5_foldLedger_38
      · have hlt : i < 3 := by
          have : ¬ 2 < i := fun z => c_1 ((nI_ltI (a := 2) (b := i) (by omega) (by omega)).mpr z)
          omega
        refine lv_lload_n hx hb dX5_foldLedger_11 rfl (lv_at hl 2 rfl) ?_
        refine lv_aload_n hx hb dX5_foldLedger_12 rfl (lv_at hl 0 rfl) ?_
        refine lv_iload hx hb dX5_foldLedger_13 (lv_at hl 1 rfl) ?_
        refine rcVi (As := [.int (nI i)]) (rest := [.long (foldS (rbG n tm lo) i hh)]) ⟨hx, hb, hml, hown, hts⟩ (c_X5_rubbed l D cB cC cI xh ph mh lh kh jh qh dh ik mr pn m0 m1 m2 m3 m4 m5 m6 kd st co gt pd de us n tl ho sl l0 tm hd lo (nI i) (by first | assumption | omega | decide)) (cwV 1 hts gX5_foldLedger_X5_rubbed rfl rfl rfl (by decide +kernel) ⟨Nat.le_of_ble_eq_true rfl, Nat.le_of_ble_eq_true rfl⟩) hK hP [0, 1, 2, 3, 4, 5, 6, 7, 8, 9, 10] rfl rfl 0 rfl rfl hl.1 rfl (Nat.le_of_ble_eq_true rfl) dX5_foldLedger_15 ⟨Nat.zero_le _, Nat.zero_le _⟩ ?_
        refine lv_i2l (v := (f_X5_rubbed n tm lo (nI i)).toInt64) hx hb dX5_foldLedger_18 rfl ?_
        refine rcSl (As := [.long (foldS (rbG n tm lo) i hh), .long ((f_X5_rubbed n tm lo (nI i)).toInt64)]) (rest := []) ⟨hx, hb, hml, hown, hts⟩ (c_X5_fold l D cB cC cI (foldS (rbG n tm lo) i hh) ((f_X5_rubbed n tm lo (nI i)).toInt64)) (va_cwS 2 hts gX5_foldLedger_X5_fold rfl rfl rfl (by decide +kernel) ⟨Nat.le_of_ble_eq_true rfl, Nat.le_of_ble_eq_true rfl⟩) hK hP [] rfl rfl hl.1 rfl (Nat.le_of_ble_eq_true rfl) dX5_foldLedger_19 ⟨Nat.zero_le _, Nat.zero_le _⟩ ?_
        refine lv_lstore_n (lv' := [(3, .long ((31 * (foldS (rbG n tm lo) i hh)) + ((f_X5_rubbed n tm lo (nI i)).toInt64))), (0, .ref xh), (5, .int (nI i))]) hx hb dX5_foldLedger_22 rfl hl (by decide) rfl (fun ls hl => ?_)
        refine lv_iinc (v := nI (i + 1)) (lv' := [(5, .int (nI (i + 1))), (3, .long ((31 * (foldS (rbG n tm lo) i hh)) + ((f_X5_rubbed n tm lo (nI i)).toInt64))), (0, .ref xh)]) hx hb dX5_foldLedger_23 hl (k := 2) rfl (nI_1 i) (by decide) rfl (fun ls hl => ?_)
        refine lv_goto (tgt := 5) hx hb dX5_foldLedger_26 (by decide) ?_
        exact ih_5 (i + 1) (by first | assumption | omega | rfl | exact Nat.zero_le _ | decide) (by omega) ls (lv_sub hl [2, 0, 1] rfl)
  have hl : lv_has ls 6 [(0, .ref xh), (1, .long hh)] := hl
  refine lv_lload_n hx hb dX5_foldLedger_0 rfl (lv_at hl 1 rfl) ?_
  refine lv_lstore_n (lv' := [(3, .long hh), (0, .ref xh), (1, .long hh)]) hx hb dX5_foldLedger_1 rfl hl (by decide) rfl (fun ls hl => ?_)
  refine lv_iconst (v := 0) hx hb dX5_foldLedger_2 (by decide) ?_
  refine lv_istore (lv' := [(5, .int 0), (3, .long hh), (0, .ref xh), (1, .long hh)]) hx hb dX5_foldLedger_3 hl (by decide) rfl (fun ls hl => ?_)
  exact cut_5 ((3 - 0) + 1) 0 (by first | assumption | omega | rfl | exact Nat.zero_le _ | decide) (Nat.lt_succ_self _) ls (lv_sub hl [2, 0, 1] rfl)
def ctG (st : Nat → Int32) (gt : Nat → Int32) (pd : Nat → Int32) (n : Nat) (tl : Int32) (ho : Int32) (sl : Int32) (hd : Int32) (lo : Int32) (k : Nat) (mr : Int32) (pn : Int32) (i : Nat) : Int64 := ((f_X5_count mr pn st gt pd n tl ho sl hd lo k (nI i))).toInt64
def ltG (lt : Nat → Int32) (i : Nat) : Int64 := (lt i).toInt64
def dgL (kd : Nat → Int32) (st : Nat → Int32) (co : Nat → Int32) (gt : Nat → Int32) (pd : Nat → Int32) (de : Nat → Int32) (us : Nat → Int32) (n : Nat) (tl : Int32) (ho : Int32) : Nat → Int64
  | 0 => 977
  | j + 1 => fhF kd st co gt pd de us n tl ho j (dgL kd st co gt pd de us n tl ho j)
def digF (kd : Nat → Int32) (st : Nat → Int32) (co : Nat → Int32) (gt : Nat → Int32) (pd : Nat → Int32) (de : Nat → Int32) (us : Nat → Int32) (n : Nat) (tl : Int32) (ho : Int32) (sl : Int32) (tm : Nat → Int32) (hd : Int32) (lo : Int32) (lt : Nat → Int32) (k : Nat) (mr : Int32) (pn : Int32) : Int64 := foldS (ctG st gt pd n tl ho sl hd lo k mr pn) 12 (foldS (ltG lt) k (if f_X2_isOpen n = 0 then (dgL kd st co gt pd de us n tl ho n) else flF n tm lo (dgL kd st co gt pd de us n tl ho n)))
set_option maxHeartbeats 4000000 in
set_option maxRecDepth 100000 in
theorem c_X5_digest (l : Launch) (D : va_G) (cB cC cI : ClassId) (xh : Nat) (ph : Nat) (mh : Nat) (lh : Nat) (kh : Nat) (jh : Nat) (qh : Nat) (dh : Nat) (ik : Int32) (mr : Int32) (pn : Int32) (m0 : Nat) (m1 : Nat) (m2 : Nat) (m3 : Nat) (m4 : Nat) (m5 : Nat) (m6 : Nat) (kd : Nat → Int32) (st : Nat → Int32) (co : Nat → Int32) (gt : Nat → Int32) (pd : Nat → Int32) (de : Nat → Int32) (us : Nat → Int32) (n : Nat) (tl : Int32) (ho : Int32) (sl : Int32) (l0 : Nat) (tm : Nat → Int32) (hd : Int32) (lo : Int32) (p0 : Nat) (lt : Nat → Int32) (k : Nat) (hn : n ≤ 4) (hk : k ≤ 18) : Met l yX5_digest wsX5_digest ({ frames := 6, cells := 0, slots := 0, locals := 141 }) (gPr D cB cC cI [.ref xh] [(xh, .inr (5, [.ref ph, .ref mh, .ref lh, .ref kh, .ref jh, .ref qh, .ref dh, .int ik, .int mr, .int pn])), (mh, .inr (2, [.ref m0, .ref m1, .ref m2, .ref m3, .ref m4, .ref m5, .ref m6, .int (nI n), .int tl, .int ho, .int sl])), (m0, .inl (cI, 4, .inl kd)), (m1, .inl (cI, 4, .inl st)), (m2, .inl (cI, 4, .inl co)), (m3, .inl (cI, 4, .inl gt)), (m4, .inl (cI, 4, .inl pd)), (m5, .inl (cI, 4, .inl de)), (m6, .inl (cI, 4, .inl us)), (lh, .inr (1, [.ref l0, .int hd, .int lo])), (l0, .inl (cI, 4, .inl tm)), (ph, .inr (3, [.ref p0, .int (nI k)])), (p0, .inl (cC, 18, .inl lt))]) (vp_Sl (fun r => r = digF kd st co gt pd de us n tl ho sl tm hd lo lt k mr pn)) 0 0 (fun _ => False) := by
  refine metR (cc := cX5_digest) (maxL := 4) (ret := (some .long)) RX5 rfl (by decide) rfl (Nat.le_of_ble_eq_true rfl) ?_
  intro p e s m below meth c hx hb hr hml hown hts hlocks hP hK ls hl
  have iwX5 : ∀ w ∈ wsX50, w ∈ wsX5_digest := by decide +kernel
  have iwX3 : ∀ w ∈ wsX30, w ∈ wsX5_digest := by decide +kernel
  have iwX2 : ∀ w ∈ wsX20, w ∈ wsX5_digest := by decide +kernel
  have fk10 := hts (.fieldLink RX5 10 "BuyersWeights" "page" "LBuyersWeights$Page;") (by decide +kernel)
  have fk61 := hts (.fieldLink RX5 61 "BuyersWeights$Page" "length" "I") (by decide +kernel)
  have fk208 := hts (.fieldLink RX5 208 "BuyersWeights$Page" "letters" "[C") (by decide +kernel)
  have fk19 := hts (.fieldLink RX5 19 "BuyersWeights" "market" "LBuyersWeights$Market;") (by decide +kernel)
  have fk86 := hts (.fieldLink RX5 86 "BuyersWeights$Market" "houses" "I") (by decide +kernel)
  have cut_82 : ∀ (fu : Nat) (i : Nat) (h1 : Int64), i ≤ 12 → digF kd st co gt pd de us n tl ho sl tm hd lo lt k mr pn = foldS (ctG st gt pd n tl ho sl hd lo k mr pn) 12 h1 → 12 - i < fu → ∀ (ls : Array Slot), lv_has ls 4 [(0, .ref xh), (3, .int (nI i)), (1, .long (foldS (ctG st gt pd n tl ho sl hd lo k mr pn) i h1))] → W p l e (headSpec wsX5_digest ({ frames := 6, cells := 0, slots := 0, locals := 141 })).room s m ([.ref xh] : List Value).toArray below meth c s.heap [] 0 0 (MQ below (vp_Sl (fun r => r = digF kd st co gt pd de us n tl ho sl tm hd lo lt k mr pn)) ([.ref xh] : List Value).toArray s 0 0 (fun _ => False)) (F0 m 82 ls []) := by
    intro fu
    induction fu with
    | zero => intro i h1 hi he hfu; exact absurd hfu (Nat.not_lt_zero _)
    | succ fu ih_82 =>
      intro i h1 hi he hfu ls hl
      refine lv_iload_n hx hb dX5_digest_82 rfl (lv_at hl 1 rfl) ?_
      refine lv_bipush (v := 11) hx hb dX5_digest_83 (by decide) ?_
      refine lv_icmp_gt (tgt := 105) hx hb dX5_digest_85 (by decide) (fun c_1 => ?_) (fun c_1 => ?_)
      · have hge : 11 < i := (nI_ltI (a := 11) (by omega) (by omega)).mp c_1
        refine lv_lload_n hx hb dX5_digest_105 rfl (lv_at hl 2 rfl) ?_
        exact retRl hx hb hr hlocks (by rw [he, show i = 12 from by omega]) dX5_digest_106
      · have hlt : i < 12 := by
          have : ¬ 11 < i := fun z => c_1 ((nI_ltI (a := 11) (b := i) (by omega) (by omega)).mpr z)
          omega
        refine lv_lload_n hx hb dX5_digest_88 rfl (lv_at hl 2 rfl) ?_
        refine lv_aload_n hx hb dX5_digest_89 rfl (lv_at hl 0 rfl) ?_
        refine lv_iload_n hx hb dX5_digest_90 rfl (lv_at hl 1 rfl) ?_
        refine rcVi (As := [.int (nI i)]) (rest := [.long (foldS (ctG st gt pd n tl ho sl hd lo k mr pn) i h1)]) ⟨hx, hb, hml, hown, hts⟩ (c_X5_count l D cB cC cI xh ph mh lh kh jh qh dh ik mr pn m0 m1 m2 m3 m4 m5 m6 kd st co gt pd de us n tl ho sl l0 tm hd lo p0 lt k (nI i) (by first | assumption | omega | decide)) (cwV 1 hts gX5_digest_X5_count rfl rfl rfl (by decide +kernel) ⟨Nat.le_of_ble_eq_true rfl, Nat.le_of_ble_eq_true rfl⟩) hK hP [0, 1, 2, 3, 4, 5, 6, 7, 8, 9, 10, 11, 12] rfl rfl 0 rfl rfl hl.1 rfl (Nat.le_of_ble_eq_true rfl) dX5_digest_91 ⟨Nat.zero_le _, Nat.zero_le _⟩ ?_
        refine lv_i2l (v := (f_X5_count mr pn st gt pd n tl ho sl hd lo k (nI i)).toInt64) hx hb dX5_digest_94 rfl ?_
        refine rcSl (As := [.long (foldS (ctG st gt pd n tl ho sl hd lo k mr pn) i h1), .long ((f_X5_count mr pn st gt pd n tl ho sl hd lo k (nI i)).toInt64)]) (rest := []) ⟨hx, hb, hml, hown, hts⟩ (c_X5_fold l D cB cC cI (foldS (ctG st gt pd n tl ho sl hd lo k mr pn) i h1) ((f_X5_count mr pn st gt pd n tl ho sl hd lo k (nI i)).toInt64)) (va_cwS 2 hts gX5_digest_X5_fold rfl rfl rfl (by decide +kernel) ⟨Nat.le_of_ble_eq_true rfl, Nat.le_of_ble_eq_true rfl⟩) hK hP [] rfl rfl hl.1 rfl (Nat.le_of_ble_eq_true rfl) dX5_digest_95 ⟨Nat.zero_le _, Nat.zero_le _⟩ ?_
        refine lv_lstore_n (lv' := [(1, .long ((31 * (foldS (ctG st gt pd n tl ho sl hd lo k mr pn) i h1)) + ((f_X5_count mr pn st gt pd n tl ho sl hd lo k (nI i)).toInt64))), (0, .ref xh), (3, .int (nI i))]) hx hb dX5_digest_98 rfl hl (by decide) rfl (fun ls hl => ?_)
        refine lv_iinc (v := nI (i + 1)) (lv' := [(3, .int (nI (i + 1))), (1, .long ((31 * (foldS (ctG st gt pd n tl ho sl hd lo k mr pn) i h1)) + ((f_X5_count mr pn st gt pd n tl ho sl hd lo k (nI i)).toInt64))), (0, .ref xh)]) hx hb dX5_digest_99 hl (k := 2) rfl (nI_1 i) (by decide) rfl (fun ls hl => ?_)
        refine lv_goto (tgt := 82) hx hb dX5_digest_102 (by decide) ?_
        exact ih_82 (i + 1) h1 (by first | assumption | omega | rfl | exact Nat.zero_le _ | decide) (by first | assumption | omega | rfl | exact Nat.zero_le _ | decide) (by omega) ls (lv_sub hl [2, 0, 1] rfl)
  have cut_48 : ∀ (fu : Nat) (i : Nat) (h0 : Int64), i ≤ k → digF kd st co gt pd de us n tl ho sl tm hd lo lt k mr pn = foldS (ctG st gt pd n tl ho sl hd lo k mr pn) 12 (foldS (ltG lt) k h0) → k - i < fu → ∀ (ls : Array Slot), lv_has ls 4 [(0, .ref xh), (3, .int (nI i)), (1, .long (foldS (ltG lt) i h0))] → W p l e (headSpec wsX5_digest ({ frames := 6, cells := 0, slots := 0, locals := 141 })).room s m ([.ref xh] : List Value).toArray below meth c s.heap [] 0 0 (MQ below (vp_Sl (fun r => r = digF kd st co gt pd de us n tl ho sl tm hd lo lt k mr pn)) ([.ref xh] : List Value).toArray s 0 0 (fun _ => False)) (F0 m 48 ls []) := by
    intro fu
    induction fu with
    | zero => intro i h0 hi he hfu; exact absurd hfu (Nat.not_lt_zero _)
    | succ fu ih_48 =>
      intro i h0 hi he hfu ls hl
      refine lv_iload_n hx hb dX5_digest_48 rfl (lv_at hl 1 rfl) ?_
      refine lv_aload_n hx hb dX5_digest_49 rfl (lv_at hl 0 rfl) ?_
      refine va_get (D := D) (ci := 5) (v := .ref ph) (C := RX5) (T := TX5) (N := 10) hx hb hts iwX5 hown hK.1 hP 0 rfl rfl 0 (by decide) fk10 (fun _ h9 => h9) rfl dX5_digest_50 ?_
      refine va_get (D := D) (ci := 3) (v := .int (nI k)) (C := RX3) (T := TX3) (N := 2) hx hb hts iwX3 hown hK.1 hP 11 rfl rfl 1 (by decide) fk61 (fun _ h9 => h9) rfl dX5_digest_53 ?_
      refine lv_icmp_ge (tgt := 80) hx hb dX5_digest_56 (by decide) (fun c_2 => ?_) (fun c_2 => ?_)
      · have hge : k ≤ i := (nI_leI (by omega) (by omega)).mp c_2
        refine lv_iconst (v := 0) hx hb dX5_digest_80 (by decide) ?_
        refine lv_istore_n (lv' := [(3, .int 0), (0, .ref xh), (1, .long (foldS (ltG lt) i h0))]) hx hb dX5_digest_81 rfl hl (by decide) rfl (fun ls hl => ?_)
        exact cut_82 ((12 - 0) + 1) 0 (foldS (ltG lt) i h0) (by first | assumption | omega | rfl | exact Nat.zero_le _ | decide) (by rw [he, show k = i from by omega]) (Nat.lt_succ_self _) ls (lv_sub hl [1, 0, 2] rfl)
      · have hlt : i < k := Nat.lt_of_not_le fun z => c_2 ((nI_leI (by omega) (by omega)).mpr z)
        refine lv_lload_n hx hb dX5_digest_59 rfl (lv_at hl 2 rfl) ?_
        refine lv_aload_n hx hb dX5_digest_60 rfl (lv_at hl 0 rfl) ?_
        refine va_get (D := D) (ci := 5) (v := .ref ph) (C := RX5) (T := TX5) (N := 10) hx hb hts iwX5 hown hK.1 hP 0 rfl rfl 0 (by decide) fk10 (fun _ h9 => h9) rfl dX5_digest_61 ?_
        refine va_get (D := D) (ci := 3) (v := .ref p0) (C := RX3) (T := TX3) (N := 2) hx hb hts iwX3 hown hK.1 hP 11 rfl rfl 0 (by decide) fk208 (fun _ h9 => h9) rfl dX5_digest_64 ?_
        refine lv_iload_n hx hb dX5_digest_67 rfl (lv_at hl 1 rfl) ?_
        refine my_cald hx hb hK hP 12 rfl (j := i) (ix_nI (by omega) (by decide)) dX5_digest_68 ?_
        refine lv_i2l (v := (lt i).toInt64) hx hb dX5_digest_69 rfl ?_
        refine rcSl (As := [.long (foldS (ltG lt) i h0), .long ((lt i).toInt64)]) (rest := []) ⟨hx, hb, hml, hown, hts⟩ (c_X5_fold l D cB cC cI (foldS (ltG lt) i h0) ((lt i).toInt64)) (va_cwS 2 hts gX5_digest_X5_fold rfl rfl rfl (by decide +kernel) ⟨Nat.le_of_ble_eq_true rfl, Nat.le_of_ble_eq_true rfl⟩) hK hP [] rfl rfl hl.1 rfl (Nat.le_of_ble_eq_true rfl) dX5_digest_70 ⟨Nat.zero_le _, Nat.zero_le _⟩ ?_
        refine lv_lstore_n (lv' := [(1, .long ((31 * (foldS (ltG lt) i h0)) + ((lt i).toInt64))), (0, .ref xh), (3, .int (nI i))]) hx hb dX5_digest_73 rfl hl (by decide) rfl (fun ls hl => ?_)
        refine lv_iinc (v := nI (i + 1)) (lv' := [(3, .int (nI (i + 1))), (1, .long ((31 * (foldS (ltG lt) i h0)) + ((lt i).toInt64))), (0, .ref xh)]) hx hb dX5_digest_74 hl (k := 2) rfl (nI_1 i) (by decide) rfl (fun ls hl => ?_)
        refine lv_goto (tgt := 48) hx hb dX5_digest_77 (by decide) ?_
        exact ih_48 (i + 1) h0 (by first | assumption | omega | rfl | exact Nat.zero_le _ | decide) (by first | assumption | omega | rfl | exact Nat.zero_le _ | decide) (by omega) ls (lv_sub hl [2, 0, 1] rfl)
  have cut_6 : ∀ (fu : Nat) (j : Nat), j ≤ n → n - j < fu → ∀ (ls : Array Slot), lv_has ls 4 [(0, .ref xh), (3, .int (nI j)), (1, .long (dgL kd st co gt pd de us n tl ho j))] → W p l e (headSpec wsX5_digest ({ frames := 6, cells := 0, slots := 0, locals := 141 })).room s m ([.ref xh] : List Value).toArray below meth c s.heap [] 0 0 (MQ below (vp_Sl (fun r => r = digF kd st co gt pd de us n tl ho sl tm hd lo lt k mr pn)) ([.ref xh] : List Value).toArray s 0 0 (fun _ => False)) (F0 m 6 ls []) := by
    intro fu
    induction fu with
    | zero => intro j hj hfu; exact absurd hfu (Nat.not_lt_zero _)
    | succ fu ih_6 =>
      intro j hj hfu ls hl
      refine lv_iload_n hx hb dX5_digest_6 rfl (lv_at hl 1 rfl) ?_
      refine lv_aload_n hx hb dX5_digest_7 rfl (lv_at hl 0 rfl) ?_
      refine va_get (D := D) (ci := 5) (v := .ref mh) (C := RX5) (T := TX5) (N := 10) hx hb hts iwX5 hown hK.1 hP 0 rfl rfl 1 (by decide) fk19 (fun _ h9 => h9) rfl dX5_digest_8 ?_
      refine va_get (D := D) (ci := 2) (v := .int (nI n)) (C := RX2) (T := TX2) (N := 11) hx hb hts iwX2 hown hK.1 hP 1 rfl rfl 7 (by decide) fk86 (fun _ h9 => h9) rfl dX5_digest_11 ?_
      refine lv_icmp_ge (tgt := 30) hx hb dX5_digest_14 (by decide) (fun c_3 => ?_) (fun c_3 => ?_)
      · have hge : n ≤ j := (nI_leI (by omega) (by omega)).mp c_3
        refine lv_aload_n hx hb dX5_digest_30 rfl (lv_at hl 0 rfl) ?_
        refine va_get (D := D) (ci := 5) (v := .ref mh) (C := RX5) (T := TX5) (N := 10) hx hb hts iwX5 hown hK.1 hP 0 rfl rfl 1 (by decide) fk19 (fun _ h9 => h9) rfl dX5_digest_31 ?_
        refine rcVi (As := []) (rest := []) ⟨hx, hb, hml, hown, hts⟩ (c_X2_isOpen l D cB cC cI mh m0 m1 m2 m3 m4 m5 m6 kd st co gt pd de us n tl ho sl) (cwV 0 hts gX5_digest_X2_isOpen rfl rfl rfl (by decide +kernel) ⟨Nat.le_of_ble_eq_true rfl, Nat.le_of_ble_eq_true rfl⟩) hK hP [1, 2, 3, 4, 5, 6, 7, 8] rfl rfl 1 rfl rfl hl.1 rfl (Nat.le_of_ble_eq_true rfl) dX5_digest_34 ⟨Nat.zero_le _, Nat.zero_le _⟩ ?_
        refine lv_if_eq (tgt := 46) hx hb dX5_digest_37 (by decide) (fun c_4 => ?_) (fun c_4 => ?_)
        · have hq : digF kd st co gt pd de us n tl ho sl tm hd lo lt k mr pn = foldS (ctG st gt pd n tl ho sl hd lo k mr pn) 12 (foldS (ltG lt) k (dgL kd st co gt pd de us n tl ho j)) := by
            unfold digF
            rw [if_pos c_4, show j = n from by omega]
          refine lv_iconst (v := 0) hx hb dX5_digest_46 (by decide) ?_
          refine lv_istore_n (lv' := [(3, .int 0), (0, .ref xh), (1, .long (dgL kd st co gt pd de us n tl ho j))]) hx hb dX5_digest_47 rfl hl (by decide) rfl (fun ls hl => ?_)
          exact cut_48 ((k - 0) + 1) 0 _ (by first | assumption | omega | rfl | exact Nat.zero_le _ | decide) hq (Nat.lt_succ_self _) ls (lv_sub hl [1, 0, 2] rfl)
        · have hq : digF kd st co gt pd de us n tl ho sl tm hd lo lt k mr pn = foldS (ctG st gt pd n tl ho sl hd lo k mr pn) 12 (foldS (ltG lt) k (flF n tm lo (dgL kd st co gt pd de us n tl ho j))) := by
            unfold digF
            rw [if_neg c_4, show j = n from by omega]
          refine lv_aload_n hx hb dX5_digest_40 rfl (lv_at hl 0 rfl) ?_
          refine lv_lload_n hx hb dX5_digest_41 rfl (lv_at hl 2 rfl) ?_
          refine rcVl (As := [.long (dgL kd st co gt pd de us n tl ho j)]) (rest := []) ⟨hx, hb, hml, hown, hts⟩ (c_X5_foldLedger l D cB cC cI xh ph mh lh kh jh qh dh ik mr pn m0 m1 m2 m3 m4 m5 m6 kd st co gt pd de us n tl ho sl l0 tm hd lo (dgL kd st co gt pd de us n tl ho j) (by first | assumption | omega | decide)) (cwV 1 hts gX5_digest_X5_foldLedger rfl rfl rfl (by decide +kernel) ⟨Nat.le_of_ble_eq_true rfl, Nat.le_of_ble_eq_true rfl⟩) hK hP [0, 1, 2, 3, 4, 5, 6, 7, 8, 9, 10] rfl rfl 0 rfl rfl hl.1 rfl (Nat.le_of_ble_eq_true rfl) dX5_digest_42 ⟨Nat.zero_le _, Nat.zero_le _⟩ ?_
          refine lv_lstore_n (lv' := [(1, .long (flF n tm lo (dgL kd st co gt pd de us n tl ho j))), (0, .ref xh), (3, .int (nI j))]) hx hb dX5_digest_45 rfl hl (by decide) rfl (fun ls hl => ?_)
          refine lv_iconst (v := 0) hx hb dX5_digest_46 (by decide) ?_
          refine lv_istore_n (lv' := [(3, .int 0), (1, .long (flF n tm lo (dgL kd st co gt pd de us n tl ho j))), (0, .ref xh)]) hx hb dX5_digest_47 rfl hl (by decide) rfl (fun ls hl => ?_)
          exact cut_48 ((k - 0) + 1) 0 _ (by first | assumption | omega | rfl | exact Nat.zero_le _ | decide) hq (Nat.lt_succ_self _) ls (lv_sub hl [2, 0, 1] rfl)
      · have hlt : j < n := Nat.lt_of_not_le fun z => c_3 ((nI_leI (by omega) (by omega)).mpr z)
        refine lv_aload_n hx hb dX5_digest_17 rfl (lv_at hl 0 rfl) ?_
        refine lv_lload_n hx hb dX5_digest_18 rfl (lv_at hl 2 rfl) ?_
        refine lv_iload_n hx hb dX5_digest_19 rfl (lv_at hl 1 rfl) ?_
        refine rcVl (As := [.long (dgL kd st co gt pd de us n tl ho j), .int (nI j)]) (rest := []) ⟨hx, hb, hml, hown, hts⟩ (c_X5_foldHouse l D cB cC cI xh ph mh lh kh jh qh dh ik mr pn m0 m1 m2 m3 m4 m5 m6 kd st co gt pd de us n tl ho sl (dgL kd st co gt pd de us n tl ho j) j (by first | assumption | omega | decide)) (cwV 2 hts gX5_digest_X5_foldHouse rfl rfl rfl (by decide +kernel) ⟨Nat.le_of_ble_eq_true rfl, Nat.le_of_ble_eq_true rfl⟩) hK hP [0, 1, 2, 3, 4, 5, 6, 7, 8] rfl rfl 0 rfl rfl hl.1 rfl (Nat.le_of_ble_eq_true rfl) dX5_digest_20 ⟨Nat.zero_le _, Nat.zero_le _⟩ ?_
        refine lv_lstore_n (lv' := [(1, .long (fhF kd st co gt pd de us n tl ho j (dgL kd st co gt pd de us n tl ho j))), (0, .ref xh), (3, .int (nI j))]) hx hb dX5_digest_23 rfl hl (by decide) rfl (fun ls hl => ?_)
        refine lv_iinc (v := nI (j + 1)) (lv' := [(3, .int (nI (j + 1))), (1, .long (fhF kd st co gt pd de us n tl ho j (dgL kd st co gt pd de us n tl ho j))), (0, .ref xh)]) hx hb dX5_digest_24 hl (k := 2) rfl (nI_1 j) (by decide) rfl (fun ls hl => ?_)
        refine lv_goto (tgt := 6) hx hb dX5_digest_27 (by decide) ?_
        exact ih_6 (j + 1) (by first | assumption | omega | rfl | exact Nat.zero_le _ | decide) (by omega) ls (lv_sub hl [2, 0, 1] rfl)
  have hl : lv_has ls 4 [(0, .ref xh)] := hl
  refine lv_ldc2 (v := 977) hx hb hown (hts (.constantLong RX5 198 (977)) (by decide +kernel)) dX5_digest_0 ?_
  refine lv_lstore_n (lv' := [(1, .long 977), (0, .ref xh)]) hx hb dX5_digest_3 rfl hl (by decide) rfl (fun ls hl => ?_)
  refine lv_iconst (v := 0) hx hb dX5_digest_4 (by decide) ?_
  refine lv_istore_n (lv' := [(3, .int 0), (1, .long 977), (0, .ref xh)]) hx hb dX5_digest_5 rfl hl (by decide) rfl (fun ls hl => ?_)
  exact cut_6 ((n - 0) + 1) 0 (by first | assumption | omega | rfl | exact Nat.zero_le _ | decide) (Nat.lt_succ_self _) ls (lv_sub hl [2, 0, 1] rfl)
