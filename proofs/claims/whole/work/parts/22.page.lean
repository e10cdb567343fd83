set_option maxHeartbeats 4000000 in
set_option maxRecDepth 100000 in
theorem c_J0_isLatin1_aae02 (l : Launch) (D : va_G) (cB cC cI : ClassId) (ka va : Nat)   : Met l yJ0_isLatin1_aae02 wsJ0_isLatin1_aae02 ({ frames := 0, cells := 0, slots := 0, locals := 0 }) (gPrS D cB cC cI ka va [.ref ka] []) (vp_Si (fun r => r = 1)) 0 0 (fun _ => False) := by
  refine metRS (cc := cJ0_isLatin1_aae02) (maxL := 1) (ret := (some .boolean)) RJ0 rfl (by decide) rfl (Nat.le_of_ble_eq_true rfl) ?_
  intro p e s m below meth c hx hb hr hml hown hts hlocks hP hK hG ls hl
  have fk38 := hts (.fieldLink RJ0 38 "java/lang/String" "COMPACT_STRINGS" "Z") (by decide +kernel)
  have fk15 := hts (.fieldLink RJ0 15 "java/lang/String" "coder" "B") (by decide +kernel)
  have hl : lv_has ls 1 [(0, .ref ka)] := hl
  refine va_gets hx hb hG.2.2.2.2.2.2 va_S.rf hown fk38 (fun _ h9 => h9) dJ0_isLatin1_aae02_0 ?_
  refine lv_if_eq (tgt := 17) hx hb dJ0_isLatin1_aae02_3 (by decide) (fun c_1 => absurd c_1 (by decide)) (fun c_1 => ?_)
  refine lv_aload_n hx hb dJ0_isLatin1_aae02_6 rfl (lv_at hl 0 rfl) ?_
  refine vk_getf hx hb hG.2.2.2.1 va_S.rf hown fk15 (fun _ h9 => h9) dJ0_isLatin1_aae02_7 ?_
  refine lv_if_ne (tgt := 17) hx hb dJ0_isLatin1_aae02_10 (by decide) (fun c_2 => absurd c_2 (by decide)) (fun c_2 => ?_)
  refine lv_iconst (v := 1) hx hb dJ0_isLatin1_aae02_13 (by decide) ?_
  refine lv_goto (tgt := 18) hx hb dJ0_isLatin1_aae02_14 (by decide) ?_
  exact retRz hx hb hr hlocks rfl rfl dJ0_isLatin1_aae02_18
set_option maxHeartbeats 4000000 in
set_option maxRecDepth 100000 in
theorem c_J0_coder_7d493 (l : Launch) (D : va_G) (cB cC cI : ClassId) (ka va : Nat)   : Met l yJ0_coder_7d493 wsJ0_coder_7d493 ({ frames := 0, cells := 0, slots := 0, locals := 0 }) (gPrS D cB cC cI ka va [.ref ka] []) (vp_Si (fun r => r = 0)) 0 0 (fun _ => False) := by
  refine metRS (cc := cJ0_coder_7d493) (maxL := 1) (ret := (some .byte)) RJ0 rfl (by decide) rfl (Nat.le_of_ble_eq_true rfl) ?_
  intro p e s m below meth c hx hb hr hml hown hts hlocks hP hK hG ls hl
  have fk38 := hts (.fieldLink RJ0 38 "java/lang/String" "COMPACT_STRINGS" "Z") (by decide +kernel)
  have fk15 := hts (.fieldLink RJ0 15 "java/lang/String" "coder" "B") (by decide +kernel)
  have hl : lv_has ls 1 [(0, .ref ka)] := hl
  refine va_gets hx hb hG.2.2.2.2.2.2 va_S.rf hown fk38 (fun _ h9 => h9) dJ0_coder_7d493_0 ?_
  refine lv_if_eq (tgt := 13) hx hb dJ0_coder_7d493_3 (by decide) (fun c_1 => absurd c_1 (by decide)) (fun c_1 => ?_)
  refine lv_aload_n hx hb dJ0_coder_7d493_6 rfl (lv_at hl 0 rfl) ?_
  refine vk_getf hx hb hG.2.2.2.1 va_S.rf hown fk15 (fun _ h9 => h9) dJ0_coder_7d493_7 ?_
  refine lv_goto (tgt := 14) hx hb dJ0_coder_7d493_10 (by decide) ?_
  exact retRz hx hb hr hlocks rfl rfl dJ0_coder_7d493_14
set_option maxHeartbeats 4000000 in
set_option maxRecDepth 100000 in
theorem c_J0_length_8abf5 (l : Launch) (D : va_G) (cB cC cI : ClassId) (ka va : Nat)   : Met l yJ0_length_8abf5 wsJ0_length_8abf5 ({ frames := 1, cells := 0, slots := 0, locals := 20 }) (gPrS D cB cC cI ka va [.ref ka] []) (vp_Si (fun r => r = 5)) 0 0 (fun _ => False) := by
  refine metRS (cc := cJ0_length_8abf5) (maxL := 1) (ret := (some .int)) RJ0 rfl (by decide) rfl (Nat.le_of_ble_eq_true rfl) ?_
  intro p e s m below meth c hx hb hr hml hown hts hlocks hP hK hG ls hl
  have fk9 := hts (.fieldLink RJ0 9 "java/lang/String" "value" "[B") (by decide +kernel)
  have hl : lv_has ls 1 [(0, .ref ka)] := hl
  refine lv_aload_n hx hb dJ0_length_8abf5_0 rfl (lv_at hl 0 rfl) ?_
  refine vk_getf hx hb hG.2.2.2.2.1 va_S.rf hown fk9 (fun _ h9 => h9) dJ0_length_8abf5_1 ?_
  refine va_tlen (v := 5) hx hb hG.2.2.2.2.2.1 va_S.rf rfl dJ0_length_8abf5_4 ?_
  refine lv_aload_n hx hb dJ0_length_8abf5_5 rfl (lv_at hl 0 rfl) ?_
  refine rcTiS (As := []) (rest := [.int 5]) ⟨hx, hb, hml, hown, hts⟩ (c_J0_coder_7d493 l D cB cC cI ka va ) (cwV 0 hts gJ0_length_8abf5_J0_coder_7d493 rfl rfl rfl (by decide +kernel) ⟨Nat.le_of_ble_eq_true rfl, Nat.le_of_ble_eq_true rfl⟩) hG hK hP [] rfl rfl hl.1 rfl (Nat.le_of_ble_eq_true rfl) dJ0_length_8abf5_6 ⟨Nat.zero_le _, Nat.zero_le _⟩ ?_
  refine lv_ishr hx hb dJ0_length_8abf5_9 ?_
  refine my_top (y := 5) (by decide) ?_
  exact retRi hx hb hr hlocks rfl dJ0_length_8abf5_10
def f_J1_canEncode_9a6ad (ch : Int32) : Int32 := if ch < 0 then 0 else if 255 < ch then 0 else 1
set_option maxHeartbeats 4000000 in
set_option maxRecDepth 100000 in
theorem c_J1_canEncode_9a6ad (l : Launch) (D : va_G) (cB cC cI : ClassId) (ch : Int32)  : Met l yJ1_canEncode_9a6ad wsJ1_canEncode_9a6ad ({ frames := 0, cells := 0, slots := 0, locals := 0 }) (gPr D cB cC cI [.int ch] []) (vp_Si (fun r => r = (f_J1_canEncode_9a6ad ch))) 0 0 (fun _ => False) := by
  refine metR (cc := cJ1_canEncode_9a6ad) (maxL := 1) (ret := (some .boolean)) RJ1 rfl (by decide) rfl (Nat.le_of_ble_eq_true rfl) ?_
  intro p e s m below meth c hx hb hr hml hown hts hlocks hP hK ls hl
  have hl : lv_has ls 1 [(0, .int ch)] := hl
  refine lv_iload_n hx hb dJ1_canEncode_9a6ad_0 rfl (lv_at hl 0 rfl) ?_
  refine lv_if_lt (tgt := 15) hx hb dJ1_canEncode_9a6ad_1 (by decide) (fun c_1 => ?_) (fun c_1 => ?_)
  · refine lv_iconst (v := 0) hx hb dJ1_canEncode_9a6ad_15 (by decide) ?_
    have eG : f_J1_canEncode_9a6ad ch = 0 := if_pos c_1
    exact retRz hx hb hr hlocks rfl eG.symm dJ1_canEncode_9a6ad_16
  · refine lv_iload_n hx hb dJ1_canEncode_9a6ad_4 rfl (lv_at hl 0 rfl) ?_
    refine lv_sipush (v := 255) hx hb dJ1_canEncode_9a6ad_5 (by decide) ?_
    refine lv_icmp_gt (tgt := 15) hx hb dJ1_canEncode_9a6ad_8 (by decide) (fun c_2 => ?_) (fun c_2 => ?_)
    · refine lv_iconst (v := 0) hx hb dJ1_canEncode_9a6ad_15 (by decide) ?_
      have eG : f_J1_canEncode_9a6ad ch = 0 := (if_neg c_1).trans (if_pos c_2)
      exact retRz hx hb hr hlocks rfl eG.symm dJ1_canEncode_9a6ad_16
    · refine lv_iconst (v := 1) hx hb dJ1_canEncode_9a6ad_11 (by decide) ?_
      refine lv_goto (tgt := 16) hx hb dJ1_canEncode_9a6ad_12 (by decide) ?_
      have eG : f_J1_canEncode_9a6ad ch = 1 := (if_neg c_1).trans (if_neg c_2)
      exact retRz hx hb hr hlocks rfl eG.symm dJ1_canEncode_9a6ad_16
def f_J1_indexOfChar_4cfef (ch : Int32) : Int32 := if 104 = ch.toInt8.toInt32 then 0 else if 114 = ch.toInt8.toInt32 then 1 else if 111 = ch.toInt8.toInt32 then 2 else if 119 = ch.toInt8.toInt32 then 3 else if 109 = ch.toInt8.toInt32 then 4 else (-1)
set_option maxHeartbeats 4000000 in
set_option maxRecDepth 100000 in
theorem c_J1_indexOfChar_4cfef (l : Launch) (D : va_G) (cB cC cI : ClassId) (ka va : Nat) (ch : Int32)  : Met l yJ1_indexOfChar_4cfef wsJ1_indexOfChar_4cfef ({ frames := 0, cells := 0, slots := 0, locals := 0 }) (gPrS D cB cC cI ka va [.ref va, .int ch, .int 0, .int 5] []) (vp_Si (fun r => r = (f_J1_indexOfChar_4cfef ch))) 0 0 (fun _ => False) := by
  refine metRS (cc := cJ1_indexOfChar_4cfef) (maxL := 6) (ret := (some .int)) RJ1 rfl (by decide) rfl (Nat.le_of_ble_eq_true rfl) ?_
  intro p e s m below meth c hx hb hr hml hown hts hlocks hP hK hG ls hl
  have hl : lv_has ls 6 [(0, .ref va), (1, .int ch), (2, .int 0), (3, .int 5)] := hl
  refine lv_iload_n hx hb dJ1_indexOfChar_4cfef_0 rfl (lv_at hl 1 rfl) ?_
  refine lv_i2b (v := ch.toInt8.toInt32) hx hb dJ1_indexOfChar_4cfef_1 rfl ?_
  refine lv_istore (lv' := [(4, .int ch.toInt8.toInt32), (0, .ref va), (1, .int ch), (2, .int 0), (3, .int 5)]) hx hb dJ1_indexOfChar_4cfef_2 hl (by decide) rfl (fun ls hl => ?_)
  refine lv_iload_n hx hb dJ1_indexOfChar_4cfef_4 rfl (lv_at hl 3 rfl) ?_
  refine lv_istore (lv' := [(5, .int 0), (4, .int ch.toInt8.toInt32), (0, .ref va), (1, .int ch), (2, .int 0), (3, .int 5)]) hx hb dJ1_indexOfChar_4cfef_5 hl (by decide) rfl (fun ls hl => ?_)
  refine lv_iload hx hb dJ1_indexOfChar_4cfef_7 (lv_at hl 0 rfl) ?_
  refine lv_iload_n hx hb dJ1_indexOfChar_4cfef_9 rfl (lv_at hl 5 rfl) ?_
  refine lv_icmp_ge (tgt := 31) hx hb dJ1_indexOfChar_4cfef_10 (by decide) (fun c_1 => absurd c_1 (by decide)) (fun c_1 => ?_)
  refine lv_aload_n hx hb dJ1_indexOfChar_4cfef_13 rfl (lv_at hl 2 rfl) ?_
  refine lv_iload hx hb dJ1_indexOfChar_4cfef_14 (lv_at hl 0 rfl) ?_
  refine va_tb (v := .int 104) hx hb hG.2.2.2.2.2.1 va_S.rf (vp_in_nI (n := 0) (by decide) (by decide)) rfl dJ1_indexOfChar_4cfef_16 ?_
  refine lv_iload hx hb dJ1_indexOfChar_4cfef_17 (lv_at hl 1 rfl) ?_
  refine lv_icmp_ne (tgt := 25) hx hb dJ1_indexOfChar_4cfef_19 (by decide) (fun c_2 => ?_) (fun c_2 => ?_)
  · refine lv_iinc (v := 1) (lv' := [(5, .int 1), (4, .int ch.toInt8.toInt32), (0, .ref va), (1, .int ch), (2, .int 0), (3, .int 5)]) hx hb dJ1_indexOfChar_4cfef_25 hl (k := 0) rfl (by decide) (by decide) rfl (fun ls hl => ?_)
    refine lv_goto (tgt := 7) hx hb dJ1_indexOfChar_4cfef_28 (by decide) ?_
    refine lv_iload hx hb dJ1_indexOfChar_4cfef_7 (lv_at hl 0 rfl) ?_
    refine lv_iload_n hx hb dJ1_indexOfChar_4cfef_9 rfl (lv_at hl 5 rfl) ?_
    refine lv_icmp_ge (tgt := 31) hx hb dJ1_indexOfChar_4cfef_10 (by decide) (fun c_3 => absurd c_3 (by decide)) (fun c_3 => ?_)
    refine lv_aload_n hx hb dJ1_indexOfChar_4cfef_13 rfl (lv_at hl 2 rfl) ?_
    refine lv_iload hx hb dJ1_indexOfChar_4cfef_14 (lv_at hl 0 rfl) ?_
    refine va_tb (v := .int 114) hx hb hG.2.2.2.2.2.1 va_S.rf (vp_in_nI (n := 1) (by decide) (by decide)) rfl dJ1_indexOfChar_4cfef_16 ?_
    refine lv_iload hx hb dJ1_indexOfChar_4cfef_17 (lv_at hl 1 rfl) ?_
    refine lv_icmp_ne (tgt := 25) hx hb dJ1_indexOfChar_4cfef_19 (by decide) (fun c_4 => ?_) (fun c_4 => ?_)
    · refine lv_iinc (v := 2) (lv' := [(5, .int 2), (4, .int ch.toInt8.toInt32), (0, .ref va), (1, .int ch), (2, .int 0), (3, .int 5)]) hx hb dJ1_indexOfChar_4cfef_25 hl (k := 0) rfl (by decide) (by decide) rfl (fun ls hl => ?_)
      refine lv_goto (tgt := 7) hx hb dJ1_indexOfChar_4cfef_28 (by decide) ?_
      refine lv_iload hx hb dJ1_indexOfChar_4cfef_7 (lv_at hl 0 rfl) ?_
      refine lv_iload_n hx hb dJ1_indexOfChar_4cfef_9 rfl (lv_at hl 5 rfl) ?_
      refine lv_icmp_ge (tgt := 31) hx hb dJ1_indexOfChar_4cfef_10 (by decide) (fun c_5 => absurd c_5 (by decide)) (fun c_5 => ?_)
      refine lv_aload_n hx hb dJ1_indexOfChar_4cfef_13 rfl (lv_at hl 2 rfl) ?_
      refine lv_iload hx hb dJ1_indexOfChar_4cfef_14 (lv_at hl 0 rfl) ?_
      refine va_tb (v := .int 111) hx hb hG.2.2.2.2.2.1 va_S.rf (vp_in_nI (n := 2) (by decide) (by decide)) rfl dJ1_indexOfChar_4cfef_16 ?_
      refine lv_iload hx hb dJ1_indexOfChar_4cfef_17 (lv_at hl 1 rfl) ?_
      refine lv_icmp_ne (tgt := 25) hx hb dJ1_indexOfChar_4cfef_19 (by decide) (fun c_6 => ?_) (fun c_6 => ?_)
      · refine lv_iinc (v := 3) (lv' := [(5, .int 3), (4, .int ch.toInt8.toInt32), (0, .ref va), (1, .int ch), (2, .int 0), (3, .int 5)]) hx hb dJ1_indexOfChar_4cfef_25 hl (k := 0) rfl (by decide) (by decide) rfl (fun ls hl => ?_)
        refine lv_goto (tgt := 7) hx hb dJ1_indexOfChar_4cfef_28 (by decide) ?_
        refine lv_iload hx hb dJ1_indexOfChar_4cfef_7 (lv_at hl 0 rfl) ?_
        refine lv_iload_n hx hb dJ1_indexOfChar_4cfef_9 rfl (lv_at hl 5 rfl) ?_
        refine lv_icmp_ge (tgt := 31) hx hb dJ1_indexOfChar_4cfef_10 (by decide) (fun c_7 => absurd c_7 (by decide)) (fun c_7 => ?_)
        refine lv_aload_n hx hb dJ1_indexOfChar_4cfef_13 rfl (lv_at hl 2 rfl) ?_
        refine lv_iload hx hb dJ1_indexOfChar_4cfef_14 (lv_at hl 0 rfl) ?_
        refine va_tb (v := .int 119) hx hb hG.2.2.2.2.2.1 va_S.rf (vp_in_nI (n := 3) (by decide) (by decide)) rfl dJ1_indexOfChar_4cfef_16 ?_
        refine lv_iload hx hb dJ1_indexOfChar_4cfef_17 (lv_at hl 1 rfl) ?_
        refine lv_icmp_ne (tgt := 25) hx hb dJ1_indexOfChar_4cfef_19 (by decide) (fun c_8 => ?_) (fun c_8 => ?_)
        · refine lv_iinc (v := 4) (lv' := [(5, .int 4), (4, .int ch.toInt8.toInt32), (0, .ref va), (1, .int ch), (2, .int 0), (3, .int 5)]) hx hb dJ1_indexOfChar_4cfef_25 hl (k := 0) rfl (by decide) (by decide) rfl (fun ls hl => ?_)
          refine lv_goto (tgt := 7) hx hb dJ1_indexOfChar_4cfef_28 (by decide) ?_
          refine lv_iload hx hb dJ1_indexOfChar_4cfef_7 (lv_at hl 0 rfl) ?_
          refine lv_iload_n hx hb dJ1_indexOfChar_4cfef_9 rfl (lv_at hl 5 rfl) ?_
          refine lv_icmp_ge (tgt := 31) hx hb dJ1_indexOfChar_4cfef_10 (by decide) (fun c_9 => absurd c_9 (by decide)) (fun c_9 => ?_)
          refine lv_aload_n hx hb dJ1_indexOfChar_4cfef_13 rfl (lv_at hl 2 rfl) ?_
          refine lv_iload hx hb dJ1_indexOfChar_4cfef_14 (lv_at hl 0 rfl) ?_
          refine va_tb (v := .int 109) hx hb hG.2.2.2.2.2.1 va_S.rf (vp_in_nI (n := 4) (by decide) (by decide)) rfl dJ1_indexOfChar_4cfef_16 ?_
          refine lv_iload hx hb dJ1_indexOfChar_4cfef_17 (lv_at hl 1 rfl) ?_
          refine lv_icmp_ne (tgt := 25) hx hb dJ1_indexOfChar_4cfef_19 (by decide) (fun c_10 => ?_) (fun c_10 => ?_)
          · refine lv_iinc (v := 5) (lv' := [(5, .int 5), (4, .int ch.toInt8.toInt32), (0, .ref va), (1, .int ch), (2, .int 0), (3, .int 5)]) hx hb dJ1_indexOfChar_4cfef_25 hl (k := 0) rfl (by decide) (by decide) rfl (fun ls hl => ?_)
            refine lv_goto (tgt := 7) hx hb dJ1_indexOfChar_4cfef_28 (by decide) ?_
            refine lv_iload hx hb dJ1_indexOfChar_4cfef_7 (lv_at hl 0 rfl) ?_
            refine lv_iload_n hx hb dJ1_indexOfChar_4cfef_9 rfl (lv_at hl 5 rfl) ?_
            refine lv_icmp_ge (tgt := 31) hx hb dJ1_indexOfChar_4cfef_10 (by decide) (fun c_11 => ?_) (fun c_11 => absurd c_11 (by decide))
            refine lv_iconst (v := (-1)) hx hb dJ1_indexOfChar_4cfef_31 (by decide) ?_
            have eG : f_J1_indexOfChar_4cfef ch = (-1) := (if_neg c_2).trans ((if_neg c_4).trans ((if_neg c_6).trans ((if_neg c_8).trans (if_neg c_10))))
            exact retRi hx hb hr hlocks eG.symm dJ1_indexOfChar_4cfef_32
          · refine lv_iload hx hb dJ1_indexOfChar_4cfef_22 (lv_at hl 0 rfl) ?_
            have eG : f_J1_indexOfChar_4cfef ch = 4 := (if_neg c_2).trans ((if_neg c_4).trans ((if_neg c_6).trans ((if_neg c_8).trans (if_pos c_10))))
            exact retRi hx hb hr hlocks eG.symm dJ1_indexOfChar_4cfef_24
        · refine lv_iload hx hb dJ1_indexOfChar_4cfef_22 (lv_at hl 0 rfl) ?_
          have eG : f_J1_indexOfChar_4cfef ch = 3 := (if_neg c_2).trans ((if_neg c_4).trans ((if_neg c_6).trans (if_pos c_8)))
          exact retRi hx hb hr hlocks eG.symm dJ1_indexOfChar_4cfef_24
      · refine lv_iload hx hb dJ1_indexOfChar_4cfef_22 (lv_at hl 0 rfl) ?_
        have eG : f_J1_indexOfChar_4cfef ch = 2 := (if_neg c_2).trans ((if_neg c_4).trans (if_pos c_6))
        exact retRi hx hb hr hlocks eG.symm dJ1_indexOfChar_4cfef_24
    · refine lv_iload hx hb dJ1_indexOfChar_4cfef_22 (lv_at hl 0 rfl) ?_
      have eG : f_J1_indexOfChar_4cfef ch = 1 := (if_neg c_2).trans (if_pos c_4)
      exact retRi hx hb hr hlocks eG.symm dJ1_indexOfChar_4cfef_24
  · refine lv_iload hx hb dJ1_indexOfChar_4cfef_22 (lv_at hl 0 rfl) ?_
    have eG : f_J1_indexOfChar_4cfef ch = 0 := if_pos c_2
    exact retRi hx hb hr hlocks eG.symm dJ1_indexOfChar_4cfef_24
def f_J1_indexOf_4cfef (ch : Int32) : Int32 := if (f_J1_canEncode_9a6ad ch) = 0 then (-1) else (f_J1_indexOfChar_4cfef ch)
set_option maxHeartbeats 4000000 in
set_option maxRecDepth 100000 in
theorem c_J1_indexOf_4cfef (l : Launch) (D : va_G) (cB cC cI : ClassId) (ka va : Nat) (ch : Int32)  : Met l yJ1_indexOf_4cfef wsJ1_indexOf_4cfef ({ frames := 1, cells := 0, slots := 0, locals := 25 }) (gPrS D cB cC cI ka va [.ref va, .int ch, .int 0, .int 5] []) (vp_Si (fun r => r = (f_J1_indexOf_4cfef ch))) 0 0 (fun _ => False) := by
  refine metRS (cc := cJ1_indexOf_4cfef) (maxL := 4) (ret := (some .int)) RJ1 rfl (by decide) rfl (Nat.le_of_ble_eq_true rfl) ?_
  intro p e s m below meth c hx hb hr hml hown hts hlocks hP hK hG ls hl
  have hl : lv_has ls 4 [(0, .ref va), (1, .int ch), (2, .int 0), (3, .int 5)] := hl
  refine lv_iload_n hx hb dJ1_indexOf_4cfef_0 rfl (lv_at hl 1 rfl) ?_
  refine rcSi (As := [.int ch]) (rest := []) ⟨hx, hb, hml, hown, hts⟩ (c_J1_canEncode_9a6ad l D cB cC cI ch) (va_cwS 1 hts gJ1_indexOf_4cfef_J1_canEncode_9a6ad rfl rfl rfl (by decide +kernel) ⟨Nat.le_of_ble_eq_true rfl, Nat.le_of_ble_eq_true rfl⟩) hK hP [] rfl rfl hl.1 rfl (Nat.le_of_ble_eq_true rfl) dJ1_indexOf_4cfef_1 ⟨Nat.zero_le _, Nat.zero_le _⟩ ?_
  refine lv_if_ne (tgt := 9) hx hb dJ1_indexOf_4cfef_4 (by decide) (fun c_1 => ?_) (fun c_1 => ?_)
  · refine lv_iload_n hx hb dJ1_indexOf_4cfef_9 rfl (lv_at hl 2 rfl) ?_
    refine lv_iconst (v := 0) hx hb dJ1_indexOf_4cfef_10 (by decide) ?_
    refine va_mmax hx hb (hml.trans hl.1.symm) hown (hts (.methodLink RJ1 92 Lib.Math.max.name) (by decide +kernel)) (hts (.static Lib.Math.max.name) (by decide +kernel)) (hts (.initialized "java/lang/Math") (by decide +kernel)) (hts (.code Lib.Math.max.name Lib.Math.max.code 2 (some .int)) (by decide +kernel)) (Nat.le_of_ble_eq_true rfl) (Nat.le_of_ble_eq_true rfl) (Nat.zero_le _) (Nat.zero_le _) dJ1_indexOf_4cfef_11 ?_
    refine my_top (y := 0) (by decide) ?_
    refine lv_istore_n (lv' := [(2, .int 0), (0, .ref va), (1, .int ch), (3, .int 5)]) hx hb dJ1_indexOf_4cfef_14 rfl hl (by decide) rfl (fun ls hl => ?_)
    refine lv_iload_n hx hb dJ1_indexOf_4cfef_15 rfl (lv_at hl 3 rfl) ?_
    refine lv_aload_n hx hb dJ1_indexOf_4cfef_16 rfl (lv_at hl 1 rfl) ?_
    refine va_tlen (v := 5) hx hb hG.2.2.2.2.2.1 va_S.rf rfl dJ1_indexOf_4cfef_17 ?_
    refine va_mmin hx hb (hml.trans hl.1.symm) hown (hts (.methodLink RJ1 38 Lib.Math.min.name) (by decide +kernel)) (hts (.static Lib.Math.min.name) (by decide +kernel)) (hts (.initialized "java/lang/Math") (by decide +kernel)) (hts (.code Lib.Math.min.name Lib.Math.min.code 2 (some .int)) (by decide +kernel)) (Nat.le_of_ble_eq_true rfl) (Nat.le_of_ble_eq_true rfl) (Nat.zero_le _) (Nat.zero_le _) dJ1_indexOf_4cfef_18 ?_
    refine my_top (y := 5) (by decide) ?_
    refine lv_istore_n (lv' := [(3, .int 5), (2, .int 0), (0, .ref va), (1, .int ch)]) hx hb dJ1_indexOf_4cfef_21 rfl hl (by decide) rfl (fun ls hl => ?_)
    refine lv_iload_n hx hb dJ1_indexOf_4cfef_22 rfl (lv_at hl 1 rfl) ?_
    refine lv_iload_n hx hb dJ1_indexOf_4cfef_23 rfl (lv_at hl 0 rfl) ?_
    refine lv_icmp_lt (tgt := 29) hx hb dJ1_indexOf_4cfef_24 (by decide) (fun c_2 => ?_) (fun c_2 => absurd c_2 (by decide))
    refine lv_aload_n hx hb dJ1_indexOf_4cfef_29 rfl (lv_at hl 2 rfl) ?_
    refine lv_iload_n hx hb dJ1_indexOf_4cfef_30 rfl (lv_at hl 3 rfl) ?_
    refine lv_iload_n hx hb dJ1_indexOf_4cfef_31 rfl (lv_at hl 1 rfl) ?_
    refine lv_iload_n hx hb dJ1_indexOf_4cfef_32 rfl (lv_at hl 0 rfl) ?_
    refine rcSiS (As := [.ref va, .int ch, .int 0, .int 5]) (rest := []) ⟨hx, hb, hml, hown, hts⟩ (c_J1_indexOfChar_4cfef l D cB cC cI ka va ch) (va_cwS 4 hts gJ1_indexOf_4cfef_J1_indexOfChar_4cfef rfl rfl rfl (by decide +kernel) ⟨Nat.le_of_ble_eq_true rfl, Nat.le_of_ble_eq_true rfl⟩) hG hK hP [] rfl rfl hl.1 rfl (Nat.le_of_ble_eq_true rfl) dJ1_indexOf_4cfef_33 ⟨Nat.zero_le _, Nat.zero_le _⟩ ?_
    have eG : f_J1_indexOf_4cfef ch = (f_J1_indexOfChar_4cfef ch) := if_neg c_1
    exact retRi hx hb hr hlocks eG.symm dJ1_indexOf_4cfef_36
  · refine lv_iconst (v := (-1)) hx hb dJ1_indexOf_4cfef_7 (by decide) ?_
    have eG : f_J1_indexOf_4cfef ch = (-1) := if_pos c_1
    exact retRi hx hb hr hlocks eG.symm dJ1_indexOf_4cfef_8
set_option maxHeartbeats 4000000 in
set_option maxRecDepth 100000 in
theorem c_J0_indexOf_7cf53 (l : Launch) (D : va_G) (cB cC cI : ClassId) (ka va : Nat) (ch : Int32)  : Met l yJ0_indexOf_7cf53 wsJ0_indexOf_7cf53 ({ frames := 2, cells := 0, slots := 0, locals := 48 }) (gPrS D cB cC cI ka va [.ref ka, .int ch, .int 0] []) (vp_Si (fun r => r = (f_J1_indexOf_4cfef ch))) 0 0 (fun _ => False) := by
  refine metRS (cc := cJ0_indexOf_7cf53) (maxL := 3) (ret := (some .int)) RJ0 rfl (by decide) rfl (Nat.le_of_ble_eq_true rfl) ?_
  intro p e s m below meth c hx hb hr hml hown hts hlocks hP hK hG ls hl
  have fk9 := hts (.fieldLink RJ0 9 "java/lang/String" "value" "[B") (by decide +kernel)
  have hl : lv_has ls 3 [(0, .ref ka), (1, .int ch), (2, .int 0)] := hl
  refine lv_aload_n hx hb dJ0_indexOf_7cf53_0 rfl (lv_at hl 0 rfl) ?_
  refine rcTiS (As := []) (rest := []) ⟨hx, hb, hml, hown, hts⟩ (c_J0_isLatin1_aae02 l D cB cC cI ka va ) (cwV 0 hts gJ0_indexOf_7cf53_J0_isLatin1_aae02 rfl rfl rfl (by decide +kernel) ⟨Nat.le_of_ble_eq_true rfl, Nat.le_of_ble_eq_true rfl⟩) hG hK hP [] rfl rfl hl.1 rfl (Nat.le_of_ble_eq_true rfl) dJ0_indexOf_7cf53_1 ⟨Nat.zero_le _, Nat.zero_le _⟩ ?_
  refine lv_if_eq (tgt := 23) hx hb dJ0_indexOf_7cf53_4 (by decide) (fun c_1 => absurd c_1 (by decide)) (fun c_1 => ?_)
  refine lv_aload_n hx hb dJ0_indexOf_7cf53_7 rfl (lv_at hl 0 rfl) ?_
  refine vk_getf hx hb hG.2.2.2.2.1 va_S.rf hown fk9 (fun _ h9 => h9) dJ0_indexOf_7cf53_8 ?_
  refine lv_iload_n hx hb dJ0_indexOf_7cf53_11 rfl (lv_at hl 1 rfl) ?_
  refine lv_iload_n hx hb dJ0_indexOf_7cf53_12 rfl (lv_at hl 2 rfl) ?_
  refine lv_aload_n hx hb dJ0_indexOf_7cf53_13 rfl (lv_at hl 0 rfl) ?_
  refine rcTiS (As := []) (rest := [.int 0, .int ch, .ref va]) ⟨hx, hb, hml, hown, hts⟩ (c_J0_length_8abf5 l D cB cC cI ka va ) (cwV 0 hts gJ0_indexOf_7cf53_J0_length_8abf5 rfl rfl rfl (by decide +kernel) ⟨Nat.le_of_ble_eq_true rfl, Nat.le_of_ble_eq_true rfl⟩) hG hK hP [] rfl rfl hl.1 rfl (Nat.le_of_ble_eq_true rfl) dJ0_indexOf_7cf53_14 ⟨Nat.zero_le _, Nat.zero_le _⟩ ?_
  refine rcSiS (As := [.ref va, .int ch, .int 0, .int 5]) (rest := []) ⟨hx, hb, hml, hown, hts⟩ (c_J1_indexOf_4cfef l D cB cC cI ka va ch) (va_cwS 4 hts gJ0_indexOf_7cf53_J1_indexOf_4cfef rfl rfl rfl (by decide +kernel) ⟨Nat.le_of_ble_eq_true rfl, Nat.le_of_ble_eq_true rfl⟩) hG hK hP [] rfl rfl hl.1 rfl (Nat.le_of_ble_eq_true rfl) dJ0_indexOf_7cf53_17 ⟨Nat.zero_le _, Nat.zero_le _⟩ ?_
  refine lv_goto (tgt := 36) hx hb dJ0_indexOf_7cf53_20 (by decide) ?_
  exact retRi hx hb hr hlocks rfl dJ0_indexOf_7cf53_36
set_option maxHeartbeats 4000000 in
set_option maxRecDepth 100000 in
theorem c_J0_indexOf_0f7a4 (l : Launch) (D : va_G) (cB cC cI : ClassId) (ka va : Nat) (ch : Int32)  : Met l yJ0_indexOf_0f7a4 wsJ0_indexOf_0f7a4 ({ frames := 3, cells := 0, slots := 0, locals := 70 }) (gPrS D cB cC cI ka va [.ref ka, .int ch] []) (vp_Si (fun r => r = (f_J1_indexOf_4cfef ch))) 0 0 (fun _ => False) := by
  refine metRS (cc := cJ0_indexOf_0f7a4) (maxL := 2) (ret := (some .int)) RJ0 rfl (by decide) rfl (Nat.le_of_ble_eq_true rfl) ?_
  intro p e s m below meth c hx hb hr hml hown hts hlocks hP hK hG ls hl
  have hl : lv_has ls 2 [(0, .ref ka), (1, .int ch)] := hl
  refine lv_aload_n hx hb dJ0_indexOf_0f7a4_0 rfl (lv_at hl 0 rfl) ?_
  refine lv_iload_n hx hb dJ0_indexOf_0f7a4_1 rfl (lv_at hl 1 rfl) ?_
  refine lv_iconst (v := 0) hx hb dJ0_indexOf_0f7a4_2 (by decide) ?_
  refine rcTiS (As := [.int ch, .int 0]) (rest := []) ⟨hx, hb, hml, hown, hts⟩ (c_J0_indexOf_7cf53 l D cB cC cI ka va ch) (cwV 2 hts gJ0_indexOf_0f7a4_J0_indexOf_7cf53 rfl rfl rfl (by decide +kernel) ⟨Nat.le_of_ble_eq_true rfl, Nat.le_of_ble_eq_true rfl⟩) hG hK hP [] rfl rfl hl.1 rfl (Nat.le_of_ble_eq_true rfl) dJ0_indexOf_0f7a4_3 ⟨Nat.zero_le _, Nat.zero_le _⟩ ?_
  exact retRi hx hb hr hlocks rfl dJ0_indexOf_0f7a4_6
def f_X3_isBetween (lt : Nat → Int32) (j : Nat) (u : Int32) (w : Int32) : Int32 := if (lt j) < u then 0 else if w < (lt j) then 0 else 1
set_option maxHeartbeats 4000000 in
set_option maxRecDepth 100000 in
theorem c_X3_isBetween (l : Launch) (D : va_G) (cB cC cI : ClassId) (ph : Nat) (p0 : Nat) (lt : Nat → Int32) (k : Nat) (b : Int32) (j : Nat) (u : Int32) (w : Int32) (hb18 : ix b j 18) : Met l yX3_isBetween wsX3_isBetween ({ frames := 0, cells := 0, slots := 0, locals := 0 }) (gPr D cB cC cI [.ref ph, .int b, .int u, .int w] [(ph, .inr (3, [.ref p0, .int (nI k)])), (p0, .inl (cC, 18, .inl lt))]) (vp_Si (fun r => r = (f_X3_isBetween lt j u w))) 0 0 (fun _ => False) := by
  refine metR (cc := cX3_isBetween) (maxL := 4) (ret := (some .boolean)) RX3 rfl (by decide) rfl (Nat.le_of_ble_eq_true rfl) ?_
  intro p e s m below meth c hx hb hr hml hown hts hlocks hP hK ls hl
  have iwX3 : ∀ w ∈ wsX30, w ∈ wsX3_isBetween := by decide +kernel
  have fk9 := hts (.fieldLink RX3 9 "BuyersWeights$Page" "letters" "[C") (by decide +kernel)
  have hl : lv_has ls 4 [(0, .ref ph), (1, .int b), (2, .int u), (3, .int w)] := hl
  refine lv_aload_n hx hb dX3_isBetween_0 rfl (lv_at hl 0 rfl) ?_
  refine va_get (D := D) (ci := 3) (v := .ref p0) (C := RX3) (T := TX3) (N := 2) hx hb hts iwX3 hown hK.1 hP 0 rfl rfl 0 (by decide) fk9 (fun _ h9 => h9) rfl dX3_isBetween_1 ?_
  refine lv_iload_n hx hb dX3_isBetween_4 rfl (lv_at hl 1 rfl) ?_
  refine my_cald hx hb hK hP 1 rfl (j := j) hb18 dX3_isBetween_5 ?_
  refine lv_iload_n hx hb dX3_isBetween_6 rfl (lv_at hl 2 rfl) ?_
  refine lv_icmp_lt (tgt := 24) hx hb dX3_isBetween_7 (by decide) (fun c_1 => ?_) (fun c_1 => ?_)
  · refine lv_iconst (v := 0) hx hb dX3_isBetween_24 (by decide) ?_
    have eG : f_X3_isBetween lt j u w = 0 := if_pos c_1
    exact retRz hx hb hr hlocks rfl eG.symm dX3_isBetween_25
  · refine lv_aload_n hx hb dX3_isBetween_10 rfl (lv_at hl 0 rfl) ?_
    refine va_get (D := D) (ci := 3) (v := .ref p0) (C := RX3) (T := TX3) (N := 2) hx hb hts iwX3 hown hK.1 hP 0 rfl rfl 0 (by decide) fk9 (fun _ h9 => h9) rfl dX3_isBetween_11 ?_
    refine lv_iload_n hx hb dX3_isBetween_14 rfl (lv_at hl 1 rfl) ?_
    refine my_cald hx hb hK hP 1 rfl (j := j) hb18 dX3_isBetween_15 ?_
    refine lv_iload_n hx hb dX3_isBetween_16 rfl (lv_at hl 3 rfl) ?_
    refine lv_icmp_gt (tgt := 24) hx hb dX3_isBetween_17 (by decide) (fun c_2 => ?_) (fun c_2 => ?_)
    · refine lv_iconst (v := 0) hx hb dX3_isBetween_24 (by decide) ?_
      have eG : f_X3_isBetween lt j u w = 0 := (if_neg c_1).trans (if_pos c_2)
      exact retRz hx hb hr hlocks rfl eG.symm dX3_isBetween_25
    · refine lv_iconst (v := 1) hx hb dX3_isBetween_20 (by decide) ?_
      refine lv_goto (tgt := 25) hx hb dX3_isBetween_21 (by decide) ?_
      have eG : f_X3_isBetween lt j u w = 1 := (if_neg c_1).trans (if_neg c_2)
      exact retRz hx hb hr hlocks rfl eG.symm dX3_isBetween_25
theorem nbB (lt : Nat → Int32) (j : Nat) (u w : Int32) : narrow .boolean (.int (f_X3_isBetween lt j u w)) = .int (f_X3_isBetween lt j u w) := nb01 (by unfold f_X3_isBetween; split; exact Or.inl rfl; split; exact Or.inl rfl; exact Or.inr rfl)
def f_X3_fitsHouses (lt : Nat → Int32) (q : Nat) : Int32 := if (nI (q % 4)) = 0 then (if (f_J1_indexOf_4cfef (lt q)) < 0 then 0 else 1) else if (nI (q % 4)) = 1 then (f_X3_isBetween lt q 48 57) else if (nI (q % 4)) = 2 then (f_X3_isBetween lt q 49 57) else if (lt q) = 44 then (if 4 ≤ ((nI (q / 4)) + 1) then 0 else 1) else if (lt q) = 59 then (if ((nI (q / 4)) + 1) < 2 then 0 else 1) else 0
set_option maxHeartbeats 4000000 in
set_option maxRecDepth 100000 in
theorem c_X3_fitsHouses (l : Launch) (D : va_G) (cB cC cI : ClassId) (ka va : Nat) (ph : Nat) (p0 : Nat) (lt : Nat → Int32) (k : Nat) (q : Nat) (hq : q < 18) : Met l yX3_fitsHouses wsX3_fitsHouses ({ frames := 4, cells := 0, slots := 0, locals := 91 }) (gPrS D cB cC cI ka va [.ref ph, .int (nI q)] [(ph, .inr (3, [.ref p0, .int (nI k)])), (p0, .inl (cC, 18, .inl lt))]) (vp_Si (fun r => r = (f_X3_fitsHouses lt q))) 0 0 (fun _ => False) := by
  refine metRS (cc := cX3_fitsHouses) (maxL := 4) (ret := (some .boolean)) RX3 rfl (by decide) rfl (Nat.le_of_ble_eq_true rfl) ?_
  intro p e s m below meth c hx hb hr hml hown hts hlocks hP hK hG ls hl
  have iwX3 : ∀ w ∈ wsX30, w ∈ wsX3_fitsHouses := by decide +kernel
  have fk9 := hts (.fieldLink RX3 9 "BuyersWeights$Page" "letters" "[C") (by decide +kernel)
  have hl : lv_has ls 4 [(0, .ref ph), (1, .int (nI q))] := hl
  refine lv_iload_n hx hb dX3_fitsHouses_0 rfl (lv_at hl 1 rfl) ?_
  refine lv_iconst (v := 4) hx hb dX3_fitsHouses_1 (by decide) ?_
  refine lv_irem hx hb dX3_fitsHouses_2 (by decide) ?_
  refine my_top (y := nI (q % 4)) (pk_rem (a := q) (d := 4) (by omega) (by decide) (by decide)) ?_
  refine lv_istore_n (lv' := [(2, .int (nI (q % 4))), (0, .ref ph), (1, .int (nI q))]) hx hb dX3_fitsHouses_3 rfl hl (by decide) rfl (fun ls hl => ?_)
  refine lv_iload_n hx hb dX3_fitsHouses_4 rfl (lv_at hl 0 rfl) ?_
  refine lv_if_ne (tgt := 28) hx hb dX3_fitsHouses_5 (by decide) (fun c_1 => ?_) (fun c_1 => ?_)
  · refine lv_iload_n hx hb dX3_fitsHouses_28 rfl (lv_at hl 0 rfl) ?_
    refine lv_iconst (v := 1) hx hb dX3_fitsHouses_29 (by decide) ?_
    refine lv_icmp_ne (tgt := 43) hx hb dX3_fitsHouses_30 (by decide) (fun c_2 => ?_) (fun c_2 => ?_)
    · refine lv_iload_n hx hb dX3_fitsHouses_43 rfl (lv_at hl 0 rfl) ?_
      refine lv_iconst (v := 2) hx hb dX3_fitsHouses_44 (by decide) ?_
      refine lv_icmp_ne (tgt := 58) hx hb dX3_fitsHouses_45 (by decide) (fun c_3 => ?_) (fun c_3 => ?_)
      · refine lv_iload_n hx hb dX3_fitsHouses_58 rfl (lv_at hl 2 rfl) ?_
        refine lv_iconst (v := 4) hx hb dX3_fitsHouses_59 (by decide) ?_
        refine lv_idiv hx hb dX3_fitsHouses_60 (by decide) ?_
        refine my_top (y := nI (q / 4)) (pk_div (a := q) (d := 4) (by omega) (by decide) (by decide)) ?_
        refine lv_iconst (v := 1) hx hb dX3_fitsHouses_61 (by decide) ?_
        refine lv_iadd hx hb dX3_fitsHouses_62 ?_
        refine lv_istore_n (lv' := [(3, .int ((nI (q / 4)) + 1)), (2, .int (nI (q % 4))), (0, .ref ph), (1, .int (nI q))]) hx hb dX3_fitsHouses_63 rfl hl (by decide) rfl (fun ls hl => ?_)
        refine lv_aload_n hx hb dX3_fitsHouses_64 rfl (lv_at hl 2 rfl) ?_
        refine va_get (D := D) (ci := 3) (v := .ref p0) (C := RX3) (T := TX3) (N := 2) hx hb hts iwX3 hown hK.1 hP 0 rfl rfl 0 (by decide) fk9 (fun _ h9 => h9) rfl dX3_fitsHouses_65 ?_
        refine lv_iload_n hx hb dX3_fitsHouses_68 rfl (lv_at hl 3 rfl) ?_
        refine my_cald hx hb hK hP 1 rfl (j := q) (ix_nI hq (by decide)) dX3_fitsHouses_69 ?_
        refine lv_bipush (v := 44) hx hb dX3_fitsHouses_70 (by decide) ?_
        refine lv_icmp_ne (tgt := 88) hx hb dX3_fitsHouses_72 (by decide) (fun c_4 => ?_) (fun c_4 => ?_)
        · refine lv_aload_n hx hb dX3_fitsHouses_88 rfl (lv_at hl 2 rfl) ?_
          refine va_get (D := D) (ci := 3) (v := .ref p0) (C := RX3) (T := TX3) (N := 2) hx hb hts iwX3 hown hK.1 hP 0 rfl rfl 0 (by decide) fk9 (fun _ h9 => h9) rfl dX3_fitsHouses_89 ?_
          refine lv_iload_n hx hb dX3_fitsHouses_92 rfl (lv_at hl 3 rfl) ?_
          refine my_cald hx hb hK hP 1 rfl (j := q) (ix_nI hq (by decide)) dX3_fitsHouses_93 ?_
          refine lv_bipush (v := 59) hx hb dX3_fitsHouses_94 (by decide) ?_
          refine lv_icmp_ne (tgt := 108) hx hb dX3_fitsHouses_96 (by decide) (fun c_5 => ?_) (fun c_5 => ?_)
          · refine lv_iconst (v := 0) hx hb dX3_fitsHouses_108 (by decide) ?_
            have eG : f_X3_fitsHouses lt q = 0 := (if_neg c_1).trans ((if_neg c_2).trans ((if_neg c_3).trans ((if_neg c_4).trans (if_neg c_5))))
            exact retRz hx hb hr hlocks rfl eG.symm dX3_fitsHouses_109
          · refine lv_iload_n hx hb dX3_fitsHouses_99 rfl (lv_at hl 0 rfl) ?_
            refine lv_iconst (v := 2) hx hb dX3_fitsHouses_100 (by decide) ?_
            refine lv_icmp_lt (tgt := 108) hx hb dX3_fitsHouses_101 (by decide) (fun c_6 => ?_) (fun c_6 => ?_)
            · refine lv_iconst (v := 0) hx hb dX3_fitsHouses_108 (by decide) ?_
              have eG : f_X3_fitsHouses lt q = 0 := (if_neg c_1).trans ((if_neg c_2).trans ((if_neg c_3).trans ((if_neg c_4).trans ((if_pos c_5).trans (if_pos c_6)))))
              exact retRz hx hb hr hlocks rfl eG.symm dX3_fitsHouses_109
            · refine lv_iconst (v := 1) hx hb dX3_fitsHouses_104 (by decide) ?_
              refine lv_goto (tgt := 109) hx hb dX3_fitsHouses_105 (by decide) ?_
              have eG : f_X3_fitsHouses lt q = 1 := (if_neg c_1).trans ((if_neg c_2).trans ((if_neg c_3).trans ((if_neg c_4).trans ((if_pos c_5).trans (if_neg c_6)))))
              exact retRz hx hb hr hlocks rfl eG.symm dX3_fitsHouses_109
        · refine lv_iload_n hx hb dX3_fitsHouses_75 rfl (lv_at hl 0 rfl) ?_
          refine lv_iconst (v := 4) hx hb dX3_fitsHouses_76 (by decide) ?_
          refine lv_icmp_ge (tgt := 84) hx hb dX3_fitsHouses_77 (by decide) (fun c_7 => ?_) (fun c_7 => ?_)
          · refine lv_iconst (v := 0) hx hb dX3_fitsHouses_84 (by decide) ?_
            refine lv_goto (tgt := 109) hx hb dX3_fitsHouses_85 (by decide) ?_
            have eG : f_X3_fitsHouses lt q = 0 := (if_neg c_1).trans ((if_neg c_2).trans ((if_neg c_3).trans ((if_pos c_4).trans (if_pos c_7))))
            exact retRz hx hb hr hlocks rfl eG.symm dX3_fitsHouses_109
          · refine lv_iconst (v := 1) hx hb dX3_fitsHouses_80 (by decide) ?_
            refine lv_goto (tgt := 109) hx hb dX3_fitsHouses_81 (by decide) ?_
            have eG : f_X3_fitsHouses lt q = 1 := (if_neg c_1).trans ((if_neg c_2).trans ((if_neg c_3).trans ((if_pos c_4).trans (if_neg c_7))))
            exact retRz hx hb hr hlocks rfl eG.symm dX3_fitsHouses_109
      · refine lv_aload_n hx hb dX3_fitsHouses_48 rfl (lv_at hl 1 rfl) ?_
        refine lv_iload_n hx hb dX3_fitsHouses_49 rfl (lv_at hl 2 rfl) ?_
        refine lv_bipush (v := 49) hx hb dX3_fitsHouses_50 (by decide) ?_
        refine lv_bipush (v := 57) hx hb dX3_fitsHouses_52 (by decide) ?_
        refine rcVi (As := [.int (nI q), .int 49, .int 57]) (rest := []) ⟨hx, hb, hml, hown, hts⟩ (c_X3_isBetween l D cB cC cI ph p0 lt k (nI q) q 49 57 (ix_nI hq (by decide))) (cwV 3 hts gX3_fitsHouses_X3_isBetween rfl rfl rfl (by decide +kernel) ⟨Nat.le_of_ble_eq_true rfl, Nat.le_of_ble_eq_true rfl⟩) hK hP [0, 1] rfl rfl 0 rfl rfl hl.1 rfl (Nat.le_of_ble_eq_true rfl) dX3_fitsHouses_54 ⟨Nat.zero_le _, Nat.zero_le _⟩ ?_
        have eG : f_X3_fitsHouses lt q = (f_X3_isBetween lt q 49 57) := (if_neg c_1).trans ((if_neg c_2).trans (if_pos c_3))
        exact retRz hx hb hr hlocks (nbB lt q 49 57) eG.symm dX3_fitsHouses_57
    · refine lv_aload_n hx hb dX3_fitsHouses_33 rfl (lv_at hl 1 rfl) ?_
      refine lv_iload_n hx hb dX3_fitsHouses_34 rfl (lv_at hl 2 rfl) ?_
      refine lv_bipush (v := 48) hx hb dX3_fitsHouses_35 (by decide) ?_
      refine lv_bipush (v := 57) hx hb dX3_fitsHouses_37 (by decide) ?_
      refine rcVi (As := [.int (nI q), .int 48, .int 57]) (rest := []) ⟨hx, hb, hml, hown, hts⟩ (c_X3_isBetween l D cB cC cI ph p0 lt k (nI q) q 48 57 (ix_nI hq (by decide))) (cwV 3 hts gX3_fitsHouses_X3_isBetween rfl rfl rfl (by decide +kernel) ⟨Nat.le_of_ble_eq_true rfl, Nat.le_of_ble_eq_true rfl⟩) hK hP [0, 1] rfl rfl 0 rfl rfl hl.1 rfl (Nat.le_of_ble_eq_true rfl) dX3_fitsHouses_39 ⟨Nat.zero_le _, Nat.zero_le _⟩ ?_
      have eG : f_X3_fitsHouses lt q = (f_X3_isBetween lt q 48 57) := (if_neg c_1).trans (if_pos c_2)
      exact retRz hx hb hr hlocks (nbB lt q 48 57) eG.symm dX3_fitsHouses_42
  · refine va_ldcS hx hb hown hG.1 dX3_fitsHouses_8 ?_
    refine lv_aload_n hx hb dX3_fitsHouses_10 rfl (lv_at hl 1 rfl) ?_
    refine va_get (D := D) (ci := 3) (v := .ref p0) (C := RX3) (T := TX3) (N := 2) hx hb hts iwX3 hown hK.1 hP 0 rfl rfl 0 (by decide) fk9 (fun _ h9 => h9) rfl dX3_fitsHouses_11 ?_
    refine lv_iload_n hx hb dX3_fitsHouses_14 rfl (lv_at hl 2 rfl) ?_
    refine my_cald hx hb hK hP 1 rfl (j := q) (ix_nI hq (by decide)) dX3_fitsHouses_15 ?_
    refine rcTiS (As := [.int (lt q)]) (rest := []) ⟨hx, hb, hml, hown, hts⟩ (c_J0_indexOf_0f7a4 l D cB cC cI ka va (lt q)) (cwV 1 hts gX3_fitsHouses_J0_indexOf_0f7a4 rfl rfl rfl (by decide +kernel) ⟨Nat.le_of_ble_eq_true rfl, Nat.le_of_ble_eq_true rfl⟩) hG hK hP [] rfl rfl hl.1 rfl (Nat.le_of_ble_eq_true rfl) dX3_fitsHouses_16 ⟨Nat.zero_le _, Nat.zero_le _⟩ ?_
    refine lv_if_lt (tgt := 26) hx hb dX3_fitsHouses_19 (by decide) (fun c_8 => ?_) (fun c_8 => ?_)
    · refine lv_iconst (v := 0) hx hb dX3_fitsHouses_26 (by decide) ?_
      have eG : f_X3_fitsHouses lt q = 0 := (if_pos c_1).trans (if_pos c_8)
      exact retRz hx hb hr hlocks rfl eG.symm dX3_fitsHouses_27
    · refine lv_iconst (v := 1) hx hb dX3_fitsHouses_22 (by decide) ?_
      refine lv_goto (tgt := 27) hx hb dX3_fitsHouses_23 (by decide) ?_
      have eG : f_X3_fitsHouses lt q = 1 := (if_pos c_1).trans (if_neg c_8)
      exact retRz hx hb hr hlocks rfl eG.symm dX3_fitsHouses_27
/-- whether the letter at j fits, behind a semicolon at sc (or none) -/
def ffS (lt : Nat → Int32) (j : Nat) (sc : Int32) : Int32 := if sc = -1 then f_X3_fitsHouses lt j else if nI j = sc + 1 then (if f_X3_isBetween lt j 48 51 = 0 then 0 else 1) else 0
def ffL (lt : Nat → Int32) : Nat → Nat → Int32 → Int32
  | 0, j, _ => nI j
  | f + 1, j, sc => if ffS lt j sc = 0 then nI j else ffL lt f (j + 1) (if lt j = 59 then nI j else sc)
set_option maxHeartbeats 4000000 in
set_option maxRecDepth 100000 in
theorem c_X3_firstFault (l : Launch) (D : va_G) (cB cC cI : ClassId) (ka va : Nat) (ph : Nat) (p0 : Nat) (lt : Nat → Int32) (k : Nat) (hk : k ≤ 18) : Met l yX3_firstFault wsX3_firstFault ({ frames := 5, cells := 0, slots := 0, locals := 114 }) (gPrS D cB cC cI ka va [.ref ph] [(ph, .inr (3, [.ref p0, .int (nI k)])), (p0, .inl (cC, 18, .inl lt))]) (vp_Si (fun r => r = ffL lt k 0 (-1))) 0 0 (fun _ => False) := by
  refine metRS (cc := cX3_firstFault) (maxL := 4) (ret := (some .int)) RX3 rfl (by decide) rfl (Nat.le_of_ble_eq_true rfl) ?_
  intro p e s m below meth c hx hb hr hml hown hts hlocks hP hK hG ls hl
  have iwX3 : ∀ w ∈ wsX30, w ∈ wsX3_firstFault := by decide +kernel
  have fk9 := hts (.fieldLink RX3 9 "BuyersWeights$Page" "letters" "[C") (by decide +kernel)
  have fk15 := hts (.fieldLink RX3 15 "BuyersWeights$Page" "length" "I") (by decide +kernel)
  have cut_4 : ∀ (fu : Nat) (j : Nat) (sc : Int32), j ≤ k → ffL lt (k - j) j sc = ffL lt k 0 (-1) → k - j < fu → ∀ (ls : Array Slot), lv_has ls 4 [(0, .ref ph), (2, .int (nI j)), (1, .int sc)] → W p l e (headSpec wsX3_firstFault ({ frames := 5, cells := 0, slots := 0, locals := 114 })).room s m ([.ref ph] : List Value).toArray below meth c s.heap [] 0 0 (MQ below (vp_Si (fun r => r = ffL lt k 0 (-1))) ([.ref ph] : List Value).toArray s 0 0 (fun _ => False)) (F0 m 4 ls []) := by
    intro fu
    induction fu with
    | zero => intro j sc hj he hfu; exact absurd hfu (Nat.not_lt_zero _)
    | succ fu ih_4 =>
      intro j sc hj he hfu ls hl
      have cut_49 : ∀ (v : Int32), j < k → v = ffS lt j sc → ∀ (ls : Array Slot), lv_has ls 4 [(0, .ref ph), (1, .int sc), (2, .int (nI j))] → W p l e (headSpec wsX3_firstFault ({ frames := 5, cells := 0, slots := 0, locals := 114 })).room s m ([.ref ph] : List Value).toArray below meth c s.heap [] 0 0 (MQ below (vp_Si (fun r => r = ffL lt k 0 (-1))) ([.ref ph] : List Value).toArray s 0 0 (fun _ => False)) (F0 m 49 ls [.int v]) := by
        intro v hlt hv ls hl
        refine lv_istore_n (lv' := [(3, .int v), (0, .ref ph), (1, .int sc), (2, .int (nI j))]) hx hb dX3_firstFault_49 rfl hl (by decide) rfl (fun ls hl => ?_)
        refine lv_iload_n hx hb dX3_firstFault_50 rfl (lv_at hl 0 rfl) ?_
        refine lv_if_ne (tgt := 56) hx hb dX3_firstFault_51 (by decide) (fun c_1 => ?_) (fun c_1 => ?_)
        · have hz : ¬ ffS lt j sc = 0 := hv ▸ c_1
          have hu : ffL lt (k - j) j sc = ffL lt (k - (j + 1)) (j + 1) (if lt j = 59 then nI j else sc) := by
            rw [show k - j = (k - (j + 1)) + 1 from by omega]
            exact if_neg hz
          refine lv_aload_n hx hb dX3_firstFault_56 rfl (lv_at hl 1 rfl) ?_
          refine va_get (D := D) (ci := 3) (v := .ref p0) (C := RX3) (T := TX3) (N := 2) hx hb hts iwX3 hown hK.1 hP 0 rfl rfl 0 (by decide) fk9 (fun _ h9 => h9) rfl dX3_firstFault_57 ?_
          refine lv_iload_n hx hb dX3_firstFault_60 rfl (lv_at hl 3 rfl) ?_
          refine my_cald hx hb hK hP 1 rfl (j := j) (ix_nI (by omega) (by decide)) dX3_firstFault_61 ?_
          refine lv_bipush (v := 59) hx hb dX3_firstFault_62 (by decide) ?_
          refine lv_icmp_ne (tgt := 69) hx hb dX3_firstFault_64 (by decide) (fun c_2 => ?_) (fun c_2 => ?_)
          · have hr1 : ffL lt (k - (j + 1)) (j + 1) sc = ffL lt k 0 (-1) := by rw [← he, hu, if_neg c_2]
            refine lv_iinc (v := nI (j + 1)) (lv' := [(2, .int (nI (j + 1))), (3, .int v), (0, .ref ph), (1, .int sc)]) hx hb dX3_firstFault_69 hl (k := 3) rfl (nI_1 j) (by decide) rfl (fun ls hl => ?_)
            refine lv_goto (tgt := 4) hx hb dX3_firstFault_72 (by decide) ?_
            exact ih_4 (j + 1) sc (by first | assumption | omega | rfl | exact Nat.zero_le _ | decide) hr1 (by omega) ls (lv_sub hl [2, 0, 3] rfl)
          · have hr1 : ffL lt (k - (j + 1)) (j + 1) (nI j) = ffL lt k 0 (-1) := by rw [← he, hu, if_pos c_2]
            refine lv_iload_n hx hb dX3_firstFault_67 rfl (lv_at hl 3 rfl) ?_
            refine lv_istore_n (lv' := [(1, .int (nI j)), (3, .int v), (0, .ref ph), (2, .int (nI j))]) hx hb dX3_firstFault_68 rfl hl (by decide) rfl (fun ls hl => ?_)
            refine lv_iinc (v := nI (j + 1)) (lv' := [(2, .int (nI (j + 1))), (1, .int (nI j)), (3, .int v), (0, .ref ph)]) hx hb dX3_firstFault_69 hl (k := 3) rfl (nI_1 j) (by decide) rfl (fun ls hl => ?_)
            refine lv_goto (tgt := 4) hx hb dX3_firstFault_72 (by decide) ?_
            exact ih_4 (j + 1) (nI j) (by first | assumption | omega | rfl | exact Nat.zero_le _ | decide) hr1 (by omega) ls (lv_sub hl [3, 0, 1] rfl)
        · have hz : ffS lt j sc = 0 := hv ▸ c_1
          refine lv_iload_n hx hb dX3_firstFault_54 rfl (lv_at hl 3 rfl) ?_
          exact retRi hx hb hr hlocks (by rw [← he, show k - j = (k - (j + 1)) + 1 from by omega]; exact (if_pos hz).symm) dX3_firstFault_55
      refine lv_iload_n hx hb dX3_firstFault_4 rfl (lv_at hl 1 rfl) ?_
      refine lv_aload_n hx hb dX3_firstFault_5 rfl (lv_at hl 0 rfl) ?_
      refine va_get (D := D) (ci := 3) (v := .int (nI k)) (C := RX3) (T := TX3) (N := 2) hx hb hts iwX3 hown hK.1 hP 0 rfl rfl 1 (by decide) fk15 (fun _ h9 => h9) rfl dX3_firstFault_6 ?_
      refine lv_icmp_ge (tgt := 75) hx hb dX3_firstFault_9 (by decide) (fun c_3 => ?_) (fun c_3 => ?_)
      · have hge : k ≤ j := (nI_leI (by omega) (by omega)).mp c_3
        refine lv_aload_n hx hb dX3_firstFault_75 rfl (lv_at hl 0 rfl) ?_
        refine va_get (D := D) (ci := 3) (v := .int (nI k)) (C := RX3) (T := TX3) (N := 2) hx hb hts iwX3 hown hK.1 hP 0 rfl rfl 1 (by decide) fk15 (fun _ h9 => h9) rfl dX3_firstFault_76 ?_
        exact retRi hx hb hr hlocks (by rw [← he, show k = j from by omega, Nat.sub_self]; rfl) dX3_firstFault_79
      · have hlt : j < k := Nat.lt_of_not_le fun z => c_3 ((nI_leI (by omega) (by omega)).mpr z)
        refine lv_iload_n hx hb dX3_firstFault_12 rfl (lv_at hl 2 rfl) ?_
        refine lv_iconst (v := (-1)) hx hb dX3_firstFault_13 (by decide) ?_
        refine lv_icmp_ne (tgt := 25) hx hb dX3_firstFault_14 (by decide) (fun c_4 => ?_) (fun c_4 => ?_)
        · have hs1 := c_4
          refine lv_iload_n hx hb dX3_firstFault_25 rfl (lv_at hl 1 rfl) ?_
          refine lv_iload_n hx hb dX3_firstFault_26 rfl (lv_at hl 2 rfl) ?_
          refine lv_iconst (v := 1) hx hb dX3_firstFault_27 (by decide) ?_
          refine lv_iadd hx hb dX3_firstFault_28 ?_
          refine lv_icmp_ne (tgt := 48) hx hb dX3_firstFault_29 (by decide) (fun c_5 => ?_) (fun c_5 => ?_)
          · have hs2 := c_5
            have hv0 := ((if_neg hs1).trans (if_neg hs2) : ffS lt j sc = 0).symm
            refine lv_iconst (v := 0) hx hb dX3_firstFault_48 (by decide) ?_
            exact cut_49 0 (by first | assumption | omega | rfl | exact Nat.zero_le _ | decide) hv0 ls (lv_sub hl [0, 2, 1] rfl)
          · have hs2 := c_5
            refine lv_aload_n hx hb dX3_firstFault_32 rfl (lv_at hl 0 rfl) ?_
            refine lv_iload_n hx hb dX3_firstFault_33 rfl (lv_at hl 1 rfl) ?_
            refine lv_bipush (v := 48) hx hb dX3_firstFault_34 (by decide) ?_
            refine lv_bipush (v := 51) hx hb dX3_firstFault_36 (by decide) ?_
            refine rcVi (As := [.int (nI j), .int 48, .int 51]) (rest := []) ⟨hx, hb, hml, hown, hts⟩ (c_X3_isBetween l D cB cC cI ph p0 lt k (nI j) j 48 51 (ix_nI (by omega) (by decide))) (cwV 3 hts gX3_firstFault_X3_isBetween rfl rfl rfl (by decide +kernel) ⟨Nat.le_of_ble_eq_true rfl, Nat.le_of_ble_eq_true rfl⟩) hK hP [0, 1] rfl rfl 0 rfl rfl hl.1 rfl (Nat.le_of_ble_eq_true rfl) dX3_firstFault_38 ⟨Nat.zero_le _, Nat.zero_le _⟩ ?_
            refine lv_if_eq (tgt := 48) hx hb dX3_firstFault_41 (by decide) (fun c_6 => ?_) (fun c_6 => ?_)
            · have hs3 := c_6
              have hv0 := ((if_neg hs1).trans ((if_pos hs2).trans (if_pos hs3)) : ffS lt j sc = 0).symm
              refine lv_iconst (v := 0) hx hb dX3_firstFault_48 (by decide) ?_
              exact cut_49 0 (by first | assumption | omega | rfl | exact Nat.zero_le _ | decide) hv0 ls (lv_sub hl [0, 2, 1] rfl)
            · have hs3 := c_6
              refine lv_iconst (v := 1) hx hb dX3_firstFault_44 (by decide) ?_
              refine lv_goto (tgt := 49) hx hb dX3_firstFault_45 (by decide) ?_
              exact cut_49 1 (by first | assumption | omega | rfl | exact Nat.zero_le _ | decide) ((if_neg hs1).trans ((if_pos hs2).trans (if_neg hs3))).symm ls (lv_sub hl [0, 2, 1] rfl)
        · have hs1 := c_4
          refine lv_aload_n hx hb dX3_firstFault_17 rfl (lv_at hl 0 rfl) ?_
          refine lv_iload_n hx hb dX3_firstFault_18 rfl (lv_at hl 1 rfl) ?_
          refine rcViS (As := [.int (nI j)]) (rest := []) ⟨hx, hb, hml, hown, hts⟩ (c_X3_fitsHouses l D cB cC cI ka va ph p0 lt k j (by first | assumption | omega | decide)) (cwV 1 hts gX3_firstFault_X3_fitsHouses rfl rfl rfl (by decide +kernel) ⟨Nat.le_of_ble_eq_true rfl, Nat.le_of_ble_eq_true rfl⟩) hG hK hP [0, 1] rfl rfl 0 rfl rfl hl.1 rfl (Nat.le_of_ble_eq_true rfl) dX3_firstFault_19 ⟨Nat.zero_le _, Nat.zero_le _⟩ ?_
          refine lv_goto (tgt := 49) hx hb dX3_firstFault_22 (by decide) ?_
          exact cut_49 (f_X3_fitsHouses lt j) (by first | assumption | omega | rfl | exact Nat.zero_le _ | decide) (if_pos hs1).symm ls (lv_sub hl [0, 2, 1] rfl)
  have hl : lv_has ls 4 [(0, .ref ph)] := hl
  refine lv_iconst (v := (-1)) hx hb dX3_firstFault_0 (by decide) ?_
  refine lv_istore_n (lv' := [(1, .int (-1)), (0, .ref ph)]) hx hb dX3_firstFault_1 rfl hl (by decide) rfl (fun ls hl => ?_)
  refine lv_iconst (v := 0) hx hb dX3_firstFault_2 (by decide) ?_
  refine lv_istore_n (lv' := [(2, .int 0), (1, .int (-1)), (0, .ref ph)]) hx hb dX3_firstFault_3 rfl hl (by decide) rfl (fun ls hl => ?_)
  exact cut_4 ((k - 0) + 1) 0 (-1) (by first | assumption | omega | rfl | exact Nat.zero_le _ | decide) rfl (Nat.lt_succ_self _) ls (lv_sub hl [2, 0, 1] rfl)
def f_X3_isMarket (lt : Nat → Int32) (k : Nat) : Int32 := if (nI k) < 2 then 0 else if (lt (k - 2)) = 59 then (if (ffL lt k 0 (-1)) = (nI k) then 1 else 0) else 0
set_option maxHeartbeats 4000000 in
set_option maxRecDepth 100000 in
theorem c_X3_isMarket (l : Launch) (D : va_G) (cB cC cI : ClassId) (ka va : Nat) (ph : Nat) (p0 : Nat) (lt : Nat → Int32) (k : Nat) (hk : k ≤ 18) : Met l yX3_isMarket wsX3_isMarket ({ frames := 6, cells := 0, slots := 0, locals := 137 }) (gPrS D cB cC cI ka va [.ref ph] [(ph, .inr (3, [.ref p0, .int (nI k)])), (p0, .inl (cC, 18, .inl lt))]) (vp_Si (fun r => r = (f_X3_isMarket lt k))) 0 0 (fun _ => False) := by
  refine metRS (cc := cX3_isMarket) (maxL := 1) (ret := (some .boolean)) RX3 rfl (by decide) rfl (Nat.le_of_ble_eq_true rfl) ?_
  intro p e s m below meth c hx hb hr hml hown hts hlocks hP hK hG ls hl
  have iwX3 : ∀ w ∈ wsX30, w ∈ wsX3_isMarket := by decide +kernel
  have fk15 := hts (.fieldLink RX3 15 "BuyersWeights$Page" "length" "I") (by decide +kernel)
  have fk9 := hts (.fieldLink RX3 9 "BuyersWeights$Page" "letters" "[C") (by decide +kernel)
  have hl : lv_has ls 1 [(0, .ref ph)] := hl
  refine lv_aload_n hx hb dX3_isMarket_0 rfl (lv_at hl 0 rfl) ?_
  refine va_get (D := D) (ci := 3) (v := .int (nI k)) (C := RX3) (T := TX3) (N := 2) hx hb hts iwX3 hown hK.1 hP 0 rfl rfl 1 (by decide) fk15 (fun _ h9 => h9) rfl dX3_isMarket_1 ?_
  refine lv_iconst (v := 2) hx hb dX3_isMarket_4 (by decide) ?_
  refine lv_icmp_lt (tgt := 39) hx hb dX3_isMarket_5 (by decide) (fun c_1 => ?_) (fun c_1 => ?_)
  · refine lv_iconst (v := 0) hx hb dX3_isMarket_39 (by decide) ?_
    have eG : f_X3_isMarket lt k = 0 := if_pos c_1
    exact retRz hx hb hr hlocks rfl eG.symm dX3_isMarket_40
  · have h2k : 2 ≤ k := Nat.le_of_not_lt fun z => c_1 (nI_lt (b := 2) z (by decide))
    refine lv_aload_n hx hb dX3_isMarket_8 rfl (lv_at hl 0 rfl) ?_
    refine va_get (D := D) (ci := 3) (v := .ref p0) (C := RX3) (T := TX3) (N := 2) hx hb hts iwX3 hown hK.1 hP 0 rfl rfl 0 (by decide) fk9 (fun _ h9 => h9) rfl dX3_isMarket_9 ?_
    refine lv_aload_n hx hb dX3_isMarket_12 rfl (lv_at hl 0 rfl) ?_
    refine va_get (D := D) (ci := 3) (v := .int (nI k)) (C := RX3) (T := TX3) (N := 2) hx hb hts iwX3 hown hK.1 hP 0 rfl rfl 1 (by decide) fk15 (fun _ h9 => h9) rfl dX3_isMarket_13 ?_
    refine lv_iconst (v := 2) hx hb dX3_isMarket_16 (by decide) ?_
    refine lv_isub hx hb dX3_isMarket_17 ?_
    refine my_top (y := nI (k - 2)) (pk_sub (a := k) (b := 2) (by omega)) ?_
    refine my_cald hx hb hK hP 1 rfl (j := (k - 2)) (ix_nI (by omega) (by decide)) dX3_isMarket_18 ?_
    refine lv_bipush (v := 59) hx hb dX3_isMarket_19 (by decide) ?_
    refine lv_icmp_ne (tgt := 39) hx hb dX3_isMarket_21 (by decide) (fun c_2 => ?_) (fun c_2 => ?_)
    · refine lv_iconst (v := 0) hx hb dX3_isMarket_39 (by decide) ?_
      have eG : f_X3_isMarket lt k = 0 := (if_neg c_1).trans (if_neg c_2)
      exact retRz hx hb hr hlocks rfl eG.symm dX3_isMarket_40
    · refine lv_aload_n hx hb dX3_isMarket_24 rfl (lv_at hl 0 rfl) ?_
      refine rcViS (As := []) (rest := []) ⟨hx, hb, hml, hown, hts⟩ (c_X3_firstFault l D cB cC cI ka va ph p0 lt k (by first | assumption | omega | decide)) (cwV 0 hts gX3_isMarket_X3_firstFault rfl rfl rfl (by decide +kernel) ⟨Nat.le_of_ble_eq_true rfl, Nat.le_of_ble_eq_true rfl⟩) hG hK hP [0, 1] rfl rfl 0 rfl rfl hl.1 rfl (Nat.le_of_ble_eq_true rfl) dX3_isMarket_25 ⟨Nat.zero_le _, Nat.zero_le _⟩ ?_
      refine lv_aload_n hx hb dX3_isMarket_28 rfl (lv_at hl 0 rfl) ?_
      refine va_get (D := D) (ci := 3) (v := .int (nI k)) (C := RX3) (T := TX3) (N := 2) hx hb hts iwX3 hown hK.1 hP 0 rfl rfl 1 (by decide) fk15 (fun _ h9 => h9) rfl dX3_isMarket_29 ?_
      refine lv_icmp_ne (tgt := 39) hx hb dX3_isMarket_32 (by decide) (fun c_3 => ?_) (fun c_3 => ?_)
      · refine lv_iconst (v := 0) hx hb dX3_isMarket_39 (by decide) ?_
        have eG : f_X3_isMarket lt k = 0 := (if_neg c_1).trans ((if_pos c_2).trans (if_neg c_3))
        exact retRz hx hb hr hlocks rfl eG.symm dX3_isMarket_40
      · refine lv_iconst (v := 1) hx hb dX3_isMarket_35 (by decide) ?_
        refine lv_goto (tgt := 40) hx hb dX3_isMarket_36 (by decide) ?_
        have eG : f_X3_isMarket lt k = 1 := (if_neg c_1).trans ((if_pos c_2).trans (if_pos c_3))
        exact retRz hx hb hr hlocks rfl eG.symm dX3_isMarket_40
set_option maxHeartbeats 4000000 in
set_option maxRecDepth 100000 in
theorem c_X3_howManyHouses (l : Launch) (D : va_G) (cB cC cI : ClassId) (ph : Nat) (p0 : Nat) (lt : Nat → Int32) (k : Nat) (hk : k ≤ 18) : Met l yX3_howManyHouses wsX3_howManyHouses ({ frames := 0, cells := 0, slots := 0, locals := 0 }) (gPr D cB cC cI [.ref ph] [(ph, .inr (3, [.ref p0, .int (nI k)])), (p0, .inl (cC, 18, .inl lt))]) (vp_Si (fun r => r = nI (k / 4))) 0 0 (fun _ => False) := by
  refine metR (cc := cX3_howManyHouses) (maxL := 1) (ret := (some .int)) RX3 rfl (by decide) rfl (Nat.le_of_ble_eq_true rfl) ?_
  intro p e s m below meth c hx hb hr hml hown hts hlocks hP hK ls hl
  have iwX3 : ∀ w ∈ wsX30, w ∈ wsX3_howManyHouses := by decide +kernel
  have fk15 := hts (.fieldLink RX3 15 "BuyersWeights$Page" "length" "I") (by decide +kernel)
  have hl : lv_has ls 1 [(0, .ref ph)] := hl
  refine lv_aload_n hx hb dX3_howManyHouses_0 rfl (lv_at hl 0 rfl) ?_
  refine va_get (D := D) (ci := 3) (v := .int (nI k)) (C := RX3) (T := TX3) (N := 2) hx hb hts iwX3 hown hK.1 hP 0 rfl rfl 1 (by decide) fk15 (fun _ h9 => h9) rfl dX3_howManyHouses_1 ?_
  refine lv_iconst (v := 4) hx hb dX3_howManyHouses_4 (by decide) ?_
  refine lv_idiv hx hb dX3_howManyHouses_5 (by decide) ?_
  refine my_top (y := nI (k / 4)) (pk_div (a := k) (d := 4) (by omega) (by decide) (by decide)) ?_
  exact retRi hx hb hr hlocks rfl dX3_howManyHouses_6
set_option maxHeartbeats 4000000 in
set_option maxRecDepth 100000 in
theorem c_X3_digit (l : Launch) (D : va_G) (cB cC cI : ClassId) (ph : Nat) (p0 : Nat) (lt : Nat → Int32) (k : Nat) (b : Int32) (j : Nat) (hb18 : ix b j 18) : Met l yX3_digit wsX3_digit ({ frames := 0, cells := 0, slots := 0, locals := 0 }) (gPr D cB cC cI [.ref ph, .int b] [(ph, .inr (3, [.ref p0, .int (nI k)])), (p0, .inl (cC, 18, .inl lt))]) (vp_Si (fun r => r = (lt j) - 48)) 0 0 (fun _ => False) := by
  refine metR (cc := cX3_digit) (maxL := 2) (ret := (some .int)) RX3 rfl (by decide) rfl (Nat.le_of_ble_eq_true rfl) ?_
  intro p e s m below meth c hx hb hr hml hown hts hlocks hP hK ls hl
  have iwX3 : ∀ w ∈ wsX30, w ∈ wsX3_digit := by decide +kernel
  have fk9 := hts (.fieldLink RX3 9 "BuyersWeights$Page" "letters" "[C") (by decide +kernel)
  have hl : lv_has ls 2 [(0, .ref ph), (1, .int b)] := hl
  refine lv_aload_n hx hb dX3_digit_0 rfl (lv_at hl 0 rfl) ?_
  refine va_get (D := D) (ci := 3) (v := .ref p0) (C := RX3) (T := TX3) (N := 2) hx hb hts iwX3 hown hK.1 hP 0 rfl rfl 0 (by decide) fk9 (fun _ h9 => h9) rfl dX3_digit_1 ?_
  refine lv_iload_n hx hb dX3_digit_4 rfl (lv_at hl 1 rfl) ?_
  refine my_cald hx hb hK hP 1 rfl (j := j) hb18 dX3_digit_5 ?_
  refine lv_bipush (v := 48) hx hb dX3_digit_6 (by decide) ?_
  refine lv_isub hx hb dX3_digit_8 ?_
  exact retRi hx hb hr hlocks rfl dX3_digit_9
set_option maxHeartbeats 4000000 in
set_option maxRecDepth 100000 in
theorem c_X3_kind (l : Launch) (D : va_G) (cB cC cI : ClassId) (ka va : Nat) (ph : Nat) (p0 : Nat) (lt : Nat → Int32) (k : Nat) (q : Nat) (hq : q < 4) : Met l yX3_kind wsX3_kind ({ frames := 4, cells := 0, slots := 0, locals := 91 }) (gPrS D cB cC cI ka va [.ref ph, .int (nI q)] [(ph, .inr (3, [.ref p0, .int (nI k)])), (p0, .inl (cC, 18, .inl lt))]) (vp_Si (fun r => r = (f_J1_indexOf_4cfef (lt (q * 4))))) 0 0 (fun _ => False) := by
  refine metRS (cc := cX3_kind) (maxL := 2) (ret := (some .int)) RX3 rfl (by decide) rfl (Nat.le_of_ble_eq_true rfl) ?_
  intro p e s m below meth c hx hb hr hml hown hts hlocks hP hK hG ls hl
  have iwX3 : ∀ w ∈ wsX30, w ∈ wsX3_kind := by decide +kernel
  have fk9 := hts (.fieldLink RX3 9 "BuyersWeights$Page" "letters" "[C") (by decide +kernel)
  have hl : lv_has ls 2 [(0, .ref ph), (1, .int (nI q))] := hl
  refine va_ldcS hx hb hown hG.1 dX3_kind_0 ?_
  refine lv_aload_n hx hb dX3_kind_2 rfl (lv_at hl 0 rfl) ?_
  refine va_get (D := D) (ci := 3) (v := .ref p0) (C := RX3) (T := TX3) (N := 2) hx hb hts iwX3 hown hK.1 hP 0 rfl rfl 0 (by decide) fk9 (fun _ h9 => h9) rfl dX3_kind_3 ?_
  refine lv_iload_n hx hb dX3_kind_6 rfl (lv_at hl 1 rfl) ?_
  refine lv_iconst (v := 4) hx hb dX3_kind_7 (by decide) ?_
  refine lv_imul hx hb dX3_kind_8 ?_
  refine my_top (y := nI (q * 4)) (pk_mul q 4) ?_
  refine my_cald hx hb hK hP 1 rfl (j := (q * 4)) (ix_nI (by omega) (by decide)) dX3_kind_9 ?_
  refine rcTiS (As := [.int (lt (q * 4))]) (rest := []) ⟨hx, hb, hml, hown, hts⟩ (c_J0_indexOf_0f7a4 l D cB cC cI ka va (lt (q * 4))) (cwV 1 hts gX3_kind_J0_indexOf_0f7a4 rfl rfl rfl (by decide +kernel) ⟨Nat.le_of_ble_eq_true rfl, Nat.le_of_ble_eq_true rfl⟩) hG hK hP [] rfl rfl hl.1 rfl (Nat.le_of_ble_eq_true rfl) dX3_kind_10 ⟨Nat.zero_le _, Nat.zero_le _⟩ ?_
  exact retRi hx hb hr hlocks rfl dX3_kind_13
set_option maxHeartbeats 4000000 in
set_option maxRecDepth 100000 in
theorem c_X3_empty (l : Launch) (D : va_G) (cB cC cI : ClassId) (ph : Nat) (p0 : Nat) (lt : Nat → Int32) (k : Nat) (sz : Nat)  : Met l yX3_empty wsX3_empty ({ frames := 0, cells := 0, slots := 0, locals := 0 }) (gPw D cB cC cI [.ref ph] [(ph, .inr (3, [.ref p0, .int (nI k)])), (p0, .inl (cC, 18, .inl lt))] sz) (QWv D [(ph, .inr (3, [.ref p0, .int 0])), (p0, .inl (cC, 18, .inl lt))] (va_A [(ph, .inr (3, [.ref p0, .int (nI k)])), (p0, .inl (cC, 18, .inl lt))] sz)) 0 0 (va_A [(ph, .inr (3, [.ref p0, .int (nI k)])), (p0, .inl (cC, 18, .inl lt))] sz) := by
  refine metW (cc := cX3_empty) (maxL := 1) (ret := none) (QA := fun A => (QWv D [(ph, .inr (3, [.ref p0, .int 0])), (p0, .inl (cC, 18, .inl lt))] A)) RX3 rfl (by decide) rfl (Nat.le_of_ble_eq_true rfl) ?_
  intro p e s m below meth c A hx hb hr hml hown hts hlocks hin hP hK hD hA hS ls hl
  have iwX3 : ∀ w ∈ wsX30, w ∈ wsX3_empty := by decide +kernel
  have fk15 := hts (.fieldLink RX3 15 "BuyersWeights$Page" "length" "I") (by decide +kernel)
  have hl : lv_has ls 1 [(0, .ref ph)] := hl
  refine lv_aload_n hx hb dX3_empty_0 rfl (lv_at hl 0 rfl) ?_
  refine lv_iconst (v := 0) hx hb dX3_empty_1 (by decide) ?_
  refine va_put (D := D) (ci := 3) (v := .int 0) (ty := .int) (C := RX3) (T := TX3) (N := 2) hx hb hts iwX3 tyX3 tyX3_ok nmX3 hown hK.1 hP hD hS 0 rfl rfl 1 (by decide) fk15 (fun _ h9 => h9) rfl (by decide +kernel) rfl rfl (Nat.le_of_ble_eq_true rfl) dX3_empty_2 (fun H locs hP hD hS => ?_)
  have hP : va_P D vwCl [(ph, .inr (3, [.ref p0, .int 0])), (p0, .inl (cC, 18, .inl lt))] H := hP
  have hD : va_D A [(ph, .inr (3, [.ref p0, .int 0])), (p0, .inl (cC, 18, .inl lt))] := hD
  exact retWv (u := ()) hx hb hr hlocks trivial hP hD hS dX3_empty_5
set_option maxHeartbeats 4000000 in
set_option maxRecDepth 100000 in
theorem c_X3_add (l : Launch) (D : va_G) (cB cC cI : ClassId) (ph : Nat) (p0 : Nat) (lt : Nat → Int32) (k : Nat) (x : Int32) (sz : Nat) (hk : k < 18) : Met l yX3_add wsX3_add ({ frames := 0, cells := 0, slots := 0, locals := 0 }) (gPw D cB cC cI [.ref ph, .int x] [(ph, .inr (3, [.ref p0, .int (nI k)])), (p0, .inl (cC, 18, .inl lt))] sz) (QWv D [(ph, .inr (3, [.ref p0, .int (nI (k + 1))])), (p0, .inl (cC, 18, .inl (upd lt k (vp_nar .char x))))] (va_A [(ph, .inr (3, [.ref p0, .int (nI k)])), (p0, .inl (cC, 18, .inl lt))] sz)) 0 0 (va_A [(ph, .inr (3, [.ref p0, .int (nI k)])), (p0, .inl (cC, 18, .inl lt))] sz) := by
  refine metW (cc := cX3_add) (maxL := 2) (ret := none) (QA := fun A => (QWv D [(ph, .inr (3, [.ref p0, .int (nI (k + 1))])), (p0, .inl (cC, 18, .inl (upd lt k (vp_nar .char x))))] A)) RX3 rfl (by decide) rfl (Nat.le_of_ble_eq_true rfl) ?_
  intro p e s m below meth c A hx hb hr hml hown hts hlocks hin hP hK hD hA hS ls hl
  have iwX3 : ∀ w ∈ wsX30, w ∈ wsX3_add := by decide +kernel
  have fk15 := hts (.fieldLink RX3 15 "BuyersWeights$Page" "length" "I") (by decide +kernel)
  have fk9 := hts (.fieldLink RX3 9 "BuyersWeights$Page" "letters" "[C") (by decide +kernel)
  have hl : lv_has ls 2 [(0, .ref ph), (1, .int x)] := hl
  refine lv_aload_n hx hb dX3_add_0 rfl (lv_at hl 0 rfl) ?_
  refine va_get (D := D) (ci := 3) (v := .int (nI k)) (C := RX3) (T := TX3) (N := 2) hx hb hts iwX3 hown hK.1 hP 0 rfl rfl 1 (by decide) fk15 (fun _ h9 => h9) rfl dX3_add_1 ?_
  refine lv_bipush (v := 18) hx hb dX3_add_4 (by decide) ?_
  refine lv_icmp_ge (tgt := 29) hx hb dX3_add_6 (by decide) (fun c_1 => absurd c_1 (nI_ge (b := 18) hk (by decide))) (fun c_1 => ?_)
  refine lv_aload_n hx hb dX3_add_9 rfl (lv_at hl 0 rfl) ?_
  refine va_get (D := D) (ci := 3) (v := .ref p0) (C := RX3) (T := TX3) (N := 2) hx hb hts iwX3 hown hK.1 hP 0 rfl rfl 0 (by decide) fk9 (fun _ h9 => h9) rfl dX3_add_10 ?_
  refine lv_aload_n hx hb dX3_add_13 rfl (lv_at hl 0 rfl) ?_
  refine va_get (D := D) (ci := 3) (v := .int (nI k)) (C := RX3) (T := TX3) (N := 2) hx hb hts iwX3 hown hK.1 hP 0 rfl rfl 1 (by decide) fk15 (fun _ h9 => h9) rfl dX3_add_14 ?_
  refine lv_iload_n hx hb dX3_add_17 rfl (lv_at hl 1 rfl) ?_
  refine my_cast hx hb hK hP hD hS 1 rfl (j := k) (ix_nI hk (by decide)) dX3_add_18 (fun H locs hP hD hS => ?_)
  have hP : va_P D vwCl [(ph, .inr (3, [.ref p0, .int (nI k)])), (p0, .inl (cC, 18, .inl (upd lt k (vp_nar .char x))))] H := hP
  have hD : va_D A [(ph, .inr (3, [.ref p0, .int (nI k)])), (p0, .inl (cC, 18, .inl (upd lt k (vp_nar .char x))))] := hD
  refine lv_aload_n hx hb dX3_add_19 rfl (lv_at hl 0 rfl) ?_
  refine lv_dup hx hb dX3_add_20 rfl ?_
  refine va_get (D := D) (ci := 3) (v := .int (nI k)) (C := RX3) (T := TX3) (N := 2) hx hb hts iwX3 hown hK.1 hP 0 rfl rfl 1 (by decide) fk15 (fun _ h9 => h9) rfl dX3_add_21 ?_
  refine lv_iconst (v := 1) hx hb dX3_add_24 (by decide) ?_
  refine lv_iadd hx hb dX3_add_25 ?_
  refine my_top (y := nI (k + 1)) (nI_1 k) ?_
  refine va_put (D := D) (ci := 3) (v := .int (nI (k + 1))) (ty := .int) (C := RX3) (T := TX3) (N := 2) hx hb hts iwX3 tyX3 tyX3_ok nmX3 hown hK.1 hP hD hS 0 rfl rfl 1 (by decide) fk15 (fun _ h9 => h9) rfl (by decide +kernel) rfl rfl (Nat.le_of_ble_eq_true rfl) dX3_add_26 (fun H locs hP hD hS => ?_)
  have hP : va_P D vwCl [(ph, .inr (3, [.ref p0, .int (nI (k + 1))])), (p0, .inl (cC, 18, .inl (upd lt k (vp_nar .char x))))] H := hP
  have hD : va_D A [(ph, .inr (3, [.ref p0, .int (nI (k + 1))])), (p0, .inl (cC, 18, .inl (upd lt k (vp_nar .char x))))] := hD
  exact retWv (u := ()) hx hb hr hlocks trivial hP hD hS dX3_add_29
