def b2 (b : Bool) : Int32 := if b = true then 1 else 0
theorem b2_0 {b : Bool} : b2 b = 0 ↔ b = false := by cases b <;> decide
def rubL (tm : Nat → Int32) (sb : Int32) : Nat → Int32
  | 0 => 0
  | k + 1 => if (sb >>> (nI k &&& 31)) &&& 1 = 1 then rubL tm sb k + tm k else rubL tm sb k
/-- whether the set q makes it so -/
def EX (tm : Nat → Int32) (lo : Int32) (n q : Nat) : Bool := decide (rubL tm (nI q) n = lo)
def cntN (p : Nat → Bool) : Nat → Nat
  | 0 => 0
  | k + 1 => if p k = true then cntN p k + 1 else cntN p k
theorem cntN_le (p : Nat → Bool) : ∀ k, cntN p k ≤ k
  | 0 => Nat.le_refl 0
  | k + 1 => by
    have := cntN_le p k
    unfold cntN
    split <;> omega
/-- the first from j on, of k -/
def leastL (p : Nat → Bool) : Nat → Nat → Int32
  | 0, _ => -1
  | k + 1, j => if p j = true then nI j else leastL p k (j + 1)
def andU (p : Nat → Bool) : Nat → Int32
  | 0 => -1
  | k + 1 => if p k = true then andU p k &&& nI k else andU p k
def watL (W : Nat → Int32) (al : Int32) : Nat → Int32 × Int32
  | 0 => (-1, al + 1)
  | k + 1 => if (watL W al k).2 ≤ (if W k < al - W k then al - W k else W k) then watL W al k else (nI k, (if W k < al - W k then al - W k else W k))
def CPm (tm : Nat → Int32) (lo : Int32) (n : Nat) (mb : Int32) (i : Nat) : Bool := decide (nI i &&& mb = mb) && EX tm lo n i
def hms (tm : Nat → Int32) (lo : Int32) (n : Nat) (mb : Int32) : Int32 := nI (cntN (CPm tm lo n mb) (2 ^ n))
def hmsW (tm : Nat → Int32) (lo : Int32) (n : Nat) (i : Nat) : Int32 := hms tm lo n ((1 : Int32) <<< (nI i &&& 31))
theorem shl1 : ∀ n, n ≤ 4 → (1 : Int32) <<< (nI n &&& 31) = nI (2 ^ n) := by decide
theorem pow4 : ∀ n, n ≤ 4 → 2 ^ n ≤ 16 := by decide
set_option maxHeartbeats 4000000 in
set_option maxRecDepth 100000 in
theorem c_X1_explains (l : Launch) (D : va_G) (cB cC cI : ClassId) (lh : Nat) (l0 : Nat) (tm : Nat → Int32) (hd : Int32) (lo : Int32) (q : Nat) (n : Nat) (hn : n ≤ 4) : Met l yX1_explains wsX1_explains ({ frames := 0, cells := 0, slots := 0, locals := 0 }) (gPr D cB cC cI [.ref lh, .int (nI q), .int (nI n)] [(lh, .inr (1, [.ref l0, .int hd, .int lo])), (l0, .inl (cI, 4, .inl tm))]) (vp_Si (fun r => r = b2 (EX tm lo n q))) 0 0 (fun _ => False) := by
  refine metR (cc := cX1_explains) (maxL := 5) (ret := (some .boolean)) RX1 rfl (by decide) rfl (Nat.le_of_ble_eq_true rfl) ?_
  intro p e s m below meth c hx hb hr hml hown hts hlocks hP hK ls hl
  have iwX1 : ∀ w ∈ wsX10, w ∈ wsX1_explains := by decide +kernel
  have fk19 := hts (.fieldLink RX1 19 "BuyersWeights$Ledger" "lost" "I") (by decide +kernel)
  have fk9 := hts (.fieldLink RX1 9 "BuyersWeights$Ledger" "times" "[I") (by decide +kernel)
  have cut_5 : ∀ (fu : Nat) (j : Nat), j ≤ n → n - j < fu → ∀ (ls : Array Slot), lv_has ls 5 [(0, .ref lh), (1, .int (nI q)), (2, .int (nI n)), (4, .int (nI j)), (3, .int (rubL tm (nI q) j))] → W p l e (headSpec wsX1_explains ({ frames := 0, cells := 0, slots := 0, locals := 0 })).room s m ([.ref lh, .int (nI q), .int (nI n)] : List Value).toArray below meth c s.heap [] 0 0 (MQ below (vp_Si (fun r => r = b2 (EX tm lo n q))) ([.ref lh, .int (nI q), .int (nI n)] : List Value).toArray s 0 0 (fun _ => False)) (F0 m 5 ls []) := by
    intro fu
    induction fu with
    | zero => intro j hj hfu; exact absurd hfu (Nat.not_lt_zero _)
    | succ fu ih_5 =>
      intro j hj hfu ls hl
      refine lv_iload hx hb dX1_explains_5 (lv_at hl 3 rfl) ?_
      refine lv_iload_n hx hb dX1_explains_7 rfl (lv_at hl 2 rfl) ?_
      refine lv_icmp_ge (tgt := 37) hx hb dX1_explains_8 (by decide) (fun c_1 => ?_) (fun c_1 => ?_)
      · have hge : n ≤ j := (nI_leI (by omega) (by omega)).mp c_1
        refine lv_iload_n hx hb dX1_explains_37 rfl (lv_at hl 4 rfl) ?_
        refine lv_aload_n hx hb dX1_explains_38 rfl (lv_at hl 0 rfl) ?_
        refine va_get (D := D) (ci := 1) (v := .int lo) (C := RX1) (T := TX1) (N := 3) hx hb hts iwX1 hown hK.1 hP 0 rfl rfl 2 (by decide) fk19 (fun _ h9 => h9) rfl dX1_explains_39 ?_
        refine lv_icmp_ne (tgt := 49) hx hb dX1_explains_42 (by decide) (fun c_2 => ?_) (fun c_2 => ?_)
        · have ex : EX tm lo n q = false := by rw [show n = j from by omega]; exact decide_eq_false c_2
          refine lv_iconst (v := 0) hx hb dX1_explains_49 (by decide) ?_
          exact retRz hx hb hr hlocks rfl (by rw [ex]; rfl) dX1_explains_50
        · have ex : EX tm lo n q = true := by rw [show n = j from by omega]; exact decide_eq_true c_2
          refine lv_iconst (v := 1) hx hb dX1_explains_45 (by decide) ?_
          refine lv_goto (tgt := 50) hx hb dX1_explains_46 (by decide) ?_
          exact retRz hx hb hr hlocks rfl (by rw [ex]; rfl) dX1_explains_50
      · have hlt : j < n := Nat.lt_of_not_le fun z => c_1 ((nI_leI (by omega) (by omega)).mpr z)
        refine lv_iload_n hx hb dX1_explains_11 rfl (lv_at hl 1 rfl) ?_
        refine lv_iload hx hb dX1_explains_12 (lv_at hl 3 rfl) ?_
        refine lv_ishr hx hb dX1_explains_14 ?_
        refine lv_iconst (v := 1) hx hb dX1_explains_15 (by decide) ?_
        refine lv_iand hx hb dX1_explains_16 ?_
        refine lv_iconst (v := 1) hx hb dX1_explains_17 (by decide) ?_
        refine lv_icmp_ne (tgt := 31) hx hb dX1_explains_18 (by decide) (fun c_3 => ?_) (fun c_3 => ?_)
        · have er : rubL tm (nI q) (j + 1) = rubL tm (nI q) j := if_neg c_3
          refine lv_iinc (v := nI (j + 1)) (lv' := [(4, .int (nI (j + 1))), (0, .ref lh), (1, .int (nI q)), (2, .int (nI n)), (3, .int (rubL tm (nI q) j))]) hx hb dX1_explains_31 hl (k := 3) rfl (nI_1 j) (by decide) rfl (fun ls hl => ?_)
          refine lv_goto (tgt := 5) hx hb dX1_explains_34 (by decide) ?_
          exact ih_5 (j + 1) (by first | assumption | omega | rfl | exact Nat.zero_le _ | decide) (by omega) ls (by rw [er]; exact lv_sub hl [1, 2, 3, 0, 4] rfl)
        · have er : rubL tm (nI q) (j + 1) = rubL tm (nI q) j + tm j := if_pos c_3
          refine lv_iload_n hx hb dX1_explains_21 rfl (lv_at hl 4 rfl) ?_
          refine lv_aload_n hx hb dX1_explains_22 rfl (lv_at hl 0 rfl) ?_
          refine va_get (D := D) (ci := 1) (v := .ref l0) (C := RX1) (T := TX1) (N := 3) hx hb hts iwX1 hown hK.1 hP 0 rfl rfl 0 (by decide) fk9 (fun _ h9 => h9) rfl dX1_explains_23 ?_
          refine lv_iload hx hb dX1_explains_26 (lv_at hl 3 rfl) ?_
          refine my_iald hx hb hK hP 1 rfl (j := j) (ix_nI (by omega) (by decide)) dX1_explains_28 ?_
          refine lv_iadd hx hb dX1_explains_29 ?_
          refine lv_istore_n (lv' := [(3, .int ((rubL tm (nI q) j) + (tm j))), (0, .ref lh), (1, .int (nI q)), (2, .int (nI n)), (4, .int (nI j))]) hx hb dX1_explains_30 rfl hl (by decide) rfl (fun ls hl => ?_)
          refine lv_iinc (v := nI (j + 1)) (lv' := [(4, .int (nI (j + 1))), (3, .int ((rubL tm (nI q) j) + (tm j))), (0, .ref lh), (1, .int (nI q)), (2, .int (nI n))]) hx hb dX1_explains_31 hl (k := 4) rfl (nI_1 j) (by decide) rfl (fun ls hl => ?_)
          refine lv_goto (tgt := 5) hx hb dX1_explains_34 (by decide) ?_
          exact ih_5 (j + 1) (by first | assumption | omega | rfl | exact Nat.zero_le _ | decide) (by omega) ls (by rw [er]; exact lv_sub hl [2, 3, 4, 0, 1] rfl)
  have hl : lv_has ls 5 [(0, .ref lh), (1, .int (nI q)), (2, .int (nI n))] := hl
  refine lv_iconst (v := 0) hx hb dX1_explains_0 (by decide) ?_
  refine lv_istore_n (lv' := [(3, .int 0), (0, .ref lh), (1, .int (nI q)), (2, .int (nI n))]) hx hb dX1_explains_1 rfl hl (by decide) rfl (fun ls hl => ?_)
  refine lv_iconst (v := 0) hx hb dX1_explains_2 (by decide) ?_
  refine lv_istore (lv' := [(4, .int 0), (3, .int 0), (0, .ref lh), (1, .int (nI q)), (2, .int (nI n))]) hx hb dX1_explains_3 hl (by decide) rfl (fun ls hl => ?_)
  exact cut_5 ((n - 0) + 1) 0 (by first | assumption | omega | rfl | exact Nat.zero_le _ | decide) (Nat.lt_succ_self _) ls (lv_sub hl [2, 3, 4, 0, 1] rfl)
set_option maxHeartbeats 4000000 in
set_option maxRecDepth 100000 in
theorem c_X1_leastSet (l : Launch) (D : va_G) (cB cC cI : ClassId) (lh : Nat) (l0 : Nat) (tm : Nat → Int32) (hd : Int32) (lo : Int32) (n : Nat) (hn : n ≤ 4) : Met l yX1_leastSet wsX1_leastSet ({ frames := 1, cells := 0, slots := 0, locals := 24 }) (gPr D cB cC cI [.ref lh, .int (nI n)] [(lh, .inr (1, [.ref l0, .int hd, .int lo])), (l0, .inl (cI, 4, .inl tm))]) (vp_Si (fun r => r = leastL (EX tm lo n) (2 ^ n) 0)) 0 0 (fun _ => False) := by
  refine metR (cc := cX1_leastSet) (maxL := 3) (ret := (some .int)) RX1 rfl (by decide) rfl (Nat.le_of_ble_eq_true rfl) ?_
  intro p e s m below meth c hx hb hr hml hown hts hlocks hP hK ls hl
  have cut_2 : ∀ (fu : Nat) (j : Nat), j ≤ 2 ^ n → leastL (EX tm lo n) (2 ^ n - j) j = leastL (EX tm lo n) (2 ^ n) 0 → 2 ^ n - j < fu → ∀ (ls : Array Slot), lv_has ls 3 [(0, .ref lh), (1, .int (nI n)), (2, .int (nI j))] → W p l e (headSpec wsX1_leastSet ({ frames := 1, cells := 0, slots := 0, locals := 24 })).room s m ([.ref lh, .int (nI n)] : List Value).toArray below meth c s.heap [] 0 0 (MQ below (vp_Si (fun r => r = leastL (EX tm lo n) (2 ^ n) 0)) ([.ref lh, .int (nI n)] : List Value).toArray s 0 0 (fun _ => False)) (F0 m 2 ls []) := by
    intro fu
    induction fu with
    | zero => intro j hj he hfu; exact absurd hfu (Nat.not_lt_zero _)
    | succ fu ih_2 =>
      intro j hj he hfu ls hl
      have h16 := pow4 n hn
      refine lv_iload_n hx hb dX1_leastSet_2 rfl (lv_at hl 2 rfl) ?_
      refine lv_iconst (v := 1) hx hb dX1_leastSet_3 (by decide) ?_
      refine lv_iload_n hx hb dX1_leastSet_4 rfl (lv_at hl 1 rfl) ?_
      refine lv_ishl hx hb dX1_leastSet_5 ?_
      refine my_top (y := nI (2 ^ n)) (shl1 n hn) ?_
      refine lv_icmp_ge (tgt := 26) hx hb dX1_leastSet_6 (by decide) (fun c_1 => ?_) (fun c_1 => ?_)
      · have hge : 2 ^ n ≤ j := (nI_leI (by omega) (by omega)).mp c_1
        refine lv_iconst (v := (-1)) hx hb dX1_leastSet_26 (by decide) ?_
        exact retRi hx hb hr hlocks (by rw [← he, show 2 ^ n - j = 0 from by omega]; rfl) dX1_leastSet_27
      · have hlt : j < 2 ^ n := Nat.lt_of_not_le fun z => c_1 ((nI_leI (by omega) (by omega)).mpr z)
        refine lv_aload_n hx hb dX1_leastSet_9 rfl (lv_at hl 0 rfl) ?_
        refine lv_iload_n hx hb dX1_leastSet_10 rfl (lv_at hl 2 rfl) ?_
        refine lv_iload_n hx hb dX1_leastSet_11 rfl (lv_at hl 1 rfl) ?_
        refine rcVi (As := [.int (nI j), .int (nI n)]) (rest := []) ⟨hx, hb, hml, hown, hts⟩ (c_X1_explains l D cB cC cI lh l0 tm hd lo j n (by first | assumption | omega | decide)) (cwV 2 hts gX1_leastSet_X1_explains rfl rfl rfl (by decide +kernel) ⟨Nat.le_of_ble_eq_true rfl, Nat.le_of_ble_eq_true rfl⟩) hK hP [0, 1] rfl rfl 0 rfl rfl hl.1 rfl (Nat.le_of_ble_eq_true rfl) dX1_leastSet_12 ⟨Nat.zero_le _, Nat.zero_le _⟩ ?_
        refine lv_if_eq (tgt := 20) hx hb dX1_leastSet_15 (by decide) (fun c_2 => ?_) (fun c_2 => ?_)
        · have hr1 : leastL (EX tm lo n) (2 ^ n - (j + 1)) (j + 1) = leastL (EX tm lo n) (2 ^ n) 0 := by
            rw [← he, show 2 ^ n - j = (2 ^ n - (j + 1)) + 1 from by omega]
            exact (if_neg (by rw [b2_0.mp c_2]; decide)).symm
          refine lv_iinc (v := nI (j + 1)) (lv' := [(2, .int (nI (j + 1))), (0, .ref lh), (1, .int (nI n))]) hx hb dX1_leastSet_20 hl (k := 2) rfl (nI_1 j) (by decide) rfl (fun ls hl => ?_)
          refine lv_goto (tgt := 2) hx hb dX1_leastSet_23 (by decide) ?_
          exact ih_2 (j + 1) (by first | assumption | omega | rfl | exact Nat.zero_le _ | decide) hr1 (by omega) ls (lv_sub hl [1, 2, 0] rfl)
        · have hr1 : leastL (EX tm lo n) (2 ^ n) 0 = nI j := by
            rw [← he, show 2 ^ n - j = (2 ^ n - (j + 1)) + 1 from by omega]
            exact if_pos (by rcases Bool.eq_false_or_eq_true (EX tm lo n j) with h | h; exact h; exact absurd (b2_0.mpr h) c_2)
          refine lv_iload_n hx hb dX1_leastSet_18 rfl (lv_at hl 2 rfl) ?_
          exact retRi hx hb hr hlocks (hr1.symm) dX1_leastSet_19
  have hl : lv_has ls 3 [(0, .ref lh), (1, .int (nI n))] := hl
  refine lv_iconst (v := 0) hx hb dX1_leastSet_0 (by decide) ?_
  refine lv_istore_n (lv' := [(2, .int 0), (0, .ref lh), (1, .int (nI n))]) hx hb dX1_leastSet_1 rfl hl (by decide) rfl (fun ls hl => ?_)
  exact cut_2 ((2 ^ n - 0) + 1) 0 (by first | assumption | omega | rfl | exact Nat.zero_le _ | decide) rfl (Nat.lt_succ_self _) ls (lv_sub hl [1, 2, 0] rfl)
set_option maxHeartbeats 4000000 in
set_option maxRecDepth 100000 in
theorem c_X1_inAllSets (l : Launch) (D : va_G) (cB cC cI : ClassId) (lh : Nat) (l0 : Nat) (tm : Nat → Int32) (hd : Int32) (lo : Int32) (n : Nat) (hn : n ≤ 4) : Met l yX1_inAllSets wsX1_inAllSets ({ frames := 1, cells := 0, slots := 0, locals := 24 }) (gPr D cB cC cI [.ref lh, .int (nI n)] [(lh, .inr (1, [.ref l0, .int hd, .int lo])), (l0, .inl (cI, 4, .inl tm))]) (vp_Si (fun r => r = andU (EX tm lo n) (2 ^ n))) 0 0 (fun _ => False) := by
  refine metR (cc := cX1_inAllSets) (maxL := 4) (ret := (some .int)) RX1 rfl (by decide) rfl (Nat.le_of_ble_eq_true rfl) ?_
  intro p e s m below meth c hx hb hr hml hown hts hlocks hP hK ls hl
  have cut_4 : ∀ (fu : Nat) (j : Nat), j ≤ 2 ^ n → 2 ^ n - j < fu → ∀ (ls : Array Slot), lv_has ls 4 [(0, .ref lh), (1, .int (nI n)), (3, .int (nI j)), (2, .int (andU (EX tm lo n) j))] → W p l e (headSpec wsX1_inAllSets ({ frames := 1, cells := 0, slots := 0, locals := 24 })).room s m ([.ref lh, .int (nI n)] : List Value).toArray below meth c s.heap [] 0 0 (MQ below (vp_Si (fun r => r = andU (EX tm lo n) (2 ^ n))) ([.ref lh, .int (nI n)] : List Value).toArray s 0 0 (fun _ => False)) (F0 m 4 ls []) := by
    intro fu
    induction fu with
    | zero => intro j hj hfu; exact absurd hfu (Nat.not_lt_zero _)
    | succ fu ih_4 =>
      intro j hj hfu ls hl
      have h16 := pow4 n hn
      refine lv_iload_n hx hb dX1_inAllSets_4 rfl (lv_at hl 2 rfl) ?_
      refine lv_iconst (v := 1) hx hb dX1_inAllSets_5 (by decide) ?_
      refine lv_iload_n hx hb dX1_inAllSets_6 rfl (lv_at hl 1 rfl) ?_
      refine lv_ishl hx hb dX1_inAllSets_7 ?_
      refine my_top (y := nI (2 ^ n)) (shl1 n hn) ?_
      refine lv_icmp_ge (tgt := 30) hx hb dX1_inAllSets_8 (by decide) (fun c_1 => ?_) (fun c_1 => ?_)
      · have hge : 2 ^ n ≤ j := (nI_leI (by omega) (by omega)).mp c_1
        refine lv_iload_n hx hb dX1_inAllSets_30 rfl (lv_at hl 3 rfl) ?_
        exact retRi hx hb hr hlocks (by rw [show 2 ^ n = j from by omega]) dX1_inAllSets_31
      · have hlt : j < 2 ^ n := Nat.lt_of_not_le fun z => c_1 ((nI_leI (by omega) (by omega)).mpr z)
        refine lv_aload_n hx hb dX1_inAllSets_11 rfl (lv_at hl 0 rfl) ?_
        refine lv_iload_n hx hb dX1_inAllSets_12 rfl (lv_at hl 2 rfl) ?_
        refine lv_iload_n hx hb dX1_inAllSets_13 rfl (lv_at hl 1 rfl) ?_
        refine rcVi (As := [.int (nI j), .int (nI n)]) (rest := []) ⟨hx, hb, hml, hown, hts⟩ (c_X1_explains l D cB cC cI lh l0 tm hd lo j n (by first | assumption | omega | decide)) (cwV 2 hts gX1_inAllSets_X1_explains rfl rfl rfl (by decide +kernel) ⟨Nat.le_of_ble_eq_true rfl, Nat.le_of_ble_eq_true rfl⟩) hK hP [0, 1] rfl rfl 0 rfl rfl hl.1 rfl (Nat.le_of_ble_eq_true rfl) dX1_inAllSets_14 ⟨Nat.zero_le _, Nat.zero_le _⟩ ?_
        refine lv_if_eq (tgt := 24) hx hb dX1_inAllSets_17 (by decide) (fun c_2 => ?_) (fun c_2 => ?_)
        · have er : andU (EX tm lo n) (j + 1) = andU (EX tm lo n) j := if_neg (by rw [b2_0.mp c_2]; decide)
          refine lv_iinc (v := nI (j + 1)) (lv' := [(3, .int (nI (j + 1))), (0, .ref lh), (1, .int (nI n)), (2, .int (andU (EX tm lo n) j))]) hx hb dX1_inAllSets_24 hl (k := 2) rfl (nI_1 j) (by decide) rfl (fun ls hl => ?_)
          refine lv_goto (tgt := 4) hx hb dX1_inAllSets_27 (by decide) ?_
          exact ih_4 (j + 1) (by first | assumption | omega | rfl | exact Nat.zero_le _ | decide) (by omega) ls (by rw [er]; exact lv_sub hl [1, 2, 0, 3] rfl)
        · have er : andU (EX tm lo n) (j + 1) = andU (EX tm lo n) j &&& nI j := if_pos (by rcases Bool.eq_false_or_eq_true (EX tm lo n j) with h | h; exact h; exact absurd (b2_0.mpr h) c_2)
          refine lv_iload_n hx hb dX1_inAllSets_20 rfl (lv_at hl 3 rfl) ?_
          refine lv_iload_n hx hb dX1_inAllSets_21 rfl (lv_at hl 2 rfl) ?_
          refine lv_iand hx hb dX1_inAllSets_22 ?_
          refine lv_istore_n (lv' := [(2, .int ((andU (EX tm lo n) j) &&& (nI j))), (0, .ref lh), (1, .int (nI n)), (3, .int (nI j))]) hx hb dX1_inAllSets_23 rfl hl (by decide) rfl (fun ls hl => ?_)
          refine lv_iinc (v := nI (j + 1)) (lv' := [(3, .int (nI (j + 1))), (2, .int ((andU (EX tm lo n) j) &&& (nI j))), (0, .ref lh), (1, .int (nI n))]) hx hb dX1_inAllSets_24 hl (k := 3) rfl (nI_1 j) (by decide) rfl (fun ls hl => ?_)
          refine lv_goto (tgt := 4) hx hb dX1_inAllSets_27 (by decide) ?_
          exact ih_4 (j + 1) (by first | assumption | omega | rfl | exact Nat.zero_le _ | decide) (by omega) ls (by rw [er]; exact lv_sub hl [2, 3, 0, 1] rfl)
  have hl : lv_has ls 4 [(0, .ref lh), (1, .int (nI n))] := hl
  refine lv_iconst (v := (-1)) hx hb dX1_inAllSets_0 (by decide) ?_
  refine lv_istore_n (lv' := [(2, .int (-1)), (0, .ref lh), (1, .int (nI n))]) hx hb dX1_inAllSets_1 rfl hl (by decide) rfl (fun ls hl => ?_)
  refine lv_iconst (v := 0) hx hb dX1_inAllSets_2 (by decide) ?_
  refine lv_istore_n (lv' := [(3, .int 0), (2, .int (-1)), (0, .ref lh), (1, .int (nI n))]) hx hb dX1_inAllSets_3 rfl hl (by decide) rfl (fun ls hl => ?_)
  exact cut_4 ((2 ^ n - 0) + 1) 0 (by first | assumption | omega | rfl | exact Nat.zero_le _ | decide) (Nat.lt_succ_self _) ls (lv_sub hl [2, 3, 0, 1] rfl)
set_option maxHeartbeats 4000000 in
set_option maxRecDepth 100000 in
theorem c_X1_howManySetsWith (l : Launch) (D : va_G) (cB cC cI : ClassId) (lh : Nat) (l0 : Nat) (tm : Nat → Int32) (hd : Int32) (lo : Int32) (mb : Int32) (n : Nat) (hn : n ≤ 4) : Met l yX1_howManySetsWith wsX1_howManySetsWith ({ frames := 1, cells := 0, slots := 0, locals := 24 }) (gPr D cB cC cI [.ref lh, .int mb, .int (nI n)] [(lh, .inr (1, [.ref l0, .int hd, .int lo])), (l0, .inl (cI, 4, .inl tm))]) (vp_Si (fun r => r = hms tm lo n mb)) 0 0 (fun _ => False) := by
  refine metR (cc := cX1_howManySetsWith) (maxL := 5) (ret := (some .int)) RX1 rfl (by decide) rfl (Nat.le_of_ble_eq_true rfl) ?_
  intro p e s m below meth c hx hb hr hml hown hts hlocks hP hK ls hl
  have cut_5 : ∀ (fu : Nat) (j : Nat), j ≤ 2 ^ n → 2 ^ n - j < fu → ∀ (ls : Array Slot), lv_has ls 5 [(0, .ref lh), (1, .int mb), (2, .int (nI n)), (4, .int (nI j)), (3, .int (nI (cntN (CPm tm lo n mb) j)))] → W p l e (headSpec wsX1_howManySetsWith ({ frames := 1, cells := 0, slots := 0, locals := 24 })).room s m ([.ref lh, .int mb, .int (nI n)] : List Value).toArray below meth c s.heap [] 0 0 (MQ below (vp_Si (fun r => r = hms tm lo n mb)) ([.ref lh, .int mb, .int (nI n)] : List Value).toArray s 0 0 (fun _ => False)) (F0 m 5 ls []) := by
    intro fu
    induction fu with
    | zero => intro j hj hfu; exact absurd hfu (Nat.not_lt_zero _)
    | succ fu ih_5 =>
      intro j hj hfu ls hl
      have h16 := pow4 n hn
      refine lv_iload hx hb dX1_howManySetsWith_5 (lv_at hl 3 rfl) ?_
      refine lv_iconst (v := 1) hx hb dX1_howManySetsWith_7 (by decide) ?_
      refine lv_iload_n hx hb dX1_howManySetsWith_8 rfl (lv_at hl 2 rfl) ?_
      refine lv_ishl hx hb dX1_howManySetsWith_9 ?_
      refine my_top (y := nI (2 ^ n)) (shl1 n hn) ?_
      refine lv_icmp_ge (tgt := 40) hx hb dX1_howManySetsWith_10 (by decide) (fun c_1 => ?_) (fun c_1 => ?_)
      · have hge : 2 ^ n ≤ j := (nI_leI (by omega) (by omega)).mp c_1
        refine lv_iload_n hx hb dX1_howManySetsWith_40 rfl (lv_at hl 4 rfl) ?_
        exact retRi hx hb hr hlocks (by rw [hms, show 2 ^ n = j from by omega]) dX1_howManySetsWith_41
      · have hlt : j < 2 ^ n := Nat.lt_of_not_le fun z => c_1 ((nI_leI (by omega) (by omega)).mpr z)
        refine lv_iload hx hb dX1_howManySetsWith_13 (lv_at hl 3 rfl) ?_
        refine lv_iload_n hx hb dX1_howManySetsWith_15 rfl (lv_at hl 1 rfl) ?_
        refine lv_iand hx hb dX1_howManySetsWith_16 ?_
        refine lv_iload_n hx hb dX1_howManySetsWith_17 rfl (lv_at hl 1 rfl) ?_
        refine lv_icmp_ne (tgt := 34) hx hb dX1_howManySetsWith_18 (by decide) (fun c_2 => ?_) (fun c_2 => ?_)
        · have er : cntN (CPm tm lo n mb) (j + 1) = cntN (CPm tm lo n mb) j := if_neg (by simp [CPm, c_2])
          refine lv_iinc (v := nI (j + 1)) (lv' := [(4, .int (nI (j + 1))), (0, .ref lh), (1, .int mb), (2, .int (nI n)), (3, .int (nI (cntN (CPm tm lo n mb) j)))]) hx hb dX1_howManySetsWith_34 hl (k := 3) rfl (nI_1 j) (by decide) rfl (fun ls hl => ?_)
          refine lv_goto (tgt := 5) hx hb dX1_howManySetsWith_37 (by decide) ?_
          exact ih_5 (j + 1) (by first | assumption | omega | rfl | exact Nat.zero_le _ | decide) (by omega) ls (by rw [er]; exact lv_sub hl [1, 2, 3, 0, 4] rfl)
        · have hm := c_2
          refine lv_aload_n hx hb dX1_howManySetsWith_21 rfl (lv_at hl 0 rfl) ?_
          refine lv_iload hx hb dX1_howManySetsWith_22 (lv_at hl 3 rfl) ?_
          refine lv_iload_n hx hb dX1_howManySetsWith_24 rfl (lv_at hl 2 rfl) ?_
          refine rcVi (As := [.int (nI j), .int (nI n)]) (rest := []) ⟨hx, hb, hml, hown, hts⟩ (c_X1_explains l D cB cC cI lh l0 tm hd lo j n (by first | assumption | omega | decide)) (cwV 2 hts gX1_howManySetsWith_X1_explains rfl rfl rfl (by decide +kernel) ⟨Nat.le_of_ble_eq_true rfl, Nat.le_of_ble_eq_true rfl⟩) hK hP [0, 1] rfl rfl 0 rfl rfl hl.1 rfl (Nat.le_of_ble_eq_true rfl) dX1_howManySetsWith_25 ⟨Nat.zero_le _, Nat.zero_le _⟩ ?_
          refine lv_if_eq (tgt := 34) hx hb dX1_howManySetsWith_28 (by decide) (fun c_3 => ?_) (fun c_3 => ?_)
          · have er : cntN (CPm tm lo n mb) (j + 1) = cntN (CPm tm lo n mb) j := if_neg (by simp [CPm, b2_0.mp c_3])
            refine lv_iinc (v := nI (j + 1)) (lv' := [(4, .int (nI (j + 1))), (0, .ref lh), (1, .int mb), (2, .int (nI n)), (3, .int (nI (cntN (CPm tm lo n mb) j)))]) hx hb dX1_howManySetsWith_34 hl (k := 3) rfl (nI_1 j) (by decide) rfl (fun ls hl => ?_)
            refine lv_goto (tgt := 5) hx hb dX1_howManySetsWith_37 (by decide) ?_
            exact ih_5 (j + 1) (by first | assumption | omega | rfl | exact Nat.zero_le _ | decide) (by omega) ls (by rw [er]; exact lv_sub hl [1, 2, 3, 0, 4] rfl)
          · have er : cntN (CPm tm lo n mb) (j + 1) = cntN (CPm tm lo n mb) j + 1 := if_pos (by rcases Bool.eq_false_or_eq_true (EX tm lo n j) with h | h; simp [CPm, hm, h]; exact absurd (b2_0.mpr h) c_3)
            refine lv_iinc (v := nI (cntN (CPm tm lo n mb) j + 1)) (lv' := [(3, .int (nI (cntN (CPm tm lo n mb) j + 1))), (0, .ref lh), (1, .int mb), (2, .int (nI n)), (4, .int (nI j))]) hx hb dX1_howManySetsWith_31 hl (k := 4) rfl (nI_1 _) (by decide) rfl (fun ls hl => ?_)
            refine lv_iinc (v := nI (j + 1)) (lv' := [(4, .int (nI (j + 1))), (3, .int (nI (cntN (CPm tm lo n mb) j + 1))), (0, .ref lh), (1, .int mb), (2, .int (nI n))]) hx hb dX1_howManySetsWith_34 hl (k := 4) rfl (nI_1 j) (by decide) rfl (fun ls hl => ?_)
            refine lv_goto (tgt := 5) hx hb dX1_howManySetsWith_37 (by decide) ?_
            exact ih_5 (j + 1) (by first | assumption | omega | rfl | exact Nat.zero_le _ | decide) (by omega) ls (by rw [er]; exact lv_sub hl [2, 3, 4, 0, 1] rfl)
  have hl : lv_has ls 5 [(0, .ref lh), (1, .int mb), (2, .int (nI n))] := hl
  refine lv_iconst (v := 0) hx hb dX1_howManySetsWith_0 (by decide) ?_
  refine lv_istore_n (lv' := [(3, .int 0), (0, .ref lh), (1, .int mb), (2, .int (nI n))]) hx hb dX1_howManySetsWith_1 rfl hl (by decide) rfl (fun ls hl => ?_)
  refine lv_iconst (v := 0) hx hb dX1_howManySetsWith_2 (by decide) ?_
  refine lv_istore (lv' := [(4, .int 0), (3, .int 0), (0, .ref lh), (1, .int mb), (2, .int (nI n))]) hx hb dX1_howManySetsWith_3 hl (by decide) rfl (fun ls hl => ?_)
  exact cut_5 ((2 ^ n - 0) + 1) 0 (by first | assumption | omega | rfl | exact Nat.zero_le _ | decide) (Nat.lt_succ_self _) ls (lv_sub hl [2, 3, 4, 0, 1] rfl)
set_option maxHeartbeats 4000000 in
set_option maxRecDepth 100000 in
theorem c_X1_howManySets (l : Launch) (D : va_G) (cB cC cI : ClassId) (lh : Nat) (l0 : Nat) (tm : Nat → Int32) (hd : Int32) (lo : Int32) (n : Nat) (hn : n ≤ 4) : Met l yX1_howManySets wsX1_howManySets ({ frames := 2, cells := 0, slots := 0, locals := 48 }) (gPr D cB cC cI [.ref lh, .int (nI n)] [(lh, .inr (1, [.ref l0, .int hd, .int lo])), (l0, .inl (cI, 4, .inl tm))]) (vp_Si (fun r => r = hms tm lo n 0)) 0 0 (fun _ => False) := by
  refine metR (cc := cX1_howManySets) (maxL := 2) (ret := (some .int)) RX1 rfl (by decide) rfl (Nat.le_of_ble_eq_true rfl) ?_
  intro p e s m below meth c hx hb hr hml hown hts hlocks hP hK ls hl
  have hl : lv_has ls 2 [(0, .ref lh), (1, .int (nI n))] := hl
  refine lv_aload_n hx hb dX1_howManySets_0 rfl (lv_at hl 0 rfl) ?_
  refine lv_iconst (v := 0) hx hb dX1_howManySets_1 (by decide) ?_
  refine lv_iload_n hx hb dX1_howManySets_2 rfl (lv_at hl 1 rfl) ?_
  refine rcVi (As := [.int 0, .int (nI n)]) (rest := []) ⟨hx, hb, hml, hown, hts⟩ (c_X1_howManySetsWith l D cB cC cI lh l0 tm hd lo 0 n (by first | assumption | omega | decide)) (cwV 2 hts gX1_howManySets_X1_howManySetsWith rfl rfl rfl (by decide +kernel) ⟨Nat.le_of_ble_eq_true rfl, Nat.le_of_ble_eq_true rfl⟩) hK hP [0, 1] rfl rfl 0 rfl rfl hl.1 rfl (Nat.le_of_ble_eq_true rfl) dX1_howManySets_3 ⟨Nat.zero_le _, Nat.zero_le _⟩ ?_
  exact retRi hx hb hr hlocks (rfl) dX1_howManySets_6
def watR (tm : Nat → Int32) (lo : Int32) (n : Nat) : Int32 := if (hms tm lo n 0) = 0 then -1 else (watL (hmsW tm lo n) (hms tm lo n 0) n).1
set_option maxHeartbeats 4000000 in
set_option maxRecDepth 100000 in
theorem c_X1_houseToWatch (l : Launch) (D : va_G) (cB cC cI : ClassId) (lh : Nat) (l0 : Nat) (tm : Nat → Int32) (hd : Int32) (lo : Int32) (n : Nat) (hn : n ≤ 4) : Met l yX1_houseToWatch wsX1_houseToWatch ({ frames := 3, cells := 0, slots := 0, locals := 69 }) (gPr D cB cC cI [.ref lh, .int (nI n)] [(lh, .inr (1, [.ref l0, .int hd, .int lo])), (l0, .inl (cI, 4, .inl tm))]) (vp_Si (fun r => r = watR tm lo n)) 0 0 (fun _ => False) := by
  refine metR (cc := cX1_houseToWatch) (maxL := 8) (ret := (some .int)) RX1 rfl (by decide) rfl (Nat.le_of_ble_eq_true rfl) ?_
  intro p e s m below meth c hx hb hr hml hown hts hlocks hP hK ls hl
  have cut_22 : ∀ (fu : Nat) (j : Nat), j ≤ n → ¬ (hms tm lo n 0) = 0 → n - j < fu → ∀ (ls : Array Slot), lv_has ls 8 [(0, .ref lh), (1, .int (nI n)), (2, .int (hms tm lo n 0)), (5, .int (nI j)), (3, .int ((watL (hmsW tm lo n) (hms tm lo n 0) j).1)), (4, .int ((watL (hmsW tm lo n) (hms tm lo n 0) j).2))] → W p l e (headSpec wsX1_houseToWatch ({ frames := 3, cells := 0, slots := 0, locals := 69 })).room s m ([.ref lh, .int (nI n)] : List Value).toArray below meth c s.heap [] 0 0 (MQ below (vp_Si (fun r => r = watR tm lo n)) ([.ref lh, .int (nI n)] : List Value).toArray s 0 0 (fun _ => False)) (F0 m 22 ls []) := by
    intro fu
    induction fu with
    | zero => intro j hj ha hfu; exact absurd hfu (Nat.not_lt_zero _)
    | succ fu ih_22 =>
      intro j hj ha hfu ls hl
      refine lv_iload hx hb dX1_houseToWatch_22 (lv_at hl 3 rfl) ?_
      refine lv_iload_n hx hb dX1_houseToWatch_24 rfl (lv_at hl 1 rfl) ?_
      refine lv_icmp_ge (tgt := 70) hx hb dX1_houseToWatch_25 (by decide) (fun c_1 => ?_) (fun c_1 => ?_)
      · have hge : n ≤ j := (nI_leI (by omega) (by omega)).mp c_1
        refine lv_iload_n hx hb dX1_houseToWatch_70 rfl (lv_at hl 4 rfl) ?_
        exact retRi hx hb hr hlocks (by rw [show j = n from by omega]; exact (if_neg ha).symm) dX1_houseToWatch_71
      · have hlt : j < n := Nat.lt_of_not_le fun z => c_1 ((nI_leI (by omega) (by omega)).mpr z)
        refine lv_aload_n hx hb dX1_houseToWatch_28 rfl (lv_at hl 0 rfl) ?_
        refine lv_iconst (v := 1) hx hb dX1_houseToWatch_29 (by decide) ?_
        refine lv_iload hx hb dX1_houseToWatch_30 (lv_at hl 3 rfl) ?_
        refine lv_ishl hx hb dX1_houseToWatch_32 ?_
        refine lv_iload_n hx hb dX1_houseToWatch_33 rfl (lv_at hl 1 rfl) ?_
        refine rcVi (As := [.int (1 <<< ((nI j) &&& 31)), .int (nI n)]) (rest := []) ⟨hx, hb, hml, hown, hts⟩ (c_X1_howManySetsWith l D cB cC cI lh l0 tm hd lo (1 <<< ((nI j) &&& 31)) n (by first | assumption | omega | decide)) (cwV 2 hts gX1_houseToWatch_X1_howManySetsWith rfl rfl rfl (by decide +kernel) ⟨Nat.le_of_ble_eq_true rfl, Nat.le_of_ble_eq_true rfl⟩) hK hP [0, 1] rfl rfl 0 rfl rfl hl.1 rfl (Nat.le_of_ble_eq_true rfl) dX1_houseToWatch_34 ⟨Nat.zero_le _, Nat.zero_le _⟩ ?_
        refine lv_istore (lv' := [(6, .int (hms tm lo n (1 <<< ((nI j) &&& 31)))), (0, .ref lh), (1, .int (nI n)), (2, .int (hms tm lo n 0)), (5, .int (nI j)), (3, .int ((watL (hmsW tm lo n) (hms tm lo n 0) j).1)), (4, .int ((watL (hmsW tm lo n) (hms tm lo n 0) j).2))]) hx hb dX1_houseToWatch_37 hl (by decide) rfl (fun ls hl => ?_)
        refine lv_iload hx hb dX1_houseToWatch_39 (lv_at hl 0 rfl) ?_
        refine lv_iload_n hx hb dX1_houseToWatch_41 rfl (lv_at hl 3 rfl) ?_
        refine lv_iload hx hb dX1_houseToWatch_42 (lv_at hl 0 rfl) ?_
        refine lv_isub hx hb dX1_houseToWatch_44 ?_
        refine va_mmax hx hb (hml.trans hl.1.symm) hown (hts (.methodLink RX1 38 Lib.Math.max.name) (by decide +kernel)) (hts (.static Lib.Math.max.name) (by decide +kernel)) (hts (.initialized "java/lang/Math") (by decide +kernel)) (hts (.code Lib.Math.max.name Lib.Math.max.code 2 (some .int)) (by decide +kernel)) (Nat.le_of_ble_eq_true rfl) (Nat.le_of_ble_eq_true rfl) (Nat.zero_le _) (Nat.zero_le _) dX1_houseToWatch_45 ?_
        refine lv_istore (lv' := [(7, .int (if (hms tm lo n (1 <<< ((nI j) &&& 31))) < ((hms tm lo n 0) - (hms tm lo n (1 <<< ((nI j) &&& 31)))) then ((hms tm lo n 0) - (hms tm lo n (1 <<< ((nI j) &&& 31)))) else (hms tm lo n (1 <<< ((nI j) &&& 31))))), (6, .int (hms tm lo n (1 <<< ((nI j) &&& 31)))), (0, .ref lh), (1, .int (nI n)), (2, .int (hms tm lo n 0)), (5, .int (nI j)), (3, .int ((watL (hmsW tm lo n) (hms tm lo n 0) j).1)), (4, .int ((watL (hmsW tm lo n) (hms tm lo n 0) j).2))]) hx hb dX1_houseToWatch_48 hl (by decide) rfl (fun ls hl => ?_)
        refine lv_iload hx hb dX1_houseToWatch_50 (lv_at hl 0 rfl) ?_
        refine lv_iload hx hb dX1_houseToWatch_52 (lv_at hl 7 rfl) ?_
        refine lv_icmp_ge (tgt := 64) hx hb dX1_houseToWatch_54 (by decide) (fun c_2 => ?_) (fun c_2 => ?_)
        · have er : watL (hmsW tm lo n) (hms tm lo n 0) (j + 1) = watL (hmsW tm lo n) (hms tm lo n 0) j := if_pos c_2
          refine lv_iinc (v := nI (j + 1)) (lv' := [(5, .int (nI (j + 1))), (7, .int (if (hms tm lo n (1 <<< ((nI j) &&& 31))) < ((hms tm lo n 0) - (hms tm lo n (1 <<< ((nI j) &&& 31)))) then ((hms tm lo n 0) - (hms tm lo n (1 <<< ((nI j) &&& 31)))) else (hms tm lo n (1 <<< ((nI j) &&& 31))))), (6, .int (hms tm lo n (1 <<< ((nI j) &&& 31)))), (0, .ref lh), (1, .int (nI n)), (2, .int (hms tm lo n 0)), (3, .int ((watL (hmsW tm lo n) (hms tm lo n 0) j).1)), (4, .int ((watL (hmsW tm lo n) (hms tm lo n 0) j).2))]) hx hb dX1_houseToWatch_64 hl (k := 5) rfl (nI_1 j) (by decide) rfl (fun ls hl => ?_)
          refine lv_goto (tgt := 22) hx hb dX1_houseToWatch_67 (by decide) ?_
          exact ih_22 (j + 1) (by first | assumption | omega | rfl | exact Nat.zero_le _ | decide) (by first | assumption | omega | rfl | exact Nat.zero_le _ | decide) (by omega) ls (by rw [er]; exact lv_sub hl [3, 4, 5, 0, 6, 7] rfl)
        · have er : watL (hmsW tm lo n) (hms tm lo n 0) (j + 1) = (nI j, (if (hmsW tm lo n) j < (hms tm lo n 0) - (hmsW tm lo n) j then (hms tm lo n 0) - (hmsW tm lo n) j else (hmsW tm lo n) j)) := if_neg c_2
          refine lv_iload hx hb dX1_houseToWatch_57 (lv_at hl 5 rfl) ?_
          refine lv_istore_n (lv' := [(3, .int (nI j)), (7, .int (if (hms tm lo n (1 <<< ((nI j) &&& 31))) < ((hms tm lo n 0) - (hms tm lo n (1 <<< ((nI j) &&& 31)))) then ((hms tm lo n 0) - (hms tm lo n (1 <<< ((nI j) &&& 31)))) else (hms tm lo n (1 <<< ((nI j) &&& 31))))), (6, .int (hms tm lo n (1 <<< ((nI j) &&& 31)))), (0, .ref lh), (1, .int (nI n)), (2, .int (hms tm lo n 0)), (5, .int (nI j)), (4, .int ((watL (hmsW tm lo n) (hms tm lo n 0) j).2))]) hx hb dX1_houseToWatch_59 rfl hl (by decide) rfl (fun ls hl => ?_)
          refine lv_iload hx hb dX1_houseToWatch_60 (lv_at hl 1 rfl) ?_
          refine lv_istore (lv' := [(4, .int (if (hms tm lo n (1 <<< ((nI j) &&& 31))) < ((hms tm lo n 0) - (hms tm lo n (1 <<< ((nI j) &&& 31)))) then ((hms tm lo n 0) - (hms tm lo n (1 <<< ((nI j) &&& 31)))) else (hms tm lo n (1 <<< ((nI j) &&& 31))))), (3, .int (nI j)), (7, .int (if (hms tm lo n (1 <<< ((nI j) &&& 31))) < ((hms tm lo n 0) - (hms tm lo n (1 <<< ((nI j) &&& 31)))) then ((hms tm lo n 0) - (hms tm lo n (1 <<< ((nI j) &&& 31)))) else (hms tm lo n (1 <<< ((nI j) &&& 31))))), (6, .int (hms tm lo n (1 <<< ((nI j) &&& 31)))), (0, .ref lh), (1, .int (nI n)), (2, .int (hms tm lo n 0)), (5, .int (nI j))]) hx hb dX1_houseToWatch_62 hl (by decide) rfl (fun ls hl => ?_)
          refine lv_iinc (v := nI (j + 1)) (lv' := [(5, .int (nI (j + 1))), (4, .int (if (hms tm lo n (1 <<< ((nI j) &&& 31))) < ((hms tm lo n 0) - (hms tm lo n (1 <<< ((nI j) &&& 31)))) then ((hms tm lo n 0) - (hms tm lo n (1 <<< ((nI j) &&& 31)))) else (hms tm lo n (1 <<< ((nI j) &&& 31))))), (3, .int (nI j)), (7, .int (if (hms tm lo n (1 <<< ((nI j) &&& 31))) < ((hms tm lo n 0) - (hms tm lo n (1 <<< ((nI j) &&& 31)))) then ((hms tm lo n 0) - (hms tm lo n (1 <<< ((nI j) &&& 31)))) else (hms tm lo n (1 <<< ((nI j) &&& 31))))), (6, .int (hms tm lo n (1 <<< ((nI j) &&& 31)))), (0, .ref lh), (1, .int (nI n)), (2, .int (hms tm lo n 0))]) hx hb dX1_houseToWatch_64 hl (k := 7) rfl (nI_1 j) (by decide) rfl (fun ls hl => ?_)
          refine lv_goto (tgt := 22) hx hb dX1_houseToWatch_67 (by decide) ?_
          exact ih_22 (j + 1) (by first | assumption | omega | rfl | exact Nat.zero_le _ | decide) (by first | assumption | omega | rfl | exact Nat.zero_le _ | decide) (by omega) ls (by rw [er]; exact lv_sub hl [5, 6, 7, 0, 2, 1] rfl)
  have hl : lv_has ls 8 [(0, .ref lh), (1, .int (nI n))] := hl
  refine lv_aload_n hx hb dX1_houseToWatch_0 rfl (lv_at hl 0 rfl) ?_
  refine lv_iload_n hx hb dX1_houseToWatch_1 rfl (lv_at hl 1 rfl) ?_
  refine rcVi (As := [.int (nI n)]) (rest := []) ⟨hx, hb, hml, hown, hts⟩ (c_X1_howManySets l D cB cC cI lh l0 tm hd lo n (by first | assumption | omega | decide)) (cwV 1 hts gX1_houseToWatch_X1_howManySets rfl rfl rfl (by decide +kernel) ⟨Nat.le_of_ble_eq_true rfl, Nat.le_of_ble_eq_true rfl⟩) hK hP [0, 1] rfl rfl 0 rfl rfl hl.1 rfl (Nat.le_of_ble_eq_true rfl) dX1_houseToWatch_2 ⟨Nat.zero_le _, Nat.zero_le _⟩ ?_
  refine lv_istore_n (lv' := [(2, .int (hms tm lo n 0)), (0, .ref lh), (1, .int (nI n))]) hx hb dX1_houseToWatch_5 rfl hl (by decide) rfl (fun ls hl => ?_)
  refine lv_iload_n hx hb dX1_houseToWatch_6 rfl (lv_at hl 0 rfl) ?_
  refine lv_if_ne (tgt := 12) hx hb dX1_houseToWatch_7 (by decide) (fun c_3 => ?_) (fun c_3 => ?_)
  · have ha := c_3
    refine lv_iconst (v := (-1)) hx hb dX1_houseToWatch_12 (by decide) ?_
    refine lv_istore_n (lv' := [(3, .int (-1)), (2, .int (hms tm lo n 0)), (0, .ref lh), (1, .int (nI n))]) hx hb dX1_houseToWatch_13 rfl hl (by decide) rfl (fun ls hl => ?_)
    refine lv_iload_n hx hb dX1_houseToWatch_14 rfl (lv_at hl 1 rfl) ?_
    refine lv_iconst (v := 1) hx hb dX1_houseToWatch_15 (by decide) ?_
    refine lv_iadd hx hb dX1_houseToWatch_16 ?_
    refine lv_istore (lv' := [(4, .int ((hms tm lo n 0) + 1)), (3, .int (-1)), (2, .int (hms tm lo n 0)), (0, .ref lh), (1, .int (nI n))]) hx hb dX1_houseToWatch_17 hl (by decide) rfl (fun ls hl => ?_)
    refine lv_iconst (v := 0) hx hb dX1_houseToWatch_19 (by decide) ?_
    refine lv_istore (lv' := [(5, .int 0), (4, .int ((hms tm lo n 0) + 1)), (3, .int (-1)), (2, .int (hms tm lo n 0)), (0, .ref lh), (1, .int (nI n))]) hx hb dX1_houseToWatch_20 hl (by decide) rfl (fun ls hl => ?_)
    exact cut_22 ((n - 0) + 1) 0 (by first | assumption | omega | rfl | exact Nat.zero_le _ | decide) (by first | assumption | omega | rfl | exact Nat.zero_le _ | decide) (Nat.lt_succ_self _) ls (lv_sub hl [4, 5, 3, 0, 2, 1] rfl)
  · have hz := c_3
    refine lv_iconst (v := (-1)) hx hb dX1_houseToWatch_10 (by decide) ?_
    exact retRi hx hb hr hlocks ((if_pos hz).symm) dX1_houseToWatch_11
set_option maxHeartbeats 4000000 in
set_option maxRecDepth 100000 in
theorem c_X5_copyRow (l : Launch) (D : va_G) (cB cC cI : ClassId) (a0 : Nat) (a1 : Nat) (sf : Nat → Int32) (df : Nat → Int32) (sz : Nat)  : Met l yX5_copyRow wsX5_copyRow ({ frames := 1, cells := 0, slots := 0, locals := 30 }) (gPw D cB cC cI [.ref a0, .ref a1] [(a0, .inl (cI, 4, .inl sf)), (a1, .inl (cI, 4, .inl df))] sz) (QWv D [(a0, .inl (cI, 4, .inl sf)), (a1, .inl (cI, 4, .inl sf))] (va_A [(a0, .inl (cI, 4, .inl sf)), (a1, .inl (cI, 4, .inl df))] sz)) 0 0 (va_A [(a0, .inl (cI, 4, .inl sf)), (a1, .inl (cI, 4, .inl df))] sz) := by
  refine metW (cc := cX5_copyRow) (maxL := 2) (ret := none) (QA := fun A => (QWv D [(a0, .inl (cI, 4, .inl sf)), (a1, .inl (cI, 4, .inl sf))] A)) RX5 rfl (by decide) rfl (Nat.le_of_ble_eq_true rfl) ?_
  intro p e s m below meth c A hx hb hr hml hown hts hlocks hin hP hK hD hA hS ls hl
  have hl : lv_has ls 2 [(0, .ref a0), (1, .ref a1)] := hl
  refine lv_aload_n hx hb dX5_copyRow_0 rfl (lv_at hl 0 rfl) ?_
  refine lv_iconst (v := 0) hx hb dX5_copyRow_1 (by decide) ?_
  refine lv_aload_n hx hb dX5_copyRow_2 rfl (lv_at hl 1 rfl) ?_
  refine lv_iconst (v := 0) hx hb dX5_copyRow_3 (by decide) ?_
  refine lv_iconst (v := 4) hx hb dX5_copyRow_4 (by decide) ?_
  refine va_copyi (ty := .int) hx hb (hml.trans hl.1.symm) hown (hts (.methodLink RX5 233 arraycopyName) (by decide +kernel)) (hts (.native arraycopyName) (by decide +kernel)) (hts (.static arraycopyName) (by decide +kernel)) (hts (.initialized "java/lang/System") (by decide +kernel)) hK.1 hP hD hS 0 1 0 0 rfl rfl rfl rfl rfl (by decide) (by decide) (by decide) (by decide) (by decide) (fun _ _ => rfl) (Nat.le_of_ble_eq_true rfl) (Nat.le_of_ble_eq_true rfl) dX5_copyRow_5 (fun H locs hP hD hS => ?_)
  have hP : va_P D vwCl [(a0, .inl (cI, 4, .inl sf)), (a1, .inl (cI, 4, .inl (va_cpy sf df ((0 : Int32).toNatClampNeg) ((0 : Int32).toNatClampNeg) ((4 : Int32).toNatClampNeg))))] H := hP
  have hD : va_D A [(a0, .inl (cI, 4, .inl sf)), (a1, .inl (cI, 4, .inl (va_cpy sf df ((0 : Int32).toNatClampNeg) ((0 : Int32).toNatClampNeg) ((4 : Int32).toNatClampNeg))))] := hD
  have hP := va_P.arr (g := sf) hP 1 rfl (fun j hj => co_4 (P := fun j => (va_cpy sf df ((0 : Int32).toNatClampNeg) ((0 : Int32).toNatClampNeg) ((4 : Int32).toNatClampNeg)) j = sf j) rfl rfl rfl rfl hj)
  have hD := va_D.set (p := 1) (e := .inl (cI, 4, .inl sf)) hD rfl
  have hP : va_P D vwCl [(a0, .inl (cI, 4, .inl sf)), (a1, .inl (cI, 4, .inl sf))] H := hP
  have hD : va_D A [(a0, .inl (cI, 4, .inl sf)), (a1, .inl (cI, 4, .inl sf))] := hD
  exact retWv (u := ()) hx hb hr hlocks trivial hP hD hS dX5_copyRow_8
set_option maxHeartbeats 4000000 in
set_option maxRecDepth 100000 in
theorem c_X1_add (l : Launch) (D : va_G) (cB cC cI : ClassId) (lh : Nat) (l0 : Nat) (tm : Nat → Int32) (hd : Int32) (lo : Int32) (b : Int32) (j : Nat) (sz : Nat) (hb4 : ix b j 4) : Met l yX1_add wsX1_add ({ frames := 0, cells := 0, slots := 0, locals := 0 }) (gPw D cB cC cI [.ref lh, .int b] [(lh, .inr (1, [.ref l0, .int hd, .int lo])), (l0, .inl (cI, 4, .inl tm))] sz) (QWv D [(lh, .inr (1, [.ref l0, .int (hd + 1), .int lo])), (l0, .inl (cI, 4, .inl (upd tm j ((tm j) + 1))))] (va_A [(lh, .inr (1, [.ref l0, .int hd, .int lo])), (l0, .inl (cI, 4, .inl tm))] sz)) 0 0 (va_A [(lh, .inr (1, [.ref l0, .int hd, .int lo])), (l0, .inl (cI, 4, .inl tm))] sz) := by
  refine metW (cc := cX1_add) (maxL := 2) (ret := none) (QA := fun A => (QWv D [(lh, .inr (1, [.ref l0, .int (hd + 1), .int lo])), (l0, .inl (cI, 4, .inl (upd tm j ((tm j) + 1))))] A)) RX1 rfl (by decide) rfl (Nat.le_of_ble_eq_true rfl) ?_
  intro p e s m below meth c A hx hb hr hml hown hts hlocks hin hP hK hD hA hS ls hl
  have iwX1 : ∀ w ∈ wsX10, w ∈ wsX1_add := by decide +kernel
  have fk9 := hts (.fieldLink RX1 9 "BuyersWeights$Ledger" "times" "[I") (by decide +kernel)
  have fk15 := hts (.fieldLink RX1 15 "BuyersWeights$Ledger" "hands" "I") (by decide +kernel)
  have hl : lv_has ls 2 [(0, .ref lh), (1, .int b)] := hl
  refine lv_aload_n hx hb dX1_add_0 rfl (lv_at hl 0 rfl) ?_
  refine va_get (D := D) (ci := 1) (v := .ref l0) (C := RX1) (T := TX1) (N := 3) hx hb hts iwX1 hown hK.1 hP 0 rfl rfl 0 (by decide) fk9 (fun _ h9 => h9) rfl dX1_add_1 ?_
  refine lv_iload_n hx hb dX1_add_4 rfl (lv_at hl 1 rfl) ?_
  refine lv_dup2_11 hx hb dX1_add_5 rfl rfl ?_
  refine my_iald hx hb hK hP 1 rfl (j := j) hb4 dX1_add_6 ?_
  refine lv_iconst (v := 1) hx hb dX1_add_7 (by decide) ?_
  refine lv_iadd hx hb dX1_add_8 ?_
  refine my_iast hx hb hK hP hD hS 1 rfl (j := j) hb4 dX1_add_9 (fun H locs hP hD hS => ?_)
  have hP : va_P D vwCl [(lh, .inr (1, [.ref l0, .int hd, .int lo])), (l0, .inl (cI, 4, .inl (upd tm j ((tm j) + 1))))] H := hP
  have hD : va_D A [(lh, .inr (1, [.ref l0, .int hd, .int lo])), (l0, .inl (cI, 4, .inl (upd tm j ((tm j) + 1))))] := hD
  refine lv_aload_n hx hb dX1_add_10 rfl (lv_at hl 0 rfl) ?_
  refine lv_dup hx hb dX1_add_11 rfl ?_
  refine va_get (D := D) (ci := 1) (v := .int hd) (C := RX1) (T := TX1) (N := 3) hx hb hts iwX1 hown hK.1 hP 0 rfl rfl 1 (by decide) fk15 (fun _ h9 => h9) rfl dX1_add_12 ?_
  refine lv_iconst (v := 1) hx hb dX1_add_15 (by decide) ?_
  refine lv_iadd hx hb dX1_add_16 ?_
  refine va_put (D := D) (ci := 1) (v := .int (hd + 1)) (ty := .int) (C := RX1) (T := TX1) (N := 3) hx hb hts iwX1 tyX1 tyX1_ok nmX1 hown hK.1 hP hD hS 0 rfl rfl 1 (by decide) fk15 (fun _ h9 => h9) rfl (by decide +kernel) rfl rfl (Nat.le_of_ble_eq_true rfl) dX1_add_17 (fun H locs hP hD hS => ?_)
  have hP : va_P D vwCl [(lh, .inr (1, [.ref l0, .int (hd + 1), .int lo])), (l0, .inl (cI, 4, .inl (upd tm j ((tm j) + 1))))] H := hP
  have hD : va_D A [(lh, .inr (1, [.ref l0, .int (hd + 1), .int lo])), (l0, .inl (cI, 4, .inl (upd tm j ((tm j) + 1))))] := hD
  exact retWv (u := ()) hx hb hr hlocks trivial hP hD hS dX1_add_20
set_option maxHeartbeats 4000000 in
set_option maxRecDepth 100000 in
theorem c_X1_forget (l : Launch) (D : va_G) (cB cC cI : ClassId) (lh : Nat) (l0 : Nat) (tm : Nat → Int32) (hd : Int32) (lo : Int32) (sz : Nat)  : Met l yX1_forget wsX1_forget ({ frames := 0, cells := 0, slots := 0, locals := 0 }) (gPw D cB cC cI [.ref lh] [(lh, .inr (1, [.ref l0, .int hd, .int lo])), (l0, .inl (cI, 4, .inl tm))] sz) (QWv D [(lh, .inr (1, [.ref l0, .int 0, .int 0])), (l0, .inl (cI, 4, .inl (fun _ => 0)))] (va_A [(lh, .inr (1, [.ref l0, .int hd, .int lo])), (l0, .inl (cI, 4, .inl tm))] sz)) 0 0 (va_A [(lh, .inr (1, [.ref l0, .int hd, .int lo])), (l0, .inl (cI, 4, .inl tm))] sz) := by
  refine metW (cc := cX1_forget) (maxL := 2) (ret := none) (QA := fun A => (QWv D [(lh, .inr (1, [.ref l0, .int 0, .int 0])), (l0, .inl (cI, 4, .inl (fun _ => 0)))] A)) RX1 rfl (by decide) rfl (Nat.le_of_ble_eq_true rfl) ?_
  intro p e s m below meth c A hx hb hr hml hown hts hlocks hin hP hK hD hA hS ls hl
  have iwX1 : ∀ w ∈ wsX10, w ∈ wsX1_forget := by decide +kernel
  have fk9 := hts (.fieldLink RX1 9 "BuyersWeights$Ledger" "times" "[I") (by decide +kernel)
  have fk15 := hts (.fieldLink RX1 15 "BuyersWeights$Ledger" "hands" "I") (by decide +kernel)
  have fk19 := hts (.fieldLink RX1 19 "BuyersWeights$Ledger" "lost" "I") (by decide +kernel)
  have hl : lv_has ls 2 [(0, .ref lh)] := hl
  refine lv_iconst (v := 0) hx hb dX1_forget_0 (by decide) ?_
  refine lv_istore_n (lv' := [(1, .int 0), (0, .ref lh)]) hx hb dX1_forget_1 rfl hl (by decide) rfl (fun ls hl => ?_)
  refine lv_iload_n hx hb dX1_forget_2 rfl (lv_at hl 0 rfl) ?_
  refine lv_iconst (v := 4) hx hb dX1_forget_3 (by decide) ?_
  refine lv_icmp_ge (tgt := 20) hx hb dX1_forget_4 (by decide) (fun c_1 => absurd c_1 (by decide)) (fun c_1 => ?_)
  refine lv_aload_n hx hb dX1_forget_7 rfl (lv_at hl 1 rfl) ?_
  refine va_get (D := D) (ci := 1) (v := .ref l0) (C := RX1) (T := TX1) (N := 3) hx hb hts iwX1 hown hK.1 hP 0 rfl rfl 0 (by decide) fk9 (fun _ h9 => h9) rfl dX1_forget_8 ?_
  refine lv_iload_n hx hb dX1_forget_11 rfl (lv_at hl 0 rfl) ?_
  refine lv_iconst (v := 0) hx hb dX1_forget_12 (by decide) ?_
  refine my_iast hx hb hK hP hD hS 1 rfl (j := 0) (ix_nI (j := 0) (by decide) (by decide)) dX1_forget_13 (fun H locs hP hD hS => ?_)
  have hP : va_P D vwCl [(lh, .inr (1, [.ref l0, .int hd, .int lo])), (l0, .inl (cI, 4, .inl (upd tm 0 0)))] H := hP
  have hD : va_D A [(lh, .inr (1, [.ref l0, .int hd, .int lo])), (l0, .inl (cI, 4, .inl (upd tm 0 0)))] := hD
  refine lv_iinc (v := 1) (lv' := [(1, .int 1), (0, .ref lh)]) hx hb dX1_forget_14 hl (k := 0) rfl (by decide) (by decide) rfl (fun ls hl => ?_)
  refine lv_goto (tgt := 2) hx hb dX1_forget_17 (by decide) ?_
  refine lv_iload_n hx hb dX1_forget_2 rfl (lv_at hl 0 rfl) ?_
  refine lv_iconst (v := 4) hx hb dX1_forget_3 (by decide) ?_
  refine lv_icmp_ge (tgt := 20) hx hb dX1_forget_4 (by decide) (fun c_2 => absurd c_2 (by decide)) (fun c_2 => ?_)
  refine lv_aload_n hx hb dX1_forget_7 rfl (lv_at hl 1 rfl) ?_
  refine va_get (D := D) (ci := 1) (v := .ref l0) (C := RX1) (T := TX1) (N := 3) hx hb hts iwX1 hown hK.1 hP 0 rfl rfl 0 (by decide) fk9 (fun _ h9 => h9) rfl dX1_forget_8 ?_
  refine lv_iload_n hx hb dX1_forget_11 rfl (lv_at hl 0 rfl) ?_
  refine lv_iconst (v := 0) hx hb dX1_forget_12 (by decide) ?_
  refine my_iast hx hb hK hP hD hS 1 rfl (j := 1) (ix_nI (j := 1) (by decide) (by decide)) dX1_forget_13 (fun H locs hP hD hS => ?_)
  have hP : va_P D vwCl [(lh, .inr (1, [.ref l0, .int hd, .int lo])), (l0, .inl (cI, 4, .inl (upd (upd tm 0 0) 1 0)))] H := hP
  have hD : va_D A [(lh, .inr (1, [.ref l0, .int hd, .int lo])), (l0, .inl (cI, 4, .inl (upd (upd tm 0 0) 1 0)))] := hD
  refine lv_iinc (v := 2) (lv' := [(1, .int 2), (0, .ref lh)]) hx hb dX1_forget_14 hl (k := 0) rfl (by decide) (by decide) rfl (fun ls hl => ?_)
  refine lv_goto (tgt := 2) hx hb dX1_forget_17 (by decide) ?_
  refine lv_iload_n hx hb dX1_forget_2 rfl (lv_at hl 0 rfl) ?_
  refine lv_iconst (v := 4) hx hb dX1_forget_3 (by decide) ?_
  refine lv_icmp_ge (tgt := 20) hx hb dX1_forget_4 (by decide) (fun c_3 => absurd c_3 (by decide)) (fun c_3 => ?_)
  refine lv_aload_n hx hb dX1_forget_7 rfl (lv_at hl 1 rfl) ?_
  refine va_get (D := D) (ci := 1) (v := .ref l0) (C := RX1) (T := TX1) (N := 3) hx hb hts iwX1 hown hK.1 hP 0 rfl rfl 0 (by decide) fk9 (fun _ h9 => h9) rfl dX1_forget_8 ?_
  refine lv_iload_n hx hb dX1_forget_11 rfl (lv_at hl 0 rfl) ?_
  refine lv_iconst (v := 0) hx hb dX1_forget_12 (by decide) ?_
  refine my_iast hx hb hK hP hD hS 1 rfl (j := 2) (ix_nI (j := 2) (by decide) (by decide)) dX1_forget_13 (fun H locs hP hD hS => ?_)
  have hP : va_P D vwCl [(lh, .inr (1, [.ref l0, .int hd, .int lo])), (l0, .inl (cI, 4, .inl (upd (upd (upd tm 0 0) 1 0) 2 0)))] H := hP
  have hD : va_D A [(lh, .inr (1, [.ref l0, .int hd, .int lo])), (l0, .inl (cI, 4, .inl (upd (upd (upd tm 0 0) 1 0) 2 0)))] := hD
  refine lv_iinc (v := 3) (lv' := [(1, .int 3), (0, .ref lh)]) hx hb dX1_forget_14 hl (k := 0) rfl (by decide) (by decide) rfl (fun ls hl => ?_)
  refine lv_goto (tgt := 2) hx hb dX1_forget_17 (by decide) ?_
  refine lv_iload_n hx hb dX1_forget_2 rfl (lv_at hl 0 rfl) ?_
  refine lv_iconst (v := 4) hx hb dX1_forget_3 (by decide) ?_
  refine lv_icmp_ge (tgt := 20) hx hb dX1_forget_4 (by decide) (fun c_4 => absurd c_4 (by decide)) (fun c_4 => ?_)
  refine lv_aload_n hx hb dX1_forget_7 rfl (lv_at hl 1 rfl) ?_
  refine va_get (D := D) (ci := 1) (v := .ref l0) (C := RX1) (T := TX1) (N := 3) hx hb hts iwX1 hown hK.1 hP 0 rfl rfl 0 (by decide) fk9 (fun _ h9 => h9) rfl dX1_forget_8 ?_
  refine lv_iload_n hx hb dX1_forget_11 rfl (lv_at hl 0 rfl) ?_
  refine lv_iconst (v := 0) hx hb dX1_forget_12 (by decide) ?_
  refine my_iast hx hb hK hP hD hS 1 rfl (j := 3) (ix_nI (j := 3) (by decide) (by decide)) dX1_forget_13 (fun H locs hP hD hS => ?_)
  have hP : va_P D vwCl [(lh, .inr (1, [.ref l0, .int hd, .int lo])), (l0, .inl (cI, 4, .inl (upd (upd (upd (upd tm 0 0) 1 0) 2 0) 3 0)))] H := hP
  have hD : va_D A [(lh, .inr (1, [.ref l0, .int hd, .int lo])), (l0, .inl (cI, 4, .inl (upd (upd (upd (upd tm 0 0) 1 0) 2 0) 3 0)))] := hD
  refine lv_iinc (v := 4) (lv' := [(1, .int 4), (0, .ref lh)]) hx hb dX1_forget_14 hl (k := 0) rfl (by decide) (by decide) rfl (fun ls hl => ?_)
  refine lv_goto (tgt := 2) hx hb dX1_forget_17 (by decide) ?_
  refine lv_iload_n hx hb dX1_forget_2 rfl (lv_at hl 0 rfl) ?_
  refine lv_iconst (v := 4) hx hb dX1_forget_3 (by decide) ?_
  refine lv_icmp_ge (tgt := 20) hx hb dX1_forget_4 (by decide) (fun c_5 => ?_) (fun c_5 => absurd c_5 (by decide))
  refine lv_aload_n hx hb dX1_forget_20 rfl (lv_at hl 1 rfl) ?_
  refine lv_iconst (v := 0) hx hb dX1_forget_21 (by decide) ?_
  refine va_put (D := D) (ci := 1) (v := .int 0) (ty := .int) (C := RX1) (T := TX1) (N := 3) hx hb hts iwX1 tyX1 tyX1_ok nmX1 hown hK.1 hP hD hS 0 rfl rfl 1 (by decide) fk15 (fun _ h9 => h9) rfl (by decide +kernel) rfl rfl (Nat.le_of_ble_eq_true rfl) dX1_forget_22 (fun H locs hP hD hS => ?_)
  have hP : va_P D vwCl [(lh, .inr (1, [.ref l0, .int 0, .int lo])), (l0, .inl (cI, 4, .inl (upd (upd (upd (upd tm 0 0) 1 0) 2 0) 3 0)))] H := hP
  have hD : va_D A [(lh, .inr (1, [.ref l0, .int 0, .int lo])), (l0, .inl (cI, 4, .inl (upd (upd (upd (upd tm 0 0) 1 0) 2 0) 3 0)))] := hD
  refine lv_aload_n hx hb dX1_forget_25 rfl (lv_at hl 1 rfl) ?_
  refine lv_iconst (v := 0) hx hb dX1_forget_26 (by decide) ?_
  refine va_put (D := D) (ci := 1) (v := .int 0) (ty := .int) (C := RX1) (T := TX1) (N := 3) hx hb hts iwX1 tyX1 tyX1_ok nmX1 hown hK.1 hP hD hS 0 rfl rfl 2 (by decide) fk19 (fun _ h9 => h9) rfl (by decide +kernel) rfl rfl (Nat.le_of_ble_eq_true rfl) dX1_forget_27 (fun H locs hP hD hS => ?_)
  have hP : va_P D vwCl [(lh, .inr (1, [.ref l0, .int 0, .int 0])), (l0, .inl (cI, 4, .inl (upd (upd (upd (upd tm 0 0) 1 0) 2 0) 3 0)))] H := hP
  have hD : va_D A [(lh, .inr (1, [.ref l0, .int 0, .int 0])), (l0, .inl (cI, 4, .inl (upd (upd (upd (upd tm 0 0) 1 0) 2 0) 3 0)))] := hD
  have hP := va_P.arr (g := (fun _ => 0)) hP 1 rfl (fun j hj => co_4 (P := fun j => (upd (upd (upd (upd tm 0 0) 1 0) 2 0) 3 0) j = 0) rfl rfl rfl rfl hj)
  have hD := va_D.set (p := 1) (e := .inl (cI, 4, .inl (fun _ => 0))) hD rfl
  have hP : va_P D vwCl [(lh, .inr (1, [.ref l0, .int 0, .int 0])), (l0, .inl (cI, 4, .inl (fun _ => 0)))] H := hP
  have hD : va_D A [(lh, .inr (1, [.ref l0, .int 0, .int 0])), (l0, .inl (cI, 4, .inl (fun _ => 0)))] := hD
  exact retWv (u := ()) hx hb hr hlocks trivial hP hD hS dX1_forget_30
set_option maxHeartbeats 4000000 in
set_option maxRecDepth 100000 in
theorem c_X1_copyFrom (l : Launch) (D : va_G) (cB cC cI : ClassId) (lh : Nat) (l0 : Nat) (tm : Nat → Int32) (hd : Int32) (lo : Int32) (jh : Nat) (j0 : Nat) (jm : Nat → Int32) (jd : Int32) (jo : Int32) (sz : Nat)  : Met l yX1_copyFrom wsX1_copyFrom ({ frames := 2, cells := 0, slots := 0, locals := 51 }) (gPw D cB cC cI [.ref lh, .ref jh] [(lh, .inr (1, [.ref l0, .int hd, .int lo])), (l0, .inl (cI, 4, .inl tm)), (jh, .inr (1, [.ref j0, .int jd, .int jo])), (j0, .inl (cI, 4, .inl jm))] sz) (QWv D [(lh, .inr (1, [.ref l0, .int jd, .int jo])), (l0, .inl (cI, 4, .inl jm)), (jh, .inr (1, [.ref j0, .int jd, .int jo])), (j0, .inl (cI, 4, .inl jm))] (va_A [(lh, .inr (1, [.ref l0, .int hd, .int lo])), (l0, .inl (cI, 4, .inl tm)), (jh, .inr (1, [.ref j0, .int jd, .int jo])), (j0, .inl (cI, 4, .inl jm))] sz)) 0 0 (va_A [(lh, .inr (1, [.ref l0, .int hd, .int lo])), (l0, .inl (cI, 4, .inl tm)), (jh, .inr (1, [.ref j0, .int jd, .int jo])), (j0, .inl (cI, 4, .inl jm))] sz) := by
  refine metW (cc := cX1_copyFrom) (maxL := 2) (ret := none) (QA := fun A => (QWv D [(lh, .inr (1, [.ref l0, .int jd, .int jo])), (l0, .inl (cI, 4, .inl jm)), (jh, .inr (1, [.ref j0, .int jd, .int jo])), (j0, .inl (cI, 4, .inl jm))] A)) RX1 rfl (by decide) rfl (Nat.le_of_ble_eq_true rfl) ?_
  intro p e s m below meth c A hx hb hr hml hown hts hlocks hin hP hK hD hA hS ls hl
  have iwX1 : ∀ w ∈ wsX10, w ∈ wsX1_copyFrom := by decide +kernel
  have fk9 := hts (.fieldLink RX1 9 "BuyersWeights$Ledger" "times" "[I") (by decide +kernel)
  have fk15 := hts (.fieldLink RX1 15 "BuyersWeights$Ledger" "hands" "I") (by decide +kernel)
  have fk19 := hts (.fieldLink RX1 19 "BuyersWeights$Ledger" "lost" "I") (by decide +kernel)
  have hl : lv_has ls 2 [(0, .ref lh), (1, .ref jh)] := hl
  refine lv_aload_n hx hb dX1_copyFrom_0 rfl (lv_at hl 1 rfl) ?_
  refine va_get (D := D) (ci := 1) (v := .ref j0) (C := RX1) (T := TX1) (N := 3) hx hb hts iwX1 hown hK.1 hP 2 rfl rfl 0 (by decide) fk9 (fun _ h9 => h9) rfl dX1_copyFrom_1 ?_
  refine lv_aload_n hx hb dX1_copyFrom_4 rfl (lv_at hl 0 rfl) ?_
  refine va_get (D := D) (ci := 1) (v := .ref l0) (C := RX1) (T := TX1) (N := 3) hx hb hts iwX1 hown hK.1 hP 0 rfl rfl 0 (by decide) fk9 (fun _ h9 => h9) rfl dX1_copyFrom_5 ?_
  refine wcNv1 (As := [.ref j0, .ref l0]) (rest := []) (wr := [(lh, .inr (1, [.ref l0, .int hd, .int lo])), (jh, .inr (1, [.ref j0, .int jd, .int jo]))]) (w2 := [(lh, .inr (1, [.ref l0, .int hd, .int lo])), (l0, .inl (cI, 4, .inl jm)), (jh, .inr (1, [.ref j0, .int jd, .int jo])), (j0, .inl (cI, 4, .inl jm))]) ⟨hx, hb, hml, hown, hts⟩ (c_X5_copyRow l D cB cC cI j0 l0 jm tm _) ⟨va_cnB 2 hts gX1_copyFrom_X5_copyRow_n22 rfl rfl rfl hK.2.2.2.2.2.2.2.2.2 (hts (.initialized RX5) (by decide +kernel)) (by decide +kernel) ⟨Nat.le_of_ble_eq_true rfl, Nat.le_of_ble_eq_true rfl⟩, hts (.static yX5_copyRow) (by decide +kernel), trivial⟩ hK hP hD hS hA [3, 1] [0, 2] [0, 3, 1, 2] (by decide) rfl rfl (by decide) (by decide) (by decide) rfl rfl hl.1 rfl (Nat.le_of_ble_eq_true rfl) dX1_copyFrom_8 ⟨Nat.zero_le _, Nat.zero_le _⟩ (fun H locs hP hD hS => ?_)
  refine lv_aload_n hx hb dX1_copyFrom_11 rfl (lv_at hl 0 rfl) ?_
  refine lv_aload_n hx hb dX1_copyFrom_12 rfl (lv_at hl 1 rfl) ?_
  refine va_get (D := D) (ci := 1) (v := .int jd) (C := RX1) (T := TX1) (N := 3) hx hb hts iwX1 hown hK.1 hP 2 rfl rfl 1 (by decide) fk15 (fun _ h9 => h9) rfl dX1_copyFrom_13 ?_
  refine va_put (D := D) (ci := 1) (v := .int jd) (ty := .int) (C := RX1) (T := TX1) (N := 3) hx hb hts iwX1 tyX1 tyX1_ok nmX1 hown hK.1 hP hD hS 0 rfl rfl 1 (by decide) fk15 (fun _ h9 => h9) rfl (by decide +kernel) rfl rfl (Nat.le_of_ble_eq_true rfl) dX1_copyFrom_16 (fun H locs hP hD hS => ?_)
  have hP : va_P D vwCl [(lh, .inr (1, [.ref l0, .int jd, .int lo])), (l0, .inl (cI, 4, .inl jm)), (jh, .inr (1, [.ref j0, .int jd, .int jo])), (j0, .inl (cI, 4, .inl jm))] H := hP
  have hD : va_D A [(lh, .inr (1, [.ref l0, .int jd, .int lo])), (l0, .inl (cI, 4, .inl jm)), (jh, .inr (1, [.ref j0, .int jd, .int jo])), (j0, .inl (cI, 4, .inl jm))] := hD
  refine lv_aload_n hx hb dX1_copyFrom_19 rfl (lv_at hl 0 rfl) ?_
  refine lv_aload_n hx hb dX1_copyFrom_20 rfl (lv_at hl 1 rfl) ?_
  refine va_get (D := D) (ci := 1) (v := .int jo) (C := RX1) (T := TX1) (N := 3) hx hb hts iwX1 hown hK.1 hP 2 rfl rfl 2 (by decide) fk19 (fun _ h9 => h9) rfl dX1_copyFrom_21 ?_
  refine va_put (D := D) (ci := 1) (v := .int jo) (ty := .int) (C := RX1) (T := TX1) (N := 3) hx hb hts iwX1 tyX1 tyX1_ok nmX1 hown hK.1 hP hD hS 0 rfl rfl 2 (by decide) fk19 (fun _ h9 => h9) rfl (by decide +kernel) rfl rfl (Nat.le_of_ble_eq_true rfl) dX1_copyFrom_24 (fun H locs hP hD hS => ?_)
  have hP : va_P D vwCl [(lh, .inr (1, [.ref l0, .int jd, .int jo])), (l0, .inl (cI, 4, .inl jm)), (jh, .inr (1, [.ref j0, .int jd, .int jo])), (j0, .inl (cI, 4, .inl jm))] H := hP
  have hD : va_D A [(lh, .inr (1, [.ref l0, .int jd, .int jo])), (l0, .inl (cI, 4, .inl jm)), (jh, .inr (1, [.ref j0, .int jd, .int jo])), (j0, .inl (cI, 4, .inl jm))] := hD
  exact retWv (u := ()) hx hb hr hlocks trivial hP hD hS dX1_copyFrom_27
