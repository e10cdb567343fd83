theorem dec1 (x : Int32) : x + Int32.ofInt (-1) = x - 1 := by rw [Int32.sub_eq_add_neg]; rfl
def rdL (lt : Nat → Int32) (k : Nat) : Nat → Nat → Int32 × Int32 × Int32
  | 0, i => (nI (4 * i), 0, nI i)
  | f + 1, i =>
    if f_X6_readOne lt k (4 * i) = nI (4 * i) + 3 then
      (if (¬ nI k ≤ nI (4 * i + 3)) ∧ lt (4 * i + 3) = 59 ∧ (¬ nI (i + 1) ≤ 1) then
         (if f_X6_isFigure lt k (4 * i + 4) 0 3 = 0 then (nI (4 * i + 3) + 1, 0, nI (i + 1)) else (nI (4 * i + 3) + 2, (if nI (4 * i + 3) + 2 = nI k then 1 else 0), nI (i + 1)))
       else if nI (4 * i + 3) = nI k ∨ nI (i + 1) = 4 ∨ ¬ lt (4 * i + 3) = 44 then (nI (4 * i + 3), 0, nI (i + 1))
       else rdL lt k f (i + 1))
    else (f_X6_readOne lt k (4 * i), 0, nI i)
theorem isF_lt {lt : Nat → Int32} {k q : Nat} {a b : Int32} (hk : k ≤ 18) (hq : q ≤ 21) (h : ¬ f_X6_isFigure lt k q a b = 0) : q < k := by
  by_cases h1 : nI k ≤ nI q
  · exact absurd (if_pos h1) h
  · exact Nat.lt_of_not_le fun z => h1 ((nI_leI (by omega) (by omega)).mpr z)
theorem rdOne_lt {lt : Nat → Int32} {k q : Nat} (hk : k ≤ 18) (hq : q ≤ k) (h : f_X6_readOne lt k q = nI q + 3) : q + 2 < k := by
  rw [show nI q + 3 = nI (q + 3) from nI_add q 3] at h
  by_cases h1 : nI q = nI k
  · rw [show f_X6_readOne lt k q = nI q from if_pos h1, nI_eq (by omega) (by omega)] at h; omega
  by_cases h2 : f_X6_kindBy (lt q) = -1
  · rw [show f_X6_readOne lt k q = nI q from (if_neg h1).trans (if_pos h2), nI_eq (by omega) (by omega)] at h; omega
  by_cases h3 : f_X6_isFigure lt k (q + 1) 0 9 = 0
  · rw [show f_X6_readOne lt k q = nI (q + 1) from (if_neg h1).trans ((if_neg h2).trans (if_pos h3)), nI_eq (by omega) (by omega)] at h; omega
  by_cases h4 : f_X6_isFigure lt k (q + 2) 1 9 = 0
  · rw [show f_X6_readOne lt k q = nI (q + 2) from (if_neg h1).trans ((if_neg h2).trans ((if_neg h3).trans (if_pos h4))), nI_eq (by omega) (by omega)] at h; omega
  exact isF_lt hk (by omega) h4
set_option maxHeartbeats 4000000 in
set_option maxRecDepth 100000 in
theorem c_X6_read (l : Launch) (D : va_G) (cB cC cI : ClassId) (vh : Nat) (v0 : Nat) (v1 : Nat) (v2 : Nat) (v3 : Nat) (v4 : Nat) (v5 : Nat) (v6 : Nat) (v7 : Nat) (v8 : Nat) (v9 : Nat) (v10 : Nat) (kd : Nat → Int32) (st : Nat → Int32) (co : Nat → Int32) (gt : Nat → Int32) (pd : Nat → Int32) (de : Nat → Int32) (us : Nat → Int32) (tm : Nat → Int32) (lt : Nat → Int32) (sv : Nat → Int32) (ke : Nat → Int32) (mm : Int32) (n : Nat) (tl : Int32) (ho : Int32) (sl : Int32) (hd : Int32) (lo : Int32) (ak : Int32) (k : Nat) (isw : Int32) (nw : Int32) (sn : Int64) (ek : Int32) (em : Int32) (eh : Int32) (es : Int32) (ed : Int32) (el : Int32) (hs : Int64) (sz : Nat) (hk : k ≤ 18) : Met l yX6_read wsX6_read ({ frames := 3, cells := 0, slots := 0, locals := 66 }) (gPw D cB cC cI [.ref vh] [(vh, .inr (6, [.int mm, .int (nI n), .int tl, .int ho, .ref v0, .ref v1, .ref v2, .ref v3, .ref v4, .ref v5, .ref v6, .int sl, .int hd, .ref v7, .int lo, .int ak, .int (nI k), .ref v8, .int isw, .int nw, .ref v9, .long sn, .int ek, .int em, .int eh, .int es, .int ed, .int el, .ref v10, .long hs])), (v0, .inl (cI, 4, .inl kd)), (v1, .inl (cI, 4, .inl st)), (v2, .inl (cI, 4, .inl co)), (v3, .inl (cI, 4, .inl gt)), (v4, .inl (cI, 4, .inl pd)), (v5, .inl (cI, 4, .inl de)), (v6, .inl (cI, 4, .inl us)), (v7, .inl (cI, 4, .inl tm)), (v8, .inl (cB, 18, .inl lt)), (v9, .inl (cI, 4, .inl sv)), (v10, .inl (cI, 24, .inl ke))] sz) (QWi D ((rdL lt k 4 0).1) [(vh, .inr (6, [.int mm, .int (nI n), .int tl, .int ho, .ref v0, .ref v1, .ref v2, .ref v3, .ref v4, .ref v5, .ref v6, .int sl, .int hd, .ref v7, .int lo, .int ak, .int (nI k), .ref v8, .int ((rdL lt k 4 0).2.1), .int ((rdL lt k 4 0).2.2), .ref v9, .long sn, .int ek, .int em, .int eh, .int es, .int ed, .int el, .ref v10, .long hs])), (v0, .inl (cI, 4, .inl kd)), (v1, .inl (cI, 4, .inl st)), (v2, .inl (cI, 4, .inl co)), (v3, .inl (cI, 4, .inl gt)), (v4, .inl (cI, 4, .inl pd)), (v5, .inl (cI, 4, .inl de)), (v6, .inl (cI, 4, .inl us)), (v7, .inl (cI, 4, .inl tm)), (v8, .inl (cB, 18, .inl lt)), (v9, .inl (cI, 4, .inl sv)), (v10, .inl (cI, 24, .inl ke))] (va_A [(vh, .inr (6, [.int mm, .int (nI n), .int tl, .int ho, .ref v0, .ref v1, .ref v2, .ref v3, .ref v4, .ref v5, .ref v6, .int sl, .int hd, .ref v7, .int lo, .int ak, .int (nI k), .ref v8, .int isw, .int nw, .ref v9, .long sn, .int ek, .int em, .int eh, .int es, .int ed, .int el, .ref v10, .long hs])), (v0, .inl (cI, 4, .inl kd)), (v1, .inl (cI, 4, .inl st)), (v2, .inl (cI, 4, .inl co)), (v3, .inl (cI, 4, .inl gt)), (v4, .inl (cI, 4, .inl pd)), (v5, .inl (cI, 4, .inl de)), (v6, .inl (cI, 4, .inl us)), (v7, .inl (cI, 4, .inl tm)), (v8, .inl (cB, 18, .inl lt)), (v9, .inl (cI, 4, .inl sv)), (v10, .inl (cI, 24, .inl ke))] sz)) 0 0 (va_A [(vh, .inr (6, [.int mm, .int (nI n), .int tl, .int ho, .ref v0, .ref v1, .ref v2, .ref v3, .ref v4, .ref v5, .ref v6, .int sl, .int hd, .ref v7, .int lo, .int ak, .int (nI k), .ref v8, .int isw, .int nw, .ref v9, .long sn, .int ek, .int em, .int eh, .int es, .int ed, .int el, .ref v10, .long hs])), (v0, .inl (cI, 4, .inl kd)), (v1, .inl (cI, 4, .inl st)), (v2, .inl (cI, 4, .inl co)), (v3, .inl (cI, 4, .inl gt)), (v4, .inl (cI, 4, .inl pd)), (v5, .inl (cI, 4, .inl de)), (v6, .inl (cI, 4, .inl us)), (v7, .inl (cI, 4, .inl tm)), (v8, .inl (cB, 18, .inl lt)), (v9, .inl (cI, 4, .inl sv)), (v10, .inl (cI, 24, .inl ke))] sz) := by
  refine metW (cc := cX6_read) (maxL := 3) (ret := (some .int)) (QA := fun A => (QWi D ((rdL lt k 4 0).1) [(vh, .inr (6, [.int mm, .int (nI n), .int tl, .int ho, .ref v0, .ref v1, .ref v2, .ref v3, .ref v4, .ref v5, .ref v6, .int sl, .int hd, .ref v7, .int lo, .int ak, .int (nI k), .ref v8, .int ((rdL lt k 4 0).2.1), .int ((rdL lt k 4 0).2.2), .ref v9, .long sn, .int ek, .int em, .int eh, .int es, .int ed, .int el, .ref v10, .long hs])), (v0, .inl (cI, 4, .inl kd)), (v1, .inl (cI, 4, .inl st)), (v2, .inl (cI, 4, .inl co)), (v3, .inl (cI, 4, .inl gt)), (v4, .inl (cI, 4, .inl pd)), (v5, .inl (cI, 4, .inl de)), (v6, .inl (cI, 4, .inl us)), (v7, .inl (cI, 4, .inl tm)), (v8, .inl (cB, 18, .inl lt)), (v9, .inl (cI, 4, .inl sv)), (v10, .inl (cI, 24, .inl ke))] A)) RX6 rfl (by decide) rfl (Nat.le_of_ble_eq_true rfl) ?_
  intro p e s m below meth c A hx hb hr hml hown hts hlocks hin hP hK hD hA hS ls hl
  have iwX6 : ∀ w ∈ wsX60, w ∈ wsX6_read := by decide +kernel
  have fk48 := hts (.fieldLink RX6 48 "BuyersWeightsModel" "pageLength" "I") (by decide +kernel)
  have fk63 := hts (.fieldLink RX6 63 "BuyersWeightsModel" "newMany" "I") (by decide +kernel)
  have fk34 := hts (.fieldLink RX6 34 "BuyersWeightsModel" "page" "[B") (by decide +kernel)
  have fk59 := hts (.fieldLink RX6 59 "BuyersWeightsModel" "isWhole" "Z") (by decide +kernel)
  have cut_12 : ∀ (fu : Nat) (i : Nat), i < 4 → 4 * i ≤ k → rdL lt k (4 - i) i = rdL lt k 4 0 → 4 - i < fu → ∀ (H : Heap) (locs : List Loc), va_P D vwCl [(vh, .inr (6, [.int mm, .int (nI n), .int tl, .int ho, .ref v0, .ref v1, .ref v2, .ref v3, .ref v4, .ref v5, .ref v6, .int sl, .int hd, .ref v7, .int lo, .int ak, .int (nI k), .ref v8, .int 0, .int (nI i), .ref v9, .long sn, .int ek, .int em, .int eh, .int es, .int ed, .int el, .ref v10, .long hs])), (v0, .inl (cI, 4, .inl kd)), (v1, .inl (cI, 4, .inl st)), (v2, .inl (cI, 4, .inl co)), (v3, .inl (cI, 4, .inl gt)), (v4, .inl (cI, 4, .inl pd)), (v5, .inl (cI, 4, .inl de)), (v6, .inl (cI, 4, .inl us)), (v7, .inl (cI, 4, .inl tm)), (v8, .inl (cB, 18, .inl lt)), (v9, .inl (cI, 4, .inl sv)), (v10, .inl (cI, 24, .inl ke))] H → va_D A [(vh, .inr (6, [.int mm, .int (nI n), .int tl, .int ho, .ref v0, .ref v1, .ref v2, .ref v3, .ref v4, .ref v5, .ref v6, .int sl, .int hd, .ref v7, .int lo, .int ak, .int (nI k), .ref v8, .int 0, .int (nI i), .ref v9, .long sn, .int ek, .int em, .int eh, .int es, .int ed, .int el, .ref v10, .long hs])), (v0, .inl (cI, 4, .inl kd)), (v1, .inl (cI, 4, .inl st)), (v2, .inl (cI, 4, .inl co)), (v3, .inl (cI, 4, .inl gt)), (v4, .inl (cI, 4, .inl pd)), (v5, .inl (cI, 4, .inl de)), (v6, .inl (cI, 4, .inl us)), (v7, .inl (cI, 4, .inl tm)), (v8, .inl (cB, 18, .inl lt)), (v9, .inl (cI, 4, .inl sv)), (v10, .inl (cI, 24, .inl ke))] → va_S A s.heap H locs → ∀ (ls : Array Slot), lv_has ls 3 [(0, .ref vh), (1, .int (nI (4 * i)))] → W p l e (headSpec wsX6_read ({ frames := 3, cells := 0, slots := 0, locals := 66 })).room s m ([.ref vh] : List Value).toArray below meth c H locs 0 0 (MQ below (QWi D ((rdL lt k 4 0).1) [(vh, .inr (6, [.int mm, .int (nI n), .int tl, .int ho, .ref v0, .ref v1, .ref v2, .ref v3, .ref v4, .ref v5, .ref v6, .int sl, .int hd, .ref v7, .int lo, .int ak, .int (nI k), .ref v8, .int ((rdL lt k 4 0).2.1), .int ((rdL lt k 4 0).2.2), .ref v9, .long sn, .int ek, .int em, .int eh, .int es, .int ed, .int el, .ref v10, .long hs])), (v0, .inl (cI, 4, .inl kd)), (v1, .inl (cI, 4, .inl st)), (v2, .inl (cI, 4, .inl co)), (v3, .inl (cI, 4, .inl gt)), (v4, .inl (cI, 4, .inl pd)), (v5, .inl (cI, 4, .inl de)), (v6, .inl (cI, 4, .inl us)), (v7, .inl (cI, 4, .inl tm)), (v8, .inl (cB, 18, .inl lt)), (v9, .inl (cI, 4, .inl sv)), (v10, .inl (cI, 24, .inl ke))] A) ([.ref vh] : List Value).toArray s 0 0 A) (F0 m 12 ls []) := by
    intro fu
    induction fu with
    | zero => intro i hi hik he hfu; exact absurd hfu (Nat.not_lt_zero _)
    | succ fu ih_12 =>
      intro i hi hik he hfu H locs hP hD hS ls hl
      have cut_127 : f_X6_readOne lt k (4 * i) = nI (4 * i) + 3 → 4 * i + 2 < k → ¬ ((¬ nI k ≤ nI (4 * i + 3)) ∧ lt (4 * i + 3) = 59 ∧ (¬ nI (i + 1) ≤ 1)) → ∀ (H : Heap) (locs : List Loc), va_P D vwCl [(vh, .inr (6, [.int mm, .int (nI n), .int tl, .int ho, .ref v0, .ref v1, .ref v2, .ref v3, .ref v4, .ref v5, .ref v6, .int sl, .int hd, .ref v7, .int lo, .int ak, .int (nI k), .ref v8, .int 0, .int (nI (i + 1)), .ref v9, .long sn, .int ek, .int em, .int eh, .int es, .int ed, .int el, .ref v10, .long hs])), (v0, .inl (cI, 4, .inl kd)), (v1, .inl (cI, 4, .inl st)), (v2, .inl (cI, 4, .inl co)), (v3, .inl (cI, 4, .inl gt)), (v4, .inl (cI, 4, .inl pd)), (v5, .inl (cI, 4, .inl de)), (v6, .inl (cI, 4, .inl us)), (v7, .inl (cI, 4, .inl tm)), (v8, .inl (cB, 18, .inl lt)), (v9, .inl (cI, 4, .inl sv)), (v10, .inl (cI, 24, .inl ke))] H → va_D A [(vh, .inr (6, [.int mm, .int (nI n), .int tl, .int ho, .ref v0, .ref v1, .ref v2, .ref v3, .ref v4, .ref v5, .ref v6, .int sl, .int hd, .ref v7, .int lo, .int ak, .int (nI k), .ref v8, .int 0, .int (nI (i + 1)), .ref v9, .long sn, .int ek, .int em, .int eh, .int es, .int ed, .int el, .ref v10, .long hs])), (v0, .inl (cI, 4, .inl kd)), (v1, .inl (cI, 4, .inl st)), (v2, .inl (cI, 4, .inl co)), (v3, .inl (cI, 4, .inl gt)), (v4, .inl (cI, 4, .inl pd)), (v5, .inl (cI, 4, .inl de)), (v6, .inl (cI, 4, .inl us)), (v7, .inl (cI, 4, .inl tm)), (v8, .inl (cB, 18, .inl lt)), (v9, .inl (cI, 4, .inl sv)), (v10, .inl (cI, 24, .inl ke))] → va_S A s.heap H locs → ∀ (ls : Array Slot), lv_has ls 3 [(0, .ref vh), (1, .int (nI (4 * i + 3)))] → W p l e (headSpec wsX6_read ({ frames := 3, cells := 0, slots := 0, locals := 66 })).room s m ([.ref vh] : List Value).toArray below meth c H locs 0 0 (MQ below (QWi D ((rdL lt k 4 0).1) [(vh, .inr (6, [.int mm, .int (nI n), .int tl, .int ho, .ref v0, .ref v1, .ref v2, .ref v3, .ref v4, .ref v5, .ref v6, .int sl, .int hd, .ref v7, .int lo, .int ak, .int (nI k), .ref v8, .int ((rdL lt k 4 0).2.1), .int ((rdL lt k 4 0).2.2), .ref v9, .long sn, .int ek, .int em, .int eh, .int es, .int ed, .int el, .ref v10, .long hs])), (v0, .inl (cI, 4, .inl kd)), (v1, .inl (cI, 4, .inl st)), (v2, .inl (cI, 4, .inl co)), (v3, .inl (cI, 4, .inl gt)), (v4, .inl (cI, 4, .inl pd)), (v5, .inl (cI, 4, .inl de)), (v6, .inl (cI, 4, .inl us)), (v7, .inl (cI, 4, .inl tm)), (v8, .inl (cB, 18, .inl lt)), (v9, .inl (cI, 4, .inl sv)), (v10, .inl (cI, 24, .inl ke))] A) ([.ref vh] : List Value).toArray s 0 0 A) (F0 m 127 ls []) := by
        intro h3 hp hno H locs hP hD hS ls hl
        have hU : rdL lt k (4 - i) i = rdL lt k ((3 - i) + 1) i := by rw [show 4 - i = (3 - i) + 1 from by omega]
        refine lv_iload_n hx hb dX6_read_127 rfl (lv_at hl 1 rfl) ?_
        refine lv_aload_n hx hb dX6_read_128 rfl (lv_at hl 0 rfl) ?_
        refine va_get (D := D) (ci := 6) (v := .int (nI k)) (C := RX6) (T := TX6) (N := 30) hx hb hts iwX6 hown hK.1 hP 0 rfl rfl 16 (by decide) fk48 (fun _ h9 => h9) rfl dX6_read_129 ?_
        refine lv_icmp_eq (tgt := 154) hx hb dX6_read_132 (by decide) (fun c_1 => ?_) (fun c_1 => ?_)
        · have eG : rdL lt k 4 0 = (nI (4 * i + 3), 0, nI (i + 1)) := he.symm.trans (hU.trans ((if_pos h3).trans ((if_neg hno).trans (if_pos (Or.inl c_1)))))
          refine lv_iload_n hx hb dX6_read_154 rfl (lv_at hl 1 rfl) ?_
          exact retWi (u := ()) hx hb hr hlocks (by rw [eG]) (by rw [eG]; exact hP) (by rw [eG]; exact hD) hS dX6_read_155
        · have j1 := c_1
          have hpk : 4 * i + 3 < k := Nat.lt_of_le_of_ne (by omega) (fun z => j1 (by rw [z]))
          refine lv_aload_n hx hb dX6_read_135 rfl (lv_at hl 0 rfl) ?_
          refine va_get (D := D) (ci := 6) (v := .int (nI (i + 1))) (C := RX6) (T := TX6) (N := 30) hx hb hts iwX6 hown hK.1 hP 0 rfl rfl 19 (by decide) fk63 (fun _ h9 => h9) rfl dX6_read_136 ?_
          refine lv_iconst (v := 4) hx hb dX6_read_139 (by decide) ?_
          refine lv_icmp_eq (tgt := 154) hx hb dX6_read_140 (by decide) (fun c_2 => ?_) (fun c_2 => ?_)
          · have eG : rdL lt k 4 0 = (nI (4 * i + 3), 0, nI (i + 1)) := he.symm.trans (hU.trans ((if_pos h3).trans ((if_neg hno).trans (if_pos (Or.inr (Or.inl c_2))))))
            refine lv_iload_n hx hb dX6_read_154 rfl (lv_at hl 1 rfl) ?_
            exact retWi (u := ()) hx hb hr hlocks (by rw [eG]) (by rw [eG]; exact hP) (by rw [eG]; exact hD) hS dX6_read_155
          · have j2 := c_2
            have hi1 : i + 1 < 4 := Nat.lt_of_le_of_ne (by omega) (fun z => j2 (by rw [z]; rfl))
            refine lv_aload_n hx hb dX6_read_143 rfl (lv_at hl 0 rfl) ?_
            refine va_get (D := D) (ci := 6) (v := .ref v8) (C := RX6) (T := TX6) (N := 30) hx hb hts iwX6 hown hK.1 hP 0 rfl rfl 17 (by decide) fk34 (fun _ h9 => h9) rfl dX6_read_144 ?_
            refine lv_iload_n hx hb dX6_read_147 rfl (lv_at hl 1 rfl) ?_
            refine my_bald hx hb hK hP 9 rfl (j := 4 * i + 3) (ix_nI (by omega) (by decide)) dX6_read_148 ?_
            refine lv_bipush (v := 44) hx hb dX6_read_149 (by decide) ?_
            refine lv_icmp_eq (tgt := 156) hx hb dX6_read_151 (by decide) (fun c_3 => ?_) (fun c_3 => ?_)
            · have he2 : rdL lt k (4 - (i + 1)) (i + 1) = rdL lt k 4 0 := by
                rw [show 4 - (i + 1) = 3 - i from by omega]
                exact (he.symm.trans (hU.trans ((if_pos h3).trans ((if_neg hno).trans (if_neg (fun z => z.elim j1 (fun z => z.elim j2 (fun z => z c_3)))))))).symm
              refine lv_iinc (v := nI ((4 * i + 3) + 1)) (lv' := [(1, .int (nI ((4 * i + 3) + 1))), (0, .ref vh)]) hx hb dX6_read_156 hl (k := 1) rfl (nI_1 (4 * i + 3)) (by decide) rfl (fun ls hl => ?_)
              refine lv_goto (tgt := 12) hx hb dX6_read_159 (by decide) ?_
              exact ih_12 (i + 1) (by first | assumption | omega | rfl | exact Nat.zero_le _ | decide) (by first | assumption | omega | rfl | exact Nat.zero_le _ | decide) he2 (by omega) _ _ hP hD hS ls (by rw [show 4 * (i + 1) = 4 * i + 3 + 1 from rfl]; exact lv_sub hl [1, 0] rfl)
            · have eG : rdL lt k 4 0 = (nI (4 * i + 3), 0, nI (i + 1)) := he.symm.trans (hU.trans ((if_pos h3).trans ((if_neg hno).trans (if_pos (Or.inr (Or.inr c_3))))))
              refine lv_iload_n hx hb dX6_read_154 rfl (lv_at hl 1 rfl) ?_
              exact retWi (u := ()) hx hb hr hlocks (by rw [eG]) (by rw [eG]; exact hP) (by rw [eG]; exact hD) hS dX6_read_155
      refine lv_aload_n hx hb dX6_read_12 rfl (lv_at hl 0 rfl) ?_
      refine va_get (D := D) (ci := 6) (v := .int (nI i)) (C := RX6) (T := TX6) (N := 30) hx hb hts iwX6 hown hK.1 hP 0 rfl rfl 19 (by decide) fk63 (fun _ h9 => h9) rfl dX6_read_13 ?_
      refine lv_iconst (v := 4) hx hb dX6_read_16 (by decide) ?_
      refine lv_icmp_ge (tgt := 162) hx hb dX6_read_17 (by decide) (fun c_4 => absurd c_4 (nI_ge (b := 4) hi (by decide))) (fun c_4 => ?_)
      refine lv_aload_n hx hb dX6_read_20 rfl (lv_at hl 0 rfl) ?_
      refine lv_iload_n hx hb dX6_read_21 rfl (lv_at hl 1 rfl) ?_
      refine rcVi (As := [.int (nI (4 * i))]) (rest := []) ⟨hx, hb, hml, hown, hts⟩ (c_X6_readOne l D cB cC cI vh v0 v1 v2 v3 v4 v5 v6 v7 v8 v9 v10 kd st co gt pd de us tm lt sv ke mm n tl ho sl hd lo ak k 0 (nI i) sn ek em eh es ed el hs (4 * i) (by first | assumption | omega | decide) (by first | assumption | omega | decide)) (cwV 1 hts gX6_read_X6_readOne rfl rfl rfl (by decide +kernel) ⟨Nat.le_of_ble_eq_true rfl, Nat.le_of_ble_eq_true rfl⟩) hK hP [0, 1, 2, 3, 4, 5, 6, 7, 8, 9, 10, 11] rfl rfl 0 rfl rfl hl.1 rfl (Nat.le_of_ble_eq_true rfl) dX6_read_22 ⟨Nat.zero_le _, Nat.zero_le _⟩ ?_
      refine lv_istore_n (lv' := [(2, .int (f_X6_readOne lt k (4 * i))), (0, .ref vh), (1, .int (nI (4 * i)))]) hx hb dX6_read_25 rfl hl (by decide) rfl (fun ls hl => ?_)
      refine lv_iload_n hx hb dX6_read_26 rfl (lv_at hl 0 rfl) ?_
      refine lv_iload_n hx hb dX6_read_27 rfl (lv_at hl 2 rfl) ?_
      refine lv_iconst (v := 3) hx hb dX6_read_28 (by decide) ?_
      refine lv_iadd hx hb dX6_read_29 ?_
      refine lv_icmp_eq (tgt := 35) hx hb dX6_read_30 (by decide) (fun c_5 => ?_) (fun c_5 => ?_)
      · have h3 := c_5
        have hp := rdOne_lt hk hik c_5
        have hU : rdL lt k (4 - i) i = rdL lt k ((3 - i) + 1) i := by rw [show 4 - i = (3 - i) + 1 from by omega]
        have hc3 : f_X6_readOne lt k (4 * i) = nI (4 * i + 3) := h3.trans (nI_add (4 * i) 3)
        refine lv_aload_n hx hb dX6_read_35 rfl (lv_at hl 1 rfl) ?_
        refine lv_dup hx hb dX6_read_36 rfl ?_
        refine va_get (D := D) (ci := 6) (v := .int (nI i)) (C := RX6) (T := TX6) (N := 30) hx hb hts iwX6 hown hK.1 hP 0 rfl rfl 19 (by decide) fk63 (fun _ h9 => h9) rfl dX6_read_37 ?_
        refine lv_iconst (v := 1) hx hb dX6_read_40 (by decide) ?_
        refine lv_iadd hx hb dX6_read_41 ?_
        refine my_top (y := nI (i + 1)) (nI_1 i) ?_
        refine va_put (D := D) (ci := 6) (v := .int (nI (i + 1))) (ty := .int) (C := RX6) (T := TX6) (N := 30) hx hb hts iwX6 tyX6 tyX6_ok nmX6 hown hK.1 hP hD hS 0 rfl rfl 19 (by decide) fk63 (fun _ h9 => h9) rfl (by decide +kernel) rfl rfl (Nat.le_of_ble_eq_true rfl) dX6_read_42 (fun H locs hP hD hS => ?_)
        have hP : va_P D vwCl [(vh, .inr (6, [.int mm, .int (nI n), .int tl, .int ho, .ref v0, .ref v1, .ref v2, .ref v3, .ref v4, .ref v5, .ref v6, .int sl, .int hd, .ref v7, .int lo, .int ak, .int (nI k), .ref v8, .int 0, .int (nI (i + 1)), .ref v9, .long sn, .int ek, .int em, .int eh, .int es, .int ed, .int el, .ref v10, .long hs])), (v0, .inl (cI, 4, .inl kd)), (v1, .inl (cI, 4, .inl st)), (v2, .inl (cI, 4, .inl co)), (v3, .inl (cI, 4, .inl gt)), (v4, .inl (cI, 4, .inl pd)), (v5, .inl (cI, 4, .inl de)), (v6, .inl (cI, 4, .inl us)), (v7, .inl (cI, 4, .inl tm)), (v8, .inl (cB, 18, .inl lt)), (v9, .inl (cI, 4, .inl sv)), (v10, .inl (cI, 24, .inl ke))] H := hP
        have hD : va_D A [(vh, .inr (6, [.int mm, .int (nI n), .int tl, .int ho, .ref v0, .ref v1, .ref v2, .ref v3, .ref v4, .ref v5, .ref v6, .int sl, .int hd, .ref v7, .int lo, .int ak, .int (nI k), .ref v8, .int 0, .int (nI (i + 1)), .ref v9, .long sn, .int ek, .int em, .int eh, .int es, .int ed, .int el, .ref v10, .long hs])), (v0, .inl (cI, 4, .inl kd)), (v1, .inl (cI, 4, .inl st)), (v2, .inl (cI, 4, .inl co)), (v3, .inl (cI, 4, .inl gt)), (v4, .inl (cI, 4, .inl pd)), (v5, .inl (cI, 4, .inl de)), (v6, .inl (cI, 4, .inl us)), (v7, .inl (cI, 4, .inl tm)), (v8, .inl (cB, 18, .inl lt)), (v9, .inl (cI, 4, .inl sv)), (v10, .inl (cI, 24, .inl ke))] := hD
        refine lv_iload_n hx hb dX6_read_45 rfl (lv_at hl 0 rfl) ?_
        refine my_top (y := nI (4 * i + 3)) hc3 ?_
        refine lv_istore_n (lv' := [(1, .int (nI (4 * i + 3))), (2, .int (f_X6_readOne lt k (4 * i))), (0, .ref vh)]) hx hb dX6_read_46 rfl hl (by decide) rfl (fun ls hl => ?_)
        refine lv_iload_n hx hb dX6_read_47 rfl (lv_at hl 0 rfl) ?_
        refine lv_aload_n hx hb dX6_read_48 rfl (lv_at hl 2 rfl) ?_
        refine va_get (D := D) (ci := 6) (v := .int (nI k)) (C := RX6) (T := TX6) (N := 30) hx hb hts iwX6 hown hK.1 hP 0 rfl rfl 16 (by decide) fk48 (fun _ h9 => h9) rfl dX6_read_49 ?_
        refine lv_icmp_ge (tgt := 127) hx hb dX6_read_52 (by decide) (fun c_6 => ?_) (fun c_6 => ?_)
        · have hno : ¬ ((¬ nI k ≤ nI (4 * i + 3)) ∧ lt (4 * i + 3) = 59 ∧ (¬ nI (i + 1) ≤ 1)) := fun z => z.1 c_6
          exact cut_127 (by first | assumption | omega | rfl | exact Nat.zero_le _ | decide) (by first | assumption | omega | rfl | exact Nat.zero_le _ | decide) (by first | assumption | omega | rfl | exact Nat.zero_le _ | decide) _ _ hP hD hS ls (lv_sub hl [2, 0] rfl)
        · have hA := c_6
          have hpk : 4 * i + 3 < k := Nat.lt_of_not_le fun z => hA ((nI_leI (by omega) (by omega)).mpr z)
          refine lv_aload_n hx hb dX6_read_55 rfl (lv_at hl 2 rfl) ?_
          refine va_get (D := D) (ci := 6) (v := .ref v8) (C := RX6) (T := TX6) (N := 30) hx hb hts iwX6 hown hK.1 hP 0 rfl rfl 17 (by decide) fk34 (fun _ h9 => h9) rfl dX6_read_56 ?_
          refine lv_iload_n hx hb dX6_read_59 rfl (lv_at hl 0 rfl) ?_
          refine my_bald hx hb hK hP 9 rfl (j := 4 * i + 3) (ix_nI (by omega) (by decide)) dX6_read_60 ?_
          refine lv_bipush (v := 59) hx hb dX6_read_61 (by decide) ?_
          refine lv_icmp_ne (tgt := 127) hx hb dX6_read_63 (by decide) (fun c_7 => ?_) (fun c_7 => ?_)
          · have hno : ¬ ((¬ nI k ≤ nI (4 * i + 3)) ∧ lt (4 * i + 3) = 59 ∧ (¬ nI (i + 1) ≤ 1)) := fun z => c_7 z.2.1
            exact cut_127 (by first | assumption | omega | rfl | exact Nat.zero_le _ | decide) (by first | assumption | omega | rfl | exact Nat.zero_le _ | decide) (by first | assumption | omega | rfl | exact Nat.zero_le _ | decide) _ _ hP hD hS ls (lv_sub hl [2, 0] rfl)
          · have hB := c_7
            refine lv_aload_n hx hb dX6_read_66 rfl (lv_at hl 2 rfl) ?_
            refine va_get (D := D) (ci := 6) (v := .int (nI (i + 1))) (C := RX6) (T := TX6) (N := 30) hx hb hts iwX6 hown hK.1 hP 0 rfl rfl 19 (by decide) fk63 (fun _ h9 => h9) rfl dX6_read_67 ?_
            refine lv_iconst (v := 1) hx hb dX6_read_70 (by decide) ?_
            refine lv_icmp_le (tgt := 127) hx hb dX6_read_71 (by decide) (fun c_8 => ?_) (fun c_8 => ?_)
            · have hno : ¬ ((¬ nI k ≤ nI (4 * i + 3)) ∧ lt (4 * i + 3) = 59 ∧ (¬ nI (i + 1) ≤ 1)) := fun z => z.2.2 c_8
              exact cut_127 (by first | assumption | omega | rfl | exact Nat.zero_le _ | decide) (by first | assumption | omega | rfl | exact Nat.zero_le _ | decide) (by first | assumption | omega | rfl | exact Nat.zero_le _ | decide) _ _ hP hD hS ls (lv_sub hl [2, 0] rfl)
            · have hC := c_8
              refine lv_aload_n hx hb dX6_read_74 rfl (lv_at hl 2 rfl) ?_
              refine lv_aload_n hx hb dX6_read_75 rfl (lv_at hl 2 rfl) ?_
              refine lv_iload_n hx hb dX6_read_76 rfl (lv_at hl 0 rfl) ?_
              refine lv_iconst (v := 1) hx hb dX6_read_77 (by decide) ?_
              refine lv_iadd hx hb dX6_read_78 ?_
              refine my_top (y := nI (4 * i + 4)) (nI_1 _) ?_
              refine lv_iconst (v := 0) hx hb dX6_read_79 (by decide) ?_
              refine lv_iconst (v := 3) hx hb dX6_read_80 (by decide) ?_
              refine rcVi (As := [.int (nI (4 * i + 4)), .int 0, .int 3]) (rest := [.ref vh]) ⟨hx, hb, hml, hown, hts⟩ (c_X6_isFigure l D cB cC cI vh v0 v1 v2 v3 v4 v5 v6 v7 v8 v9 v10 kd st co gt pd de us tm lt sv ke mm n tl ho sl hd lo ak k 0 (nI (i + 1)) sn ek em eh es ed el hs (4 * i + 4) 0 3 (by first | assumption | omega | decide) (by first | assumption | omega | decide)) (cwV 3 hts gX6_read_X6_isFigure rfl rfl rfl (by decide +kernel) ⟨Nat.le_of_ble_eq_true rfl, Nat.le_of_ble_eq_true rfl⟩) hK hP [0, 1, 2, 3, 4, 5, 6, 7, 8, 9, 10, 11] rfl rfl 0 rfl rfl hl.1 rfl (Nat.le_of_ble_eq_true rfl) dX6_read_81 ⟨Nat.zero_le _, Nat.zero_le _⟩ ?_
              refine lv_if_eq (tgt := 101) hx hb dX6_read_84 (by decide) (fun c_9 => ?_) (fun c_9 => ?_)
              · have eG : rdL lt k 4 0 = (nI (4 * i + 3) + 1, 0, nI (i + 1)) := he.symm.trans (hU.trans ((if_pos h3).trans ((if_pos ⟨hA, hB, hC⟩).trans (if_pos c_9))))
                refine lv_iconst (v := 0) hx hb dX6_read_101 (by decide) ?_
                refine va_put (D := D) (ci := 6) (v := .int 0) (ty := .boolean) (C := RX6) (T := TX6) (N := 30) hx hb hts iwX6 tyX6 tyX6_ok nmX6 hown hK.1 hP hD hS 0 rfl rfl 18 (by decide) fk59 (fun _ h9 => h9) rfl (by decide +kernel) rfl rfl (Nat.le_of_ble_eq_true rfl) dX6_read_102 (fun H locs hP hD hS => ?_)
                have hP : va_P D vwCl [(vh, .inr (6, [.int mm, .int (nI n), .int tl, .int ho, .ref v0, .ref v1, .ref v2, .ref v3, .ref v4, .ref v5, .ref v6, .int sl, .int hd, .ref v7, .int lo, .int ak, .int (nI k), .ref v8, .int 0, .int (nI (i + 1)), .ref v9, .long sn, .int ek, .int em, .int eh, .int es, .int ed, .int el, .ref v10, .long hs])), (v0, .inl (cI, 4, .inl kd)), (v1, .inl (cI, 4, .inl st)), (v2, .inl (cI, 4, .inl co)), (v3, .inl (cI, 4, .inl gt)), (v4, .inl (cI, 4, .inl pd)), (v5, .inl (cI, 4, .inl de)), (v6, .inl (cI, 4, .inl us)), (v7, .inl (cI, 4, .inl tm)), (v8, .inl (cB, 18, .inl lt)), (v9, .inl (cI, 4, .inl sv)), (v10, .inl (cI, 24, .inl ke))] H := hP
                have hD : va_D A [(vh, .inr (6, [.int mm, .int (nI n), .int tl, .int ho, .ref v0, .ref v1, .ref v2, .ref v3, .ref v4, .ref v5, .ref v6, .int sl, .int hd, .ref v7, .int lo, .int ak, .int (nI k), .ref v8, .int 0, .int (nI (i + 1)), .ref v9, .long sn, .int ek, .int em, .int eh, .int es, .int ed, .int el, .ref v10, .long hs])), (v0, .inl (cI, 4, .inl kd)), (v1, .inl (cI, 4, .inl st)), (v2, .inl (cI, 4, .inl co)), (v3, .inl (cI, 4, .inl gt)), (v4, .inl (cI, 4, .inl pd)), (v5, .inl (cI, 4, .inl de)), (v6, .inl (cI, 4, .inl us)), (v7, .inl (cI, 4, .inl tm)), (v8, .inl (cB, 18, .inl lt)), (v9, .inl (cI, 4, .inl sv)), (v10, .inl (cI, 24, .inl ke))] := hD
                refine lv_aload_n hx hb dX6_read_105 rfl (lv_at hl 2 rfl) ?_
                refine lv_iload_n hx hb dX6_read_106 rfl (lv_at hl 0 rfl) ?_
                refine lv_iconst (v := 1) hx hb dX6_read_107 (by decide) ?_
                refine lv_iadd hx hb dX6_read_108 ?_
                refine my_top (y := nI (4 * i + 4)) (nI_1 _) ?_
                refine lv_iconst (v := 0) hx hb dX6_read_109 (by decide) ?_
                refine lv_iconst (v := 3) hx hb dX6_read_110 (by decide) ?_
                refine rcVi (As := [.int (nI (4 * i + 4)), .int 0, .int 3]) (rest := []) ⟨hx, hb, hml, hown, hts⟩ (c_X6_isFigure l D cB cC cI vh v0 v1 v2 v3 v4 v5 v6 v7 v8 v9 v10 kd st co gt pd de us tm lt sv ke mm n tl ho sl hd lo ak k 0 (nI (i + 1)) sn ek em eh es ed el hs (4 * i + 4) 0 3 (by first | assumption | omega | decide) (by first | assumption | omega | decide)) (cwV 3 hts gX6_read_X6_isFigure rfl rfl rfl (by decide +kernel) ⟨Nat.le_of_ble_eq_true rfl, Nat.le_of_ble_eq_true rfl⟩) hK hP [0, 1, 2, 3, 4, 5, 6, 7, 8, 9, 10, 11] rfl rfl 0 rfl rfl hl.1 rfl (Nat.le_of_ble_eq_true rfl) dX6_read_111 ⟨Nat.zero_le _, Nat.zero_le _⟩ ?_
                refine lv_if_eq (tgt := 123) hx hb dX6_read_114 (by decide) (fun c_10 => ?_) (fun c_10 => absurd c_9 c_10)
                refine lv_iload_n hx hb dX6_read_123 rfl (lv_at hl 0 rfl) ?_
                refine lv_iconst (v := 1) hx hb dX6_read_124 (by decide) ?_
                refine lv_iadd hx hb dX6_read_125 ?_
                exact retWi (u := ()) hx hb hr hlocks (by rw [eG]) (by rw [eG]; exact hP) (by rw [eG]; exact hD) hS dX6_read_126
              · have eF : rdL lt k 4 0 = (nI (4 * i + 3) + 2, (if nI (4 * i + 3) + 2 = nI k then 1 else 0), nI (i + 1)) := he.symm.trans (hU.trans ((if_pos h3).trans ((if_pos ⟨hA, hB, hC⟩).trans (if_neg c_9))))
                refine lv_iload_n hx hb dX6_read_87 rfl (lv_at hl 0 rfl) ?_
                refine lv_iconst (v := 2) hx hb dX6_read_88 (by decide) ?_
                refine lv_iadd hx hb dX6_read_89 ?_
                refine lv_aload_n hx hb dX6_read_90 rfl (lv_at hl 2 rfl) ?_
                refine va_get (D := D) (ci := 6) (v := .int (nI k)) (C := RX6) (T := TX6) (N := 30) hx hb hts iwX6 hown hK.1 hP 0 rfl rfl 16 (by decide) fk48 (fun _ h9 => h9) rfl dX6_read_91 ?_
                refine lv_icmp_ne (tgt := 101) hx hb dX6_read_94 (by decide) (fun c_11 => ?_) (fun c_11 => ?_)
                · have eG : rdL lt k 4 0 = (nI (4 * i + 3) + 2, 0, nI (i + 1)) := by rw [eF, if_neg c_11]
                  refine lv_iconst (v := 0) hx hb dX6_read_101 (by decide) ?_
                  refine va_put (D := D) (ci := 6) (v := .int 0) (ty := .boolean) (C := RX6) (T := TX6) (N := 30) hx hb hts iwX6 tyX6 tyX6_ok nmX6 hown hK.1 hP hD hS 0 rfl rfl 18 (by decide) fk59 (fun _ h9 => h9) rfl (by decide +kernel) rfl rfl (Nat.le_of_ble_eq_true rfl) dX6_read_102 (fun H locs hP hD hS => ?_)
                  have hP : va_P D vwCl [(vh, .inr (6, [.int mm, .int (nI n), .int tl, .int ho, .ref v0, .ref v1, .ref v2, .ref v3, .ref v4, .ref v5, .ref v6, .int sl, .int hd, .ref v7, .int lo, .int ak, .int (nI k), .ref v8, .int 0, .int (nI (i + 1)), .ref v9, .long sn, .int ek, .int em, .int eh, .int es, .int ed, .int el, .ref v10, .long hs])), (v0, .inl (cI, 4, .inl kd)), (v1, .inl (cI, 4, .inl st)), (v2, .inl (cI, 4, .inl co)), (v3, .inl (cI, 4, .inl gt)), (v4, .inl (cI, 4, .inl pd)), (v5, .inl (cI, 4, .inl de)), (v6, .inl (cI, 4, .inl us)), (v7, .inl (cI, 4, .inl tm)), (v8, .inl (cB, 18, .inl lt)), (v9, .inl (cI, 4, .inl sv)), (v10, .inl (cI, 24, .inl ke))] H := hP
                  have hD : va_D A [(vh, .inr (6, [.int mm, .int (nI n), .int tl, .int ho, .ref v0, .ref v1, .ref v2, .ref v3, .ref v4, .ref v5, .ref v6, .int sl, .int hd, .ref v7, .int lo, .int ak, .int (nI k), .ref v8, .int 0, .int (nI (i + 1)), .ref v9, .long sn, .int ek, .int em, .int eh, .int es, .int ed, .int el, .ref v10, .long hs])), (v0, .inl (cI, 4, .inl kd)), (v1, .inl (cI, 4, .inl st)), (v2, .inl (cI, 4, .inl co)), (v3, .inl (cI, 4, .inl gt)), (v4, .inl (cI, 4, .inl pd)), (v5, .inl (cI, 4, .inl de)), (v6, .inl (cI, 4, .inl us)), (v7, .inl (cI, 4, .inl tm)), (v8, .inl (cB, 18, .inl lt)), (v9, .inl (cI, 4, .inl sv)), (v10, .inl (cI, 24, .inl ke))] := hD
                  refine lv_aload_n hx hb dX6_read_105 rfl (lv_at hl 2 rfl) ?_
                  refine lv_iload_n hx hb dX6_read_106 rfl (lv_at hl 0 rfl) ?_
                  refine lv_iconst (v := 1) hx hb dX6_read_107 (by decide) ?_
                  refine lv_iadd hx hb dX6_read_108 ?_
                  refine my_top (y := nI (4 * i + 4)) (nI_1 _) ?_
                  refine lv_iconst (v := 0) hx hb dX6_read_109 (by decide) ?_
                  refine lv_iconst (v := 3) hx hb dX6_read_110 (by decide) ?_
                  refine rcVi (As := [.int (nI (4 * i + 4)), .int 0, .int 3]) (rest := []) ⟨hx, hb, hml, hown, hts⟩ (c_X6_isFigure l D cB cC cI vh v0 v1 v2 v3 v4 v5 v6 v7 v8 v9 v10 kd st co gt pd de us tm lt sv ke mm n tl ho sl hd lo ak k 0 (nI (i + 1)) sn ek em eh es ed el hs (4 * i + 4) 0 3 (by first | assumption | omega | decide) (by first | assumption | omega | decide)) (cwV 3 hts gX6_read_X6_isFigure rfl rfl rfl (by decide +kernel) ⟨Nat.le_of_ble_eq_true rfl, Nat.le_of_ble_eq_true rfl⟩) hK hP [0, 1, 2, 3, 4, 5, 6, 7, 8, 9, 10, 11] rfl rfl 0 rfl rfl hl.1 rfl (Nat.le_of_ble_eq_true rfl) dX6_read_111 ⟨Nat.zero_le _, Nat.zero_le _⟩ ?_
                  refine lv_if_eq (tgt := 123) hx hb dX6_read_114 (by decide) (fun c_12 => absurd c_12 c_9) (fun c_12 => ?_)
                  refine lv_iload_n hx hb dX6_read_117 rfl (lv_at hl 0 rfl) ?_
                  refine lv_iconst (v := 2) hx hb dX6_read_118 (by decide) ?_
                  refine lv_iadd hx hb dX6_read_119 ?_
                  refine lv_goto (tgt := 126) hx hb dX6_read_120 (by decide) ?_
                  exact retWi (u := ()) hx hb hr hlocks (by rw [eG]) (by rw [eG]; exact hP) (by rw [eG]; exact hD) hS dX6_read_126
                · have eG : rdL lt k 4 0 = (nI (4 * i + 3) + 2, 1, nI (i + 1)) := by rw [eF, if_pos c_11]
                  refine lv_iconst (v := 1) hx hb dX6_read_97 (by decide) ?_
                  refine lv_goto (tgt := 102) hx hb dX6_read_98 (by decide) ?_
                  refine va_put (D := D) (ci := 6) (v := .int 1) (ty := .boolean) (C := RX6) (T := TX6) (N := 30) hx hb hts iwX6 tyX6 tyX6_ok nmX6 hown hK.1 hP hD hS 0 rfl rfl 18 (by decide) fk59 (fun _ h9 => h9) rfl (by decide +kernel) rfl rfl (Nat.le_of_ble_eq_true rfl) dX6_read_102 (fun H locs hP hD hS => ?_)
                  have hP : va_P D vwCl [(vh, .inr (6, [.int mm, .int (nI n), .int tl, .int ho, .ref v0, .ref v1, .ref v2, .ref v3, .ref v4, .ref v5, .ref v6, .int sl, .int hd, .ref v7, .int lo, .int ak, .int (nI k), .ref v8, .int 1, .int (nI (i + 1)), .ref v9, .long sn, .int ek, .int em, .int eh, .int es, .int ed, .int el, .ref v10, .long hs])), (v0, .inl (cI, 4, .inl kd)), (v1, .inl (cI, 4, .inl st)), (v2, .inl (cI, 4, .inl co)), (v3, .inl (cI, 4, .inl gt)), (v4, .inl (cI, 4, .inl pd)), (v5, .inl (cI, 4, .inl de)), (v6, .inl (cI, 4, .inl us)), (v7, .inl (cI, 4, .inl tm)), (v8, .inl (cB, 18, .inl lt)), (v9, .inl (cI, 4, .inl sv)), (v10, .inl (cI, 24, .inl ke))] H := hP
                  have hD : va_D A [(vh, .inr (6, [.int mm, .int (nI n), .int tl, .int ho, .ref v0, .ref v1, .ref v2, .ref v3, .ref v4, .ref v5, .ref v6, .int sl, .int hd, .ref v7, .int lo, .int ak, .int (nI k), .ref v8, .int 1, .int (nI (i + 1)), .ref v9, .long sn, .int ek, .int em, .int eh, .int es, .int ed, .int el, .ref v10, .long hs])), (v0, .inl (cI, 4, .inl kd)), (v1, .inl (cI, 4, .inl st)), (v2, .inl (cI, 4, .inl co)), (v3, .inl (cI, 4, .inl gt)), (v4, .inl (cI, 4, .inl pd)), (v5, .inl (cI, 4, .inl de)), (v6, .inl (cI, 4, .inl us)), (v7, .inl (cI, 4, .inl tm)), (v8, .inl (cB, 18, .inl lt)), (v9, .inl (cI, 4, .inl sv)), (v10, .inl (cI, 24, .inl ke))] := hD
                  refine lv_aload_n hx hb dX6_read_105 rfl (lv_at hl 2 rfl) ?_
                  refine lv_iload_n hx hb dX6_read_106 rfl (lv_at hl 0 rfl) ?_
                  refine lv_iconst (v := 1) hx hb dX6_read_107 (by decide) ?_
                  refine lv_iadd hx hb dX6_read_108 ?_
                  refine my_top (y := nI (4 * i + 4)) (nI_1 _) ?_
                  refine lv_iconst (v := 0) hx hb dX6_read_109 (by decide) ?_
                  refine lv_iconst (v := 3) hx hb dX6_read_110 (by decide) ?_
                  refine rcVi (As := [.int (nI (4 * i + 4)), .int 0, .int 3]) (rest := []) ⟨hx, hb, hml, hown, hts⟩ (c_X6_isFigure l D cB cC cI vh v0 v1 v2 v3 v4 v5 v6 v7 v8 v9 v10 kd st co gt pd de us tm lt sv ke mm n tl ho sl hd lo ak k 1 (nI (i + 1)) sn ek em eh es ed el hs (4 * i + 4) 0 3 (by first | assumption | omega | decide) (by first | assumption | omega | decide)) (cwV 3 hts gX6_read_X6_isFigure rfl rfl rfl (by decide +kernel) ⟨Nat.le_of_ble_eq_true rfl, Nat.le_of_ble_eq_true rfl⟩) hK hP [0, 1, 2, 3, 4, 5, 6, 7, 8, 9, 10, 11] rfl rfl 0 rfl rfl hl.1 rfl (Nat.le_of_ble_eq_true rfl) dX6_read_111 ⟨Nat.zero_le _, Nat.zero_le _⟩ ?_
                  refine lv_if_eq (tgt := 123) hx hb dX6_read_114 (by decide) (fun c_13 => absurd c_13 c_9) (fun c_13 => ?_)
                  refine lv_iload_n hx hb dX6_read_117 rfl (lv_at hl 0 rfl) ?_
                  refine lv_iconst (v := 2) hx hb dX6_read_118 (by decide) ?_
                  refine lv_iadd hx hb dX6_read_119 ?_
                  refine lv_goto (tgt := 126) hx hb dX6_read_120 (by decide) ?_
                  exact retWi (u := ()) hx hb hr hlocks (by rw [eG]) (by rw [eG]; exact hP) (by rw [eG]; exact hD) hS dX6_read_126
      · have hU : rdL lt k (4 - i) i = rdL lt k ((3 - i) + 1) i := by rw [show 4 - i = (3 - i) + 1 from by omega]
        have eG : rdL lt k 4 0 = (f_X6_readOne lt k (4 * i), 0, nI i) := he.symm.trans (hU.trans (if_neg c_5))
        refine lv_iload_n hx hb dX6_read_33 rfl (lv_at hl 0 rfl) ?_
        exact retWi (u := ()) hx hb hr hlocks (by rw [eG]) (by rw [eG]; exact hP) (by rw [eG]; exact hD) hS dX6_read_34
  have hl : lv_has ls 3 [(0, .ref vh)] := hl
  refine lv_aload_n hx hb dX6_read_0 rfl (lv_at hl 0 rfl) ?_
  refine lv_iconst (v := 0) hx hb dX6_read_1 (by decide) ?_
  refine va_put (D := D) (ci := 6) (v := .int 0) (ty := .boolean) (C := RX6) (T := TX6) (N := 30) hx hb hts iwX6 tyX6 tyX6_ok nmX6 hown hK.1 hP hD hS 0 rfl rfl 18 (by decide) fk59 (fun _ h9 => h9) rfl (by decide +kernel) rfl rfl (Nat.le_of_ble_eq_true rfl) dX6_read_2 (fun H locs hP hD hS => ?_)
  have hP : va_P D vwCl [(vh, .inr (6, [.int mm, .int (nI n), .int tl, .int ho, .ref v0, .ref v1, .ref v2, .ref v3, .ref v4, .ref v5, .ref v6, .int sl, .int hd, .ref v7, .int lo, .int ak, .int (nI k), .ref v8, .int 0, .int nw, .ref v9, .long sn, .int ek, .int em, .int eh, .int es, .int ed, .int el, .ref v10, .long hs])), (v0, .inl (cI, 4, .inl kd)), (v1, .inl (cI, 4, .inl st)), (v2, .inl (cI, 4, .inl co)), (v3, .inl (cI, 4, .inl gt)), (v4, .inl (cI, 4, .inl pd)), (v5, .inl (cI, 4, .inl de)), (v6, .inl (cI, 4, .inl us)), (v7, .inl (cI, 4, .inl tm)), (v8, .inl (cB, 18, .inl lt)), (v9, .inl (cI, 4, .inl sv)), (v10, .inl (cI, 24, .inl ke))] H := hP
  have hD : va_D A [(vh, .inr (6, [.int mm, .int (nI n), .int tl, .int ho, .ref v0, .ref v1, .ref v2, .ref v3, .ref v4, .ref v5, .ref v6, .int sl, .int hd, .ref v7, .int lo, .int ak, .int (nI k), .ref v8, .int 0, .int nw, .ref v9, .long sn, .int ek, .int em, .int eh, .int es, .int ed, .int el, .ref v10, .long hs])), (v0, .inl (cI, 4, .inl kd)), (v1, .inl (cI, 4, .inl st)), (v2, .inl (cI, 4, .inl co)), (v3, .inl (cI, 4, .inl gt)), (v4, .inl (cI, 4, .inl pd)), (v5, .inl (cI, 4, .inl de)), (v6, .inl (cI, 4, .inl us)), (v7, .inl (cI, 4, .inl tm)), (v8, .inl (cB, 18, .inl lt)), (v9, .inl (cI, 4, .inl sv)), (v10, .inl (cI, 24, .inl ke))] := hD
  refine lv_aload_n hx hb dX6_read_5 rfl (lv_at hl 0 rfl) ?_
  refine lv_iconst (v := 0) hx hb dX6_read_6 (by decide) ?_
  refine va_put (D := D) (ci := 6) (v := .int 0) (ty := .int) (C := RX6) (T := TX6) (N := 30) hx hb hts iwX6 tyX6 tyX6_ok nmX6 hown hK.1 hP hD hS 0 rfl rfl 19 (by decide) fk63 (fun _ h9 => h9) rfl (by decide +kernel) rfl rfl (Nat.le_of_ble_eq_true rfl) dX6_read_7 (fun H locs hP hD hS => ?_)
  have hP : va_P D vwCl [(vh, .inr (6, [.int mm, .int (nI n), .int tl, .int ho, .ref v0, .ref v1, .ref v2, .ref v3, .ref v4, .ref v5, .ref v6, .int sl, .int hd, .ref v7, .int lo, .int ak, .int (nI k), .ref v8, .int 0, .int 0, .ref v9, .long sn, .int ek, .int em, .int eh, .int es, .int ed, .int el, .ref v10, .long hs])), (v0, .inl (cI, 4, .inl kd)), (v1, .inl (cI, 4, .inl st)), (v2, .inl (cI, 4, .inl co)), (v3, .inl (cI, 4, .inl gt)), (v4, .inl (cI, 4, .inl pd)), (v5, .inl (cI, 4, .inl de)), (v6, .inl (cI, 4, .inl us)), (v7, .inl (cI, 4, .inl tm)), (v8, .inl (cB, 18, .inl lt)), (v9, .inl (cI, 4, .inl sv)), (v10, .inl (cI, 24, .inl ke))] H := hP
  have hD : va_D A [(vh, .inr (6, [.int mm, .int (nI n), .int tl, .int ho, .ref v0, .ref v1, .ref v2, .ref v3, .ref v4, .ref v5, .ref v6, .int sl, .int hd, .ref v7, .int lo, .int ak, .int (nI k), .ref v8, .int 0, .int 0, .ref v9, .long sn, .int ek, .int em, .int eh, .int es, .int ed, .int el, .ref v10, .long hs])), (v0, .inl (cI, 4, .inl kd)), (v1, .inl (cI, 4, .inl st)), (v2, .inl (cI, 4, .inl co)), (v3, .inl (cI, 4, .inl gt)), (v4, .inl (cI, 4, .inl pd)), (v5, .inl (cI, 4, .inl de)), (v6, .inl (cI, 4, .inl us)), (v7, .inl (cI, 4, .inl tm)), (v8, .inl (cB, 18, .inl lt)), (v9, .inl (cI, 4, .inl sv)), (v10, .inl (cI, 24, .inl ke))] := hD
  refine lv_iconst (v := 0) hx hb dX6_read_10 (by decide) ?_
  refine lv_istore_n (lv' := [(1, .int 0), (0, .ref vh)]) hx hb dX6_read_11 rfl hl (by decide) rfl (fun ls hl => ?_)
  exact cut_12 ((4 - 0) + 1) 0 (by first | assumption | omega | rfl | exact Nat.zero_le _ | decide) (by first | assumption | omega | rfl | exact Nat.zero_le _ | decide) rfl (Nat.lt_succ_self _) _ _ hP hD hS ls (lv_sub hl [1, 0] rfl)
set_option maxHeartbeats 4000000 in
set_option maxRecDepth 100000 in
theorem c_X6_fault (l : Launch) (D : va_G) (cB cC cI : ClassId) (vh : Nat) (v0 : Nat) (v1 : Nat) (v2 : Nat) (v3 : Nat) (v4 : Nat) (v5 : Nat) (v6 : Nat) (v7 : Nat) (v8 : Nat) (v9 : Nat) (v10 : Nat) (kd : Nat → Int32) (st : Nat → Int32) (co : Nat → Int32) (gt : Nat → Int32) (pd : Nat → Int32) (de : Nat → Int32) (us : Nat → Int32) (tm : Nat → Int32) (lt : Nat → Int32) (sv : Nat → Int32) (ke : Nat → Int32) (mm : Int32) (n : Nat) (tl : Int32) (ho : Int32) (sl : Int32) (hd : Int32) (lo : Int32) (ak : Int32) (k : Nat) (isw : Int32) (nw : Int32) (sn : Int64) (ek : Int32) (em : Int32) (eh : Int32) (es : Int32) (ed : Int32) (el : Int32) (hs : Int64) (sz : Nat) (hk : k ≤ 18) : Met l yX6_fault wsX6_fault ({ frames := 4, cells := 0, slots := 0, locals := 88 }) (gPw D cB cC cI [.ref vh] [(vh, .inr (6, [.int mm, .int (nI n), .int tl, .int ho, .ref v0, .ref v1, .ref v2, .ref v3, .ref v4, .ref v5, .ref v6, .int sl, .int hd, .ref v7, .int lo, .int ak, .int (nI k), .ref v8, .int isw, .int nw, .ref v9, .long sn, .int ek, .int em, .int eh, .int es, .int ed, .int el, .ref v10, .long hs])), (v0, .inl (cI, 4, .inl kd)), (v1, .inl (cI, 4, .inl st)), (v2, .inl (cI, 4, .inl co)), (v3, .inl (cI, 4, .inl gt)), (v4, .inl (cI, 4, .inl pd)), (v5, .inl (cI, 4, .inl de)), (v6, .inl (cI, 4, .inl us)), (v7, .inl (cI, 4, .inl tm)), (v8, .inl (cB, 18, .inl lt)), (v9, .inl (cI, 4, .inl sv)), (v10, .inl (cI, 24, .inl ke))] sz) (QWi D ((rdL lt k 4 0).1) [(vh, .inr (6, [.int mm, .int (nI n), .int tl, .int ho, .ref v0, .ref v1, .ref v2, .ref v3, .ref v4, .ref v5, .ref v6, .int sl, .int hd, .ref v7, .int lo, .int ak, .int (nI k), .ref v8, .int ((rdL lt k 4 0).2.1), .int ((rdL lt k 4 0).2.2), .ref v9, .long sn, .int ek, .int em, .int eh, .int es, .int ed, .int el, .ref v10, .long hs])), (v0, .inl (cI, 4, .inl kd)), (v1, .inl (cI, 4, .inl st)), (v2, .inl (cI, 4, .inl co)), (v3, .inl (cI, 4, .inl gt)), (v4, .inl (cI, 4, .inl pd)), (v5, .inl (cI, 4, .inl de)), (v6, .inl (cI, 4, .inl us)), (v7, .inl (cI, 4, .inl tm)), (v8, .inl (cB, 18, .inl lt)), (v9, .inl (cI, 4, .inl sv)), (v10, .inl (cI, 24, .inl ke))] (va_A [(vh, .inr (6, [.int mm, .int (nI n), .int tl, .int ho, .ref v0, .ref v1, .ref v2, .ref v3, .ref v4, .ref v5, .ref v6, .int sl, .int hd, .ref v7, .int lo, .int ak, .int (nI k), .ref v8, .int isw, .int nw, .ref v9, .long sn, .int ek, .int em, .int eh, .int es, .int ed, .int el, .ref v10, .long hs])), (v0, .inl (cI, 4, .inl kd)), (v1, .inl (cI, 4, .inl st)), (v2, .inl (cI, 4, .inl co)), (v3, .inl (cI, 4, .inl gt)), (v4, .inl (cI, 4, .inl pd)), (v5, .inl (cI, 4, .inl de)), (v6, .inl (cI, 4, .inl us)), (v7, .inl (cI, 4, .inl tm)), (v8, .inl (cB, 18, .inl lt)), (v9, .inl (cI, 4, .inl sv)), (v10, .inl (cI, 24, .inl ke))] sz)) 0 0 (va_A [(vh, .inr (6, [.int mm, .int (nI n), .int tl, .int ho, .ref v0, .ref v1, .ref v2, .ref v3, .ref v4, .ref v5, .ref v6, .int sl, .int hd, .ref v7, .int lo, .int ak, .int (nI k), .ref v8, .int isw, .int nw, .ref v9, .long sn, .int ek, .int em, .int eh, .int es, .int ed, .int el, .ref v10, .long hs])), (v0, .inl (cI, 4, .inl kd)), (v1, .inl (cI, 4, .inl st)), (v2, .inl (cI, 4, .inl co)), (v3, .inl (cI, 4, .inl gt)), (v4, .inl (cI, 4, .inl pd)), (v5, .inl (cI, 4, .inl de)), (v6, .inl (cI, 4, .inl us)), (v7, .inl (cI, 4, .inl tm)), (v8, .inl (cB, 18, .inl lt)), (v9, .inl (cI, 4, .inl sv)), (v10, .inl (cI, 24, .inl ke))] sz) := by
  refine metW (cc := cX6_fault) (maxL := 1) (ret := (some .int)) (QA := fun A => (QWi D ((rdL lt k 4 0).1) [(vh, .inr (6, [.int mm, .int (nI n), .int tl, .int ho, .ref v0, .ref v1, .ref v2, .ref v3, .ref v4, .ref v5, .ref v6, .int sl, .int hd, .ref v7, .int lo, .int ak, .int (nI k), .ref v8, .int ((rdL lt k 4 0).2.1), .int ((rdL lt k 4 0).2.2), .ref v9, .long sn, .int ek, .int em, .int eh, .int es, .int ed, .int el, .ref v10, .long hs])), (v0, .inl (cI, 4, .inl kd)), (v1, .inl (cI, 4, .inl st)), (v2, .inl (cI, 4, .inl co)), (v3, .inl (cI, 4, .inl gt)), (v4, .inl (cI, 4, .inl pd)), (v5, .inl (cI, 4, .inl de)), (v6, .inl (cI, 4, .inl us)), (v7, .inl (cI, 4, .inl tm)), (v8, .inl (cB, 18, .inl lt)), (v9, .inl (cI, 4, .inl sv)), (v10, .inl (cI, 24, .inl ke))] A)) RX6 rfl (by decide) rfl (Nat.le_of_ble_eq_true rfl) ?_
  intro p e s m below meth c A hx hb hr hml hown hts hlocks hin hP hK hD hA hS ls hl
  have hl : lv_has ls 1 [(0, .ref vh)] := hl
  refine lv_aload_n hx hb dX6_fault_0 rfl (lv_at hl 0 rfl) ?_
  refine wcVi1 (As := []) (rest := []) (wr := []) (w2 := [(vh, .inr (6, [.int mm, .int (nI n), .int tl, .int ho, .ref v0, .ref v1, .ref v2, .ref v3, .ref v4, .ref v5, .ref v6, .int sl, .int hd, .ref v7, .int lo, .int ak, .int (nI k), .ref v8, .int ((rdL lt k 4 0).2.1), .int ((rdL lt k 4 0).2.2), .ref v9, .long sn, .int ek, .int em, .int eh, .int es, .int ed, .int el, .ref v10, .long hs])), (v0, .inl (cI, 4, .inl kd)), (v1, .inl (cI, 4, .inl st)), (v2, .inl (cI, 4, .inl co)), (v3, .inl (cI, 4, .inl gt)), (v4, .inl (cI, 4, .inl pd)), (v5, .inl (cI, 4, .inl de)), (v6, .inl (cI, 4, .inl us)), (v7, .inl (cI, 4, .inl tm)), (v8, .inl (cB, 18, .inl lt)), (v9, .inl (cI, 4, .inl sv)), (v10, .inl (cI, 24, .inl ke))]) ⟨hx, hb, hml, hown, hts⟩ (c_X6_read l D cB cC cI vh v0 v1 v2 v3 v4 v5 v6 v7 v8 v9 v10 kd st co gt pd de us tm lt sv ke mm n tl ho sl hd lo ak k isw nw sn ek em eh es ed el hs _ (by first | assumption | omega | decide)) (cwV 0 hts gX6_fault_X6_read rfl rfl rfl (by decide +kernel) ⟨Nat.le_of_ble_eq_true rfl, Nat.le_of_ble_eq_true rfl⟩) hK hP hD hS hA [0, 1, 2, 3, 4, 5, 6, 7, 8, 9, 10, 11] [] [0, 1, 2, 3, 4, 5, 6, 7, 8, 9, 10, 11] (by decide) rfl rfl (by decide) (by decide) (by decide) rfl rfl 0 rfl rfl hl.1 rfl (Nat.le_of_ble_eq_true rfl) dX6_fault_1 ⟨Nat.zero_le _, Nat.zero_le _⟩ (fun H locs hP hD hS => ?_)
  exact retWi (u := ()) hx hb hr hlocks rfl hP hD hS dX6_fault_4
set_option maxHeartbeats 4000000 in
set_option maxRecDepth 100000 in
theorem c_X6_market_no (l : Launch) (D : va_G) (cB cC cI : ClassId) (vh : Nat) (v0 : Nat) (v1 : Nat) (v2 : Nat) (v3 : Nat) (v4 : Nat) (v5 : Nat) (v6 : Nat) (v7 : Nat) (v8 : Nat) (v9 : Nat) (v10 : Nat) (kd : Nat → Int32) (st : Nat → Int32) (co : Nat → Int32) (gt : Nat → Int32) (pd : Nat → Int32) (de : Nat → Int32) (us : Nat → Int32) (tm : Nat → Int32) (lt : Nat → Int32) (sv : Nat → Int32) (ke : Nat → Int32) (mm : Int32) (n : Nat) (tl : Int32) (ho : Int32) (sl : Int32) (hd : Int32) (lo : Int32) (ak : Int32) (k : Nat) (isw : Int32) (nw : Int32) (sn : Int64) (ek : Int32) (em : Int32) (eh : Int32) (es : Int32) (ed : Int32) (el : Int32) (hs : Int64) (sz : Nat) (hk : k ≤ 18) (hz : (rdL lt k 4 0).2.1 = 0) : Met l yX6_market wsX6_market ({ frames := 4, cells := 0, slots := 0, locals := 88 }) (gPw D cB cC cI [.ref vh] [(vh, .inr (6, [.int mm, .int (nI n), .int tl, .int ho, .ref v0, .ref v1, .ref v2, .ref v3, .ref v4, .ref v5, .ref v6, .int sl, .int hd, .ref v7, .int lo, .int ak, .int (nI k), .ref v8, .int isw, .int nw, .ref v9, .long sn, .int ek, .int em, .int eh, .int es, .int ed, .int el, .ref v10, .long hs])), (v0, .inl (cI, 4, .inl kd)), (v1, .inl (cI, 4, .inl st)), (v2, .inl (cI, 4, .inl co)), (v3, .inl (cI, 4, .inl gt)), (v4, .inl (cI, 4, .inl pd)), (v5, .inl (cI, 4, .inl de)), (v6, .inl (cI, 4, .inl us)), (v7, .inl (cI, 4, .inl tm)), (v8, .inl (cB, 18, .inl lt)), (v9, .inl (cI, 4, .inl sv)), (v10, .inl (cI, 24, .inl ke))] sz) (QWi D (-103) [(vh, .inr (6, [.int mm, .int (nI n), .int tl, .int ho, .ref v0, .ref v1, .ref v2, .ref v3, .ref v4, .ref v5, .ref v6, .int sl, .int hd, .ref v7, .int lo, .int ak, .int (nI k), .ref v8, .int ((rdL lt k 4 0).2.1), .int ((rdL lt k 4 0).2.2), .ref v9, .long sn, .int ek, .int em, .int eh, .int es, .int ed, .int el, .ref v10, .long hs])), (v0, .inl (cI, 4, .inl kd)), (v1, .inl (cI, 4, .inl st)), (v2, .inl (cI, 4, .inl co)), (v3, .inl (cI, 4, .inl gt)), (v4, .inl (cI, 4, .inl pd)), (v5, .inl (cI, 4, .inl de)), (v6, .inl (cI, 4, .inl us)), (v7, .inl (cI, 4, .inl tm)), (v8, .inl (cB, 18, .inl lt)), (v9, .inl (cI, 4, .inl sv)), (v10, .inl (cI, 24, .inl ke))] (va_A [(vh, .inr (6, [.int mm, .int (nI n), .int tl, .int ho, .ref v0, .ref v1, .ref v2, .ref v3, .ref v4, .ref v5, .ref v6, .int sl, .int hd, .ref v7, .int lo, .int ak, .int (nI k), .ref v8, .int isw, .int nw, .ref v9, .long sn, .int ek, .int em, .int eh, .int es, .int ed, .int el, .ref v10, .long hs])), (v0, .inl (cI, 4, .inl kd)), (v1, .inl (cI, 4, .inl st)), (v2, .inl (cI, 4, .inl co)), (v3, .inl (cI, 4, .inl gt)), (v4, .inl (cI, 4, .inl pd)), (v5, .inl (cI, 4, .inl de)), (v6, .inl (cI, 4, .inl us)), (v7, .inl (cI, 4, .inl tm)), (v8, .inl (cB, 18, .inl lt)), (v9, .inl (cI, 4, .inl sv)), (v10, .inl (cI, 24, .inl ke))] sz)) 0 0 (va_A [(vh, .inr (6, [.int mm, .int (nI n), .int tl, .int ho, .ref v0, .ref v1, .ref v2, .ref v3, .ref v4, .ref v5, .ref v6, .int sl, .int hd, .ref v7, .int lo, .int ak, .int (nI k), .ref v8, .int isw, .int nw, .ref v9, .long sn, .int ek, .int em, .int eh, .int es, .int ed, .int el, .ref v10, .long hs])), (v0, .inl (cI, 4, .inl kd)), (v1, .inl (cI, 4, .inl st)), (v2, .inl (cI, 4, .inl co)), (v3, .inl (cI, 4, .inl gt)), (v4, .inl (cI, 4, .inl pd)), (v5, .inl (cI, 4, .inl de)), (v6, .inl (cI, 4, .inl us)), (v7, .inl (cI, 4, .inl tm)), (v8, .inl (cB, 18, .inl lt)), (v9, .inl (cI, 4, .inl sv)), (v10, .inl (cI, 24, .inl ke))] sz) := by
  refine metW (cc := cX6_market) (maxL := 3) (ret := (some .int)) (QA := fun A => (QWi D (-103) [(vh, .inr (6, [.int mm, .int (nI n), .int tl, .int ho, .ref v0, .ref v1, .ref v2, .ref v3, .ref v4, .ref v5, .ref v6, .int sl, .int hd, .ref v7, .int lo, .int ak, .int (nI k), .ref v8, .int ((rdL lt k 4 0).2.1), .int ((rdL lt k 4 0).2.2), .ref v9, .long sn, .int ek, .int em, .int eh, .int es, .int ed, .int el, .ref v10, .long hs])), (v0, .inl (cI, 4, .inl kd)), (v1, .inl (cI, 4, .inl st)), (v2, .inl (cI, 4, .inl co)), (v3, .inl (cI, 4, .inl gt)), (v4, .inl (cI, 4, .inl pd)), (v5, .inl (cI, 4, .inl de)), (v6, .inl (cI, 4, .inl us)), (v7, .inl (cI, 4, .inl tm)), (v8, .inl (cB, 18, .inl lt)), (v9, .inl (cI, 4, .inl sv)), (v10, .inl (cI, 24, .inl ke))] A)) RX6 rfl (by decide) rfl (Nat.le_of_ble_eq_true rfl) ?_
  intro p e s m below meth c A hx hb hr hml hown hts hlocks hin hP hK hD hA hS ls hl
  have iwX6 : ∀ w ∈ wsX60, w ∈ wsX6_market := by decide +kernel
  have fk59 := hts (.fieldLink RX6 59 "BuyersWeightsModel" "isWhole" "Z") (by decide +kernel)
  have hl : lv_has ls 3 [(0, .ref vh)] := hl
  refine lv_aload_n hx hb dX6_market_0 rfl (lv_at hl 0 rfl) ?_
  refine wcVi1 (As := []) (rest := []) (wr := []) (w2 := [(vh, .inr (6, [.int mm, .int (nI n), .int tl, .int ho, .ref v0, .ref v1, .ref v2, .ref v3, .ref v4, .ref v5, .ref v6, .int sl, .int hd, .ref v7, .int lo, .int ak, .int (nI k), .ref v8, .int ((rdL lt k 4 0).2.1), .int ((rdL lt k 4 0).2.2), .ref v9, .long sn, .int ek, .int em, .int eh, .int es, .int ed, .int el, .ref v10, .long hs])), (v0, .inl (cI, 4, .inl kd)), (v1, .inl (cI, 4, .inl st)), (v2, .inl (cI, 4, .inl co)), (v3, .inl (cI, 4, .inl gt)), (v4, .inl (cI, 4, .inl pd)), (v5, .inl (cI, 4, .inl de)), (v6, .inl (cI, 4, .inl us)), (v7, .inl (cI, 4, .inl tm)), (v8, .inl (cB, 18, .inl lt)), (v9, .inl (cI, 4, .inl sv)), (v10, .inl (cI, 24, .inl ke))]) ⟨hx, hb, hml, hown, hts⟩ (c_X6_read l D cB cC cI vh v0 v1 v2 v3 v4 v5 v6 v7 v8 v9 v10 kd st co gt pd de us tm lt sv ke mm n tl ho sl hd lo ak k isw nw sn ek em eh es ed el hs _ (by first | assumption | omega | decide)) (cwV 0 hts gX6_market_X6_read rfl rfl rfl (by decide +kernel) ⟨Nat.le_of_ble_eq_true rfl, Nat.le_of_ble_eq_true rfl⟩) hK hP hD hS hA [0, 1, 2, 3, 4, 5, 6, 7, 8, 9, 10, 11] [] [0, 1, 2, 3, 4, 5, 6, 7, 8, 9, 10, 11] (by decide) rfl rfl (by decide) (by decide) (by decide) rfl rfl 0 rfl rfl hl.1 rfl (Nat.le_of_ble_eq_true rfl) dX6_market_1 ⟨Nat.zero_le _, Nat.zero_le _⟩ (fun H locs hP hD hS => ?_)
  refine lv_istore_n (lv' := [(1, .int ((rdL lt k 4 0).1)), (0, .ref vh)]) hx hb dX6_market_4 rfl hl (by decide) rfl (fun ls hl => ?_)
  refine lv_aload_n hx hb dX6_market_5 rfl (lv_at hl 1 rfl) ?_
  refine va_get (D := D) (ci := 6) (v := .int ((rdL lt k 4 0).2.1)) (C := RX6) (T := TX6) (N := 30) hx hb hts iwX6 hown hK.1 hP 0 rfl rfl 18 (by decide) fk59 (fun _ h9 => h9) rfl dX6_market_6 ?_
  refine lv_if_ne (tgt := 15) hx hb dX6_market_9 (by decide) (fun c_1 => absurd c_1 (not_not_intro hz)) (fun c_1 => ?_)
  refine lv_bipush (v := (-103)) hx hb dX6_market_12 (by decide) ?_
  exact retWi (u := ()) hx hb hr hlocks rfl hP hD hS dX6_market_14
def mkK (lt : Nat → Int32) (i : Nat) : Int32 := f_X6_kindBy (lt (4 * i))
def mkS (lt : Nat → Int32) (i : Nat) : Int32 := (10 + lt (4 * i + 1)) - 48
def mkC (lt : Nat → Int32) (i : Nat) : Int32 := lt (4 * i + 2) - 48
set_option maxHeartbeats 4000000 in
set_option maxRecDepth 100000 in
theorem c_X6_market_yes (l : Launch) (D : va_G) (cB cC cI : ClassId) (vh : Nat) (v0 : Nat) (v1 : Nat) (v2 : Nat) (v3 : Nat) (v4 : Nat) (v5 : Nat) (v6 : Nat) (v7 : Nat) (v8 : Nat) (v9 : Nat) (v10 : Nat) (kd : Nat → Int32) (st : Nat → Int32) (co : Nat → Int32) (gt : Nat → Int32) (pd : Nat → Int32) (de : Nat → Int32) (us : Nat → Int32) (tm : Nat → Int32) (lt : Nat → Int32) (sv : Nat → Int32) (ke : Nat → Int32) (mm : Int32) (n : Nat) (tl : Int32) (ho : Int32) (sl : Int32) (hd : Int32) (lo : Int32) (ak : Int32) (k : Nat) (isw : Int32) (nw : Int32) (sn : Int64) (ek : Int32) (em : Int32) (eh : Int32) (es : Int32) (ed : Int32) (el : Int32) (hs : Int64) (sz : Nat) (hk : k ≤ 18) (hw : ¬ (rdL lt k 4 0).2.1 = 0) (hn2 : (rdL lt k 4 0).2.2 = nI (k / 4)) (he2 : (rdL lt k 4 0).1 = nI k) (hk4 : k = 4 * (k / 4) + 1) (h4 : k / 4 ≤ 4) (h2 : 2 ≤ k / 4) : Met l yX6_market wsX6_market ({ frames := 4, cells := 0, slots := 0, locals := 88 }) (gPw D cB cC cI [.ref vh] [(vh, .inr (6, [.int mm, .int (nI n), .int tl, .int ho, .ref v0, .ref v1, .ref v2, .ref v3, .ref v4, .ref v5, .ref v6, .int sl, .int hd, .ref v7, .int lo, .int ak, .int (nI k), .ref v8, .int isw, .int nw, .ref v9, .long sn, .int ek, .int em, .int eh, .int es, .int ed, .int el, .ref v10, .long hs])), (v0, .inl (cI, 4, .inl kd)), (v1, .inl (cI, 4, .inl st)), (v2, .inl (cI, 4, .inl co)), (v3, .inl (cI, 4, .inl gt)), (v4, .inl (cI, 4, .inl pd)), (v5, .inl (cI, 4, .inl de)), (v6, .inl (cI, 4, .inl us)), (v7, .inl (cI, 4, .inl tm)), (v8, .inl (cB, 18, .inl lt)), (v9, .inl (cI, 4, .inl sv)), (v10, .inl (cI, 24, .inl ke))] sz) (QWi D (nI (k / 4)) [(vh, .inr (6, [.int (mm + 1), .int (nI (k / 4)), .int (lt (k - 1) - 48), .int 1, .ref v0, .ref v1, .ref v2, .ref v3, .ref v4, .ref v5, .ref v6, .int 0, .int 0, .ref v7, .int 0, .int ak, .int 0, .ref v8, .int ((rdL lt k 4 0).2.1), .int ((rdL lt k 4 0).2.2), .ref v9, .long sn, .int ek, .int em, .int eh, .int es, .int ed, .int el, .ref v10, .long hs])), (v0, .inl (cI, 4, .inl (fillN (mkK lt) kd (k / 4)))), (v1, .inl (cI, 4, .inl (fillN (mkS lt) st (k / 4)))), (v2, .inl (cI, 4, .inl (fillN (mkC lt) co (k / 4)))), (v3, .inl (cI, 4, .inl (fillN ze gt (k / 4)))), (v4, .inl (cI, 4, .inl (fillN ze pd (k / 4)))), (v5, .inl (cI, 4, .inl (fillN ze de (k / 4)))), (v6, .inl (cI, 4, .inl (fillN ze us (k / 4)))), (v7, .inl (cI, 4, .inl (fillN ze tm (k / 4)))), (v8, .inl (cB, 18, .inl lt)), (v9, .inl (cI, 4, .inl sv)), (v10, .inl (cI, 24, .inl ke))] (va_A [(vh, .inr (6, [.int mm, .int (nI n), .int tl, .int ho, .ref v0, .ref v1, .ref v2, .ref v3, .ref v4, .ref v5, .ref v6, .int sl, .int hd, .ref v7, .int lo, .int ak, .int (nI k), .ref v8, .int isw, .int nw, .ref v9, .long sn, .int ek, .int em, .int eh, .int es, .int ed, .int el, .ref v10, .long hs])), (v0, .inl (cI, 4, .inl kd)), (v1, .inl (cI, 4, .inl st)), (v2, .inl (cI, 4, .inl co)), (v3, .inl (cI, 4, .inl gt)), (v4, .inl (cI, 4, .inl pd)), (v5, .inl (cI, 4, .inl de)), (v6, .inl (cI, 4, .inl us)), (v7, .inl (cI, 4, .inl tm)), (v8, .inl (cB, 18, .inl lt)), (v9, .inl (cI, 4, .inl sv)), (v10, .inl (cI, 24, .inl ke))] sz)) 0 0 (va_A [(vh, .inr (6, [.int mm, .int (nI n), .int tl, .int ho, .ref v0, .ref v1, .ref v2, .ref v3, .ref v4, .ref v5, .ref v6, .int sl, .int hd, .ref v7, .int lo, .int ak, .int (nI k), .ref v8, .int isw, .int nw, .ref v9, .long sn, .int ek, .int em, .int eh, .int es, .int ed, .int el, .ref v10, .long hs])), (v0, .inl (cI, 4, .inl kd)), (v1, .inl (cI, 4, .inl st)), (v2, .inl (cI, 4, .inl co)), (v3, .inl (cI, 4, .inl gt)), (v4, .inl (cI, 4, .inl pd)), (v5, .inl (cI, 4, .inl de)), (v6, .inl (cI, 4, .inl us)), (v7, .inl (cI, 4, .inl tm)), (v8, .inl (cB, 18, .inl lt)), (v9, .inl (cI, 4, .inl sv)), (v10, .inl (cI, 24, .inl ke))] sz) := by
  refine metW (cc := cX6_market) (maxL := 3) (ret := (some .int)) (QA := fun A => (QWi D (nI (k / 4)) [(vh, .inr (6, [.int (mm + 1), .int (nI (k / 4)), .int (lt (k - 1) - 48), .int 1, .ref v0, .ref v1, .ref v2, .ref v3, .ref v4, .ref v5, .ref v6, .int 0, .int 0, .ref v7, .int 0, .int ak, .int 0, .ref v8, .int ((rdL lt k 4 0).2.1), .int ((rdL lt k 4 0).2.2), .ref v9, .long sn, .int ek, .int em, .int eh, .int es, .int ed, .int el, .ref v10, .long hs])), (v0, .inl (cI, 4, .inl (fillN (mkK lt) kd (k / 4)))), (v1, .inl (cI, 4, .inl (fillN (mkS lt) st (k / 4)))), (v2, .inl (cI, 4, .inl (fillN (mkC lt) co (k / 4)))), (v3, .inl (cI, 4, .inl (fillN ze gt (k / 4)))), (v4, .inl (cI, 4, .inl (fillN ze pd (k / 4)))), (v5, .inl (cI, 4, .inl (fillN ze de (k / 4)))), (v6, .inl (cI, 4, .inl (fillN ze us (k / 4)))), (v7, .inl (cI, 4, .inl (fillN ze tm (k / 4)))), (v8, .inl (cB, 18, .inl lt)), (v9, .inl (cI, 4, .inl sv)), (v10, .inl (cI, 24, .inl ke))] A)) RX6 rfl (by decide) rfl (Nat.le_of_ble_eq_true rfl) ?_
  intro p e s m below meth c A hx hb hr hml hown hts hlocks hin hP hK hD hA hS ls hl
  have iwX6 : ∀ w ∈ wsX60, w ∈ wsX6_market := by decide +kernel
  have fk73 := hts (.fieldLink RX6 73 "BuyersWeightsModel" "houses" "I") (by decide +kernel)
  have fk79 := hts (.fieldLink RX6 79 "BuyersWeightsModel" "marketMany" "I") (by decide +kernel)
  have fk82 := hts (.fieldLink RX6 82 "BuyersWeightsModel" "hour" "I") (by decide +kernel)
  have fk85 := hts (.fieldLink RX6 85 "BuyersWeightsModel" "sales" "I") (by decide +kernel)
  have fk88 := hts (.fieldLink RX6 88 "BuyersWeightsModel" "hands" "I") (by decide +kernel)
  have fk91 := hts (.fieldLink RX6 91 "BuyersWeightsModel" "lost" "I") (by decide +kernel)
  have fk48 := hts (.fieldLink RX6 48 "BuyersWeightsModel" "pageLength" "I") (by decide +kernel)
  have fk7 := hts (.fieldLink RX6 7 "BuyersWeightsModel" "kindOf" "[I") (by decide +kernel)
  have fk34 := hts (.fieldLink RX6 34 "BuyersWeightsModel" "page" "[B") (by decide +kernel)
  have fk13 := hts (.fieldLink RX6 13 "BuyersWeightsModel" "weighsOf" "[I") (by decide +kernel)
  have fk16 := hts (.fieldLink RX6 16 "BuyersWeightsModel" "coinOf" "[I") (by decide +kernel)
  have fk19 := hts (.fieldLink RX6 19 "BuyersWeightsModel" "gotOf" "[I") (by decide +kernel)
  have fk22 := hts (.fieldLink RX6 22 "BuyersWeightsModel" "paidOf" "[I") (by decide +kernel)
  have fk25 := hts (.fieldLink RX6 25 "BuyersWeightsModel" "dealtOf" "[I") (by decide +kernel)
  have fk28 := hts (.fieldLink RX6 28 "BuyersWeightsModel" "usedOf" "[I") (by decide +kernel)
  have fk31 := hts (.fieldLink RX6 31 "BuyersWeightsModel" "handsOf" "[I") (by decide +kernel)
  have fk59 := hts (.fieldLink RX6 59 "BuyersWeightsModel" "isWhole" "Z") (by decide +kernel)
  have fk63 := hts (.fieldLink RX6 63 "BuyersWeightsModel" "newMany" "I") (by decide +kernel)
  have fk76 := hts (.fieldLink RX6 76 "BuyersWeightsModel" "tilt" "I") (by decide +kernel)
  have cut_40 : ∀ (fu : Nat) (j : Nat), j ≤ k / 4 → k / 4 - j < fu → ∀ (H : Heap) (locs : List Loc), va_P D vwCl [(vh, .inr (6, [.int mm, .int (nI (k / 4)), .int (lt (k - 1) - 48), .int ho, .ref v0, .ref v1, .ref v2, .ref v3, .ref v4, .ref v5, .ref v6, .int sl, .int hd, .ref v7, .int lo, .int ak, .int (nI k), .ref v8, .int ((rdL lt k 4 0).2.1), .int ((rdL lt k 4 0).2.2), .ref v9, .long sn, .int ek, .int em, .int eh, .int es, .int ed, .int el, .ref v10, .long hs])), (v0, .inl (cI, 4, .inl (fillN (mkK lt) kd j))), (v1, .inl (cI, 4, .inl (fillN (mkS lt) st j))), (v2, .inl (cI, 4, .inl (fillN (mkC lt) co j))), (v3, .inl (cI, 4, .inl (fillN ze gt j))), (v4, .inl (cI, 4, .inl (fillN ze pd j))), (v5, .inl (cI, 4, .inl (fillN ze de j))), (v6, .inl (cI, 4, .inl (fillN ze us j))), (v7, .inl (cI, 4, .inl (fillN ze tm j))), (v8, .inl (cB, 18, .inl lt)), (v9, .inl (cI, 4, .inl sv)), (v10, .inl (cI, 24, .inl ke))] H → va_D A [(vh, .inr (6, [.int mm, .int (nI (k / 4)), .int (lt (k - 1) - 48), .int ho, .ref v0, .ref v1, .ref v2, .ref v3, .ref v4, .ref v5, .ref v6, .int sl, .int hd, .ref v7, .int lo, .int ak, .int (nI k), .ref v8, .int ((rdL lt k 4 0).2.1), .int ((rdL lt k 4 0).2.2), .ref v9, .long sn, .int ek, .int em, .int eh, .int es, .int ed, .int el, .ref v10, .long hs])), (v0, .inl (cI, 4, .inl (fillN (mkK lt) kd j))), (v1, .inl (cI, 4, .inl (fillN (mkS lt) st j))), (v2, .inl (cI, 4, .inl (fillN (mkC lt) co j))), (v3, .inl (cI, 4, .inl (fillN ze gt j))), (v4, .inl (cI, 4, .inl (fillN ze pd j))), (v5, .inl (cI, 4, .inl (fillN ze de j))), (v6, .inl (cI, 4, .inl (fillN ze us j))), (v7, .inl (cI, 4, .inl (fillN ze tm j))), (v8, .inl (cB, 18, .inl lt)), (v9, .inl (cI, 4, .inl sv)), (v10, .inl (cI, 24, .inl ke))] → va_S A s.heap H locs → ∀ (ls : Array Slot), lv_has ls 3 [(0, .ref vh), (2, .int (nI j))] → W p l e (headSpec wsX6_market ({ frames := 4, cells := 0, slots := 0, locals := 88 })).room s m ([.ref vh] : List Value).toArray below meth c H locs 0 0 (MQ below (QWi D (nI (k / 4)) [(vh, .inr (6, [.int (mm + 1), .int (nI (k / 4)), .int (lt (k - 1) - 48), .int 1, .ref v0, .ref v1, .ref v2, .ref v3, .ref v4, .ref v5, .ref v6, .int 0, .int 0, .ref v7, .int 0, .int ak, .int 0, .ref v8, .int ((rdL lt k 4 0).2.1), .int ((rdL lt k 4 0).2.2), .ref v9, .long sn, .int ek, .int em, .int eh, .int es, .int ed, .int el, .ref v10, .long hs])), (v0, .inl (cI, 4, .inl (fillN (mkK lt) kd (k / 4)))), (v1, .inl (cI, 4, .inl (fillN (mkS lt) st (k / 4)))), (v2, .inl (cI, 4, .inl (fillN (mkC lt) co (k / 4)))), (v3, .inl (cI, 4, .inl (fillN ze gt (k / 4)))), (v4, .inl (cI, 4, .inl (fillN ze pd (k / 4)))), (v5, .inl (cI, 4, .inl (fillN ze de (k / 4)))), (v6, .inl (cI, 4, .inl (fillN ze us (k / 4)))), (v7, .inl (cI, 4, .inl (fillN ze tm (k / 4)))), (v8, .inl (cB, 18, .inl lt)), (v9, .inl (cI, 4, .inl sv)), (v10, .inl (cI, 24, .inl ke))] A) ([.ref vh] : List Value).toArray s 0 0 A) (F0 m 40 ls []) := by
    intro fu
    induction fu with
    | zero => intro j hj hfu; exact absurd hfu (Nat.not_lt_zero _)
    | succ fu ih_40 =>
      intro j hj hfu H locs hP hD hS ls hl
      refine lv_iload_n hx hb dX6_market_40 rfl (lv_at hl 1 rfl) ?_
      refine lv_aload_n hx hb dX6_market_41 rfl (lv_at hl 0 rfl) ?_
      refine va_get (D := D) (ci := 6) (v := .int (nI (k / 4))) (C := RX6) (T := TX6) (N := 30) hx hb hts iwX6 hown hK.1 hP 0 rfl rfl 1 (by decide) fk73 (fun _ h9 => h9) rfl dX6_market_42 ?_
      refine lv_icmp_ge (tgt := 147) hx hb dX6_market_45 (by decide) (fun c_1 => ?_) (fun c_1 => ?_)
      · have hge : k / 4 ≤ j := (nI_leI (by omega) (by omega)).mp c_1
        refine lv_aload_n hx hb dX6_market_147 rfl (lv_at hl 0 rfl) ?_
        refine lv_dup hx hb dX6_market_148 rfl ?_
        refine va_get (D := D) (ci := 6) (v := .int mm) (C := RX6) (T := TX6) (N := 30) hx hb hts iwX6 hown hK.1 hP 0 rfl rfl 0 (by decide) fk79 (fun _ h9 => h9) rfl dX6_market_149 ?_
        refine lv_iconst (v := 1) hx hb dX6_market_152 (by decide) ?_
        refine lv_iadd hx hb dX6_market_153 ?_
        refine va_put (D := D) (ci := 6) (v := .int (mm + 1)) (ty := .int) (C := RX6) (T := TX6) (N := 30) hx hb hts iwX6 tyX6 tyX6_ok nmX6 hown hK.1 hP hD hS 0 rfl rfl 0 (by decide) fk79 (fun _ h9 => h9) rfl (by decide +kernel) rfl rfl (Nat.le_of_ble_eq_true rfl) dX6_market_154 (fun H locs hP hD hS => ?_)
        have hP : va_P D vwCl [(vh, .inr (6, [.int (mm + 1), .int (nI (k / 4)), .int (lt (k - 1) - 48), .int ho, .ref v0, .ref v1, .ref v2, .ref v3, .ref v4, .ref v5, .ref v6, .int sl, .int hd, .ref v7, .int lo, .int ak, .int (nI k), .ref v8, .int ((rdL lt k 4 0).2.1), .int ((rdL lt k 4 0).2.2), .ref v9, .long sn, .int ek, .int em, .int eh, .int es, .int ed, .int el, .ref v10, .long hs])), (v0, .inl (cI, 4, .inl (fillN (mkK lt) kd j))), (v1, .inl (cI, 4, .inl (fillN (mkS lt) st j))), (v2, .inl (cI, 4, .inl (fillN (mkC lt) co j))), (v3, .inl (cI, 4, .inl (fillN ze gt j))), (v4, .inl (cI, 4, .inl (fillN ze pd j))), (v5, .inl (cI, 4, .inl (fillN ze de j))), (v6, .inl (cI, 4, .inl (fillN ze us j))), (v7, .inl (cI, 4, .inl (fillN ze tm j))), (v8, .inl (cB, 18, .inl lt)), (v9, .inl (cI, 4, .inl sv)), (v10, .inl (cI, 24, .inl ke))] H := hP
        have hD : va_D A [(vh, .inr (6, [.int (mm + 1), .int (nI (k / 4)), .int (lt (k - 1) - 48), .int ho, .ref v0, .ref v1, .ref v2, .ref v3, .ref v4, .ref v5, .ref v6, .int sl, .int hd, .ref v7, .int lo, .int ak, .int (nI k), .ref v8, .int ((rdL lt k 4 0).2.1), .int ((rdL lt k 4 0).2.2), .ref v9, .long sn, .int ek, .int em, .int eh, .int es, .int ed, .int el, .ref v10, .long hs])), (v0, .inl (cI, 4, .inl (fillN (mkK lt) kd j))), (v1, .inl (cI, 4, .inl (fillN (mkS lt) st j))), (v2, .inl (cI, 4, .inl (fillN (mkC lt) co j))), (v3, .inl (cI, 4, .inl (fillN ze gt j))), (v4, .inl (cI, 4, .inl (fillN ze pd j))), (v5, .inl (cI, 4, .inl (fillN ze de j))), (v6, .inl (cI, 4, .inl (fillN ze us j))), (v7, .inl (cI, 4, .inl (fillN ze tm j))), (v8, .inl (cB, 18, .inl lt)), (v9, .inl (cI, 4, .inl sv)), (v10, .inl (cI, 24, .inl ke))] := hD
        refine lv_aload_n hx hb dX6_market_157 rfl (lv_at hl 0 rfl) ?_
        refine lv_iconst (v := 1) hx hb dX6_market_158 (by decide) ?_
        refine va_put (D := D) (ci := 6) (v := .int 1) (ty := .int) (C := RX6) (T := TX6) (N := 30) hx hb hts iwX6 tyX6 tyX6_ok nmX6 hown hK.1 hP hD hS 0 rfl rfl 3 (by decide) fk82 (fun _ h9 => h9) rfl (by decide +kernel) rfl rfl (Nat.le_of_ble_eq_true rfl) dX6_market_159 (fun H locs hP hD hS => ?_)
        have hP : va_P D vwCl [(vh, .inr (6, [.int (mm + 1), .int (nI (k / 4)), .int (lt (k - 1) - 48), .int 1, .ref v0, .ref v1, .ref v2, .ref v3, .ref v4, .ref v5, .ref v6, .int sl, .int hd, .ref v7, .int lo, .int ak, .int (nI k), .ref v8, .int ((rdL lt k 4 0).2.1), .int ((rdL lt k 4 0).2.2), .ref v9, .long sn, .int ek, .int em, .int eh, .int es, .int ed, .int el, .ref v10, .long hs])), (v0, .inl (cI, 4, .inl (fillN (mkK lt) kd j))), (v1, .inl (cI, 4, .inl (fillN (mkS lt) st j))), (v2, .inl (cI, 4, .inl (fillN (mkC lt) co j))), (v3, .inl (cI, 4, .inl (fillN ze gt j))), (v4, .inl (cI, 4, .inl (fillN ze pd j))), (v5, .inl (cI, 4, .inl (fillN ze de j))), (v6, .inl (cI, 4, .inl (fillN ze us j))), (v7, .inl (cI, 4, .inl (fillN ze tm j))), (v8, .inl (cB, 18, .inl lt)), (v9, .inl (cI, 4, .inl sv)), (v10, .inl (cI, 24, .inl ke))] H := hP
        have hD : va_D A [(vh, .inr (6, [.int (mm + 1), .int (nI (k / 4)), .int (lt (k - 1) - 48), .int 1, .ref v0, .ref v1, .ref v2, .ref v3, .ref v4, .ref v5, .ref v6, .int sl, .int hd, .ref v7, .int lo, .int ak, .int (nI k), .ref v8, .int ((rdL lt k 4 0).2.1), .int ((rdL lt k 4 0).2.2), .ref v9, .long sn, .int ek, .int em, .int eh, .int es, .int ed, .int el, .ref v10, .long hs])), (v0, .inl (cI, 4, .inl (fillN (mkK lt) kd j))), (v1, .inl (cI, 4, .inl (fillN (mkS lt) st j))), (v2, .inl (cI, 4, .inl (fillN (mkC lt) co j))), (v3, .inl (cI, 4, .inl (fillN ze gt j))), (v4, .inl (cI, 4, .inl (fillN ze pd j))), (v5, .inl (cI, 4, .inl (fillN ze de j))), (v6, .inl (cI, 4, .inl (fillN ze us j))), (v7, .inl (cI, 4, .inl (fillN ze tm j))), (v8, .inl (cB, 18, .inl lt)), (v9, .inl (cI, 4, .inl sv)), (v10, .inl (cI, 24, .inl ke))] := hD
        refine lv_aload_n hx hb dX6_market_162 rfl (lv_at hl 0 rfl) ?_
        refine lv_iconst (v := 0) hx hb dX6_market_163 (by decide) ?_
        refine va_put (D := D) (ci := 6) (v := .int 0) (ty := .int) (C := RX6) (T := TX6) (N := 30) hx hb hts iwX6 tyX6 tyX6_ok nmX6 hown hK.1 hP hD hS 0 rfl rfl 11 (by decide) fk85 (fun _ h9 => h9) rfl (by decide +kernel) rfl rfl (Nat.le_of_ble_eq_true rfl) dX6_market_164 (fun H locs hP hD hS => ?_)
        have hP : va_P D vwCl [(vh, .inr (6, [.int (mm + 1), .int (nI (k / 4)), .int (lt (k - 1) - 48), .int 1, .ref v0, .ref v1, .ref v2, .ref v3, .ref v4, .ref v5, .ref v6, .int 0, .int hd, .ref v7, .int lo, .int ak, .int (nI k), .ref v8, .int ((rdL lt k 4 0).2.1), .int ((rdL lt k 4 0).2.2), .ref v9, .long sn, .int ek, .int em, .int eh, .int es, .int ed, .int el, .ref v10, .long hs])), (v0, .inl (cI, 4, .inl (fillN (mkK lt) kd j))), (v1, .inl (cI, 4, .inl (fillN (mkS lt) st j))), (v2, .inl (cI, 4, .inl (fillN (mkC lt) co j))), (v3, .inl (cI, 4, .inl (fillN ze gt j))), (v4, .inl (cI, 4, .inl (fillN ze pd j))), (v5, .inl (cI, 4, .inl (fillN ze de j))), (v6, .inl (cI, 4, .inl (fillN ze us j))), (v7, .inl (cI, 4, .inl (fillN ze tm j))), (v8, .inl (cB, 18, .inl lt)), (v9, .inl (cI, 4, .inl sv)), (v10, .inl (cI, 24, .inl ke))] H := hP
        have hD : va_D A [(vh, .inr (6, [.int (mm + 1), .int (nI (k / 4)), .int (lt (k - 1) - 48), .int 1, .ref v0, .ref v1, .ref v2, .ref v3, .ref v4, .ref v5, .ref v6, .int 0, .int hd, .ref v7, .int lo, .int ak, .int (nI k), .ref v8, .int ((rdL lt k 4 0).2.1), .int ((rdL lt k 4 0).2.2), .ref v9, .long sn, .int ek, .int em, .int eh, .int es, .int ed, .int el, .ref v10, .long hs])), (v0, .inl (cI, 4, .inl (fillN (mkK lt) kd j))), (v1, .inl (cI, 4, .inl (fillN (mkS lt) st j))), (v2, .inl (cI, 4, .inl (fillN (mkC lt) co j))), (v3, .inl (cI, 4, .inl (fillN ze gt j))), (v4, .inl (cI, 4, .inl (fillN ze pd j))), (v5, .inl (cI, 4, .inl (fillN ze de j))), (v6, .inl (cI, 4, .inl (fillN ze us j))), (v7, .inl (cI, 4, .inl (fillN ze tm j))), (v8, .inl (cB, 18, .inl lt)), (v9, .inl (cI, 4, .inl sv)), (v10, .inl (cI, 24, .inl ke))] := hD
        refine lv_aload_n hx hb dX6_market_167 rfl (lv_at hl 0 rfl) ?_
        refine lv_iconst (v := 0) hx hb dX6_market_168 (by decide) ?_
        refine va_put (D := D) (ci := 6) (v := .int 0) (ty := .int) (C := RX6) (T := TX6) (N := 30) hx hb hts iwX6 tyX6 tyX6_ok nmX6 hown hK.1 hP hD hS 0 rfl rfl 12 (by decide) fk88 (fun _ h9 => h9) rfl (by decide +kernel) rfl rfl (Nat.le_of_ble_eq_true rfl) dX6_market_169 (fun H locs hP hD hS => ?_)
        have hP : va_P D vwCl [(vh, .inr (6, [.int (mm + 1), .int (nI (k / 4)), .int (lt (k - 1) - 48), .int 1, .ref v0, .ref v1, .ref v2, .ref v3, .ref v4, .ref v5, .ref v6, .int 0, .int 0, .ref v7, .int lo, .int ak, .int (nI k), .ref v8, .int ((rdL lt k 4 0).2.1), .int ((rdL lt k 4 0).2.2), .ref v9, .long sn, .int ek, .int em, .int eh, .int es, .int ed, .int el, .ref v10, .long hs])), (v0, .inl (cI, 4, .inl (fillN (mkK lt) kd j))), (v1, .inl (cI, 4, .inl (fillN (mkS lt) st j))), (v2, .inl (cI, 4, .inl (fillN (mkC lt) co j))), (v3, .inl (cI, 4, .inl (fillN ze gt j))), (v4, .inl (cI, 4, .inl (fillN ze pd j))), (v5, .inl (cI, 4, .inl (fillN ze de j))), (v6, .inl (cI, 4, .inl (fillN ze us j))), (v7, .inl (cI, 4, .inl (fillN ze tm j))), (v8, .inl (cB, 18, .inl lt)), (v9, .inl (cI, 4, .inl sv)), (v10, .inl (cI, 24, .inl ke))] H := hP
        have hD : va_D A [(vh, .inr (6, [.int (mm + 1), .int (nI (k / 4)), .int (lt (k - 1) - 48), .int 1, .ref v0, .ref v1, .ref v2, .ref v3, .ref v4, .ref v5, .ref v6, .int 0, .int 0, .ref v7, .int lo, .int ak, .int (nI k), .ref v8, .int ((rdL lt k 4 0).2.1), .int ((rdL lt k 4 0).2.2), .ref v9, .long sn, .int ek, .int em, .int eh, .int es, .int ed, .int el, .ref v10, .long hs])), (v0, .inl (cI, 4, .inl (fillN (mkK lt) kd j))), (v1, .inl (cI, 4, .inl (fillN (mkS lt) st j))), (v2, .inl (cI, 4, .inl (fillN (mkC lt) co j))), (v3, .inl (cI, 4, .inl (fillN ze gt j))), (v4, .inl (cI, 4, .inl (fillN ze pd j))), (v5, .inl (cI, 4, .inl (fillN ze de j))), (v6, .inl (cI, 4, .inl (fillN ze us j))), (v7, .inl (cI, 4, .inl (fillN ze tm j))), (v8, .inl (cB, 18, .inl lt)), (v9, .inl (cI, 4, .inl sv)), (v10, .inl (cI, 24, .inl ke))] := hD
        refine lv_aload_n hx hb dX6_market_172 rfl (lv_at hl 0 rfl) ?_
        refine lv_iconst (v := 0) hx hb dX6_market_173 (by decide) ?_
        refine va_put (D := D) (ci := 6) (v := .int 0) (ty := .int) (C := RX6) (T := TX6) (N := 30) hx hb hts iwX6 tyX6 tyX6_ok nmX6 hown hK.1 hP hD hS 0 rfl rfl 14 (by decide) fk91 (fun _ h9 => h9) rfl (by decide +kernel) rfl rfl (Nat.le_of_ble_eq_true rfl) dX6_market_174 (fun H locs hP hD hS => ?_)
        have hP : va_P D vwCl [(vh, .inr (6, [.int (mm + 1), .int (nI (k / 4)), .int (lt (k - 1) - 48), .int 1, .ref v0, .ref v1, .ref v2, .ref v3, .ref v4, .ref v5, .ref v6, .int 0, .int 0, .ref v7, .int 0, .int ak, .int (nI k), .ref v8, .int ((rdL lt k 4 0).2.1), .int ((rdL lt k 4 0).2.2), .ref v9, .long sn, .int ek, .int em, .int eh, .int es, .int ed, .int el, .ref v10, .long hs])), (v0, .inl (cI, 4, .inl (fillN (mkK lt) kd j))), (v1, .inl (cI, 4, .inl (fillN (mkS lt) st j))), (v2, .inl (cI, 4, .inl (fillN (mkC lt) co j))), (v3, .inl (cI, 4, .inl (fillN ze gt j))), (v4, .inl (cI, 4, .inl (fillN ze pd j))), (v5, .inl (cI, 4, .inl (fillN ze de j))), (v6, .inl (cI, 4, .inl (fillN ze us j))), (v7, .inl (cI, 4, .inl (fillN ze tm j))), (v8, .inl (cB, 18, .inl lt)), (v9, .inl (cI, 4, .inl sv)), (v10, .inl (cI, 24, .inl ke))] H := hP
        have hD : va_D A [(vh, .inr (6, [.int (mm + 1), .int (nI (k / 4)), .int (lt (k - 1) - 48), .int 1, .ref v0, .ref v1, .ref v2, .ref v3, .ref v4, .ref v5, .ref v6, .int 0, .int 0, .ref v7, .int 0, .int ak, .int (nI k), .ref v8, .int ((rdL lt k 4 0).2.1), .int ((rdL lt k 4 0).2.2), .ref v9, .long sn, .int ek, .int em, .int eh, .int es, .int ed, .int el, .ref v10, .long hs])), (v0, .inl (cI, 4, .inl (fillN (mkK lt) kd j))), (v1, .inl (cI, 4, .inl (fillN (mkS lt) st j))), (v2, .inl (cI, 4, .inl (fillN (mkC lt) co j))), (v3, .inl (cI, 4, .inl (fillN ze gt j))), (v4, .inl (cI, 4, .inl (fillN ze pd j))), (v5, .inl (cI, 4, .inl (fillN ze de j))), (v6, .inl (cI, 4, .inl (fillN ze us j))), (v7, .inl (cI, 4, .inl (fillN ze tm j))), (v8, .inl (cB, 18, .inl lt)), (v9, .inl (cI, 4, .inl sv)), (v10, .inl (cI, 24, .inl ke))] := hD
        refine lv_aload_n hx hb dX6_market_177 rfl (lv_at hl 0 rfl) ?_
        refine lv_iconst (v := 0) hx hb dX6_market_178 (by decide) ?_
        refine va_put (D := D) (ci := 6) (v := .int 0) (ty := .int) (C := RX6) (T := TX6) (N := 30) hx hb hts iwX6 tyX6 tyX6_ok nmX6 hown hK.1 hP hD hS 0 rfl rfl 16 (by decide) fk48 (fun _ h9 => h9) rfl (by decide +kernel) rfl rfl (Nat.le_of_ble_eq_true rfl) dX6_market_179 (fun H locs hP hD hS => ?_)
        have hP : va_P D vwCl [(vh, .inr (6, [.int (mm + 1), .int (nI (k / 4)), .int (lt (k - 1) - 48), .int 1, .ref v0, .ref v1, .ref v2, .ref v3, .ref v4, .ref v5, .ref v6, .int 0, .int 0, .ref v7, .int 0, .int ak, .int 0, .ref v8, .int ((rdL lt k 4 0).2.1), .int ((rdL lt k 4 0).2.2), .ref v9, .long sn, .int ek, .int em, .int eh, .int es, .int ed, .int el, .ref v10, .long hs])), (v0, .inl (cI, 4, .inl (fillN (mkK lt) kd j))), (v1, .inl (cI, 4, .inl (fillN (mkS lt) st j))), (v2, .inl (cI, 4, .inl (fillN (mkC lt) co j))), (v3, .inl (cI, 4, .inl (fillN ze gt j))), (v4, .inl (cI, 4, .inl (fillN ze pd j))), (v5, .inl (cI, 4, .inl (fillN ze de j))), (v6, .inl (cI, 4, .inl (fillN ze us j))), (v7, .inl (cI, 4, .inl (fillN ze tm j))), (v8, .inl (cB, 18, .inl lt)), (v9, .inl (cI, 4, .inl sv)), (v10, .inl (cI, 24, .inl ke))] H := hP
        have hD : va_D A [(vh, .inr (6, [.int (mm + 1), .int (nI (k / 4)), .int (lt (k - 1) - 48), .int 1, .ref v0, .ref v1, .ref v2, .ref v3, .ref v4, .ref v5, .ref v6, .int 0, .int 0, .ref v7, .int 0, .int ak, .int 0, .ref v8, .int ((rdL lt k 4 0).2.1), .int ((rdL lt k 4 0).2.2), .ref v9, .long sn, .int ek, .int em, .int eh, .int es, .int ed, .int el, .ref v10, .long hs])), (v0, .inl (cI, 4, .inl (fillN (mkK lt) kd j))), (v1, .inl (cI, 4, .inl (fillN (mkS lt) st j))), (v2, .inl (cI, 4, .inl (fillN (mkC lt) co j))), (v3, .inl (cI, 4, .inl (fillN ze gt j))), (v4, .inl (cI, 4, .inl (fillN ze pd j))), (v5, .inl (cI, 4, .inl (fillN ze de j))), (v6, .inl (cI, 4, .inl (fillN ze us j))), (v7, .inl (cI, 4, .inl (fillN ze tm j))), (v8, .inl (cB, 18, .inl lt)), (v9, .inl (cI, 4, .inl sv)), (v10, .inl (cI, 24, .inl ke))] := hD
        refine lv_aload_n hx hb dX6_market_182 rfl (lv_at hl 0 rfl) ?_
        refine va_get (D := D) (ci := 6) (v := .int (nI (k / 4))) (C := RX6) (T := TX6) (N := 30) hx hb hts iwX6 hown hK.1 hP 0 rfl rfl 1 (by decide) fk73 (fun _ h9 => h9) rfl dX6_market_183 ?_
        exact retWi (u := ()) hx hb hr hlocks (rfl) (by rw [show j = k / 4 from by omega] at hP; exact hP) (by rw [show j = k / 4 from by omega] at hD; exact hD) hS dX6_market_186
      · have hlt : j < k / 4 := Nat.lt_of_not_le fun z => c_1 ((nI_leI (by omega) (by omega)).mpr z)
        refine lv_aload_n hx hb dX6_market_48 rfl (lv_at hl 0 rfl) ?_
        refine va_get (D := D) (ci := 6) (v := .ref v0) (C := RX6) (T := TX6) (N := 30) hx hb hts iwX6 hown hK.1 hP 0 rfl rfl 4 (by decide) fk7 (fun _ h9 => h9) rfl dX6_market_49 ?_
        refine lv_iload_n hx hb dX6_market_52 rfl (lv_at hl 1 rfl) ?_
        refine lv_aload_n hx hb dX6_market_53 rfl (lv_at hl 0 rfl) ?_
        refine va_get (D := D) (ci := 6) (v := .ref v8) (C := RX6) (T := TX6) (N := 30) hx hb hts iwX6 hown hK.1 hP 0 rfl rfl 17 (by decide) fk34 (fun _ h9 => h9) rfl dX6_market_54 ?_
        refine lv_iconst (v := 4) hx hb dX6_market_57 (by decide) ?_
        refine lv_iload_n hx hb dX6_market_58 rfl (lv_at hl 1 rfl) ?_
        refine lv_imul hx hb dX6_market_59 ?_
        refine my_top (y := nI (4 * j)) (pk_mul 4 j) ?_
        refine my_bald hx hb hK hP 9 rfl (j := 4 * j) (ix_nI (by omega) (by decide)) dX6_market_60 ?_
        refine rcSi (As := [.int (lt (4 * j))]) (rest := [.int (nI j), .ref v0]) ⟨hx, hb, hml, hown, hts⟩ (c_X6_kindBy l D cB cC cI (lt (4 * j))) (va_cwS 1 hts gX6_market_X6_kindBy rfl rfl rfl (by decide +kernel) ⟨Nat.le_of_ble_eq_true rfl, Nat.le_of_ble_eq_true rfl⟩) hK hP [] rfl rfl hl.1 rfl (Nat.le_of_ble_eq_true rfl) dX6_market_61 ⟨Nat.zero_le _, Nat.zero_le _⟩ ?_
        refine my_iast hx hb hK hP hD hS 1 rfl (j := j) (ix_nI (by omega) (by decide)) dX6_market_64 (fun H locs hP hD hS => ?_)
        have hP : va_P D vwCl [(vh, .inr (6, [.int mm, .int (nI (k / 4)), .int (lt (k - 1) - 48), .int ho, .ref v0, .ref v1, .ref v2, .ref v3, .ref v4, .ref v5, .ref v6, .int sl, .int hd, .ref v7, .int lo, .int ak, .int (nI k), .ref v8, .int ((rdL lt k 4 0).2.1), .int ((rdL lt k 4 0).2.2), .ref v9, .long sn, .int ek, .int em, .int eh, .int es, .int ed, .int el, .ref v10, .long hs])), (v0, .inl (cI, 4, .inl (upd (fillN (mkK lt) kd j) j (f_X6_kindBy (lt (4 * j)))))), (v1, .inl (cI, 4, .inl (fillN (mkS lt) st j))), (v2, .inl (cI, 4, .inl (fillN (mkC lt) co j))), (v3, .inl (cI, 4, .inl (fillN ze gt j))), (v4, .inl (cI, 4, .inl (fillN ze pd j))), (v5, .inl (cI, 4, .inl (fillN ze de j))), (v6, .inl (cI, 4, .inl (fillN ze us j))), (v7, .inl (cI, 4, .inl (fillN ze tm j))), (v8, .inl (cB, 18, .inl lt)), (v9, .inl (cI, 4, .inl sv)), (v10, .inl (cI, 24, .inl ke))] H := hP
        have hD : va_D A [(vh, .inr (6, [.int mm, .int (nI (k / 4)), .int (lt (k - 1) - 48), .int ho, .ref v0, .ref v1, .ref v2, .ref v3, .ref v4, .ref v5, .ref v6, .int sl, .int hd, .ref v7, .int lo, .int ak, .int (nI k), .ref v8, .int ((rdL lt k 4 0).2.1), .int ((rdL lt k 4 0).2.2), .ref v9, .long sn, .int ek, .int em, .int eh, .int es, .int ed, .int el, .ref v10, .long hs])), (v0, .inl (cI, 4, .inl (upd (fillN (mkK lt) kd j) j (f_X6_kindBy (lt (4 * j)))))), (v1, .inl (cI, 4, .inl (fillN (mkS lt) st j))), (v2, .inl (cI, 4, .inl (fillN (mkC lt) co j))), (v3, .inl (cI, 4, .inl (fillN ze gt j))), (v4, .inl (cI, 4, .inl (fillN ze pd j))), (v5, .inl (cI, 4, .inl (fillN ze de j))), (v6, .inl (cI, 4, .inl (fillN ze us j))), (v7, .inl (cI, 4, .inl (fillN ze tm j))), (v8, .inl (cB, 18, .inl lt)), (v9, .inl (cI, 4, .inl sv)), (v10, .inl (cI, 24, .inl ke))] := hD
        have ea : upd (fillN (mkK lt) kd j) j (f_X6_kindBy (lt (4 * j))) = fillN (mkK lt) kd (j + 1) := fillN_s _ _ j
        rw [ea] at hP hD
        refine lv_aload_n hx hb dX6_market_65 rfl (lv_at hl 0 rfl) ?_
        refine va_get (D := D) (ci := 6) (v := .ref v1) (C := RX6) (T := TX6) (N := 30) hx hb hts iwX6 hown hK.1 hP 0 rfl rfl 5 (by decide) fk13 (fun _ h9 => h9) rfl dX6_market_66 ?_
        refine lv_iload_n hx hb dX6_market_69 rfl (lv_at hl 1 rfl) ?_
        refine lv_bipush (v := 10) hx hb dX6_market_70 (by decide) ?_
        refine lv_aload_n hx hb dX6_market_72 rfl (lv_at hl 0 rfl) ?_
        refine va_get (D := D) (ci := 6) (v := .ref v8) (C := RX6) (T := TX6) (N := 30) hx hb hts iwX6 hown hK.1 hP 0 rfl rfl 17 (by decide) fk34 (fun _ h9 => h9) rfl dX6_market_73 ?_
        refine lv_iconst (v := 4) hx hb dX6_market_76 (by decide) ?_
        refine lv_iload_n hx hb dX6_market_77 rfl (lv_at hl 1 rfl) ?_
        refine lv_imul hx hb dX6_market_78 ?_
        refine my_top (y := nI (4 * j)) (pk_mul 4 j) ?_
        refine lv_iconst (v := 1) hx hb dX6_market_79 (by decide) ?_
        refine lv_iadd hx hb dX6_market_80 ?_
        refine my_top (y := nI (4 * j + 1)) (nI_1 _) ?_
        refine my_bald hx hb hK hP 9 rfl (j := 4 * j + 1) (ix_nI (by omega) (by decide)) dX6_market_81 ?_
        refine lv_iadd hx hb dX6_market_82 ?_
        refine lv_bipush (v := 48) hx hb dX6_market_83 (by decide) ?_
        refine lv_isub hx hb dX6_market_85 ?_
        refine my_iast hx hb hK hP hD hS 2 rfl (j := j) (ix_nI (by omega) (by decide)) dX6_market_86 (fun H locs hP hD hS => ?_)
        have hP : va_P D vwCl [(vh, .inr (6, [.int mm, .int (nI (k / 4)), .int (lt (k - 1) - 48), .int ho, .ref v0, .ref v1, .ref v2, .ref v3, .ref v4, .ref v5, .ref v6, .int sl, .int hd, .ref v7, .int lo, .int ak, .int (nI k), .ref v8, .int ((rdL lt k 4 0).2.1), .int ((rdL lt k 4 0).2.2), .ref v9, .long sn, .int ek, .int em, .int eh, .int es, .int ed, .int el, .ref v10, .long hs])), (v0, .inl (cI, 4, .inl (fillN (mkK lt) kd (j + 1)))), (v1, .inl (cI, 4, .inl (upd (fillN (mkS lt) st j) j ((10 + (lt (4 * j + 1))) - 48)))), (v2, .inl (cI, 4, .inl (fillN (mkC lt) co j))), (v3, .inl (cI, 4, .inl (fillN ze gt j))), (v4, .inl (cI, 4, .inl (fillN ze pd j))), (v5, .inl (cI, 4, .inl (fillN ze de j))), (v6, .inl (cI, 4, .inl (fillN ze us j))), (v7, .inl (cI, 4, .inl (fillN ze tm j))), (v8, .inl (cB, 18, .inl lt)), (v9, .inl (cI, 4, .inl sv)), (v10, .inl (cI, 24, .inl ke))] H := hP
        have hD : va_D A [(vh, .inr (6, [.int mm, .int (nI (k / 4)), .int (lt (k - 1) - 48), .int ho, .ref v0, .ref v1, .ref v2, .ref v3, .ref v4, .ref v5, .ref v6, .int sl, .int hd, .ref v7, .int lo, .int ak, .int (nI k), .ref v8, .int ((rdL lt k 4 0).2.1), .int ((rdL lt k 4 0).2.2), .ref v9, .long sn, .int ek, .int em, .int eh, .int es, .int ed, .int el, .ref v10, .long hs])), (v0, .inl (cI, 4, .inl (fillN (mkK lt) kd (j + 1)))), (v1, .inl (cI, 4, .inl (upd (fillN (mkS lt) st j) j ((10 + (lt (4 * j + 1))) - 48)))), (v2, .inl (cI, 4, .inl (fillN (mkC lt) co j))), (v3, .inl (cI, 4, .inl (fillN ze gt j))), (v4, .inl (cI, 4, .inl (fillN ze pd j))), (v5, .inl (cI, 4, .inl (fillN ze de j))), (v6, .inl (cI, 4, .inl (fillN ze us j))), (v7, .inl (cI, 4, .inl (fillN ze tm j))), (v8, .inl (cB, 18, .inl lt)), (v9, .inl (cI, 4, .inl sv)), (v10, .inl (cI, 24, .inl ke))] := hD
        have ea : upd (fillN (mkS lt) st j) j ((10 + (lt (4 * j + 1))) - 48) = fillN (mkS lt) st (j + 1) := fillN_s _ _ j
        rw [ea] at hP hD
        refine lv_aload_n hx hb dX6_market_87 rfl (lv_at hl 0 rfl) ?_
        refine va_get (D := D) (ci := 6) (v := .ref v2) (C := RX6) (T := TX6) (N := 30) hx hb hts iwX6 hown hK.1 hP 0 rfl rfl 6 (by decide) fk16 (fun _ h9 => h9) rfl dX6_market_88 ?_
        refine lv_iload_n hx hb dX6_market_91 rfl (lv_at hl 1 rfl) ?_
        refine lv_aload_n hx hb dX6_market_92 rfl (lv_at hl 0 rfl) ?_
        refine va_get (D := D) (ci := 6) (v := .ref v8) (C := RX6) (T := TX6) (N := 30) hx hb hts iwX6 hown hK.1 hP 0 rfl rfl 17 (by decide) fk34 (fun _ h9 => h9) rfl dX6_market_93 ?_
        refine lv_iconst (v := 4) hx hb dX6_market_96 (by decide) ?_
        refine lv_iload_n hx hb dX6_market_97 rfl (lv_at hl 1 rfl) ?_
        refine lv_imul hx hb dX6_market_98 ?_
        refine my_top (y := nI (4 * j)) (pk_mul 4 j) ?_
        refine lv_iconst (v := 2) hx hb dX6_market_99 (by decide) ?_
        refine lv_iadd hx hb dX6_market_100 ?_
        refine my_top (y := nI (4 * j + 2)) (nI_add _ 2) ?_
        refine my_bald hx hb hK hP 9 rfl (j := 4 * j + 2) (ix_nI (by omega) (by decide)) dX6_market_101 ?_
        refine lv_bipush (v := 48) hx hb dX6_market_102 (by decide) ?_
        refine lv_isub hx hb dX6_market_104 ?_
        refine my_iast hx hb hK hP hD hS 3 rfl (j := j) (ix_nI (by omega) (by decide)) dX6_market_105 (fun H locs hP hD hS => ?_)
        have hP : va_P D vwCl [(vh, .inr (6, [.int mm, .int (nI (k / 4)), .int (lt (k - 1) - 48), .int ho, .ref v0, .ref v1, .ref v2, .ref v3, .ref v4, .ref v5, .ref v6, .int sl, .int hd, .ref v7, .int lo, .int ak, .int (nI k), .ref v8, .int ((rdL lt k 4 0).2.1), .int ((rdL lt k 4 0).2.2), .ref v9, .long sn, .int ek, .int em, .int eh, .int es, .int ed, .int el, .ref v10, .long hs])), (v0, .inl (cI, 4, .inl (fillN (mkK lt) kd (j + 1)))), (v1, .inl (cI, 4, .inl (fillN (mkS lt) st (j + 1)))), (v2, .inl (cI, 4, .inl (upd (fillN (mkC lt) co j) j ((lt (4 * j + 2)) - 48)))), (v3, .inl (cI, 4, .inl (fillN ze gt j))), (v4, .inl (cI, 4, .inl (fillN ze pd j))), (v5, .inl (cI, 4, .inl (fillN ze de j))), (v6, .inl (cI, 4, .inl (fillN ze us j))), (v7, .inl (cI, 4, .inl (fillN ze tm j))), (v8, .inl (cB, 18, .inl lt)), (v9, .inl (cI, 4, .inl sv)), (v10, .inl (cI, 24, .inl ke))] H := hP
        have hD : va_D A [(vh, .inr (6, [.int mm, .int (nI (k / 4)), .int (lt (k - 1) - 48), .int ho, .ref v0, .ref v1, .ref v2, .ref v3, .ref v4, .ref v5, .ref v6, .int sl, .int hd, .ref v7, .int lo, .int ak, .int (nI k), .ref v8, .int ((rdL lt k 4 0).2.1), .int ((rdL lt k 4 0).2.2), .ref v9, .long sn, .int ek, .int em, .int eh, .int es, .int ed, .int el, .ref v10, .long hs])), (v0, .inl (cI, 4, .inl (fillN (mkK lt) kd (j + 1)))), (v1, .inl (cI, 4, .inl (fillN (mkS lt) st (j + 1)))), (v2, .inl (cI, 4, .inl (upd (fillN (mkC lt) co j) j ((lt (4 * j + 2)) - 48)))), (v3, .inl (cI, 4, .inl (fillN ze gt j))), (v4, .inl (cI, 4, .inl (fillN ze pd j))), (v5, .inl (cI, 4, .inl (fillN ze de j))), (v6, .inl (cI, 4, .inl (fillN ze us j))), (v7, .inl (cI, 4, .inl (fillN ze tm j))), (v8, .inl (cB, 18, .inl lt)), (v9, .inl (cI, 4, .inl sv)), (v10, .inl (cI, 24, .inl ke))] := hD
        have ea : upd (fillN (mkC lt) co j) j ((lt (4 * j + 2)) - 48) = fillN (mkC lt) co (j + 1) := fillN_s _ _ j
        rw [ea] at hP hD
        refine lv_aload_n hx hb dX6_market_106 rfl (lv_at hl 0 rfl) ?_
        refine va_get (D := D) (ci := 6) (v := .ref v3) (C := RX6) (T := TX6) (N := 30) hx hb hts iwX6 hown hK.1 hP 0 rfl rfl 7 (by decide) fk19 (fun _ h9 => h9) rfl dX6_market_107 ?_
        refine lv_iload_n hx hb dX6_market_110 rfl (lv_at hl 1 rfl) ?_
        refine lv_iconst (v := 0) hx hb dX6_market_111 (by decide) ?_
        refine my_iast hx hb hK hP hD hS 4 rfl (j := j) (ix_nI (by omega) (by decide)) dX6_market_112 (fun H locs hP hD hS => ?_)
        have hP : va_P D vwCl [(vh, .inr (6, [.int mm, .int (nI (k / 4)), .int (lt (k - 1) - 48), .int ho, .ref v0, .ref v1, .ref v2, .ref v3, .ref v4, .ref v5, .ref v6, .int sl, .int hd, .ref v7, .int lo, .int ak, .int (nI k), .ref v8, .int ((rdL lt k 4 0).2.1), .int ((rdL lt k 4 0).2.2), .ref v9, .long sn, .int ek, .int em, .int eh, .int es, .int ed, .int el, .ref v10, .long hs])), (v0, .inl (cI, 4, .inl (fillN (mkK lt) kd (j + 1)))), (v1, .inl (cI, 4, .inl (fillN (mkS lt) st (j + 1)))), (v2, .inl (cI, 4, .inl (fillN (mkC lt) co (j + 1)))), (v3, .inl (cI, 4, .inl (upd (fillN ze gt j) j 0))), (v4, .inl (cI, 4, .inl (fillN ze pd j))), (v5, .inl (cI, 4, .inl (fillN ze de j))), (v6, .inl (cI, 4, .inl (fillN ze us j))), (v7, .inl (cI, 4, .inl (fillN ze tm j))), (v8, .inl (cB, 18, .inl lt)), (v9, .inl (cI, 4, .inl sv)), (v10, .inl (cI, 24, .inl ke))] H := hP
        have hD : va_D A [(vh, .inr (6, [.int mm, .int (nI (k / 4)), .int (lt (k - 1) - 48), .int ho, .ref v0, .ref v1, .ref v2, .ref v3, .ref v4, .ref v5, .ref v6, .int sl, .int hd, .ref v7, .int lo, .int ak, .int (nI k), .ref v8, .int ((rdL lt k 4 0).2.1), .int ((rdL lt k 4 0).2.2), .ref v9, .long sn, .int ek, .int em, .int eh, .int es, .int ed, .int el, .ref v10, .long hs])), (v0, .inl (cI, 4, .inl (fillN (mkK lt) kd (j + 1)))), (v1, .inl (cI, 4, .inl (fillN (mkS lt) st (j + 1)))), (v2, .inl (cI, 4, .inl (fillN (mkC lt) co (j + 1)))), (v3, .inl (cI, 4, .inl (upd (fillN ze gt j) j 0))), (v4, .inl (cI, 4, .inl (fillN ze pd j))), (v5, .inl (cI, 4, .inl (fillN ze de j))), (v6, .inl (cI, 4, .inl (fillN ze us j))), (v7, .inl (cI, 4, .inl (fillN ze tm j))), (v8, .inl (cB, 18, .inl lt)), (v9, .inl (cI, 4, .inl sv)), (v10, .inl (cI, 24, .inl ke))] := hD
        have ea : upd (fillN ze gt j) j 0 = fillN ze gt (j + 1) := fillN_s _ _ j
        rw [ea] at hP hD
        refine lv_aload_n hx hb dX6_market_113 rfl (lv_at hl 0 rfl) ?_
        refine va_get (D := D) (ci := 6) (v := .ref v4) (C := RX6) (T := TX6) (N := 30) hx hb hts iwX6 hown hK.1 hP 0 rfl rfl 8 (by decide) fk22 (fun _ h9 => h9) rfl dX6_market_114 ?_
        refine lv_iload_n hx hb dX6_market_117 rfl (lv_at hl 1 rfl) ?_
        refine lv_iconst (v := 0) hx hb dX6_market_118 (by decide) ?_
        refine my_iast hx hb hK hP hD hS 5 rfl (j := j) (ix_nI (by omega) (by decide)) dX6_market_119 (fun H locs hP hD hS => ?_)
        have hP : va_P D vwCl [(vh, .inr (6, [.int mm, .int (nI (k / 4)), .int (lt (k - 1) - 48), .int ho, .ref v0, .ref v1, .ref v2, .ref v3, .ref v4, .ref v5, .ref v6, .int sl, .int hd, .ref v7, .int lo, .int ak, .int (nI k), .ref v8, .int ((rdL lt k 4 0).2.1), .int ((rdL lt k 4 0).2.2), .ref v9, .long sn, .int ek, .int em, .int eh, .int es, .int ed, .int el, .ref v10, .long hs])), (v0, .inl (cI, 4, .inl (fillN (mkK lt) kd (j + 1)))), (v1, .inl (cI, 4, .inl (fillN (mkS lt) st (j + 1)))), (v2, .inl (cI, 4, .inl (fillN (mkC lt) co (j + 1)))), (v3, .inl (cI, 4, .inl (fillN ze gt (j + 1)))), (v4, .inl (cI, 4, .inl (upd (fillN ze pd j) j 0))), (v5, .inl (cI, 4, .inl (fillN ze de j))), (v6, .inl (cI, 4, .inl (fillN ze us j))), (v7, .inl (cI, 4, .inl (fillN ze tm j))), (v8, .inl (cB, 18, .inl lt)), (v9, .inl (cI, 4, .inl sv)), (v10, .inl (cI, 24, .inl ke))] H := hP
        have hD : va_D A [(vh, .inr (6, [.int mm, .int (nI (k / 4)), .int (lt (k - 1) - 48), .int ho, .ref v0, .ref v1, .ref v2, .ref v3, .ref v4, .ref v5, .ref v6, .int sl, .int hd, .ref v7, .int lo, .int ak, .int (nI k), .ref v8, .int ((rdL lt k 4 0).2.1), .int ((rdL lt k 4 0).2.2), .ref v9, .long sn, .int ek, .int em, .int eh, .int es, .int ed, .int el, .ref v10, .long hs])), (v0, .inl (cI, 4, .inl (fillN (mkK lt) kd (j + 1)))), (v1, .inl (cI, 4, .inl (fillN (mkS lt) st (j + 1)))), (v2, .inl (cI, 4, .inl (fillN (mkC lt) co (j + 1)))), (v3, .inl (cI, 4, .inl (fillN ze gt (j + 1)))), (v4, .inl (cI, 4, .inl (upd (fillN ze pd j) j 0))), (v5, .inl (cI, 4, .inl (fillN ze de j))), (v6, .inl (cI, 4, .inl (fillN ze us j))), (v7, .inl (cI, 4, .inl (fillN ze tm j))), (v8, .inl (cB, 18, .inl lt)), (v9, .inl (cI, 4, .inl sv)), (v10, .inl (cI, 24, .inl ke))] := hD
        have ea : upd (fillN ze pd j) j 0 = fillN ze pd (j + 1) := fillN_s _ _ j
        rw [ea] at hP hD
        refine lv_aload_n hx hb dX6_market_120 rfl (lv_at hl 0 rfl) ?_
        refine va_get (D := D) (ci := 6) (v := .ref v5) (C := RX6) (T := TX6) (N := 30) hx hb hts iwX6 hown hK.1 hP 0 rfl rfl 9 (by decide) fk25 (fun _ h9 => h9) rfl dX6_market_121 ?_
        refine lv_iload_n hx hb dX6_market_124 rfl (lv_at hl 1 rfl) ?_
        refine lv_iconst (v := 0) hx hb dX6_market_125 (by decide) ?_
        refine my_iast hx hb hK hP hD hS 6 rfl (j := j) (ix_nI (by omega) (by decide)) dX6_market_126 (fun H locs hP hD hS => ?_)
        have hP : va_P D vwCl [(vh, .inr (6, [.int mm, .int (nI (k / 4)), .int (lt (k - 1) - 48), .int ho, .ref v0, .ref v1, .ref v2, .ref v3, .ref v4, .ref v5, .ref v6, .int sl, .int hd, .ref v7, .int lo, .int ak, .int (nI k), .ref v8, .int ((rdL lt k 4 0).2.1), .int ((rdL lt k 4 0).2.2), .ref v9, .long sn, .int ek, .int em, .int eh, .int es, .int ed, .int el, .ref v10, .long hs])), (v0, .inl (cI, 4, .inl (fillN (mkK lt) kd (j + 1)))), (v1, .inl (cI, 4, .inl (fillN (mkS lt) st (j + 1)))), (v2, .inl (cI, 4, .inl (fillN (mkC lt) co (j + 1)))), (v3, .inl (cI, 4, .inl (fillN ze gt (j + 1)))), (v4, .inl (cI, 4, .inl (fillN ze pd (j + 1)))), (v5, .inl (cI, 4, .inl (upd (fillN ze de j) j 0))), (v6, .inl (cI, 4, .inl (fillN ze us j))), (v7, .inl (cI, 4, .inl (fillN ze tm j))), (v8, .inl (cB, 18, .inl lt)), (v9, .inl (cI, 4, .inl sv)), (v10, .inl (cI, 24, .inl ke))] H := hP
        have hD : va_D A [(vh, .inr (6, [.int mm, .int (nI (k / 4)), .int (lt (k - 1) - 48), .int ho, .ref v0, .ref v1, .ref v2, .ref v3, .ref v4, .ref v5, .ref v6, .int sl, .int hd, .ref v7, .int lo, .int ak, .int (nI k), .ref v8, .int ((rdL lt k 4 0).2.1), .int ((rdL lt k 4 0).2.2), .ref v9, .long sn, .int ek, .int em, .int eh, .int es, .int ed, .int el, .ref v10, .long hs])), (v0, .inl (cI, 4, .inl (fillN (mkK lt) kd (j + 1)))), (v1, .inl (cI, 4, .inl (fillN (mkS lt) st (j + 1)))), (v2, .inl (cI, 4, .inl (fillN (mkC lt) co (j + 1)))), (v3, .inl (cI, 4, .inl (fillN ze gt (j + 1)))), (v4, .inl (cI, 4, .inl (fillN ze pd (j + 1)))), (v5, .inl (cI, 4, .inl (upd (fillN ze de j) j 0))), (v6, .inl (cI, 4, .inl (fillN ze us j))), (v7, .inl (cI, 4, .inl (fillN ze tm j))), (v8, .inl (cB, 18, .inl lt)), (v9, .inl (cI, 4, .inl sv)), (v10, .inl (cI, 24, .inl ke))] := hD
        have ea : upd (fillN ze de j) j 0 = fillN ze de (j + 1) := fillN_s _ _ j
        rw [ea] at hP hD
        refine lv_aload_n hx hb dX6_market_127 rfl (lv_at hl 0 rfl) ?_
        refine va_get (D := D) (ci := 6) (v := .ref v6) (C := RX6) (T := TX6) (N := 30) hx hb hts iwX6 hown hK.1 hP 0 rfl rfl 10 (by decide) fk28 (fun _ h9 => h9) rfl dX6_market_128 ?_
        refine lv_iload_n hx hb dX6_market_131 rfl (lv_at hl 1 rfl) ?_
        refine lv_iconst (v := 0) hx hb dX6_market_132 (by decide) ?_
        refine my_iast hx hb hK hP hD hS 7 rfl (j := j) (ix_nI (by omega) (by decide)) dX6_market_133 (fun H locs hP hD hS => ?_)
        have hP : va_P D vwCl [(vh, .inr (6, [.int mm, .int (nI (k / 4)), .int (lt (k - 1) - 48), .int ho, .ref v0, .ref v1, .ref v2, .ref v3, .ref v4, .ref v5, .ref v6, .int sl, .int hd, .ref v7, .int lo, .int ak, .int (nI k), .ref v8, .int ((rdL lt k 4 0).2.1), .int ((rdL lt k 4 0).2.2), .ref v9, .long sn, .int ek, .int em, .int eh, .int es, .int ed, .int el, .ref v10, .long hs])), (v0, .inl (cI, 4, .inl (fillN (mkK lt) kd (j + 1)))), (v1, .inl (cI, 4, .inl (fillN (mkS lt) st (j + 1)))), (v2, .inl (cI, 4, .inl (fillN (mkC lt) co (j + 1)))), (v3, .inl (cI, 4, .inl (fillN ze gt (j + 1)))), (v4, .inl (cI, 4, .inl (fillN ze pd (j + 1)))), (v5, .inl (cI, 4, .inl (fillN ze de (j + 1)))), (v6, .inl (cI, 4, .inl (upd (fillN ze us j) j 0))), (v7, .inl (cI, 4, .inl (fillN ze tm j))), (v8, .inl (cB, 18, .inl lt)), (v9, .inl (cI, 4, .inl sv)), (v10, .inl (cI, 24, .inl ke))] H := hP
        have hD : va_D A [(vh, .inr (6, [.int mm, .int (nI (k / 4)), .int (lt (k - 1) - 48), .int ho, .ref v0, .ref v1, .ref v2, .ref v3, .ref v4, .ref v5, .ref v6, .int sl, .int hd, .ref v7, .int lo, .int ak, .int (nI k), .ref v8, .int ((rdL lt k 4 0).2.1), .int ((rdL lt k 4 0).2.2), .ref v9, .long sn, .int ek, .int em, .int eh, .int es, .int ed, .int el, .ref v10, .long hs])), (v0, .inl (cI, 4, .inl (fillN (mkK lt) kd (j + 1)))), (v1, .inl (cI, 4, .inl (fillN (mkS lt) st (j + 1)))), (v2, .inl (cI, 4, .inl (fillN (mkC lt) co (j + 1)))), (v3, .inl (cI, 4, .inl (fillN ze gt (j + 1)))), (v4, .inl (cI, 4, .inl (fillN ze pd (j + 1)))), (v5, .inl (cI, 4, .inl (fillN ze de (j + 1)))), (v6, .inl (cI, 4, .inl (upd (fillN ze us j) j 0))), (v7, .inl (cI, 4, .inl (fillN ze tm j))), (v8, .inl (cB, 18, .inl lt)), (v9, .inl (cI, 4, .inl sv)), (v10, .inl (cI, 24, .inl ke))] := hD
        have ea : upd (fillN ze us j) j 0 = fillN ze us (j + 1) := fillN_s _ _ j
        rw [ea] at hP hD
        refine lv_aload_n hx hb dX6_market_134 rfl (lv_at hl 0 rfl) ?_
        refine va_get (D := D) (ci := 6) (v := .ref v7) (C := RX6) (T := TX6) (N := 30) hx hb hts iwX6 hown hK.1 hP 0 rfl rfl 13 (by decide) fk31 (fun _ h9 => h9) rfl dX6_market_135 ?_
        refine lv_iload_n hx hb dX6_market_138 rfl (lv_at hl 1 rfl) ?_
        refine lv_iconst (v := 0) hx hb dX6_market_139 (by decide) ?_
        refine my_iast hx hb hK hP hD hS 8 rfl (j := j) (ix_nI (by omega) (by decide)) dX6_market_140 (fun H locs hP hD hS => ?_)
        have hP : va_P D vwCl [(vh, .inr (6, [.int mm, .int (nI (k / 4)), .int (lt (k - 1) - 48), .int ho, .ref v0, .ref v1, .ref v2, .ref v3, .ref v4, .ref v5, .ref v6, .int sl, .int hd, .ref v7, .int lo, .int ak, .int (nI k), .ref v8, .int ((rdL lt k 4 0).2.1), .int ((rdL lt k 4 0).2.2), .ref v9, .long sn, .int ek, .int em, .int eh, .int es, .int ed, .int el, .ref v10, .long hs])), (v0, .inl (cI, 4, .inl (fillN (mkK lt) kd (j + 1)))), (v1, .inl (cI, 4, .inl (fillN (mkS lt) st (j + 1)))), (v2, .inl (cI, 4, .inl (fillN (mkC lt) co (j + 1)))), (v3, .inl (cI, 4, .inl (fillN ze gt (j + 1)))), (v4, .inl (cI, 4, .inl (fillN ze pd (j + 1)))), (v5, .inl (cI, 4, .inl (fillN ze de (j + 1)))), (v6, .inl (cI, 4, .inl (fillN ze us (j + 1)))), (v7, .inl (cI, 4, .inl (upd (fillN ze tm j) j 0))), (v8, .inl (cB, 18, .inl lt)), (v9, .inl (cI, 4, .inl sv)), (v10, .inl (cI, 24, .inl ke))] H := hP
        have hD : va_D A [(vh, .inr (6, [.int mm, .int (nI (k / 4)), .int (lt (k - 1) - 48), .int ho, .ref v0, .ref v1, .ref v2, .ref v3, .ref v4, .ref v5, .ref v6, .int sl, .int hd, .ref v7, .int lo, .int ak, .int (nI k), .ref v8, .int ((rdL lt k 4 0).2.1), .int ((rdL lt k 4 0).2.2), .ref v9, .long sn, .int ek, .int em, .int eh, .int es, .int ed, .int el, .ref v10, .long hs])), (v0, .inl (cI, 4, .inl (fillN (mkK lt) kd (j + 1)))), (v1, .inl (cI, 4, .inl (fillN (mkS lt) st (j + 1)))), (v2, .inl (cI, 4, .inl (fillN (mkC lt) co (j + 1)))), (v3, .inl (cI, 4, .inl (fillN ze gt (j + 1)))), (v4, .inl (cI, 4, .inl (fillN ze pd (j + 1)))), (v5, .inl (cI, 4, .inl (fillN ze de (j + 1)))), (v6, .inl (cI, 4, .inl (fillN ze us (j + 1)))), (v7, .inl (cI, 4, .inl (upd (fillN ze tm j) j 0))), (v8, .inl (cB, 18, .inl lt)), (v9, .inl (cI, 4, .inl sv)), (v10, .inl (cI, 24, .inl ke))] := hD
        have ea : upd (fillN ze tm j) j 0 = fillN ze tm (j + 1) := fillN_s _ _ j
        rw [ea] at hP hD
        refine lv_iinc (v := nI (j + 1)) (lv' := [(2, .int (nI (j + 1))), (0, .ref vh)]) hx hb dX6_market_141 hl (k := 1) rfl (nI_1 j) (by decide) rfl (fun ls hl => ?_)
        refine lv_goto (tgt := 40) hx hb dX6_market_144 (by decide) ?_
        exact ih_40 (j + 1) (by first | assumption | omega | rfl | exact Nat.zero_le _ | decide) (by omega) _ _ hP hD hS ls (lv_sub hl [1, 0] rfl)
  have hl : lv_has ls 3 [(0, .ref vh)] := hl
  refine lv_aload_n hx hb dX6_market_0 rfl (lv_at hl 0 rfl) ?_
  refine wcVi1 (As := []) (rest := []) (wr := []) (w2 := [(vh, .inr (6, [.int mm, .int (nI n), .int tl, .int ho, .ref v0, .ref v1, .ref v2, .ref v3, .ref v4, .ref v5, .ref v6, .int sl, .int hd, .ref v7, .int lo, .int ak, .int (nI k), .ref v8, .int ((rdL lt k 4 0).2.1), .int ((rdL lt k 4 0).2.2), .ref v9, .long sn, .int ek, .int em, .int eh, .int es, .int ed, .int el, .ref v10, .long hs])), (v0, .inl (cI, 4, .inl kd)), (v1, .inl (cI, 4, .inl st)), (v2, .inl (cI, 4, .inl co)), (v3, .inl (cI, 4, .inl gt)), (v4, .inl (cI, 4, .inl pd)), (v5, .inl (cI, 4, .inl de)), (v6, .inl (cI, 4, .inl us)), (v7, .inl (cI, 4, .inl tm)), (v8, .inl (cB, 18, .inl lt)), (v9, .inl (cI, 4, .inl sv)), (v10, .inl (cI, 24, .inl ke))]) ⟨hx, hb, hml, hown, hts⟩ (c_X6_read l D cB cC cI vh v0 v1 v2 v3 v4 v5 v6 v7 v8 v9 v10 kd st co gt pd de us tm lt sv ke mm n tl ho sl hd lo ak k isw nw sn ek em eh es ed el hs _ (by first | assumption | omega | decide)) (cwV 0 hts gX6_market_X6_read rfl rfl rfl (by decide +kernel) ⟨Nat.le_of_ble_eq_true rfl, Nat.le_of_ble_eq_true rfl⟩) hK hP hD hS hA [0, 1, 2, 3, 4, 5, 6, 7, 8, 9, 10, 11] [] [0, 1, 2, 3, 4, 5, 6, 7, 8, 9, 10, 11] (by decide) rfl rfl (by decide) (by decide) (by decide) rfl rfl 0 rfl rfl hl.1 rfl (Nat.le_of_ble_eq_true rfl) dX6_market_1 ⟨Nat.zero_le _, Nat.zero_le _⟩ (fun H locs hP hD hS => ?_)
  refine lv_istore_n (lv' := [(1, .int ((rdL lt k 4 0).1)), (0, .ref vh)]) hx hb dX6_market_4 rfl hl (by decide) rfl (fun ls hl => ?_)
  refine lv_aload_n hx hb dX6_market_5 rfl (lv_at hl 1 rfl) ?_
  refine va_get (D := D) (ci := 6) (v := .int ((rdL lt k 4 0).2.1)) (C := RX6) (T := TX6) (N := 30) hx hb hts iwX6 hown hK.1 hP 0 rfl rfl 18 (by decide) fk59 (fun _ h9 => h9) rfl dX6_market_6 ?_
  refine lv_if_ne (tgt := 15) hx hb dX6_market_9 (by decide) (fun c_2 => ?_) (fun c_2 => absurd c_2 (hw))
  refine lv_aload_n hx hb dX6_market_15 rfl (lv_at hl 1 rfl) ?_
  refine lv_aload_n hx hb dX6_market_16 rfl (lv_at hl 1 rfl) ?_
  refine va_get (D := D) (ci := 6) (v := .int ((rdL lt k 4 0).2.2)) (C := RX6) (T := TX6) (N := 30) hx hb hts iwX6 hown hK.1 hP 0 rfl rfl 19 (by decide) fk63 (fun _ h9 => h9) rfl dX6_market_17 ?_
  refine my_top (y := nI (k / 4)) hn2 ?_
  refine va_put (D := D) (ci := 6) (v := .int (nI (k / 4))) (ty := .int) (C := RX6) (T := TX6) (N := 30) hx hb hts iwX6 tyX6 tyX6_ok nmX6 hown hK.1 hP hD hS 0 rfl rfl 1 (by decide) fk73 (fun _ h9 => h9) rfl (by decide +kernel) rfl rfl (Nat.le_of_ble_eq_true rfl) dX6_market_20 (fun H locs hP hD hS => ?_)
  have hP : va_P D vwCl [(vh, .inr (6, [.int mm, .int (nI (k / 4)), .int tl, .int ho, .ref v0, .ref v1, .ref v2, .ref v3, .ref v4, .ref v5, .ref v6, .int sl, .int hd, .ref v7, .int lo, .int ak, .int (nI k), .ref v8, .int ((rdL lt k 4 0).2.1), .int ((rdL lt k 4 0).2.2), .ref v9, .long sn, .int ek, .int em, .int eh, .int es, .int ed, .int el, .ref v10, .long hs])), (v0, .inl (cI, 4, .inl kd)), (v1, .inl (cI, 4, .inl st)), (v2, .inl (cI, 4, .inl co)), (v3, .inl (cI, 4, .inl gt)), (v4, .inl (cI, 4, .inl pd)), (v5, .inl (cI, 4, .inl de)), (v6, .inl (cI, 4, .inl us)), (v7, .inl (cI, 4, .inl tm)), (v8, .inl (cB, 18, .inl lt)), (v9, .inl (cI, 4, .inl sv)), (v10, .inl (cI, 24, .inl ke))] H := hP
  have hD : va_D A [(vh, .inr (6, [.int mm, .int (nI (k / 4)), .int tl, .int ho, .ref v0, .ref v1, .ref v2, .ref v3, .ref v4, .ref v5, .ref v6, .int sl, .int hd, .ref v7, .int lo, .int ak, .int (nI k), .ref v8, .int ((rdL lt k 4 0).2.1), .int ((rdL lt k 4 0).2.2), .ref v9, .long sn, .int ek, .int em, .int eh, .int es, .int ed, .int el, .ref v10, .long hs])), (v0, .inl (cI, 4, .inl kd)), (v1, .inl (cI, 4, .inl st)), (v2, .inl (cI, 4, .inl co)), (v3, .inl (cI, 4, .inl gt)), (v4, .inl (cI, 4, .inl pd)), (v5, .inl (cI, 4, .inl de)), (v6, .inl (cI, 4, .inl us)), (v7, .inl (cI, 4, .inl tm)), (v8, .inl (cB, 18, .inl lt)), (v9, .inl (cI, 4, .inl sv)), (v10, .inl (cI, 24, .inl ke))] := hD
  refine lv_aload_n hx hb dX6_market_23 rfl (lv_at hl 1 rfl) ?_
  refine lv_aload_n hx hb dX6_market_24 rfl (lv_at hl 1 rfl) ?_
  refine va_get (D := D) (ci := 6) (v := .ref v8) (C := RX6) (T := TX6) (N := 30) hx hb hts iwX6 hown hK.1 hP 0 rfl rfl 17 (by decide) fk34 (fun _ h9 => h9) rfl dX6_market_25 ?_
  refine lv_iload_n hx hb dX6_market_28 rfl (lv_at hl 0 rfl) ?_
  refine lv_iconst (v := 1) hx hb dX6_market_29 (by decide) ?_
  refine lv_isub hx hb dX6_market_30 ?_
  refine my_top (y := nI (k - 1)) (by rw [he2]; exact pk_sub (a := k) (b := 1) (by omega)) ?_
  refine my_bald hx hb hK hP 9 rfl (j := (k - 1)) (ix_nI (by omega) (by decide)) dX6_market_31 ?_
  refine lv_bipush (v := 48) hx hb dX6_market_32 (by decide) ?_
  refine lv_isub hx hb dX6_market_34 ?_
  refine va_put (D := D) (ci := 6) (v := .int ((lt (k - 1)) - 48)) (ty := .int) (C := RX6) (T := TX6) (N := 30) hx hb hts iwX6 tyX6 tyX6_ok nmX6 hown hK.1 hP hD hS 0 rfl rfl 2 (by decide) fk76 (fun _ h9 => h9) rfl (by decide +kernel) rfl rfl (Nat.le_of_ble_eq_true rfl) dX6_market_35 (fun H locs hP hD hS => ?_)
  have hP : va_P D vwCl [(vh, .inr (6, [.int mm, .int (nI (k / 4)), .int ((lt (k - 1)) - 48), .int ho, .ref v0, .ref v1, .ref v2, .ref v3, .ref v4, .ref v5, .ref v6, .int sl, .int hd, .ref v7, .int lo, .int ak, .int (nI k), .ref v8, .int ((rdL lt k 4 0).2.1), .int ((rdL lt k 4 0).2.2), .ref v9, .long sn, .int ek, .int em, .int eh, .int es, .int ed, .int el, .ref v10, .long hs])), (v0, .inl (cI, 4, .inl kd)), (v1, .inl (cI, 4, .inl st)), (v2, .inl (cI, 4, .inl co)), (v3, .inl (cI, 4, .inl gt)), (v4, .inl (cI, 4, .inl pd)), (v5, .inl (cI, 4, .inl de)), (v6, .inl (cI, 4, .inl us)), (v7, .inl (cI, 4, .inl tm)), (v8, .inl (cB, 18, .inl lt)), (v9, .inl (cI, 4, .inl sv)), (v10, .inl (cI, 24, .inl ke))] H := hP
  have hD : va_D A [(vh, .inr (6, [.int mm, .int (nI (k / 4)), .int ((lt (k - 1)) - 48), .int ho, .ref v0, .ref v1, .ref v2, .ref v3, .ref v4, .ref v5, .ref v6, .int sl, .int hd, .ref v7, .int lo, .int ak, .int (nI k), .ref v8, .int ((rdL lt k 4 0).2.1), .int ((rdL lt k 4 0).2.2), .ref v9, .long sn, .int ek, .int em, .int eh, .int es, .int ed, .int el, .ref v10, .long hs])), (v0, .inl (cI, 4, .inl kd)), (v1, .inl (cI, 4, .inl st)), (v2, .inl (cI, 4, .inl co)), (v3, .inl (cI, 4, .inl gt)), (v4, .inl (cI, 4, .inl pd)), (v5, .inl (cI, 4, .inl de)), (v6, .inl (cI, 4, .inl us)), (v7, .inl (cI, 4, .inl tm)), (v8, .inl (cB, 18, .inl lt)), (v9, .inl (cI, 4, .inl sv)), (v10, .inl (cI, 24, .inl ke))] := hD
  refine lv_iconst (v := 0) hx hb dX6_market_38 (by decide) ?_
  refine lv_istore_n (lv' := [(2, .int 0), (1, .int ((rdL lt k 4 0).1)), (0, .ref vh)]) hx hb dX6_market_39 rfl hl (by decide) rfl (fun ls hl => ?_)
  exact cut_40 ((k / 4 - 0) + 1) 0 (by first | assumption | omega | rfl | exact Nat.zero_le _ | decide) (Nat.lt_succ_self _) _ _ (by rw [fillN_0, fillN_0, fillN_0, fillN_0, fillN_0, fillN_0, fillN_0, fillN_0]; exact hP) (by rw [fillN_0, fillN_0, fillN_0, fillN_0, fillN_0, fillN_0, fillN_0, fillN_0]; exact hD) hS ls (lv_sub hl [2, 0] rfl)
set_option maxHeartbeats 4000000 in
set_option maxRecDepth 100000 in
theorem c_X6_isRubbed (l : Launch) (D : va_G) (cB cC cI : ClassId) (vh : Nat) (v0 : Nat) (v1 : Nat) (v2 : Nat) (v3 : Nat) (v4 : Nat) (v5 : Nat) (v6 : Nat) (v7 : Nat) (v8 : Nat) (v9 : Nat) (v10 : Nat) (kd : Nat → Int32) (st : Nat → Int32) (co : Nat → Int32) (gt : Nat → Int32) (pd : Nat → Int32) (de : Nat → Int32) (us : Nat → Int32) (tm : Nat → Int32) (lt : Nat → Int32) (sv : Nat → Int32) (ke : Nat → Int32) (mm : Int32) (n : Nat) (tl : Int32) (ho : Int32) (sl : Int32) (hd : Int32) (lo : Int32) (ak : Int32) (k : Nat) (isw : Int32) (nw : Int32) (sn : Int64) (ek : Int32) (em : Int32) (eh : Int32) (es : Int32) (ed : Int32) (el : Int32) (hs : Int64) (q : Nat) (hn : n ≤ 4) : Met l yX6_isRubbed wsX6_isRubbed ({ frames := 1, cells := 0, slots := 0, locals := 21 }) (gPr D cB cC cI [.ref vh, .int (nI q)] [(vh, .inr (6, [.int mm, .int (nI n), .int tl, .int ho, .ref v0, .ref v1, .ref v2, .ref v3, .ref v4, .ref v5, .ref v6, .int sl, .int hd, .ref v7, .int lo, .int ak, .int (nI k), .ref v8, .int isw, .int nw, .ref v9, .long sn, .int ek, .int em, .int eh, .int es, .int ed, .int el, .ref v10, .long hs])), (v0, .inl (cI, 4, .inl kd)), (v1, .inl (cI, 4, .inl st)), (v2, .inl (cI, 4, .inl co)), (v3, .inl (cI, 4, .inl gt)), (v4, .inl (cI, 4, .inl pd)), (v5, .inl (cI, 4, .inl de)), (v6, .inl (cI, 4, .inl us)), (v7, .inl (cI, 4, .inl tm)), (v8, .inl (cB, 18, .inl lt)), (v9, .inl (cI, 4, .inl sv)), (v10, .inl (cI, 24, .inl ke))]) (vp_Si (fun r => r = b2 (EX tm lo n q))) 0 0 (fun _ => False) := by
  refine metR (cc := cX6_isRubbed) (maxL := 4) (ret := (some .boolean)) RX6 rfl (by decide) rfl (Nat.le_of_ble_eq_true rfl) ?_
  intro p e s m below meth c hx hb hr hml hown hts hlocks hP hK ls hl
  have iwX6 : ∀ w ∈ wsX60, w ∈ wsX6_isRubbed := by decide +kernel
  have fk73 := hts (.fieldLink RX6 73 "BuyersWeightsModel" "houses" "I") (by decide +kernel)
  have fk91 := hts (.fieldLink RX6 91 "BuyersWeightsModel" "lost" "I") (by decide +kernel)
  have fk31 := hts (.fieldLink RX6 31 "BuyersWeightsModel" "handsOf" "[I") (by decide +kernel)
  have cut_4 : ∀ (fu : Nat) (j : Nat), j ≤ n → n - j < fu → ∀ (ls : Array Slot), lv_has ls 4 [(0, .ref vh), (1, .int (nI q)), (3, .int (nI j)), (2, .int (rubL tm (nI q) j))] → W p l e (headSpec wsX6_isRubbed ({ frames := 1, cells := 0, slots := 0, locals := 21 })).room s m ([.ref vh, .int (nI q)] : List Value).toArray below meth c s.heap [] 0 0 (MQ below (vp_Si (fun r => r = b2 (EX tm lo n q))) ([.ref vh, .int (nI q)] : List Value).toArray s 0 0 (fun _ => False)) (F0 m 4 ls []) := by
    intro fu
    induction fu with
    | zero => intro j hj hfu; exact absurd hfu (Nat.not_lt_zero _)
    | succ fu ih_4 =>
      intro j hj hfu ls hl
      refine lv_iload_n hx hb dX6_isRubbed_4 rfl (lv_at hl 2 rfl) ?_
      refine lv_aload_n hx hb dX6_isRubbed_5 rfl (lv_at hl 0 rfl) ?_
      refine va_get (D := D) (ci := 6) (v := .int (nI n)) (C := RX6) (T := TX6) (N := 30) hx hb hts iwX6 hown hK.1 hP 0 rfl rfl 1 (by decide) fk73 (fun _ h9 => h9) rfl dX6_isRubbed_6 ?_
      refine lv_icmp_ge (tgt := 39) hx hb dX6_isRubbed_9 (by decide) (fun c_1 => ?_) (fun c_1 => ?_)
      · have hge : n ≤ j := (nI_leI (by omega) (by omega)).mp c_1
        refine lv_iload_n hx hb dX6_isRubbed_39 rfl (lv_at hl 3 rfl) ?_
        refine lv_aload_n hx hb dX6_isRubbed_40 rfl (lv_at hl 0 rfl) ?_
        refine va_get (D := D) (ci := 6) (v := .int lo) (C := RX6) (T := TX6) (N := 30) hx hb hts iwX6 hown hK.1 hP 0 rfl rfl 14 (by decide) fk91 (fun _ h9 => h9) rfl dX6_isRubbed_41 ?_
        refine lv_icmp_ne (tgt := 51) hx hb dX6_isRubbed_44 (by decide) (fun c_2 => ?_) (fun c_2 => ?_)
        · have ex : EX tm lo n q = false := by rw [show n = j from by omega]; exact decide_eq_false c_2
          refine lv_iconst (v := 0) hx hb dX6_isRubbed_51 (by decide) ?_
          exact retRz hx hb hr hlocks rfl (by rw [ex]; rfl) dX6_isRubbed_52
        · have ex : EX tm lo n q = true := by rw [show n = j from by omega]; exact decide_eq_true c_2
          refine lv_iconst (v := 1) hx hb dX6_isRubbed_47 (by decide) ?_
          refine lv_goto (tgt := 52) hx hb dX6_isRubbed_48 (by decide) ?_
          exact retRz hx hb hr hlocks rfl (by rw [ex]; rfl) dX6_isRubbed_52
      · have hlt : j < n := Nat.lt_of_not_le fun z => c_1 ((nI_leI (by omega) (by omega)).mpr z)
        refine lv_iload_n hx hb dX6_isRubbed_12 rfl (lv_at hl 3 rfl) ?_
        refine lv_iload_n hx hb dX6_isRubbed_13 rfl (lv_at hl 1 rfl) ?_
        refine lv_iload_n hx hb dX6_isRubbed_14 rfl (lv_at hl 2 rfl) ?_
        refine rcSi (As := [.int (nI q), .int (nI j)]) (rest := [.int (rubL tm (nI q) j)]) ⟨hx, hb, hml, hown, hts⟩ (c_X6_isIn l D cB cC cI (nI q) (nI j)) (va_cwS 2 hts gX6_isRubbed_X6_isIn rfl rfl rfl (by decide +kernel) ⟨Nat.le_of_ble_eq_true rfl, Nat.le_of_ble_eq_true rfl⟩) hK hP [] rfl rfl hl.1 rfl (Nat.le_of_ble_eq_true rfl) dX6_isRubbed_15 ⟨Nat.zero_le _, Nat.zero_le _⟩ ?_
        refine lv_if_eq (tgt := 30) hx hb dX6_isRubbed_18 (by decide) (fun c_3 => ?_) (fun c_3 => ?_)
        · have er : rubL tm (nI q) (j + 1) = rubL tm (nI q) j + 0 := by
            rw [Int32.add_zero]
            refine if_neg (fun z => ?_)
            rw [show f_X6_isIn (nI q) (nI j) = 1 from if_pos z] at c_3
            exact absurd c_3 (by decide)
          refine lv_iconst (v := 0) hx hb dX6_isRubbed_30 (by decide) ?_
          refine lv_iadd hx hb dX6_isRubbed_31 ?_
          refine lv_istore_n (lv' := [(2, .int ((rubL tm (nI q) j) + 0)), (0, .ref vh), (1, .int (nI q)), (3, .int (nI j))]) hx hb dX6_isRubbed_32 rfl hl (by decide) rfl (fun ls hl => ?_)
          refine lv_iinc (v := nI (j + 1)) (lv' := [(3, .int (nI (j + 1))), (2, .int ((rubL tm (nI q) j) + 0)), (0, .ref vh), (1, .int (nI q))]) hx hb dX6_isRubbed_33 hl (k := 3) rfl (nI_1 j) (by decide) rfl (fun ls hl => ?_)
          refine lv_goto (tgt := 4) hx hb dX6_isRubbed_36 (by decide) ?_
          exact ih_4 (j + 1) (by first | assumption | omega | rfl | exact Nat.zero_le _ | decide) (by omega) ls (by rw [er]; exact lv_sub hl [2, 3, 0, 1] rfl)
        · have er : rubL tm (nI q) (j + 1) = rubL tm (nI q) j + tm j := by
            refine if_pos ?_
            by_cases z : ((nI q) >>> ((nI j) &&& 31)) &&& 1 = 1
            · exact z
            · exact absurd (if_neg z) c_3
          refine lv_aload_n hx hb dX6_isRubbed_21 rfl (lv_at hl 0 rfl) ?_
          refine va_get (D := D) (ci := 6) (v := .ref v7) (C := RX6) (T := TX6) (N := 30) hx hb hts iwX6 hown hK.1 hP 0 rfl rfl 13 (by decide) fk31 (fun _ h9 => h9) rfl dX6_isRubbed_22 ?_
          refine lv_iload_n hx hb dX6_isRubbed_25 rfl (lv_at hl 2 rfl) ?_
          refine my_iald hx hb hK hP 8 rfl (j := j) (ix_nI (by omega) (by decide)) dX6_isRubbed_26 ?_
          refine lv_goto (tgt := 31) hx hb dX6_isRubbed_27 (by decide) ?_
          refine lv_iadd hx hb dX6_isRubbed_31 ?_
          refine lv_istore_n (lv' := [(2, .int ((rubL tm (nI q) j) + (tm j))), (0, .ref vh), (1, .int (nI q)), (3, .int (nI j))]) hx hb dX6_isRubbed_32 rfl hl (by decide) rfl (fun ls hl => ?_)
          refine lv_iinc (v := nI (j + 1)) (lv' := [(3, .int (nI (j + 1))), (2, .int ((rubL tm (nI q) j) + (tm j))), (0, .ref vh), (1, .int (nI q))]) hx hb dX6_isRubbed_33 hl (k := 3) rfl (nI_1 j) (by decide) rfl (fun ls hl => ?_)
          refine lv_goto (tgt := 4) hx hb dX6_isRubbed_36 (by decide) ?_
          exact ih_4 (j + 1) (by first | assumption | omega | rfl | exact Nat.zero_le _ | decide) (by omega) ls (by rw [er]; exact lv_sub hl [2, 3, 0, 1] rfl)
  have hl : lv_has ls 4 [(0, .ref vh), (1, .int (nI q))] := hl
  refine lv_iconst (v := 0) hx hb dX6_isRubbed_0 (by decide) ?_
  refine lv_istore_n (lv' := [(2, .int 0), (0, .ref vh), (1, .int (nI q))]) hx hb dX6_isRubbed_1 rfl hl (by decide) rfl (fun ls hl => ?_)
  refine lv_iconst (v := 0) hx hb dX6_isRubbed_2 (by decide) ?_
  refine lv_istore_n (lv' := [(3, .int 0), (2, .int 0), (0, .ref vh), (1, .int (nI q))]) hx hb dX6_isRubbed_3 rfl hl (by decide) rfl (fun ls hl => ?_)
  exact cut_4 ((n - 0) + 1) 0 (by first | assumption | omega | rfl | exact Nat.zero_le _ | decide) (Nat.lt_succ_self _) ls (lv_sub hl [2, 3, 0, 1] rfl)
def cntR (p : Nat → Bool) (N : Nat) : Nat → Nat
  | 0 => 0
  | f + 1 => if p (N - (f + 1)) = true then cntR p N f + 1 else cntR p N f
def leR (p : Nat → Bool) (N : Nat) : Nat → Int32
  | 0 => -1
  | f + 1 => if p (N - (f + 1)) = true then nI (N - (f + 1)) else leR p N f
def andR (p : Nat → Bool) (N : Nat) (mk : Int32) : Nat → Int32
  | 0 => mk
  | f + 1 => if p (N - (f + 1)) = true then andR p N mk f &&& nI (N - (f + 1)) else andR p N mk f
def rbN (tm : Nat → Int32) (lo : Int32) (n : Nat) (w : Int32) : Int32 := if w = 0 then nI (cntR (EX tm lo n) (2 ^ n) (2 ^ n)) else if nI (cntR (EX tm lo n) (2 ^ n) (2 ^ n)) = 0 then -1 else if w = 1 then leR (EX tm lo n) (2 ^ n) (2 ^ n) else andR (EX tm lo n) (2 ^ n) (nI (2 ^ n) - 1) (2 ^ n)
set_option maxHeartbeats 4000000 in
set_option maxRecDepth 100000 in
theorem c_X6_rubbedNow (l : Launch) (D : va_G) (cB cC cI : ClassId) (vh : Nat) (v0 : Nat) (v1 : Nat) (v2 : Nat) (v3 : Nat) (v4 : Nat) (v5 : Nat) (v6 : Nat) (v7 : Nat) (v8 : Nat) (v9 : Nat) (v10 : Nat) (kd : Nat → Int32) (st : Nat → Int32) (co : Nat → Int32) (gt : Nat → Int32) (pd : Nat → Int32) (de : Nat → Int32) (us : Nat → Int32) (tm : Nat → Int32) (lt : Nat → Int32) (sv : Nat → Int32) (ke : Nat → Int32) (mm : Int32) (n : Nat) (tl : Int32) (ho : Int32) (sl : Int32) (hd : Int32) (lo : Int32) (ak : Int32) (k : Nat) (isw : Int32) (nw : Int32) (sn : Int64) (ek : Int32) (em : Int32) (eh : Int32) (es : Int32) (ed : Int32) (el : Int32) (hs : Int64) (w : Int32) (hn : n ≤ 4) : Met l yX6_rubbedNow wsX6_rubbedNow ({ frames := 2, cells := 0, slots := 0, locals := 44 }) (gPr D cB cC cI [.ref vh, .int w] [(vh, .inr (6, [.int mm, .int (nI n), .int tl, .int ho, .ref v0, .ref v1, .ref v2, .ref v3, .ref v4, .ref v5, .ref v6, .int sl, .int hd, .ref v7, .int lo, .int ak, .int (nI k), .ref v8, .int isw, .int nw, .ref v9, .long sn, .int ek, .int em, .int eh, .int es, .int ed, .int el, .ref v10, .long hs])), (v0, .inl (cI, 4, .inl kd)), (v1, .inl (cI, 4, .inl st)), (v2, .inl (cI, 4, .inl co)), (v3, .inl (cI, 4, .inl gt)), (v4, .inl (cI, 4, .inl pd)), (v5, .inl (cI, 4, .inl de)), (v6, .inl (cI, 4, .inl us)), (v7, .inl (cI, 4, .inl tm)), (v8, .inl (cB, 18, .inl lt)), (v9, .inl (cI, 4, .inl sv)), (v10, .inl (cI, 24, .inl ke))]) (vp_Si (fun r => r = rbN tm lo n w)) 0 0 (fun _ => False) := by
  refine metR (cc := cX6_rubbedNow) (maxL := 7) (ret := (some .int)) RX6 rfl (by decide) rfl (Nat.le_of_ble_eq_true rfl) ?_
  intro p e s m below meth c hx hb hr hml hown hts hlocks hP hK ls hl
  have iwX6 : ∀ w ∈ wsX60, w ∈ wsX6_rubbedNow := by decide +kernel
  have fk73 := hts (.fieldLink RX6 73 "BuyersWeightsModel" "houses" "I") (by decide +kernel)
  have cut_24 : ∀ (fu : Nat) (f : Nat), f ≤ 2 ^ n → 2 ^ n - f < fu → ∀ (ls : Array Slot), lv_has ls 7 [(0, .ref vh), (1, .int w), (2, .int (nI (cntR (EX tm lo n) (2 ^ n) f))), (3, .int (leR (EX tm lo n) (2 ^ n) f)), (4, .int (andR (EX tm lo n) (2 ^ n) (nI (2 ^ n) - 1) f)), (5, .int (nI (2 ^ n - f) - 1))] → W p l e (headSpec wsX6_rubbedNow ({ frames := 2, cells := 0, slots := 0, locals := 44 })).room s m ([.ref vh, .int w] : List Value).toArray below meth c s.heap [] 0 0 (MQ below (vp_Si (fun r => r = rbN tm lo n w)) ([.ref vh, .int w] : List Value).toArray s 0 0 (fun _ => False)) (F0 m 24 ls []) := by
    intro fu
    induction fu with
    | zero => intro f hf hfu; exact absurd hfu (Nat.not_lt_zero _)
    | succ fu ih_24 =>
      intro f hf hfu ls hl
      have h16 := pow4 n hn
      refine lv_iload hx hb dX6_rubbedNow_24 (lv_at hl 5 rfl) ?_
      refine lv_if_lt (tgt := 85) hx hb dX6_rubbedNow_26 (by decide) (fun c_1 => ?_) (fun c_1 => ?_)
      · have hge : f = 2 ^ n := by
          rcases Nat.lt_or_ge f (2 ^ n) with q | q
          · rw [show 2 ^ n - f = (2 ^ n - (f + 1)) + 1 from by omega, nI_pred] at c_1
            exact absurd c_1 (nI_pos (by omega))
          · omega
        refine lv_iload_n hx hb dX6_rubbedNow_85 rfl (lv_at hl 1 rfl) ?_
        refine lv_if_ne (tgt := 93) hx hb dX6_rubbedNow_86 (by decide) (fun c_2 => ?_) (fun c_2 => ?_)
        · have r1 := c_2
          refine lv_iload_n hx hb dX6_rubbedNow_93 rfl (lv_at hl 2 rfl) ?_
          refine lv_if_ne (tgt := 101) hx hb dX6_rubbedNow_94 (by decide) (fun c_3 => ?_) (fun c_3 => ?_)
          · have r2 := c_3
            refine lv_iload_n hx hb dX6_rubbedNow_101 rfl (lv_at hl 1 rfl) ?_
            refine lv_iconst (v := 1) hx hb dX6_rubbedNow_102 (by decide) ?_
            refine lv_icmp_ne (tgt := 110) hx hb dX6_rubbedNow_103 (by decide) (fun c_4 => ?_) (fun c_4 => ?_)
            · have r3 := c_4
              refine lv_iload hx hb dX6_rubbedNow_110 (lv_at hl 4 rfl) ?_
              exact retRi hx hb hr hlocks (by rw [hge] at r2 ⊢; exact ((if_neg r1).trans ((if_neg r2).trans (if_neg r3))).symm) dX6_rubbedNow_112
            · have r3 := c_4
              refine lv_iload_n hx hb dX6_rubbedNow_106 rfl (lv_at hl 3 rfl) ?_
              refine lv_goto (tgt := 112) hx hb dX6_rubbedNow_107 (by decide) ?_
              exact retRi hx hb hr hlocks (by rw [hge] at r2 ⊢; exact ((if_neg r1).trans ((if_neg r2).trans (if_pos r3))).symm) dX6_rubbedNow_112
          · have r2 := c_3
            refine lv_iconst (v := (-1)) hx hb dX6_rubbedNow_97 (by decide) ?_
            refine lv_goto (tgt := 112) hx hb dX6_rubbedNow_98 (by decide) ?_
            exact retRi hx hb hr hlocks (by rw [hge] at r2; exact ((if_neg r1).trans (if_pos r2)).symm) dX6_rubbedNow_112
        · have r1 := c_2
          refine lv_iload_n hx hb dX6_rubbedNow_89 rfl (lv_at hl 2 rfl) ?_
          refine lv_goto (tgt := 112) hx hb dX6_rubbedNow_90 (by decide) ?_
          exact retRi hx hb hr hlocks (by rw [hge]; exact (if_pos r1).symm) dX6_rubbedNow_112
      · have hlt : f < 2 ^ n := by
          rcases Nat.lt_or_ge f (2 ^ n) with q | q
          · exact q
          · rw [show 2 ^ n - f = 0 from by omega] at c_1
            exact absurd (by decide) c_1
        have hs5 : nI (2 ^ n - f) - 1 = nI (2 ^ n - (f + 1)) := by rw [show 2 ^ n - f = (2 ^ n - (f + 1)) + 1 from by omega, nI_pred]
        have hl : lv_has ls 7 [(0, .ref vh), (1, .int w), (2, .int (nI (cntR (EX tm lo n) (2 ^ n) f))), (3, .int (leR (EX tm lo n) (2 ^ n) f)), (4, .int (andR (EX tm lo n) (2 ^ n) (nI (2 ^ n) - 1) f)), (5, .int (nI (2 ^ n - (f + 1))))] := by rw [hs5] at hl; exact hl
        refine lv_aload_n hx hb dX6_rubbedNow_29 rfl (lv_at hl 0 rfl) ?_
        refine lv_iload hx hb dX6_rubbedNow_30 (lv_at hl 5 rfl) ?_
        refine rcVi (As := [.int (nI (2 ^ n - (f + 1)))]) (rest := []) ⟨hx, hb, hml, hown, hts⟩ (c_X6_isRubbed l D cB cC cI vh v0 v1 v2 v3 v4 v5 v6 v7 v8 v9 v10 kd st co gt pd de us tm lt sv ke mm n tl ho sl hd lo ak k isw nw sn ek em eh es ed el hs (2 ^ n - (f + 1)) (by first | assumption | omega | decide)) (cwV 1 hts gX6_rubbedNow_X6_isRubbed rfl rfl rfl (by decide +kernel) ⟨Nat.le_of_ble_eq_true rfl, Nat.le_of_ble_eq_true rfl⟩) hK hP [0, 1, 2, 3, 4, 5, 6, 7, 8, 9, 10, 11] rfl rfl 0 rfl rfl hl.1 rfl (Nat.le_of_ble_eq_true rfl) dX6_rubbedNow_32 ⟨Nat.zero_le _, Nat.zero_le _⟩ ?_
        refine lv_istore (lv' := [(6, .int (b2 (EX tm lo n (2 ^ n - (f + 1))))), (0, .ref vh), (1, .int w), (2, .int (nI (cntR (EX tm lo n) (2 ^ n) f))), (3, .int (leR (EX tm lo n) (2 ^ n) f)), (4, .int (andR (EX tm lo n) (2 ^ n) (nI (2 ^ n) - 1) f)), (5, .int (nI (2 ^ n - (f + 1))))]) hx hb dX6_rubbedNow_35 hl (by decide) rfl (fun ls hl => ?_)
        refine lv_iload_n hx hb dX6_rubbedNow_37 rfl (lv_at hl 3 rfl) ?_
        refine lv_iload hx hb dX6_rubbedNow_38 (lv_at hl 0 rfl) ?_
        refine lv_if_eq (tgt := 47) hx hb dX6_rubbedNow_40 (by decide) (fun c_5 => ?_) (fun c_5 => ?_)
        · have hbb : (EX tm lo n) (2 ^ n - (f + 1)) = false := b2_0.mp c_5
          have e1 : nI (cntR (EX tm lo n) (2 ^ n) (f + 1)) = nI (cntR (EX tm lo n) (2 ^ n) f) + 0 := by rw [Int32.add_zero, show cntR (EX tm lo n) (2 ^ n) (f + 1) = cntR (EX tm lo n) (2 ^ n) f from if_neg (by rw [hbb]; decide)]
          have e2 : leR (EX tm lo n) (2 ^ n) (f + 1) = leR (EX tm lo n) (2 ^ n) f := if_neg (by rw [hbb]; decide)
          have e3 : andR (EX tm lo n) (2 ^ n) (nI (2 ^ n) - 1) (f + 1) = andR (EX tm lo n) (2 ^ n) (nI (2 ^ n) - 1) f := if_neg (by rw [hbb]; decide)
          refine lv_iconst (v := 0) hx hb dX6_rubbedNow_47 (by decide) ?_
          refine lv_iadd hx hb dX6_rubbedNow_48 ?_
          refine lv_istore_n (lv' := [(2, .int ((nI (cntR (EX tm lo n) (2 ^ n) f)) + 0)), (6, .int (b2 (EX tm lo n (2 ^ n - (f + 1))))), (0, .ref vh), (1, .int w), (3, .int (leR (EX tm lo n) (2 ^ n) f)), (4, .int (andR (EX tm lo n) (2 ^ n) (nI (2 ^ n) - 1) f)), (5, .int (nI (2 ^ n - (f + 1))))]) hx hb dX6_rubbedNow_49 rfl hl (by decide) rfl (fun ls hl => ?_)
          refine lv_iload hx hb dX6_rubbedNow_50 (lv_at hl 1 rfl) ?_
          refine lv_if_eq (tgt := 60) hx hb dX6_rubbedNow_52 (by decide) (fun c_6 => ?_) (fun c_6 => absurd c_5 c_6)
          refine lv_iload_n hx hb dX6_rubbedNow_60 rfl (lv_at hl 4 rfl) ?_
          refine lv_istore_n (lv' := [(3, .int (leR (EX tm lo n) (2 ^ n) f)), (2, .int ((nI (cntR (EX tm lo n) (2 ^ n) f)) + 0)), (6, .int (b2 (EX tm lo n (2 ^ n - (f + 1))))), (0, .ref vh), (1, .int w), (4, .int (andR (EX tm lo n) (2 ^ n) (nI (2 ^ n) - 1) f)), (5, .int (nI (2 ^ n - (f + 1))))]) hx hb dX6_rubbedNow_61 rfl hl (by decide) rfl (fun ls hl => ?_)
          refine lv_iload hx hb dX6_rubbedNow_62 (lv_at hl 2 rfl) ?_
          refine lv_if_eq (tgt := 75) hx hb dX6_rubbedNow_64 (by decide) (fun c_7 => ?_) (fun c_7 => absurd c_5 c_7)
          refine lv_iload hx hb dX6_rubbedNow_75 (lv_at hl 5 rfl) ?_
          refine lv_istore (lv' := [(4, .int (andR (EX tm lo n) (2 ^ n) (nI (2 ^ n) - 1) f)), (3, .int (leR (EX tm lo n) (2 ^ n) f)), (2, .int ((nI (cntR (EX tm lo n) (2 ^ n) f)) + 0)), (6, .int (b2 (EX tm lo n (2 ^ n - (f + 1))))), (0, .ref vh), (1, .int w), (5, .int (nI (2 ^ n - (f + 1))))]) hx hb dX6_rubbedNow_77 hl (by decide) rfl (fun ls hl => ?_)
          refine lv_iinc (v := nI (2 ^ n - (f + 1)) - 1) (lv' := [(5, .int (nI (2 ^ n - (f + 1)) - 1)), (4, .int (andR (EX tm lo n) (2 ^ n) (nI (2 ^ n) - 1) f)), (3, .int (leR (EX tm lo n) (2 ^ n) f)), (2, .int ((nI (cntR (EX tm lo n) (2 ^ n) f)) + 0)), (6, .int (b2 (EX tm lo n (2 ^ n - (f + 1))))), (0, .ref vh), (1, .int w)]) hx hb dX6_rubbedNow_79 hl (k := 6) rfl (dec1 _) (by decide) rfl (fun ls hl => ?_)
          refine lv_goto (tgt := 24) hx hb dX6_rubbedNow_82 (by decide) ?_
          exact ih_24 (f + 1) (by first | assumption | omega | rfl | exact Nat.zero_le _ | decide) (by omega) ls (by rw [e1, e2, e3]; exact lv_sub hl [5, 6, 3, 2, 1, 0] rfl)
        · have hbb : (EX tm lo n) (2 ^ n - (f + 1)) = true := by rcases Bool.eq_false_or_eq_true ((EX tm lo n) (2 ^ n - (f + 1))) with h | h; exact h; exact absurd (b2_0.mpr h) c_5
          have e1 : nI (cntR (EX tm lo n) (2 ^ n) (f + 1)) = nI (cntR (EX tm lo n) (2 ^ n) f) + 1 := by rw [show cntR (EX tm lo n) (2 ^ n) (f + 1) = cntR (EX tm lo n) (2 ^ n) f + 1 from if_pos hbb, ← nI_1]
          have e2 : leR (EX tm lo n) (2 ^ n) (f + 1) = nI (2 ^ n - (f + 1)) := if_pos hbb
          have e3 : andR (EX tm lo n) (2 ^ n) (nI (2 ^ n) - 1) (f + 1) = andR (EX tm lo n) (2 ^ n) (nI (2 ^ n) - 1) f &&& nI (2 ^ n - (f + 1)) := if_pos hbb
          refine lv_iconst (v := 1) hx hb dX6_rubbedNow_43 (by decide) ?_
          refine lv_goto (tgt := 48) hx hb dX6_rubbedNow_44 (by decide) ?_
          refine lv_iadd hx hb dX6_rubbedNow_48 ?_
          refine lv_istore_n (lv' := [(2, .int ((nI (cntR (EX tm lo n) (2 ^ n) f)) + 1)), (6, .int (b2 (EX tm lo n (2 ^ n - (f + 1))))), (0, .ref vh), (1, .int w), (3, .int (leR (EX tm lo n) (2 ^ n) f)), (4, .int (andR (EX tm lo n) (2 ^ n) (nI (2 ^ n) - 1) f)), (5, .int (nI (2 ^ n - (f + 1))))]) hx hb dX6_rubbedNow_49 rfl hl (by decide) rfl (fun ls hl => ?_)
          refine lv_iload hx hb dX6_rubbedNow_50 (lv_at hl 1 rfl) ?_
          refine lv_if_eq (tgt := 60) hx hb dX6_rubbedNow_52 (by decide) (fun c_8 => absurd c_8 c_5) (fun c_8 => ?_)
          refine lv_iload hx hb dX6_rubbedNow_55 (lv_at hl 6 rfl) ?_
          refine lv_goto (tgt := 61) hx hb dX6_rubbedNow_57 (by decide) ?_
          refine lv_istore_n (lv' := [(3, .int (nI (2 ^ n - (f + 1)))), (2, .int ((nI (cntR (EX tm lo n) (2 ^ n) f)) + 1)), (6, .int (b2 (EX tm lo n (2 ^ n - (f + 1))))), (0, .ref vh), (1, .int w), (4, .int (andR (EX tm lo n) (2 ^ n) (nI (2 ^ n) - 1) f)), (5, .int (nI (2 ^ n - (f + 1))))]) hx hb dX6_rubbedNow_61 rfl hl (by decide) rfl (fun ls hl => ?_)
          refine lv_iload hx hb dX6_rubbedNow_62 (lv_at hl 2 rfl) ?_
          refine lv_if_eq (tgt := 75) hx hb dX6_rubbedNow_64 (by decide) (fun c_9 => absurd c_9 c_5) (fun c_9 => ?_)
          refine lv_iload hx hb dX6_rubbedNow_67 (lv_at hl 5 rfl) ?_
          refine lv_iload hx hb dX6_rubbedNow_69 (lv_at hl 6 rfl) ?_
          refine lv_iand hx hb dX6_rubbedNow_71 ?_
          refine lv_goto (tgt := 77) hx hb dX6_rubbedNow_72 (by decide) ?_
          refine lv_istore (lv' := [(4, .int ((andR (EX tm lo n) (2 ^ n) (nI (2 ^ n) - 1) f) &&& (nI (2 ^ n - (f + 1))))), (3, .int (nI (2 ^ n - (f + 1)))), (2, .int ((nI (cntR (EX tm lo n) (2 ^ n) f)) + 1)), (6, .int (b2 (EX tm lo n (2 ^ n - (f + 1))))), (0, .ref vh), (1, .int w), (5, .int (nI (2 ^ n - (f + 1))))]) hx hb dX6_rubbedNow_77 hl (by decide) rfl (fun ls hl => ?_)
          refine lv_iinc (v := nI (2 ^ n - (f + 1)) - 1) (lv' := [(5, .int (nI (2 ^ n - (f + 1)) - 1)), (4, .int ((andR (EX tm lo n) (2 ^ n) (nI (2 ^ n) - 1) f) &&& (nI (2 ^ n - (f + 1))))), (3, .int (nI (2 ^ n - (f + 1)))), (2, .int ((nI (cntR (EX tm lo n) (2 ^ n) f)) + 1)), (6, .int (b2 (EX tm lo n (2 ^ n - (f + 1))))), (0, .ref vh), (1, .int w)]) hx hb dX6_rubbedNow_79 hl (k := 6) rfl (dec1 _) (by decide) rfl (fun ls hl => ?_)
          refine lv_goto (tgt := 24) hx hb dX6_rubbedNow_82 (by decide) ?_
          exact ih_24 (f + 1) (by first | assumption | omega | rfl | exact Nat.zero_le _ | decide) (by omega) ls (by rw [e1, e2, e3]; exact lv_sub hl [5, 6, 3, 2, 1, 0] rfl)
  have hl : lv_has ls 7 [(0, .ref vh), (1, .int w)] := hl
  refine lv_iconst (v := 0) hx hb dX6_rubbedNow_0 (by decide) ?_
  refine lv_istore_n (lv' := [(2, .int 0), (0, .ref vh), (1, .int w)]) hx hb dX6_rubbedNow_1 rfl hl (by decide) rfl (fun ls hl => ?_)
  refine lv_iconst (v := (-1)) hx hb dX6_rubbedNow_2 (by decide) ?_
  refine lv_istore_n (lv' := [(3, .int (-1)), (2, .int 0), (0, .ref vh), (1, .int w)]) hx hb dX6_rubbedNow_3 rfl hl (by decide) rfl (fun ls hl => ?_)
  refine lv_iconst (v := 1) hx hb dX6_rubbedNow_4 (by decide) ?_
  refine lv_aload_n hx hb dX6_rubbedNow_5 rfl (lv_at hl 2 rfl) ?_
  refine va_get (D := D) (ci := 6) (v := .int (nI n)) (C := RX6) (T := TX6) (N := 30) hx hb hts iwX6 hown hK.1 hP 0 rfl rfl 1 (by decide) fk73 (fun _ h9 => h9) rfl dX6_rubbedNow_6 ?_
  refine lv_ishl hx hb dX6_rubbedNow_9 ?_
  refine my_top (y := nI (2 ^ n)) (shl1 n hn) ?_
  refine lv_iconst (v := 1) hx hb dX6_rubbedNow_10 (by decide) ?_
  refine lv_isub hx hb dX6_rubbedNow_11 ?_
  refine lv_istore (lv' := [(4, .int ((nI (2 ^ n)) - 1)), (3, .int (-1)), (2, .int 0), (0, .ref vh), (1, .int w)]) hx hb dX6_rubbedNow_12 hl (by decide) rfl (fun ls hl => ?_)
  refine lv_iconst (v := 1) hx hb dX6_rubbedNow_14 (by decide) ?_
  refine lv_aload_n hx hb dX6_rubbedNow_15 rfl (lv_at hl 3 rfl) ?_
  refine va_get (D := D) (ci := 6) (v := .int (nI n)) (C := RX6) (T := TX6) (N := 30) hx hb hts iwX6 hown hK.1 hP 0 rfl rfl 1 (by decide) fk73 (fun _ h9 => h9) rfl dX6_rubbedNow_16 ?_
  refine lv_ishl hx hb dX6_rubbedNow_19 ?_
  refine my_top (y := nI (2 ^ n)) (shl1 n hn) ?_
  refine lv_iconst (v := 1) hx hb dX6_rubbedNow_20 (by decide) ?_
  refine lv_isub hx hb dX6_rubbedNow_21 ?_
  refine lv_istore (lv' := [(5, .int ((nI (2 ^ n)) - 1)), (4, .int ((nI (2 ^ n)) - 1)), (3, .int (-1)), (2, .int 0), (0, .ref vh), (1, .int w)]) hx hb dX6_rubbedNow_22 hl (by decide) rfl (fun ls hl => ?_)
  exact cut_24 ((2 ^ n - 0) + 1) 0 (by first | assumption | omega | rfl | exact Nat.zero_le _ | decide) (Nat.lt_succ_self _) ls (lv_sub hl [4, 5, 3, 2, 1, 0] rfl)
def f_X6_rubbed (tm : Nat → Int32) (n : Nat) (lo : Int32) (w : Int32) : Int32 := if (f_X6_within w 0 2) = 0 then (-102) else if (nI n) = 0 then (-103) else rbN tm lo n w
set_option maxHeartbeats 4000000 in
set_option maxRecDepth 100000 in
theorem c_X6_rubbed (l : Launch) (D : va_G) (cB cC cI : ClassId) (vh : Nat) (v0 : Nat) (v1 : Nat) (v2 : Nat) (v3 : Nat) (v4 : Nat) (v5 : Nat) (v6 : Nat) (v7 : Nat) (v8 : Nat) (v9 : Nat) (v10 : Nat) (kd : Nat → Int32) (st : Nat → Int32) (co : Nat → Int32) (gt : Nat → Int32) (pd : Nat → Int32) (de : Nat → Int32) (us : Nat → Int32) (tm : Nat → Int32) (lt : Nat → Int32) (sv : Nat → Int32) (ke : Nat → Int32) (mm : Int32) (n : Nat) (tl : Int32) (ho : Int32) (sl : Int32) (hd : Int32) (lo : Int32) (ak : Int32) (k : Nat) (isw : Int32) (nw : Int32) (sn : Int64) (ek : Int32) (em : Int32) (eh : Int32) (es : Int32) (ed : Int32) (el : Int32) (hs : Int64) (w : Int32) (hn : n ≤ 4) : Met l yX6_rubbed wsX6_rubbed ({ frames := 3, cells := 0, slots := 0, locals := 70 }) (gPr D cB cC cI [.ref vh, .int w] [(vh, .inr (6, [.int mm, .int (nI n), .int tl, .int ho, .ref v0, .ref v1, .ref v2, .ref v3, .ref v4, .ref v5, .ref v6, .int sl, .int hd, .ref v7, .int lo, .int ak, .int (nI k), .ref v8, .int isw, .int nw, .ref v9, .long sn, .int ek, .int em, .int eh, .int es, .int ed, .int el, .ref v10, .long hs])), (v0, .inl (cI, 4, .inl kd)), (v1, .inl (cI, 4, .inl st)), (v2, .inl (cI, 4, .inl co)), (v3, .inl (cI, 4, .inl gt)), (v4, .inl (cI, 4, .inl pd)), (v5, .inl (cI, 4, .inl de)), (v6, .inl (cI, 4, .inl us)), (v7, .inl (cI, 4, .inl tm)), (v8, .inl (cB, 18, .inl lt)), (v9, .inl (cI, 4, .inl sv)), (v10, .inl (cI, 24, .inl ke))]) (vp_Si (fun r => r = (f_X6_rubbed tm n lo w))) 0 0 (fun _ => False) := by
  refine metR (cc := cX6_rubbed) (maxL := 2) (ret := (some .int)) RX6 rfl (by decide) rfl (Nat.le_of_ble_eq_true rfl) ?_
  intro p e s m below meth c hx hb hr hml hown hts hlocks hP hK ls hl
  have iwX6 : ∀ w ∈ wsX60, w ∈ wsX6_rubbed := by decide +kernel
  have fk73 := hts (.fieldLink RX6 73 "BuyersWeightsModel" "houses" "I") (by decide +kernel)
  have hl : lv_has ls 2 [(0, .ref vh), (1, .int w)] := hl
  refine lv_iload_n hx hb dX6_rubbed_0 rfl (lv_at hl 1 rfl) ?_
  refine lv_iconst (v := 0) hx hb dX6_rubbed_1 (by decide) ?_
  refine lv_iconst (v := 2) hx hb dX6_rubbed_2 (by decide) ?_
  refine rcSi (As := [.int w, .int 0, .int 2]) (rest := []) ⟨hx, hb, hml, hown, hts⟩ (c_X6_within l D cB cC cI w 0 2) (va_cwS 3 hts gX6_rubbed_X6_within rfl rfl rfl (by decide +kernel) ⟨Nat.le_of_ble_eq_true rfl, Nat.le_of_ble_eq_true rfl⟩) hK hP [] rfl rfl hl.1 rfl (Nat.le_of_ble_eq_true rfl) dX6_rubbed_3 ⟨Nat.zero_le _, Nat.zero_le _⟩ ?_
  refine lv_if_ne (tgt := 12) hx hb dX6_rubbed_6 (by decide) (fun c_1 => ?_) (fun c_1 => ?_)
  · refine lv_aload_n hx hb dX6_rubbed_12 rfl (lv_at hl 0 rfl) ?_
    refine va_get (D := D) (ci := 6) (v := .int (nI n)) (C := RX6) (T := TX6) (N := 30) hx hb hts iwX6 hown hK.1 hP 0 rfl rfl 1 (by decide) fk73 (fun _ h9 => h9) rfl dX6_rubbed_13 ?_
    refine lv_if_ne (tgt := 24) hx hb dX6_rubbed_16 (by decide) (fun c_2 => ?_) (fun c_2 => ?_)
    · refine lv_aload_n hx hb dX6_rubbed_24 rfl (lv_at hl 0 rfl) ?_
      refine lv_iload_n hx hb dX6_rubbed_25 rfl (lv_at hl 1 rfl) ?_
      refine rcVi (As := [.int w]) (rest := []) ⟨hx, hb, hml, hown, hts⟩ (c_X6_rubbedNow l D cB cC cI vh v0 v1 v2 v3 v4 v5 v6 v7 v8 v9 v10 kd st co gt pd de us tm lt sv ke mm n tl ho sl hd lo ak k isw nw sn ek em eh es ed el hs w (by first | assumption | omega | decide)) (cwV 1 hts gX6_rubbed_X6_rubbedNow rfl rfl rfl (by decide +kernel) ⟨Nat.le_of_ble_eq_true rfl, Nat.le_of_ble_eq_true rfl⟩) hK hP [0, 1, 2, 3, 4, 5, 6, 7, 8, 9, 10, 11] rfl rfl 0 rfl rfl hl.1 rfl (Nat.le_of_ble_eq_true rfl) dX6_rubbed_26 ⟨Nat.zero_le _, Nat.zero_le _⟩ ?_
      have eG : f_X6_rubbed tm n lo w = rbN tm lo n w := (if_neg c_1).trans (if_neg c_2)
      exact retRi hx hb hr hlocks eG.symm dX6_rubbed_29
    · refine lv_bipush (v := (-103)) hx hb dX6_rubbed_19 (by decide) ?_
      refine lv_goto (tgt := 29) hx hb dX6_rubbed_21 (by decide) ?_
      have eG : f_X6_rubbed tm n lo w = (-103) := (if_neg c_1).trans (if_pos c_2)
      exact retRi hx hb hr hlocks eG.symm dX6_rubbed_29
  · refine lv_bipush (v := (-102)) hx hb dX6_rubbed_9 (by decide) ?_
    have eG : f_X6_rubbed tm n lo w = (-102) := if_pos c_1
    exact retRi hx hb hr hlocks eG.symm dX6_rubbed_11
def inP (tm : Nat → Int32) (lo : Int32) (n h i : Nat) : Bool := decide (¬ f_X6_isIn (nI i) (nI h) = 0) && EX tm lo n i
def wtW (tm : Nat → Int32) (lo : Int32) (n h : Nat) : Int32 := nI (cntN (inP tm lo n h) (2 ^ n))
def wtM (W : Nat → Int32) (al : Int32) : Nat → Int32 × Int32
  | 0 => (-1, 268435456)
  | h + 1 => if (wtM W al h).2 ≤ (if W h ≤ al - W h then al - W h else W h) then wtM W al h else (nI h, (if W h ≤ al - W h then al - W h else W h))
def wtN (tm : Nat → Int32) (lo : Int32) (n : Nat) : Int32 := if rbN tm lo n 0 ≤ 0 then -1 else (wtM (wtW tm lo n) (rbN tm lo n 0) n).1
set_option maxHeartbeats 4000000 in
set_option maxRecDepth 100000 in
theorem c_X6_watchNow (l : Launch) (D : va_G) (cB cC cI : ClassId) (vh : Nat) (v0 : Nat) (v1 : Nat) (v2 : Nat) (v3 : Nat) (v4 : Nat) (v5 : Nat) (v6 : Nat) (v7 : Nat) (v8 : Nat) (v9 : Nat) (v10 : Nat) (kd : Nat → Int32) (st : Nat → Int32) (co : Nat → Int32) (gt : Nat → Int32) (pd : Nat → Int32) (de : Nat → Int32) (us : Nat → Int32) (tm : Nat → Int32) (lt : Nat → Int32) (sv : Nat → Int32) (ke : Nat → Int32) (mm : Int32) (n : Nat) (tl : Int32) (ho : Int32) (sl : Int32) (hd : Int32) (lo : Int32) (ak : Int32) (k : Nat) (isw : Int32) (nw : Int32) (sn : Int64) (ek : Int32) (em : Int32) (eh : Int32) (es : Int32) (ed : Int32) (el : Int32) (hs : Int64) (hn : n ≤ 4) : Met l yX6_watchNow wsX6_watchNow ({ frames := 3, cells := 0, slots := 0, locals := 70 }) (gPr D cB cC cI [.ref vh] [(vh, .inr (6, [.int mm, .int (nI n), .int tl, .int ho, .ref v0, .ref v1, .ref v2, .ref v3, .ref v4, .ref v5, .ref v6, .int sl, .int hd, .ref v7, .int lo, .int ak, .int (nI k), .ref v8, .int isw, .int nw, .ref v9, .long sn, .int ek, .int em, .int eh, .int es, .int ed, .int el, .ref v10, .long hs])), (v0, .inl (cI, 4, .inl kd)), (v1, .inl (cI, 4, .inl st)), (v2, .inl (cI, 4, .inl co)), (v3, .inl (cI, 4, .inl gt)), (v4, .inl (cI, 4, .inl pd)), (v5, .inl (cI, 4, .inl de)), (v6, .inl (cI, 4, .inl us)), (v7, .inl (cI, 4, .inl tm)), (v8, .inl (cB, 18, .inl lt)), (v9, .inl (cI, 4, .inl sv)), (v10, .inl (cI, 24, .inl ke))]) (vp_Si (fun r => r = wtN tm lo n)) 0 0 (fun _ => False) := by
  refine metR (cc := cX6_watchNow) (maxL := 7) (ret := (some .int)) RX6 rfl (by decide) rfl (Nat.le_of_ble_eq_true rfl) ?_
  intro p e s m below meth c hx hb hr hml hown hts hlocks hP hK ls hl
  have iwX6 : ∀ w ∈ wsX60, w ∈ wsX6_watchNow := by decide +kernel
  have fk73 := hts (.fieldLink RX6 73 "BuyersWeightsModel" "houses" "I") (by decide +kernel)
  have cut_14 : ∀ (fu : Nat) (h : Nat), h ≤ n → h = 0 ∨ ¬ (rbN tm lo n 0) ≤ 0 → n - h < fu → ∀ (ls : Array Slot), lv_has ls 7 [(0, .ref vh), (1, .int (rbN tm lo n 0)), (2, .int ((wtM (wtW tm lo n) (rbN tm lo n 0) h).1)), (3, .int ((wtM (wtW tm lo n) (rbN tm lo n 0) h).2)), (4, .int (nI h))] → W p l e (headSpec wsX6_watchNow ({ frames := 3, cells := 0, slots := 0, locals := 70 })).room s m ([.ref vh] : List Value).toArray below meth c s.heap [] 0 0 (MQ below (vp_Si (fun r => r = wtN tm lo n)) ([.ref vh] : List Value).toArray s 0 0 (fun _ => False)) (F0 m 14 ls []) := by
    intro fu
    induction fu with
    | zero => intro h hh hz0 hfu; exact absurd hfu (Nat.not_lt_zero _)
    | succ fu ih_14 =>
      intro h hh hz0 hfu ls hl
      have cut_33 : ∀ (fu : Nat) (i : Nat), i ≤ 2 ^ n → h < n → ¬ (rbN tm lo n 0) ≤ 0 → 2 ^ n - i < fu → ∀ (ls : Array Slot), lv_has ls 7 [(0, .ref vh), (1, .int (rbN tm lo n 0)), (2, .int ((wtM (wtW tm lo n) (rbN tm lo n 0) h).1)), (3, .int ((wtM (wtW tm lo n) (rbN tm lo n 0) h).2)), (4, .int (nI h)), (6, .int (nI i)), (5, .int (nI (cntN (inP tm lo n h) i)))] → W p l e (headSpec wsX6_watchNow ({ frames := 3, cells := 0, slots := 0, locals := 70 })).room s m ([.ref vh] : List Value).toArray below meth c s.heap [] 0 0 (MQ below (vp_Si (fun r => r = wtN tm lo n)) ([.ref vh] : List Value).toArray s 0 0 (fun _ => False)) (F0 m 33 ls []) := by
        intro fu
        induction fu with
        | zero => intro i hi hlt hal hfu; exact absurd hfu (Nat.not_lt_zero _)
        | succ fu ih_33 =>
          intro i hi hlt hal hfu ls hl
          have h16 := pow4 n hn
          refine lv_iload hx hb dX6_watchNow_33 (lv_at hl 5 rfl) ?_
          refine lv_iconst (v := 1) hx hb dX6_watchNow_35 (by decide) ?_
          refine lv_aload_n hx hb dX6_watchNow_36 rfl (lv_at hl 0 rfl) ?_
          refine va_get (D := D) (ci := 6) (v := .int (nI n)) (C := RX6) (T := TX6) (N := 30) hx hb hts iwX6 hown hK.1 hP 0 rfl rfl 1 (by decide) fk73 (fun _ h9 => h9) rfl dX6_watchNow_37 ?_
          refine lv_ishl hx hb dX6_watchNow_40 ?_
          refine my_top (y := nI (2 ^ n)) (shl1 n hn) ?_
          refine lv_icmp_ge (tgt := 79) hx hb dX6_watchNow_41 (by decide) (fun c_1 => ?_) (fun c_1 => ?_)
          · have hge2 : 2 ^ n ≤ i := (nI_leI (by omega) (by omega)).mp c_1
            have ec : nI (cntN (inP tm lo n h) i) = wtW tm lo n h := by rw [wtW, show 2 ^ n = i from by omega]
            have hl : lv_has ls 7 [(0, .ref vh), (1, .int (rbN tm lo n 0)), (2, .int ((wtM (wtW tm lo n) (rbN tm lo n 0) h).1)), (3, .int ((wtM (wtW tm lo n) (rbN tm lo n 0) h).2)), (4, .int (nI h)), (6, .int (nI i)), (5, .int (wtW tm lo n h))] := by rw [ec] at hl; exact hl
            refine lv_iload hx hb dX6_watchNow_79 (lv_at hl 6 rfl) ?_
            refine lv_iload_n hx hb dX6_watchNow_81 rfl (lv_at hl 1 rfl) ?_
            refine lv_iload hx hb dX6_watchNow_82 (lv_at hl 6 rfl) ?_
            refine lv_isub hx hb dX6_watchNow_84 ?_
            refine lv_icmp_le (tgt := 93) hx hb dX6_watchNow_85 (by decide) (fun c_2 => ?_) (fun c_2 => ?_)
            · have ewo : (if (wtW tm lo n h) ≤ (rbN tm lo n 0) - (wtW tm lo n h) then (rbN tm lo n 0) - (wtW tm lo n h) else (wtW tm lo n h)) = (rbN tm lo n 0) - (wtW tm lo n h) := if_pos c_2
              refine lv_iload_n hx hb dX6_watchNow_93 rfl (lv_at hl 1 rfl) ?_
              refine lv_iload hx hb dX6_watchNow_94 (lv_at hl 6 rfl) ?_
              refine lv_isub hx hb dX6_watchNow_96 ?_
              refine lv_istore (lv' := [(6, .int ((rbN tm lo n 0) - (wtW tm lo n h))), (0, .ref vh), (1, .int (rbN tm lo n 0)), (2, .int ((wtM (wtW tm lo n) (rbN tm lo n 0) h).1)), (3, .int ((wtM (wtW tm lo n) (rbN tm lo n 0) h).2)), (4, .int (nI h)), (5, .int (wtW tm lo n h))]) hx hb dX6_watchNow_97 hl (by decide) rfl (fun ls hl => ?_)
              refine lv_iload hx hb dX6_watchNow_99 (lv_at hl 0 rfl) ?_
              refine lv_iload_n hx hb dX6_watchNow_101 rfl (lv_at hl 4 rfl) ?_
              refine lv_icmp_ge (tgt := 110) hx hb dX6_watchNow_102 (by decide) (fun c_3 => ?_) (fun c_3 => ?_)
              · have ew : (wtM (wtW tm lo n) (rbN tm lo n 0) (h + 1)) = (wtM (wtW tm lo n) (rbN tm lo n 0) h) := if_pos (by rw [ewo]; exact c_3)
                refine lv_iload_n hx hb dX6_watchNow_110 rfl (lv_at hl 3 rfl) ?_
                refine lv_istore_n (lv' := [(2, .int ((wtM (wtW tm lo n) (rbN tm lo n 0) h).1)), (6, .int ((rbN tm lo n 0) - (wtW tm lo n h))), (0, .ref vh), (1, .int (rbN tm lo n 0)), (3, .int ((wtM (wtW tm lo n) (rbN tm lo n 0) h).2)), (4, .int (nI h)), (5, .int (wtW tm lo n h))]) hx hb dX6_watchNow_111 rfl hl (by decide) rfl (fun ls hl => ?_)
                refine lv_iload hx hb dX6_watchNow_112 (lv_at hl 1 rfl) ?_
                refine lv_iload_n hx hb dX6_watchNow_114 rfl (lv_at hl 4 rfl) ?_
                refine lv_icmp_ge (tgt := 123) hx hb dX6_watchNow_115 (by decide) (fun c_4 => ?_) (fun c_4 => absurd c_3 c_4)
                refine lv_iload_n hx hb dX6_watchNow_123 rfl (lv_at hl 4 rfl) ?_
                refine lv_istore_n (lv' := [(3, .int ((wtM (wtW tm lo n) (rbN tm lo n 0) h).2)), (2, .int ((wtM (wtW tm lo n) (rbN tm lo n 0) h).1)), (6, .int ((rbN tm lo n 0) - (wtW tm lo n h))), (0, .ref vh), (1, .int (rbN tm lo n 0)), (4, .int (nI h)), (5, .int (wtW tm lo n h))]) hx hb dX6_watchNow_124 rfl hl (by decide) rfl (fun ls hl => ?_)
                refine lv_iinc (v := nI (h + 1)) (lv' := [(4, .int (nI (h + 1))), (3, .int ((wtM (wtW tm lo n) (rbN tm lo n 0) h).2)), (2, .int ((wtM (wtW tm lo n) (rbN tm lo n 0) h).1)), (6, .int ((rbN tm lo n 0) - (wtW tm lo n h))), (0, .ref vh), (1, .int (rbN tm lo n 0)), (5, .int (wtW tm lo n h))]) hx hb dX6_watchNow_125 hl (k := 5) rfl (nI_1 h) (by decide) rfl (fun ls hl => ?_)
                refine lv_goto (tgt := 14) hx hb dX6_watchNow_128 (by decide) ?_
                exact ih_14 (h + 1) (by first | assumption | omega | rfl | exact Nat.zero_le _ | decide) (Or.inr hal) (by omega) ls (by rw [ew]; exact lv_sub hl [4, 5, 2, 1, 0] rfl)
              · have ew : (wtM (wtW tm lo n) (rbN tm lo n 0) (h + 1)) = (nI h, (if (wtW tm lo n h) ≤ (rbN tm lo n 0) - (wtW tm lo n h) then (rbN tm lo n 0) - (wtW tm lo n h) else (wtW tm lo n h))) := if_neg (by rw [ewo]; exact c_3)
                rw [ewo] at ew
                refine lv_iload hx hb dX6_watchNow_105 (lv_at hl 5 rfl) ?_
                refine lv_goto (tgt := 111) hx hb dX6_watchNow_107 (by decide) ?_
                refine lv_istore_n (lv' := [(2, .int (nI h)), (6, .int ((rbN tm lo n 0) - (wtW tm lo n h))), (0, .ref vh), (1, .int (rbN tm lo n 0)), (3, .int ((wtM (wtW tm lo n) (rbN tm lo n 0) h).2)), (4, .int (nI h)), (5, .int (wtW tm lo n h))]) hx hb dX6_watchNow_111 rfl hl (by decide) rfl (fun ls hl => ?_)
                refine lv_iload hx hb dX6_watchNow_112 (lv_at hl 1 rfl) ?_
                refine lv_iload_n hx hb dX6_watchNow_114 rfl (lv_at hl 4 rfl) ?_
                refine lv_icmp_ge (tgt := 123) hx hb dX6_watchNow_115 (by decide) (fun c_5 => absurd c_5 c_3) (fun c_5 => ?_)
                refine lv_iload hx hb dX6_watchNow_118 (lv_at hl 1 rfl) ?_
                refine lv_goto (tgt := 124) hx hb dX6_watchNow_120 (by decide) ?_
                refine lv_istore_n (lv' := [(3, .int ((rbN tm lo n 0) - (wtW tm lo n h))), (2, .int (nI h)), (6, .int ((rbN tm lo n 0) - (wtW tm lo n h))), (0, .ref vh), (1, .int (rbN tm lo n 0)), (4, .int (nI h)), (5, .int (wtW tm lo n h))]) hx hb dX6_watchNow_124 rfl hl (by decide) rfl (fun ls hl => ?_)
                refine lv_iinc (v := nI (h + 1)) (lv' := [(4, .int (nI (h + 1))), (3, .int ((rbN tm lo n 0) - (wtW tm lo n h))), (2, .int (nI h)), (6, .int ((rbN tm lo n 0) - (wtW tm lo n h))), (0, .ref vh), (1, .int (rbN tm lo n 0)), (5, .int (wtW tm lo n h))]) hx hb dX6_watchNow_125 hl (k := 5) rfl (nI_1 h) (by decide) rfl (fun ls hl => ?_)
                refine lv_goto (tgt := 14) hx hb dX6_watchNow_128 (by decide) ?_
                exact ih_14 (h + 1) (by first | assumption | omega | rfl | exact Nat.zero_le _ | decide) (Or.inr hal) (by omega) ls (by rw [ew]; exact lv_sub hl [4, 5, 2, 1, 0] rfl)
            · have ewo : (if (wtW tm lo n h) ≤ (rbN tm lo n 0) - (wtW tm lo n h) then (rbN tm lo n 0) - (wtW tm lo n h) else (wtW tm lo n h)) = (wtW tm lo n h) := if_neg c_2
              refine lv_iload hx hb dX6_watchNow_88 (lv_at hl 6 rfl) ?_
              refine lv_goto (tgt := 97) hx hb dX6_watchNow_90 (by decide) ?_
              refine lv_istore (lv' := [(6, .int (wtW tm lo n h)), (0, .ref vh), (1, .int (rbN tm lo n 0)), (2, .int ((wtM (wtW tm lo n) (rbN tm lo n 0) h).1)), (3, .int ((wtM (wtW tm lo n) (rbN tm lo n 0) h).2)), (4, .int (nI h)), (5, .int (wtW tm lo n h))]) hx hb dX6_watchNow_97 hl (by decide) rfl (fun ls hl => ?_)
              refine lv_iload hx hb dX6_watchNow_99 (lv_at hl 0 rfl) ?_
              refine lv_iload_n hx hb dX6_watchNow_101 rfl (lv_at hl 4 rfl) ?_
              refine lv_icmp_ge (tgt := 110) hx hb dX6_watchNow_102 (by decide) (fun c_6 => ?_) (fun c_6 => ?_)
              · have ew : (wtM (wtW tm lo n) (rbN tm lo n 0) (h + 1)) = (wtM (wtW tm lo n) (rbN tm lo n 0) h) := if_pos (by rw [ewo]; exact c_6)
                refine lv_iload_n hx hb dX6_watchNow_110 rfl (lv_at hl 3 rfl) ?_
                refine lv_istore_n (lv' := [(2, .int ((wtM (wtW tm lo n) (rbN tm lo n 0) h).1)), (6, .int (wtW tm lo n h)), (0, .ref vh), (1, .int (rbN tm lo n 0)), (3, .int ((wtM (wtW tm lo n) (rbN tm lo n 0) h).2)), (4, .int (nI h)), (5, .int (wtW tm lo n h))]) hx hb dX6_watchNow_111 rfl hl (by decide) rfl (fun ls hl => ?_)
                refine lv_iload hx hb dX6_watchNow_112 (lv_at hl 1 rfl) ?_
                refine lv_iload_n hx hb dX6_watchNow_114 rfl (lv_at hl 4 rfl) ?_
                refine lv_icmp_ge (tgt := 123) hx hb dX6_watchNow_115 (by decide) (fun c_7 => ?_) (fun c_7 => absurd c_6 c_7)
                refine lv_iload_n hx hb dX6_watchNow_123 rfl (lv_at hl 4 rfl) ?_
                refine lv_istore_n (lv' := [(3, .int ((wtM (wtW tm lo n) (rbN tm lo n 0) h).2)), (2, .int ((wtM (wtW tm lo n) (rbN tm lo n 0) h).1)), (6, .int (wtW tm lo n h)), (0, .ref vh), (1, .int (rbN tm lo n 0)), (4, .int (nI h)), (5, .int (wtW tm lo n h))]) hx hb dX6_watchNow_124 rfl hl (by decide) rfl (fun ls hl => ?_)
                refine lv_iinc (v := nI (h + 1)) (lv' := [(4, .int (nI (h + 1))), (3, .int ((wtM (wtW tm lo n) (rbN tm lo n 0) h).2)), (2, .int ((wtM (wtW tm lo n) (rbN tm lo n 0) h).1)), (6, .int (wtW tm lo n h)), (0, .ref vh), (1, .int (rbN tm lo n 0)), (5, .int (wtW tm lo n h))]) hx hb dX6_watchNow_125 hl (k := 5) rfl (nI_1 h) (by decide) rfl (fun ls hl => ?_)
                refine lv_goto (tgt := 14) hx hb dX6_watchNow_128 (by decide) ?_
                exact ih_14 (h + 1) (by first | assumption | omega | rfl | exact Nat.zero_le _ | decide) (Or.inr hal) (by omega) ls (by rw [ew]; exact lv_sub hl [4, 5, 2, 1, 0] rfl)
              · have ew : (wtM (wtW tm lo n) (rbN tm lo n 0) (h + 1)) = (nI h, (if (wtW tm lo n h) ≤ (rbN tm lo n 0) - (wtW tm lo n h) then (rbN tm lo n 0) - (wtW tm lo n h) else (wtW tm lo n h))) := if_neg (by rw [ewo]; exact c_6)
                rw [ewo] at ew
                refine lv_iload hx hb dX6_watchNow_105 (lv_at hl 5 rfl) ?_
                refine lv_goto (tgt := 111) hx hb dX6_watchNow_107 (by decide) ?_
                refine lv_istore_n (lv' := [(2, .int (nI h)), (6, .int (wtW tm lo n h)), (0, .ref vh), (1, .int (rbN tm lo n 0)), (3, .int ((wtM (wtW tm lo n) (rbN tm lo n 0) h).2)), (4, .int (nI h)), (5, .int (wtW tm lo n h))]) hx hb dX6_watchNow_111 rfl hl (by decide) rfl (fun ls hl => ?_)
                refine lv_iload hx hb dX6_watchNow_112 (lv_at hl 1 rfl) ?_
                refine lv_iload_n hx hb dX6_watchNow_114 rfl (lv_at hl 4 rfl) ?_
                refine lv_icmp_ge (tgt := 123) hx hb dX6_watchNow_115 (by decide) (fun c_8 => absurd c_8 c_6) (fun c_8 => ?_)
                refine lv_iload hx hb dX6_watchNow_118 (lv_at hl 1 rfl) ?_
                refine lv_goto (tgt := 124) hx hb dX6_watchNow_120 (by decide) ?_
                refine lv_istore_n (lv' := [(3, .int (wtW tm lo n h)), (2, .int (nI h)), (6, .int (wtW tm lo n h)), (0, .ref vh), (1, .int (rbN tm lo n 0)), (4, .int (nI h)), (5, .int (wtW tm lo n h))]) hx hb dX6_watchNow_124 rfl hl (by decide) rfl (fun ls hl => ?_)
                refine lv_iinc (v := nI (h + 1)) (lv' := [(4, .int (nI (h + 1))), (3, .int (wtW tm lo n h)), (2, .int (nI h)), (6, .int (wtW tm lo n h)), (0, .ref vh), (1, .int (rbN tm lo n 0)), (5, .int (wtW tm lo n h))]) hx hb dX6_watchNow_125 hl (k := 5) rfl (nI_1 h) (by decide) rfl (fun ls hl => ?_)
                refine lv_goto (tgt := 14) hx hb dX6_watchNow_128 (by decide) ?_
                exact ih_14 (h + 1) (by first | assumption | omega | rfl | exact Nat.zero_le _ | decide) (Or.inr hal) (by omega) ls (by rw [ew]; exact lv_sub hl [4, 5, 2, 1, 0] rfl)
          · have hlt2 : i < 2 ^ n := Nat.lt_of_not_le fun z => c_1 ((nI_leI (by omega) (by omega)).mpr z)
            refine lv_iload hx hb dX6_watchNow_44 (lv_at hl 6 rfl) ?_
            refine lv_iload hx hb dX6_watchNow_46 (lv_at hl 5 rfl) ?_
            refine lv_iload hx hb dX6_watchNow_48 (lv_at hl 4 rfl) ?_
            refine rcSi (As := [.int (nI i), .int (nI h)]) (rest := [.int (nI (cntN (inP tm lo n h) i))]) ⟨hx, hb, hml, hown, hts⟩ (c_X6_isIn l D cB cC cI (nI i) (nI h)) (va_cwS 2 hts gX6_watchNow_X6_isIn rfl rfl rfl (by decide +kernel) ⟨Nat.le_of_ble_eq_true rfl, Nat.le_of_ble_eq_true rfl⟩) hK hP [] rfl rfl hl.1 rfl (Nat.le_of_ble_eq_true rfl) dX6_watchNow_50 ⟨Nat.zero_le _, Nat.zero_le _⟩ ?_
            refine lv_if_eq (tgt := 69) hx hb dX6_watchNow_53 (by decide) (fun c_9 => ?_) (fun c_9 => ?_)
            · have er : nI (cntN (inP tm lo n h) (i + 1)) = nI (cntN (inP tm lo n h) i) + 0 := by rw [Int32.add_zero, show cntN (inP tm lo n h) (i + 1) = cntN (inP tm lo n h) i from if_neg (by simp [inP, c_9])]
              refine lv_iconst (v := 0) hx hb dX6_watchNow_69 (by decide) ?_
              refine lv_iadd hx hb dX6_watchNow_70 ?_
              refine lv_istore (lv' := [(5, .int ((nI (cntN (inP tm lo n h) i)) + 0)), (0, .ref vh), (1, .int (rbN tm lo n 0)), (2, .int ((wtM (wtW tm lo n) (rbN tm lo n 0) h).1)), (3, .int ((wtM (wtW tm lo n) (rbN tm lo n 0) h).2)), (4, .int (nI h)), (6, .int (nI i))]) hx hb dX6_watchNow_71 hl (by decide) rfl (fun ls hl => ?_)
              refine lv_iinc (v := nI (i + 1)) (lv' := [(6, .int (nI (i + 1))), (5, .int ((nI (cntN (inP tm lo n h) i)) + 0)), (0, .ref vh), (1, .int (rbN tm lo n 0)), (2, .int ((wtM (wtW tm lo n) (rbN tm lo n 0) h).1)), (3, .int ((wtM (wtW tm lo n) (rbN tm lo n 0) h).2)), (4, .int (nI h))]) hx hb dX6_watchNow_73 hl (k := 6) rfl (nI_1 i) (by decide) rfl (fun ls hl => ?_)
              refine lv_goto (tgt := 33) hx hb dX6_watchNow_76 (by decide) ?_
              exact ih_33 (i + 1) (by first | assumption | omega | rfl | exact Nat.zero_le _ | decide) (by first | assumption | omega | rfl | exact Nat.zero_le _ | decide) (by first | assumption | omega | rfl | exact Nat.zero_le _ | decide) (by omega) ls (by rw [er]; exact lv_sub hl [2, 3, 4, 5, 6, 0, 1] rfl)
            · have g1 := c_9
              refine lv_aload_n hx hb dX6_watchNow_56 rfl (lv_at hl 0 rfl) ?_
              refine lv_iload hx hb dX6_watchNow_57 (lv_at hl 5 rfl) ?_
              refine rcVi (As := [.int (nI i)]) (rest := [.int (nI (cntN (inP tm lo n h) i))]) ⟨hx, hb, hml, hown, hts⟩ (c_X6_isRubbed l D cB cC cI vh v0 v1 v2 v3 v4 v5 v6 v7 v8 v9 v10 kd st co gt pd de us tm lt sv ke mm n tl ho sl hd lo ak k isw nw sn ek em eh es ed el hs i (by first | assumption | omega | decide)) (cwV 1 hts gX6_watchNow_X6_isRubbed rfl rfl rfl (by decide +kernel) ⟨Nat.le_of_ble_eq_true rfl, Nat.le_of_ble_eq_true rfl⟩) hK hP [0, 1, 2, 3, 4, 5, 6, 7, 8, 9, 10, 11] rfl rfl 0 rfl rfl hl.1 rfl (Nat.le_of_ble_eq_true rfl) dX6_watchNow_59 ⟨Nat.zero_le _, Nat.zero_le _⟩ ?_
              refine lv_if_eq (tgt := 69) hx hb dX6_watchNow_62 (by decide) (fun c_10 => ?_) (fun c_10 => ?_)
              · have er : nI (cntN (inP tm lo n h) (i + 1)) = nI (cntN (inP tm lo n h) i) + 0 := by rw [Int32.add_zero, show cntN (inP tm lo n h) (i + 1) = cntN (inP tm lo n h) i from if_neg (by simp [inP, b2_0.mp c_10])]
                refine lv_iconst (v := 0) hx hb dX6_watchNow_69 (by decide) ?_
                refine lv_iadd hx hb dX6_watchNow_70 ?_
                refine lv_istore (lv' := [(5, .int ((nI (cntN (inP tm lo n h) i)) + 0)), (0, .ref vh), (1, .int (rbN tm lo n 0)), (2, .int ((wtM (wtW tm lo n) (rbN tm lo n 0) h).1)), (3, .int ((wtM (wtW tm lo n) (rbN tm lo n 0) h).2)), (4, .int (nI h)), (6, .int (nI i))]) hx hb dX6_watchNow_71 hl (by decide) rfl (fun ls hl => ?_)
                refine lv_iinc (v := nI (i + 1)) (lv' := [(6, .int (nI (i + 1))), (5, .int ((nI (cntN (inP tm lo n h) i)) + 0)), (0, .ref vh), (1, .int (rbN tm lo n 0)), (2, .int ((wtM (wtW tm lo n) (rbN tm lo n 0) h).1)), (3, .int ((wtM (wtW tm lo n) (rbN tm lo n 0) h).2)), (4, .int (nI h))]) hx hb dX6_watchNow_73 hl (k := 6) rfl (nI_1 i) (by decide) rfl (fun ls hl => ?_)
                refine lv_goto (tgt := 33) hx hb dX6_watchNow_76 (by decide) ?_
                exact ih_33 (i + 1) (by first | assumption | omega | rfl | exact Nat.zero_le _ | decide) (by first | assumption | omega | rfl | exact Nat.zero_le _ | decide) (by first | assumption | omega | rfl | exact Nat.zero_le _ | decide) (by omega) ls (by rw [er]; exact lv_sub hl [2, 3, 4, 5, 6, 0, 1] rfl)
              · have hbb : EX tm lo n i = true := by rcases Bool.eq_false_or_eq_true (EX tm lo n i) with h9 | h9; exact h9; exact absurd (b2_0.mpr h9) c_10
                have er : nI (cntN (inP tm lo n h) (i + 1)) = nI (cntN (inP tm lo n h) i) + 1 := by rw [show cntN (inP tm lo n h) (i + 1) = cntN (inP tm lo n h) i + 1 from if_pos (by simp [inP, g1, hbb]), ← nI_1]
                refine lv_iconst (v := 1) hx hb dX6_watchNow_65 (by decide) ?_
                refine lv_goto (tgt := 70) hx hb dX6_watchNow_66 (by decide) ?_
                refine lv_iadd hx hb dX6_watchNow_70 ?_
                refine lv_istore (lv' := [(5, .int ((nI (cntN (inP tm lo n h) i)) + 1)), (0, .ref vh), (1, .int (rbN tm lo n 0)), (2, .int ((wtM (wtW tm lo n) (rbN tm lo n 0) h).1)), (3, .int ((wtM (wtW tm lo n) (rbN tm lo n 0) h).2)), (4, .int (nI h)), (6, .int (nI i))]) hx hb dX6_watchNow_71 hl (by decide) rfl (fun ls hl => ?_)
                refine lv_iinc (v := nI (i + 1)) (lv' := [(6, .int (nI (i + 1))), (5, .int ((nI (cntN (inP tm lo n h) i)) + 1)), (0, .ref vh), (1, .int (rbN tm lo n 0)), (2, .int ((wtM (wtW tm lo n) (rbN tm lo n 0) h).1)), (3, .int ((wtM (wtW tm lo n) (rbN tm lo n 0) h).2)), (4, .int (nI h))]) hx hb dX6_watchNow_73 hl (k := 6) rfl (nI_1 i) (by decide) rfl (fun ls hl => ?_)
                refine lv_goto (tgt := 33) hx hb dX6_watchNow_76 (by decide) ?_
                exact ih_33 (i + 1) (by first | assumption | omega | rfl | exact Nat.zero_le _ | decide) (by first | assumption | omega | rfl | exact Nat.zero_le _ | decide) (by first | assumption | omega | rfl | exact Nat.zero_le _ | decide) (by omega) ls (by rw [er]; exact lv_sub hl [2, 3, 4, 5, 6, 0, 1] rfl)
      refine lv_iload hx hb dX6_watchNow_14 (lv_at hl 4 rfl) ?_
      refine lv_aload_n hx hb dX6_watchNow_16 rfl (lv_at hl 0 rfl) ?_
      refine va_get (D := D) (ci := 6) (v := .int (nI n)) (C := RX6) (T := TX6) (N := 30) hx hb hts iwX6 hown hK.1 hP 0 rfl rfl 1 (by decide) fk73 (fun _ h9 => h9) rfl dX6_watchNow_17 ?_
      refine lv_icmp_ge (tgt := 131) hx hb dX6_watchNow_20 (by decide) (fun c_11 => ?_) (fun c_11 => ?_)
      · have hge : n ≤ h := (nI_leI (by omega) (by omega)).mp c_11
        have ef : wtN tm lo n = (wtM (wtW tm lo n) (rbN tm lo n 0) h).1 := by
          unfold wtN
          by_cases z : (rbN tm lo n 0) ≤ 0
          · rcases hz0 with e9 | e9
            · rw [if_pos z, e9]; rfl
            · exact absurd z e9
          · rw [if_neg z, show h = n from by omega]
        refine lv_iload_n hx hb dX6_watchNow_131 rfl (lv_at hl 2 rfl) ?_
        exact retRi hx hb hr hlocks (ef.symm) dX6_watchNow_132
      · have hlt : h < n := Nat.lt_of_not_le fun z => c_11 ((nI_leI (by omega) (by omega)).mpr z)
        refine lv_iload_n hx hb dX6_watchNow_23 rfl (lv_at hl 1 rfl) ?_
        refine lv_if_le (tgt := 131) hx hb dX6_watchNow_24 (by decide) (fun c_12 => ?_) (fun c_12 => ?_)
        · have ef : wtN tm lo n = (wtM (wtW tm lo n) (rbN tm lo n 0) h).1 := by
            rcases hz0 with e9 | e9
            · rw [e9]; exact if_pos c_12
            · exact absurd c_12 e9
          refine lv_iload_n hx hb dX6_watchNow_131 rfl (lv_at hl 2 rfl) ?_
          exact retRi hx hb hr hlocks (ef.symm) dX6_watchNow_132
        · have hal := c_12
          refine lv_iconst (v := 0) hx hb dX6_watchNow_27 (by decide) ?_
          refine lv_istore (lv' := [(5, .int 0), (0, .ref vh), (1, .int (rbN tm lo n 0)), (2, .int ((wtM (wtW tm lo n) (rbN tm lo n 0) h).1)), (3, .int ((wtM (wtW tm lo n) (rbN tm lo n 0) h).2)), (4, .int (nI h))]) hx hb dX6_watchNow_28 hl (by decide) rfl (fun ls hl => ?_)
          refine lv_iconst (v := 0) hx hb dX6_watchNow_30 (by decide) ?_
          refine lv_istore (lv' := [(6, .int 0), (5, .int 0), (0, .ref vh), (1, .int (rbN tm lo n 0)), (2, .int ((wtM (wtW tm lo n) (rbN tm lo n 0) h).1)), (3, .int ((wtM (wtW tm lo n) (rbN tm lo n 0) h).2)), (4, .int (nI h))]) hx hb dX6_watchNow_31 hl (by decide) rfl (fun ls hl => ?_)
          exact cut_33 ((2 ^ n - 0) + 1) 0 (by first | assumption | omega | rfl | exact Nat.zero_le _ | decide) (by first | assumption | omega | rfl | exact Nat.zero_le _ | decide) (by first | assumption | omega | rfl | exact Nat.zero_le _ | decide) (Nat.lt_succ_self _) ls (lv_sub hl [2, 3, 4, 5, 6, 0, 1] rfl)
  have hl : lv_has ls 7 [(0, .ref vh)] := hl
  refine lv_aload_n hx hb dX6_watchNow_0 rfl (lv_at hl 0 rfl) ?_
  refine lv_iconst (v := 0) hx hb dX6_watchNow_1 (by decide) ?_
  refine rcVi (As := [.int 0]) (rest := []) ⟨hx, hb, hml, hown, hts⟩ (c_X6_rubbedNow l D cB cC cI vh v0 v1 v2 v3 v4 v5 v6 v7 v8 v9 v10 kd st co gt pd de us tm lt sv ke mm n tl ho sl hd lo ak k isw nw sn ek em eh es ed el hs 0 (by first | assumption | omega | decide)) (cwV 1 hts gX6_watchNow_X6_rubbedNow rfl rfl rfl (by decide +kernel) ⟨Nat.le_of_ble_eq_true rfl, Nat.le_of_ble_eq_true rfl⟩) hK hP [0, 1, 2, 3, 4, 5, 6, 7, 8, 9, 10, 11] rfl rfl 0 rfl rfl hl.1 rfl (Nat.le_of_ble_eq_true rfl) dX6_watchNow_2 ⟨Nat.zero_le _, Nat.zero_le _⟩ ?_
  refine lv_istore_n (lv' := [(1, .int (rbN tm lo n 0)), (0, .ref vh)]) hx hb dX6_watchNow_5 rfl hl (by decide) rfl (fun ls hl => ?_)
  refine lv_iconst (v := (-1)) hx hb dX6_watchNow_6 (by decide) ?_
  refine lv_istore_n (lv' := [(2, .int (-1)), (1, .int (rbN tm lo n 0)), (0, .ref vh)]) hx hb dX6_watchNow_7 rfl hl (by decide) rfl (fun ls hl => ?_)
  refine lv_ldc (v := 268435456) hx hb hown (hts (.constant RX6 116 (268435456)) (by decide +kernel)) dX6_watchNow_8 ?_
  refine lv_istore_n (lv' := [(3, .int 268435456), (2, .int (-1)), (1, .int (rbN tm lo n 0)), (0, .ref vh)]) hx hb dX6_watchNow_10 rfl hl (by decide) rfl (fun ls hl => ?_)
  refine lv_iconst (v := 0) hx hb dX6_watchNow_11 (by decide) ?_
  refine lv_istore (lv' := [(4, .int 0), (3, .int 268435456), (2, .int (-1)), (1, .int (rbN tm lo n 0)), (0, .ref vh)]) hx hb dX6_watchNow_12 hl (by decide) rfl (fun ls hl => ?_)
  exact cut_14 ((n - 0) + 1) 0 (by first | assumption | omega | rfl | exact Nat.zero_le _ | decide) (Or.inl rfl) (Nat.lt_succ_self _) ls (lv_sub hl [4, 3, 2, 1, 0] rfl)
def f_X6_watch (tm : Nat → Int32) (n : Nat) (lo : Int32) : Int32 := if (nI n) = 0 then (-103) else wtN tm lo n
set_option maxHeartbeats 4000000 in
set_option maxRecDepth 100000 in
theorem c_X6_watch (l : Launch) (D : va_G) (cB cC cI : ClassId) (vh : Nat) (v0 : Nat) (v1 : Nat) (v2 : Nat) (v3 : Nat) (v4 : Nat) (v5 : Nat) (v6 : Nat) (v7 : Nat) (v8 : Nat) (v9 : Nat) (v10 : Nat) (kd : Nat → Int32) (st : Nat → Int32) (co : Nat → Int32) (gt : Nat → Int32) (pd : Nat → Int32) (de : Nat → Int32) (us : Nat → Int32) (tm : Nat → Int32) (lt : Nat → Int32) (sv : Nat → Int32) (ke : Nat → Int32) (mm : Int32) (n : Nat) (tl : Int32) (ho : Int32) (sl : Int32) (hd : Int32) (lo : Int32) (ak : Int32) (k : Nat) (isw : Int32) (nw : Int32) (sn : Int64) (ek : Int32) (em : Int32) (eh : Int32) (es : Int32) (ed : Int32) (el : Int32) (hs : Int64) (hn : n ≤ 4) : Met l yX6_watch wsX6_watch ({ frames := 4, cells := 0, slots := 0, locals := 96 }) (gPr D cB cC cI [.ref vh] [(vh, .inr (6, [.int mm, .int (nI n), .int tl, .int ho, .ref v0, .ref v1, .ref v2, .ref v3, .ref v4, .ref v5, .ref v6, .int sl, .int hd, .ref v7, .int lo, .int ak, .int (nI k), .ref v8, .int isw, .int nw, .ref v9, .long sn, .int ek, .int em, .int eh, .int es, .int ed, .int el, .ref v10, .long hs])), (v0, .inl (cI, 4, .inl kd)), (v1, .inl (cI, 4, .inl st)), (v2, .inl (cI, 4, .inl co)), (v3, .inl (cI, 4, .inl gt)), (v4, .inl (cI, 4, .inl pd)), (v5, .inl (cI, 4, .inl de)), (v6, .inl (cI, 4, .inl us)), (v7, .inl (cI, 4, .inl tm)), (v8, .inl (cB, 18, .inl lt)), (v9, .inl (cI, 4, .inl sv)), (v10, .inl (cI, 24, .inl ke))]) (vp_Si (fun r => r = (f_X6_watch tm n lo))) 0 0 (fun _ => False) := by
  refine metR (cc := cX6_watch) (maxL := 1) (ret := (some .int)) RX6 rfl (by decide) rfl (Nat.le_of_ble_eq_true rfl) ?_
  intro p e s m below meth c hx hb hr hml hown hts hlocks hP hK ls hl
  have iwX6 : ∀ w ∈ wsX60, w ∈ wsX6_watch := by decide +kernel
  have fk73 := hts (.fieldLink RX6 73 "BuyersWeightsModel" "houses" "I") (by decide +kernel)
  have hl : lv_has ls 1 [(0, .ref vh)] := hl
  refine lv_aload_n hx hb dX6_watch_0 rfl (lv_at hl 0 rfl) ?_
  refine va_get (D := D) (ci := 6) (v := .int (nI n)) (C := RX6) (T := TX6) (N := 30) hx hb hts iwX6 hown hK.1 hP 0 rfl rfl 1 (by decide) fk73 (fun _ h9 => h9) rfl dX6_watch_1 ?_
  refine lv_if_ne (tgt := 12) hx hb dX6_watch_4 (by decide) (fun c_1 => ?_) (fun c_1 => ?_)
  · refine lv_aload_n hx hb dX6_watch_12 rfl (lv_at hl 0 rfl) ?_
    refine rcVi (As := []) (rest := []) ⟨hx, hb, hml, hown, hts⟩ (c_X6_watchNow l D cB cC cI vh v0 v1 v2 v3 v4 v5 v6 v7 v8 v9 v10 kd st co gt pd de us tm lt sv ke mm n tl ho sl hd lo ak k isw nw sn ek em eh es ed el hs (by first | assumption | omega | decide)) (cwV 0 hts gX6_watch_X6_watchNow rfl rfl rfl (by decide +kernel) ⟨Nat.le_of_ble_eq_true rfl, Nat.le_of_ble_eq_true rfl⟩) hK hP [0, 1, 2, 3, 4, 5, 6, 7, 8, 9, 10, 11] rfl rfl 0 rfl rfl hl.1 rfl (Nat.le_of_ble_eq_true rfl) dX6_watch_13 ⟨Nat.zero_le _, Nat.zero_le _⟩ ?_
    have eG : f_X6_watch tm n lo = wtN tm lo n := if_neg c_1
    exact retRi hx hb hr hlocks eG.symm dX6_watch_16
  · refine lv_bipush (v := (-103)) hx hb dX6_watch_7 (by decide) ?_
    refine lv_goto (tgt := 16) hx hb dX6_watch_9 (by decide) ?_
    have eG : f_X6_watch tm n lo = (-103) := if_pos c_1
    exact retRi hx hb hr hlocks eG.symm dX6_watch_16
