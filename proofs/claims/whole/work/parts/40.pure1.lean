/-! ===== class and reference answer alike: plain facts, call by call ===== -/
theorem wi_lo {x a b : Int32} (h : x < a) : f_X6_within x a b = 0 := if_pos h
theorem wi_hi {x a b : Int32} (h : b < x) : f_X6_within x a b = 0 := by
  by_cases h1 : x < a
  · exact if_pos h1
  · exact (if_neg h1).trans (if_pos h)
theorem wi_in {x a b : Int32} (h1 : ¬ x < a) (h2 : ¬ b < x) : f_X6_within x a b = 1 := (if_neg h1).trans (if_neg h2)
theorem one_ne : ¬ (1 : Int32) = 0 := by decide
theorem nI_m1 {n : Nat} (hn : n ≤ 4) (b : Int32) : nI n ≤ b ↔ nI n - 1 < b := by
  rw [Int32.le_iff_toInt_le, Int32.lt_iff_toInt_lt, show (1 : Int32) = nI 1 from rfl, pk_sub_toInt (by omega) (by decide), nI_toInt (by omega)]
  omega
theorem has_w {n : Nat} (hn : n ≤ 4) (b : Int32) : f_X2_has n b = f_X6_within b 0 (nI n - 1) := by
  by_cases h1 : b < 0
  · rw [show f_X2_has n b = 0 from if_pos h1, wi_lo h1]
  · by_cases h2 : nI n ≤ b
    · rw [show f_X2_has n b = 0 from (if_neg h1).trans (if_pos h2), wi_hi ((nI_m1 hn b).mp h2)]
    · rw [show f_X2_has n b = 1 from (if_neg h1).trans (if_neg h2), wi_in h1 (fun z => h2 ((nI_m1 hn b).mpr z))]
theorem open_w {n : Nat} (hn : n ≤ 4) : f_X2_isOpen n = 0 ↔ nI n = 0 := by
  rcases Nat.eq_zero_or_pos n with rfl | h0
  · decide
  · have h1 : f_X2_isOpen n = 1 := if_neg (nI_nle h0 (by omega))
    constructor
    · intro z; rw [h1] at z; exact absurd z (by decide)
    · intro z; exact absurd z (nI_ne0 h0 (by omega))
theorem about_eq {kd st co gt pd de us : Nat → Int32} {n : Nat} (hn : n ≤ 4) (b w : Int32) : f_X5_about kd st co gt pd de us n b w = f_X6_about kd st co gt pd de us n b w := by
  unfold f_X5_about f_X6_about
  rw [has_w hn]
  by_cases h1 : f_X6_within b 0 (nI n - 1) = 0
  · rw [if_pos h1, if_pos h1]
  · rw [if_neg h1, if_neg h1]
    by_cases h2 : w < 0
    · rw [if_pos h2, if_pos (wi_lo h2)]
    · rw [if_neg h2]
      by_cases h3 : w ≤ 6
      · rw [if_pos h3, if_neg (by rw [wi_in h2 (Int32.not_lt.mpr h3)]; exact one_ne)]
        rfl
      · rw [if_neg h3, if_pos (wi_hi (Int32.not_le.mp h3))]
theorem lt5 (w : Int32) : w < 5 ↔ ¬ 4 < w := by
  rw [Int32.lt_iff_toInt_lt, Int32.lt_iff_toInt_lt, show (5 : Int32).toInt = 5 from by decide, show (4 : Int32).toInt = 4 from by decide]
  omega
theorem as_eq {kd : Nat → Int32} {n : Nat} (hn : n ≤ 4) (b w : Int32) : f_X5_as kd n b w = f_X6_as kd n b w := by
  unfold f_X5_as f_X6_as
  rw [has_w hn]
  by_cases h1 : f_X6_within b 0 (nI n - 1) = 0
  · rw [if_pos h1, if_pos h1]
  · rw [if_neg h1, if_neg h1]
    by_cases h2 : w < 0
    · rw [if_pos h2, if_pos (wi_lo h2)]
    · rw [if_neg h2]
      by_cases h3 : w < 5
      · rw [if_pos h3, if_neg (show ¬ f_X6_within w 0 4 = 0 by rw [wi_in h2 ((lt5 w).mp h3)]; exact one_ne)]
        unfold f_X5_isOfKind
        by_cases e0 : w = 0
        · rw [if_pos e0, if_neg one_ne, if_pos e0]
        · rw [if_neg e0, if_neg e0]
          by_cases e1 : kd b.toNatClampNeg = w
          · rw [if_pos e1, if_neg one_ne, if_pos e1]
          · rw [if_neg e1, if_neg e1]
            by_cases e2 : kd b.toNatClampNeg = 4
            · rw [if_pos e2, if_pos e2]
              by_cases e3 : w = 1
              · rw [if_pos e3, if_neg one_ne, if_pos e3]
              · rw [if_neg e3, if_pos rfl, if_neg e3]
            · rw [if_neg e2, if_pos rfl, if_neg e2]
              split <;> rfl
      · rw [if_neg h3, if_pos (wi_hi (Decidable.not_not.mp (fun z => h3 ((lt5 w).mpr z))))]
theorem mx0 (v : Int32) : (if v < 0 then 0 else v) = if 0 ≤ v then v else 0 := by
  by_cases h : v < 0
  · rw [if_pos h, if_neg (Int32.not_le.mpr h)]
  · rw [if_neg h, if_pos (Int32.not_lt.mp h)]
theorem par_n {h : Nat} (hh : h < 2 ^ 31) : nI h - nI h / 2 * 2 = nI (h % 2) := pk_rem (d := 2) hh (by decide) (by decide)
theorem oz_eq {kd st : Nat → Int32} {tl : Int32} {j jt h : Nat} (hh : h < 2 ^ 31) : f_X2_ounces kd tl (st jt) j (nI h) = f_X6_ounces kd st tl j jt (nI h) := by
  unfold f_X2_ounces f_X6_ounces
  rw [par_n hh, Int32.add_zero, Int32.add_zero, ← Int32.sub_eq_add_neg]
  rcases (show h % 2 = 0 ∨ h % 2 = 1 by omega) with e | e
  · rw [e, if_pos (show nI 0 = 0 from rfl), if_neg (show ¬ nI 0 = 1 by decide), mx0, mx0]
  · rw [e, if_neg (show ¬ nI 1 = 0 by decide), if_pos (show nI 1 = 1 from rfl), mx0, mx0]
theorem mx1 {st : Nat → Int32} {t : Nat} (v : Int32) : upd st t (if v < 1 then 1 else v) = if 1 ≤ v then upd st t v else upd st t 1 := by
  by_cases h : v < 1
  · rw [if_pos h, if_neg (Int32.not_le.mpr h)]
  · rw [if_neg h, if_pos (Int32.not_lt.mp h)]
theorem sub2 (w : Int32) : (w - 1) - 2 = w - 3 := by rw [Int32.sub_eq_add_neg, Int32.sub_eq_add_neg, Int32.sub_eq_add_neg, Int32.add_assoc]; rfl
theorem sub1 (w : Int32) : (w - 1) - 1 = w - 2 := by rw [Int32.sub_eq_add_neg, Int32.sub_eq_add_neg, Int32.sub_eq_add_neg, Int32.add_assoc]; rfl
theorem sub0 (w : Int32) : w - 0 = w := Int32.sub_zero w
theorem wear_eq (kd st : Nat → Int32) (d t : Nat) : upd st t (f_X2_weightAfter kd (st t) t d) = f_X6_wear kd st d t := by
  unfold f_X2_weightAfter f_X6_wear
  simp only [sub2, sub1, sub0]
  by_cases h1 : kd t = 2
  · simp only [if_pos h1]
    by_cases h2 : kd d = 1
    · rw [if_pos h2, if_neg (by rw [h2]; decide), if_pos h2, mx1]
    · rw [if_neg h2, if_neg h2]
      by_cases h3 : kd d = 4
      · rw [if_pos h3, if_pos h3, mx1]
      · rw [if_neg h3, if_neg h3, mx1]
  · simp only [if_neg h1]
    by_cases h2 : kd d = 1
    · rw [if_pos h2, if_neg (by rw [h2]; decide), if_pos h2, mx1]
    · rw [if_neg h2, if_neg h2]
      by_cases h3 : kd d = 4
      · rw [if_pos h3, if_pos h3, mx1]
      · rw [if_neg h3, if_neg h3, mx1]
/-- a sale may be: the class's two tests, the reference's one -/
theorem sale_eq {α : Type} {n : Nat} (hn : n ≤ 4) (b d t : Int32) (x y : α) : (if f_X5_canTrade n b d = 0 then x else if f_X2_has n t = 0 then x else y) = if f_X6_isSale n b d t = 0 then x else y := by
  unfold f_X5_canTrade f_X6_isSale
  rw [has_w hn, has_w hn, has_w hn]
  by_cases h1 : f_X6_within b 0 (nI n - 1) = 0
  · simp only [if_pos h1, if_true]
  · by_cases h2 : f_X6_within d 0 (nI n - 1) = 0
    · simp only [if_neg h1, if_pos h2, if_true]
    · by_cases h3 : b = d
      · simp only [if_neg h1, if_neg h2, if_pos h3, if_true]
        by_cases h4 : f_X6_within t 0 (nI n - 1) = 0
        · simp only [if_pos h4, if_true]
        · simp only [if_neg h4, if_true]
      · by_cases h4 : f_X6_within t 0 (nI n - 1) = 0
        · simp only [if_neg h1, if_neg h2, if_neg h3, if_pos h4, if_neg one_ne, if_true]
        · simp only [if_neg h1, if_neg h2, if_neg h3, if_neg h4, if_neg one_ne]
theorem measure_eq {kd st : Nat → Int32} {n h : Nat} {tl : Int32} (hn : n ≤ 4) (hh : h < 2 ^ 31) (b d t : Int32) : f_X5_measure kd st n tl (nI h) b d t = f_X6_measure kd st n tl (nI h) b d t := by
  unfold f_X5_measure f_X6_measure
  rw [sale_eq hn, oz_eq hh]
theorem lt100 {a N : Nat} (ha : a ≤ N) (hN : N < 2 ^ 31) : nI a < nI N ↔ ¬ nI a = nI N := by
  rw [nI_ltI (by omega) hN, nI_eq (by omega) hN]
  omega
theorem l100 {a : Nat} (ha : a ≤ 100) : nI a < 100 ↔ ¬ nI a = 100 := lt100 (N := 100) ha (by decide)
theorem l18 {a : Nat} (ha : a ≤ 18) : nI a < 18 ↔ ¬ nI a = 18 := lt100 (N := 18) ha (by decide)
theorem l8 {a : Nat} (ha : a ≤ 8) : nI a < 8 ↔ ¬ nI a = 8 := lt100 (N := 8) ha (by decide)
theorem l40 {a : Nat} (ha : a ≤ 40) : nI a < 40 ↔ ¬ nI a = 40 := lt100 (N := 40) ha (by decide)
theorem buy_eq {kd st co gt pd de us : Nat → Int32} {n h a : Nat} {tl : Int32} (hn : n ≤ 4) (hh : h < 2 ^ 31) (ha : a ≤ 100) (b d t : Int32) : f_X5_buy kd st co gt pd de us n tl (nI h) (nI a) b d t = f_X6_buy kd st co gt pd de us n tl (nI h) (nI a) b d t := by
  unfold f_X5_buy f_X6_buy
  rw [sale_eq hn, oz_eq hh, wear_eq]
  by_cases h1 : f_X6_isSale n b d t = 0
  · rw [if_pos h1, if_pos h1]
  · rw [if_neg h1, if_neg h1]
    by_cases h2 : nI a = 100
    · rw [if_pos h2, if_neg (fun z => (l100 ha).mp z h2)]
    · rw [if_neg h2, if_pos ((l100 ha).mpr h2)]
theorem hour_eq {n : Nat} (hn : n ≤ 4) (ho : Int32) : f_X5_hour n ho = f_X6_hour n ho := by
  unfold f_X5_hour f_X6_hour
  by_cases h1 : nI n = 0
  · rw [if_pos h1, if_pos ((open_w hn).mpr h1)]
  · rw [if_neg h1, if_neg (fun z => h1 ((open_w hn).mp z))]
theorem lose_eq (lo b : Int32) : f_X5_lose lo b = f_X6_lose lo b := by
  unfold f_X5_lose f_X6_lose
  by_cases h1 : b < 0
  · rw [if_pos h1, if_pos (wi_lo h1)]
  · rw [if_neg h1]
    by_cases h2 : b ≤ 20
    · rw [if_pos h2, if_neg (by rw [wi_in h1 (Int32.not_lt.mpr h2)]; exact one_ne)]
    · rw [if_neg h2, if_pos (wi_hi (Int32.not_le.mp h2))]
/-- pass: refused alike, or a hand more on both sides -/
theorem pass_ok {tm tn : Nat → Int32} {n a : Nat} (hn : n ≤ 4) (ha : a ≤ 8) (b : Int32) : (∃ r, f_X5_pass n tm (nI a) b = (r, nI a, tm) ∧ f_X6_pass tn n (nI a) b = (r, nI a, tn)) ∨
    (a < 8 ∧ ix b b.toNatClampNeg n ∧ f_X5_pass n tm (nI a) b = (nI (a + 1), nI (a + 1), upd tm b.toNatClampNeg (tm b.toNatClampNeg + 1)) ∧ f_X6_pass tn n (nI a) b = (nI (a + 1), nI (a + 1), upd tn b.toNatClampNeg (tn b.toNatClampNeg + 1))) := by
  unfold f_X5_pass f_X6_pass
  rw [has_w hn]
  by_cases h1 : f_X6_within b 0 (nI n - 1) = 0
  · exact Or.inl ⟨-101, if_pos h1, if_pos h1⟩
  · rw [if_neg h1, if_neg h1]
    by_cases h2 : nI a = 8
    · exact Or.inl ⟨-104, if_neg (fun z => (l8 ha).mp z h2), if_pos h2⟩
    · have h3 := (l8 ha).mpr h2
      rw [if_pos h3, if_neg h2, nI_1]
      exact Or.inr ⟨(nI_ltI (b := 8) (by omega) (by decide)).mp h3, isH_ix hn h1, rfl, rfl⟩
theorem pass_rel {tm tn : Nat → Int32} {n : Nat} (h : ∀ j, j < n → tm j = tn j) (b : Nat) : ∀ j, j < n → upd tm b (tm b + 1) j = upd tn b (tn b + 1) j := by
  intro j hj
  by_cases e : j = b
  · subst e; rw [pk_us, pk_us, h j hj]
  · rw [pk_un e, pk_un e, h j hj]
/-- the letters are plain signs -/
def rng (lt : Nat → Int32) : Prop := ∀ j, ∃ c : Nat, c < 128 ∧ lt j = nI c
theorem rng_upd {lt : Nat → Int32} (h : rng lt) (k : Nat) {c : Nat} (hc : c < 128) : rng (upd lt k (nI c)) := by
  intro j
  by_cases e : j = k
  · subst e; exact ⟨c, hc, pk_us⟩
  · obtain ⟨d, h1, h2⟩ := h j
    exact ⟨d, h1, (pk_un e).trans h2⟩
theorem nar_ch : ∀ c, c < 128 → vp_nar .char (((nI c).toUInt32 % 65536).toInt32) = nI c := by decide +kernel
theorem nar_by : ∀ c, c < 128 → vp_nar .byte ((nI c).toInt8.toInt32) = nI c := by decide +kernel
theorem letter_ok {lt : Nat → Int32} {k : Nat} (hk : k ≤ 18) (hl : rng lt) (b : Int32) : ∃ (r : Int32) (k2 : Nat) (l2 : Nat → Int32), k2 ≤ 18 ∧ rng l2 ∧ f_X5_letter lt k b = (r, nI k2, l2) ∧ f_X6_letter lt k b = (r, nI k2, l2) := by
  unfold f_X5_letter f_X6_letter
  by_cases h1 : b < 32
  · exact ⟨-102, k, lt, hk, hl, if_pos h1, if_pos (wi_lo h1)⟩
  by_cases h2 : b ≤ 126
  case neg => exact ⟨-102, k, lt, hk, hl, (if_neg h1).trans (if_neg h2), if_pos (wi_hi (Int32.not_le.mp h2))⟩
  have hw : ¬ f_X6_within b 32 126 = 0 := by rw [wi_in h1 (Int32.not_lt.mpr h2)]; exact one_ne
  rw [if_neg h1, if_pos h2, if_neg hw]
  by_cases h3 : nI k = 18
  · exact ⟨-104, k, lt, hk, hl, if_neg (fun z => (l18 hk).mp z h3), if_pos h3⟩
  have h4 := (l18 hk).mpr h3
  have hkl : k < 18 := (nI_ltI (b := 18) (by omega) (by decide)).mp h4
  have hb0 : ¬ b < 0 := fun z => h1 (Int32.lt_trans z (by decide))
  obtain ⟨c, hc, rfl⟩ := nI_of hb0
  have hc2 : c ≤ 126 := (nI_leI (b := 126) hc (by decide)).mp h2
  rw [if_pos h4, if_neg h3, nar_ch c (by omega), nar_by c (by omega)]
  exact ⟨_, k + 1, _, by omega, rng_upd hl k (by omega), rfl, rfl⟩
theorem hn3 (kd st co gt pd de us : Nat → Int32) : hnG kd st co gt pd de us 3 = gt := by
  funext j
  show f_X6_houseNow kd st co gt pd de us j 3 = gt j
  unfold f_X6_houseNow
  rw [if_neg (show ¬ (3 : Int32) = 0 by decide), if_neg (show ¬ (3 : Int32) = 1 by decide), if_neg (show ¬ (3 : Int32) = 2 by decide), if_pos rfl]
theorem hn4 (kd st co gt pd de us : Nat → Int32) : hnG kd st co gt pd de us 4 = pd := by
  funext j
  show f_X6_houseNow kd st co gt pd de us j 4 = pd j
  unfold f_X6_houseNow
  rw [if_neg (show ¬ (4 : Int32) = 0 by decide), if_neg (show ¬ (4 : Int32) = 1 by decide), if_neg (show ¬ (4 : Int32) = 2 by decide), if_neg (show ¬ (4 : Int32) = 3 by decide), if_pos rfl]
theorem count_eq (mr pn : Int32) (kd st co gt pd de us : Nat → Int32) (n : Nat) (tl ho sl hd lo : Int32) (k : Nat) (w : Int32) : f_X5_count mr pn st gt pd n tl ho sl hd lo k w = f_X6_howMany kd st co gt pd de us mr n tl ho sl hd lo pn k w := by
  unfold f_X5_count f_X6_howMany
  rw [hn3, hn4]
theorem fair_all {co : Nat → Int32} {oz : Int32} {jd : Nat} {d b : Int32} {n : Nat} (hd : ∀ i, nI i = d → i < n → i = jd) : ∀ m, m ≤ n → allB (fairP co oz jd d b) m = allB (fairQ co oz jd b) m
  | 0, _ => rfl
  | m + 1, h => by
    unfold allB
    rw [fair_all hd m (by omega)]
    congr 1
    unfold fairP fairQ
    by_cases e : nI m = d
    · have e2 := hd m e (by omega)
      subst e2
      have : decide (oz * co m ≤ oz * co m) = true := decide_eq_true (Int32.le_refl _)
      rw [this]
      simp
    · rw [decide_eq_false e]
      simp
theorem fair_fun {kd st co : Nat → Int32} {n h : Nat} {tl : Int32} (hn : n ≤ 4) (hh : h < 2 ^ 31) {d b : Int32} (hd : ix d d.toNatClampNeg n) : allB (fairP co (f_X2_ounces kd tl (st b.toNatClampNeg) b.toNatClampNeg (nI h)) d.toNatClampNeg d b) n = allB (fairQ co (f_X6_ounces kd st tl b.toNatClampNeg b.toNatClampNeg (nI h)) d.toNatClampNeg b) n := by
  rw [oz_eq hh]
  refine fair_all (fun i e hi => ?_) n (Nat.le_refl n)
  rw [← e, nI_clamp (by omega)]
theorem b2_id (x : Bool) : (if b2 x = 0 then 0 else 1) = b2 x := by cases x <;> decide
theorem fair_eq {kd st co : Nat → Int32} {n h : Nat} {tl : Int32} (hn : n ≤ 4) (hh : h < 2 ^ 31) (d b : Int32) : f_X5_fair kd st co n tl (nI h) d b = f_X6_fair kd st co n tl (nI h) d b := by
  unfold f_X5_fair f_X6_fair f_X5_canTrade
  rw [has_w hn, has_w hn, b2_id]
  by_cases h1 : f_X6_within b 0 (nI n - 1) = 0
  · simp only [if_pos h1, if_true]
    by_cases h2 : f_X6_within d 0 (nI n - 1) = 0
    · simp only [if_pos h2]
    · simp only [if_neg h2]
  · by_cases h2 : f_X6_within d 0 (nI n - 1) = 0
    · simp only [if_neg h1, if_pos h2, if_true]
    · by_cases h3 : b = d
      · simp only [if_neg h1, if_neg h2, if_pos h3, if_pos h3.symm, if_true]
      · simp only [if_neg h1, if_neg h2, if_neg h3, if_neg (Ne.symm h3), if_neg one_ne]
        rw [fair_fun hn hh (isH_ix hn h2)]
