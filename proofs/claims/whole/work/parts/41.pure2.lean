/-! ===== rubbed, watch, markets, digest: the same numbers ===== -/
theorem rubL_congr {tm tn : Nat → Int32} {n : Nat} (h : ∀ j, j < n → tm j = tn j) (sb : Int32) : ∀ m, m ≤ n → rubL tm sb m = rubL tn sb m
  | 0, _ => rfl
  | m + 1, hm => by
    unfold rubL
    rw [rubL_congr h sb m (by omega), h m (by omega)]
theorem EX_congr {tm tn : Nat → Int32} {n : Nat} (h : ∀ j, j < n → tm j = tn j) (lo : Int32) : EX tm lo n = EX tn lo n := by
  funext q
  unfold EX
  rw [rubL_congr h (nI q) n (Nat.le_refl n)]
theorem CPm_0 (tm : Nat → Int32) (lo : Int32) (n : Nat) : CPm tm lo n 0 = EX tm lo n := by
  funext i
  unfold CPm
  rw [show decide (nI i &&& 0 = 0) = true from decide_eq_true (by rw [Int32.and_zero])]
  rfl
theorem cntR_eq (p : Nat → Bool) (N : Nat) : ∀ f, f ≤ N → cntN p (N - f) + cntR p N f = cntN p N
  | 0, _ => rfl
  | f + 1, h => by
    have ih := cntR_eq p N f (by omega)
    rw [show N - f = (N - (f + 1)) + 1 from by omega] at ih
    have e1 : cntN p (N - (f + 1) + 1) = if p (N - (f + 1)) = true then cntN p (N - (f + 1)) + 1 else cntN p (N - (f + 1)) := rfl
    have e2 : cntR p N (f + 1) = if p (N - (f + 1)) = true then cntR p N f + 1 else cntR p N f := rfl
    rw [e1] at ih
    rw [e2]
    by_cases hp : p (N - (f + 1)) = true
    · rw [if_pos hp] at ih ⊢
      omega
    · rw [if_neg hp] at ih ⊢
      omega
theorem cntR_all (p : Nat → Bool) (N : Nat) : cntR p N N = cntN p N := by
  have := cntR_eq p N N (Nat.le_refl N)
  rw [Nat.sub_self] at this
  rw [← this]
  show _ = 0 + _
  omega
theorem leR_eq (p : Nat → Bool) (N : Nat) : ∀ f, f ≤ N → leR p N f = leastL p f (N - f)
  | 0, _ => rfl
  | f + 1, h => by
    unfold leR leastL
    rw [leR_eq p N f (by omega), show N - f = N - (f + 1) + 1 from by omega]
theorem leR_all (p : Nat → Bool) (N : Nat) : leR p N N = leastL p N 0 := by
  rw [leR_eq p N N (Nat.le_refl N), Nat.sub_self]
theorem cnt0 {p : Nat → Bool} : ∀ {N : Nat}, cntN p N = 0 → ∀ j, j < N → ¬ p j = true
  | 0, _, j, h => absurd h (Nat.not_lt_zero j)
  | N + 1, h, j, hj => by
    unfold cntN at h
    by_cases hp : p N = true
    · rw [if_pos hp] at h; omega
    · rw [if_neg hp] at h
      by_cases e : j = N
      · subst e; exact hp
      · exact cnt0 h j (by omega)
theorem least_none {p : Nat → Bool} : ∀ (f j : Nat), (∀ i, j ≤ i → i < j + f → ¬ p i = true) → leastL p f j = -1
  | 0, _, _ => rfl
  | f + 1, j, h => by
    unfold leastL
    rw [if_neg (h j (Nat.le_refl j) (by omega))]
    exact least_none f (j + 1) (fun i h1 h2 => h i (by omega) (by omega))
theorem andU_none {p : Nat → Bool} : ∀ N, (∀ i, i < N → ¬ p i = true) → andU p N = -1
  | 0, _ => rfl
  | N + 1, h => by
    unfold andU
    rw [if_neg (h N (by omega))]
    exact andU_none N (fun i hi => h i (by omega))
/-- ascending below, descending above: together always the same -/
theorem and_mix (p : Nat → Bool) (N : Nat) (mk : Int32) : ∀ f, f ≤ N → andU p (N - f) &&& andR p N mk f = andU p N &&& mk
  | 0, _ => rfl
  | f + 1, h => by
    have ih := and_mix p N mk f (by omega)
    rw [show N - f = (N - (f + 1)) + 1 from by omega] at ih
    rw [← ih]
    rw [show andR p N mk (f + 1) = if p (N - (f + 1)) = true then andR p N mk f &&& nI (N - (f + 1)) else andR p N mk f from rfl]
    rw [show andU p (N - (f + 1) + 1) = if p (N - (f + 1)) = true then andU p (N - (f + 1)) &&& nI (N - (f + 1)) else andU p (N - (f + 1)) from rfl]
    by_cases hp : p (N - (f + 1)) = true
    · rw [if_pos hp, if_pos hp, Int32.and_assoc, Int32.and_comm (nI (N - (f + 1)))]
    · rw [if_neg hp, if_neg hp]
theorem andU_in (mk : Int32) {p : Nat → Bool} : ∀ (N : Nat), (∀ i, i < N → nI i &&& mk = nI i) → (∃ j, j < N ∧ p j = true) → andU p N &&& mk = andU p N
  | 0, _, h => by obtain ⟨j, hj, -⟩ := h; omega
  | N + 1, hm, h => by
    unfold andU
    by_cases hp : p N = true
    · rw [if_pos hp, Int32.and_assoc, hm N (by omega)]
    · rw [if_neg hp]
      refine andU_in mk N (fun i hi => hm i (by omega)) ?_
      obtain ⟨j, hj, hj2⟩ := h
      refine ⟨j, ?_, hj2⟩
      rcases Nat.lt_or_ge j N with q | q
      · exact q
      · exact absurd (by rw [show N = j from by omega]; exact hj2) hp
theorem mask_in : ∀ n, n ≤ 4 → ∀ i, i < 2 ^ n → nI i &&& (nI (2 ^ n) - 1) = nI i := by decide
theorem m1_and (x : Int32) : (-1 : Int32) &&& x = x := Int32.neg_one_and
theorem andR_all {p : Nat → Bool} {n : Nat} (hn : n ≤ 4) (h : ∃ j, j < 2 ^ n ∧ p j = true) : andR p (2 ^ n) (nI (2 ^ n) - 1) (2 ^ n) = andU p (2 ^ n) := by
  have h1 := and_mix p (2 ^ n) (nI (2 ^ n) - 1) (2 ^ n) (Nat.le_refl _)
  rw [Nat.sub_self, andU_in _ _ (mask_in n hn) h] at h1
  rw [← h1]
  exact (m1_and _).symm
theorem cnt_some {p : Nat → Bool} : ∀ {N : Nat}, cntN p N ≠ 0 → ∃ j, j < N ∧ p j = true
  | 0, h => absurd rfl h
  | N + 1, h => by
    by_cases hp : p N = true
    · exact ⟨N, Nat.lt_succ_self N, hp⟩
    · unfold cntN at h
      rw [if_neg hp] at h
      obtain ⟨j, h1, h2⟩ := cnt_some h
      exact ⟨j, by omega, h2⟩
theorem cnt16 {p : Nat → Bool} {n : Nat} (hn : n ≤ 4) : cntN p (2 ^ n) ≤ 16 := Nat.le_trans (cntN_le p _) (pow4 n hn)
theorem rub_eq {tm tn : Nat → Int32} {n : Nat} (hn : n ≤ 4) (h : ∀ j, j < n → tm j = tn j) (lo w : Int32) : f_X5_rubbed n tm lo w = f_X6_rubbed tn n lo w := by
  unfold f_X5_rubbed f_X6_rubbed
  by_cases h1 : w < 0
  · rw [if_pos h1, if_pos (wi_lo h1)]
  rw [if_neg h1]
  by_cases h2 : w ≤ 2
  case neg => rw [if_neg h2, if_pos (wi_hi (Int32.not_le.mp h2))]
  rw [if_pos h2, if_neg (show ¬ f_X6_within w 0 2 = 0 by rw [wi_in h1 (Int32.not_lt.mpr h2)]; exact one_ne)]
  by_cases h3 : nI n = 0
  · rw [if_pos h3, if_pos ((open_w hn).mpr h3)]
  rw [if_neg h3, if_neg (fun z => h3 ((open_w hn).mp z))]
  unfold rbN
  rw [← EX_congr h lo, cntR_all, leR_all]
  by_cases e0 : w = 0
  · rw [if_pos e0, if_pos e0, hms, CPm_0]
  rw [if_neg e0, if_neg e0]
  by_cases hz : cntN (EX tm lo n) (2 ^ n) = 0
  · rw [hz, if_pos (show nI 0 = 0 from rfl)]
    have ha := cnt0 hz
    rw [least_none (2 ^ n) 0 (fun i _ hi => ha i (by omega)), andU_none (2 ^ n) ha]
    split <;> rfl
  · rw [if_neg (nI_ne0 (Nat.pos_of_ne_zero hz) (by have := cnt16 (p := EX tm lo n) hn; omega)), andR_all hn (cnt_some hz)]
/-! watch -/
theorem bit_in : ∀ j, j < 16 → ∀ h, h < 4 → (decide (nI j &&& ((1 : Int32) <<< (nI h &&& 31)) = (1 : Int32) <<< (nI h &&& 31))) = decide (¬ f_X6_isIn (nI j) (nI h) = 0) := by decide +kernel
theorem cntN_congr {p q : Nat → Bool} : ∀ {N : Nat}, (∀ j, j < N → p j = q j) → cntN p N = cntN q N
  | 0, _ => rfl
  | N + 1, h => by
    unfold cntN
    rw [cntN_congr (fun j hj => h j (by omega)), h N (by omega)]
theorem wtW_eq {tm tn : Nat → Int32} {n : Nat} (hn : n ≤ 4) (h : ∀ j, j < n → tm j = tn j) (lo : Int32) {i : Nat} (hi : i < 4) : hmsW tm lo n i = wtW tn lo n i := by
  unfold hmsW hms wtW
  rw [cntN_congr (q := inP tn lo n i) (fun j hj => ?_)]
  unfold CPm inP
  rw [bit_in j (by have := pow4 n hn; omega) i hi, EX_congr h lo]
theorem cnt_sub {p q : Nat → Bool} (h : ∀ j, p j = true → q j = true) : ∀ N, cntN p N ≤ cntN q N
  | 0 => Nat.le_refl 0
  | N + 1 => by
    have ih := cnt_sub h N
    unfold cntN
    by_cases hp : p N = true
    · rw [if_pos hp, if_pos (h N hp)]; omega
    · rw [if_neg hp]; split <;> omega
theorem left_eq (W al : Int32) : (if W < al - W then al - W else W) = if W ≤ al - W then al - W else W := by
  by_cases h1 : W < al - W
  · rw [if_pos h1, if_pos (Int32.le_of_lt h1)]
  · rw [if_neg h1]
    by_cases h2 : W ≤ al - W
    · rw [if_pos h2]
      exact Int32.le_antisymm h2 (Int32.not_lt.mp h1)
    · rw [if_neg h2]
theorem wat_eq {W V : Nat → Int32} {al : Int32} {a : Nat} (ha : al = nI a) (ha16 : a ≤ 16) (hW : ∀ i, i < 4 → W i = V i) (hV : ∀ i, i < 4 → ∃ v : Nat, v ≤ a ∧ V i = nI v) : ∀ m, m < 4 → watL W al (m + 1) = wtM V al (m + 1)
  | 0, _ => by
    obtain ⟨v, hv, e⟩ := hV 0 (by decide)
    unfold watL wtM
    rw [hW 0 (by decide), left_eq]
    have hl : ∃ u : Nat, u ≤ a ∧ (if V 0 ≤ al - V 0 then al - V 0 else V 0) = nI u := by
      rw [e, ha, pk_sub hv]
      split
      · exact ⟨a - v, by omega, rfl⟩
      · exact ⟨v, hv, rfl⟩
    obtain ⟨u, hu, eu⟩ := hl
    rw [eu]
    rw [if_neg (show ¬ (watL W al 0).2 ≤ nI u from ?_), if_neg (show ¬ (wtM V al 0).2 ≤ nI u from ?_)]
    · show ¬ nI 268435456 ≤ nI u
      exact nI_ge (by omega) (by decide)
    · show ¬ al + 1 ≤ nI u
      rw [ha, nI_1]
      exact nI_ge (by omega) (by omega)
  | m + 1, h => by
    have ih := wat_eq ha ha16 hW hV m (by omega)
    rw [show watL W al (m + 1 + 1) = if (watL W al (m + 1)).2 ≤ (if W (m + 1) < al - W (m + 1) then al - W (m + 1) else W (m + 1)) then watL W al (m + 1) else (nI (m + 1), (if W (m + 1) < al - W (m + 1) then al - W (m + 1) else W (m + 1))) from rfl]
    rw [show wtM V al (m + 1 + 1) = if (wtM V al (m + 1)).2 ≤ (if V (m + 1) ≤ al - V (m + 1) then al - V (m + 1) else V (m + 1)) then wtM V al (m + 1) else (nI (m + 1), (if V (m + 1) ≤ al - V (m + 1) then al - V (m + 1) else V (m + 1))) from rfl]
    rw [ih, hW (m + 1) h, left_eq]
theorem watch_eq {tm tn : Nat → Int32} {n : Nat} (hn : n ≤ 4) (h : ∀ j, j < n → tm j = tn j) (lo : Int32) : f_X5_watch n tm lo = f_X6_watch tn n lo := by
  unfold f_X5_watch f_X6_watch
  by_cases h3 : nI n = 0
  · rw [if_pos h3, if_pos ((open_w hn).mpr h3)]
  rw [if_neg h3, if_neg (fun z => h3 ((open_w hn).mp z))]
  have hn0 : 0 < n := Nat.pos_of_ne_zero (fun z => h3 (by rw [z]; rfl))
  have eA : hms tm lo n 0 = rbN tn lo n 0 := by
    unfold rbN
    rw [if_pos rfl, hms, CPm_0, cntR_all, EX_congr h lo]
  have eB : rbN tn lo n 0 = nI (cntN (EX tn lo n) (2 ^ n)) := by
    unfold rbN
    rw [if_pos rfl, cntR_all]
  have h16 := cnt16 (p := EX tn lo n) hn
  unfold watR wtN
  rw [eA]
  by_cases hz : cntN (EX tn lo n) (2 ^ n) = 0
  · rw [eB, hz, if_pos (show nI 0 = 0 from rfl), if_pos (show nI 0 ≤ 0 by decide)]
  · rw [if_neg (show ¬ rbN tn lo n 0 = 0 by rw [eB]; exact nI_ne0 (Nat.pos_of_ne_zero hz) (by omega)), if_neg (show ¬ rbN tn lo n 0 ≤ 0 by rw [eB]; exact nI_nle (Nat.pos_of_ne_zero hz) (by omega))]
    obtain ⟨m, rfl⟩ : ∃ m, n = m + 1 := ⟨n - 1, by omega⟩
    rw [wat_eq (V := wtW tn lo (m + 1)) eB h16 (fun i hi => wtW_eq hn h lo hi) (fun i hi => ?_) m (by omega)]
    refine ⟨_, cnt_sub (fun j hj => ?_) _, rfl⟩
    unfold inP at hj
    exact (Bool.and_eq_true _ _ ▸ hj).2
/-! markets -/
theorem ds_eq {st kd : Nat → Int32} {n h : Nat} {tl : Int32} (z : Nat) : ∀ i, h + i < 2 ^ 31 → dsL st kd n tl (nI h) z i = dsM st kd n tl (nI h) z i
  | 0, _ => rfl
  | i + 1, hi => by
    have ih := ds_eq (st := st) (kd := kd) (n := n) (h := h) (tl := tl) z i (by omega)
    unfold dsL dsM f_X0_drawSale
    rw [ih, nI_add, oz_eq (by omega), wear_eq]
theorem mkts_eq {kd st sv ds : Nat → Int32} {n h : Nat} {tl sd og : Int32} {sn : Int64} (hn : n ≤ 4) (hh : h + 60 < 2 ^ 31) (a b w : Int32) : (f_X5_markets kd st n tl (nI h) ds sd og a b w).1 = (f_X6_markets kd st sv n tl (nI h) sn a b w).1 := by
  unfold f_X5_markets f_X6_markets
  by_cases h1 : a < 1
  · rw [if_pos h1, if_pos (wi_lo h1)]
  rw [if_neg h1]
  by_cases h2 : 60 < a
  · rw [if_pos h2, if_pos (wi_hi h2)]
  rw [if_neg h2, if_neg (show ¬ f_X6_within a 1 60 = 0 by rw [wi_in h1 h2]; exact one_ne)]
  by_cases h3 : b < 0
  · rw [if_pos h3, if_pos h3]
  rw [if_neg h3, if_neg h3]
  by_cases h4 : w < 0
  · rw [if_pos h4, if_pos (wi_lo h4)]
  rw [if_neg h4]
  by_cases h5 : w ≤ 2
  case neg => rw [if_neg h5, if_pos (wi_hi (Int32.not_le.mp h5))]
  rw [if_pos h5, if_neg (show ¬ f_X6_within w 0 2 = 0 by rw [wi_in h4 (Int32.not_lt.mpr h5)]; exact one_ne)]
  by_cases h6 : nI n = 0
  · rw [if_pos h6, if_pos ((open_w hn).mpr h6)]
  rw [if_neg h6, if_neg (fun z => h6 ((open_w hn).mp z))]
  have g2 := rng_nI (N := 60) (i1_pos h1) (by have := Int32.le_iff_toInt_le.mp (Int32.not_lt.mp h2); simpa using this)
  unfold mkN
  rw [ds_eq _ _ (by omega), lN_i]
  by_cases e0 : w = 0
  · rw [if_pos e0, if_pos e0]
  rw [if_neg e0, if_neg e0]
  by_cases e1 : w = 1
  · rw [if_pos e1, if_pos e1]
  rw [if_neg e1, if_neg e1]
/-! digest -/
theorem foldS_congr {f g : Nat → Int64} : ∀ {k : Nat} (h : Int64), (∀ i, i < k → f i = g i) → foldS f k h = foldS g k h
  | 0, _, _ => rfl
  | k + 1, h, e => by
    unfold foldS
    rw [foldS_congr h (fun i hi => e i (by omega)), e k (by omega)]
theorem ab_eq {kd st co gt pd de us : Nat → Int32} {n : Nat} (hn : n ≤ 4) {j : Nat} (hj : j < n) {i : Nat} (hi : i < 7) : abG kd st co gt pd de us n j i = mhG kd st co gt pd de us j i := by
  unfold abG mhG
  rw [about_eq hn]
  unfold f_X6_about
  have hx : ix (nI j) (nI j).toNatClampNeg n := ix_var (vp_in_nI hj (by omega))
  rw [← has_w hn, if_neg (by rw [has_no hn hx]; exact one_ne), if_neg (show ¬ f_X6_within (nI i) 0 6 = 0 by rw [wi_in (nI_pos (by omega)) (show ¬ (6 : Int32) < nI i from nI_nlt (b := i) (a := 6) (by omega) (by decide))]; exact one_ne), nI_clamp (by omega)]
  rfl
theorem fa_eq {kd st co : Nat → Int32} {n h0 : Nat} {tl : Int32} (hn : n ≤ 4) (hh : h0 < 2 ^ 31) {j : Nat} (hj : j < n) (h : Int64) : ∀ i, i ≤ n → faG kd st co n tl (nI h0) j h i = mfG kd st co n tl (nI h0) j h i
  | 0, _ => rfl
  | i + 1, hi => by
    have ih := fa_eq (kd := kd) (st := st) (co := co) (tl := tl) hn hh hj h i (by omega)
    unfold faG mfG
    rw [ih]
    by_cases e : nI i = nI j
    · rw [if_pos e, if_pos e.symm]
    · rw [if_neg e, if_neg (Ne.symm e)]
      have hx : ix (nI j) (nI j).toNatClampNeg n := ix_var (vp_in_nI hj (by omega))
      have hy : ix (nI i) (nI i).toNatClampNeg n := ix_var (vp_in_nI (show i < n by omega) (by omega))
      rw [fair_eq hn hh]
      unfold f_X6_fair
      rw [← has_w hn, ← has_w hn, if_neg (by rw [has_no hn hx]; exact one_ne), if_neg (by rw [has_no hn hy]; exact one_ne), if_neg (Ne.symm e), nI_clamp (by omega), nI_clamp (by omega)]
theorem dg_L {kd st co gt pd de us : Nat → Int32} {n h0 : Nat} {tl : Int32} (hn : n ≤ 4) (hh : h0 < 2 ^ 31) : ∀ j, j ≤ n → dgL kd st co gt pd de us n tl (nI h0) j = mdL kd st co gt pd de us n tl (nI h0) j
  | 0, _ => rfl
  | j + 1, hj => by
    have ih := dg_L (kd := kd) (st := st) (co := co) (gt := gt) (pd := pd) (de := de) (us := us) (tl := tl) hn hh j (by omega)
    unfold dgL mdL fhF
    rw [ih, fa_eq hn hh (by omega) _ n (Nat.le_refl n), foldS_congr _ (fun i hi => ab_eq hn (by omega) hi)]
theorem digest_eq {kd st co gt pd de us tm tn lt : Nat → Int32} {n h0 k : Nat} {tl sl hd lo mr pn : Int32} (hn : n ≤ 4) (hh : h0 < 2 ^ 31) (h : ∀ j, j < n → tm j = tn j) : digF kd st co gt pd de us n tl (nI h0) sl tm hd lo lt k mr pn = digM kd st co gt pd de us tn lt mr n tl (nI h0) sl hd lo pn k := by
  unfold digF digM
  have eC : ∀ i, i < 12 → ctG st gt pd n tl (nI h0) sl hd lo k mr pn i = mcG kd st co gt pd de us mr n tl (nI h0) sl hd lo pn k i := fun i _ => by
    unfold ctG mcG
    rw [count_eq mr pn kd st co gt pd de us]
  rw [foldS_congr _ eC, dg_L hn hh n (Nat.le_refl n)]
  congr 2
  by_cases h3 : nI n = 0
  · rw [if_pos ((open_w hn).mpr h3), if_pos (by rw [h3]; decide)]
  · have hn0 : 0 < n := Nat.pos_of_ne_zero (fun z => h3 (by rw [z]; rfl))
    rw [if_neg (fun z => h3 ((open_w hn).mp z)), if_neg (nI_nle hn0 (by omega))]
    unfold flF
    rw [watch_eq hn h lo, show f_X6_watch tn n lo = wtN tn lo n from if_neg h3]
    have eR : ∀ i, i < 3 → rbG n tm lo i = mrG tn lo n i := fun i hi => by
      unfold rbG mrG
      rw [rub_eq hn h lo]
      unfold f_X6_rubbed
      rw [if_neg (show ¬ f_X6_within (nI i) 0 2 = 0 by rw [wi_in (nI_pos (by omega)) (show ¬ (2 : Int32) < nI i from nI_nlt (b := i) (a := 2) (by omega) (by decide))]; exact one_ne), if_neg h3]
    rw [foldS_congr _ eR]
