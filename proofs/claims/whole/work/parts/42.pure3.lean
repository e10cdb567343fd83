/-! ===== reading a page: letter by letter, and house by house ===== -/
def isB (x u w : Int32) : Int32 := if x < u then 0 else if w < x then 0 else 1
theorem ki_eq : ∀ c, c < 128 → f_J1_indexOf_4cfef (nI c) = f_X6_kindBy (nI c) := by decide +kernel
theorem ki_lt : ∀ c, c < 128 → (decide (f_J1_indexOf_4cfef (nI c) < 0) = decide (f_X6_kindBy (nI c) = -1)) := by decide +kernel
theorem bt09 : ∀ c, c < 128 → (decide (isB (nI c) 48 57 = 0) = decide (f_X6_within (nI c - 48) 0 9 = 0)) := by decide +kernel
theorem bt19 : ∀ c, c < 128 → (decide (isB (nI c) 49 57 = 0) = decide (f_X6_within (nI c - 48) 1 9 = 0)) := by decide +kernel
theorem bt03 : ∀ c, c < 128 → (decide (isB (nI c) 48 51 = 0) = decide (f_X6_within (nI c - 48) 0 3 = 0)) := by decide +kernel
theorem k59 : f_X6_kindBy 59 = -1 := by decide +kernel
theorem w59 : f_X6_within (59 - 48) 0 9 = 0 := by decide +kernel
theorem w59b : f_X6_within (59 - 48) 1 9 = 0 := by decide +kernel
theorem w59c : f_X6_within (59 - 48) 0 3 = 0 := by decide +kernel
theorem dec_iff {p q : Prop} [Decidable p] [Decidable q] (h : decide p = decide q) : p ↔ q := by
  by_cases hp : p
  · rw [decide_eq_true hp] at h; exact ⟨fun _ => of_decide_eq_true h.symm, fun _ => hp⟩
  · rw [decide_eq_false hp] at h; exact ⟨fun z => absurd z hp, fun z => absurd z (of_decide_eq_false h.symm)⟩
theorem ff_step {lt : Nat → Int32} {k q : Nat} (h : q < k) (sc : Int32) : ffL lt (k - q) q sc = if ffS lt q sc = 0 then nI q else ffL lt (k - (q + 1)) (q + 1) (if lt q = 59 then nI q else sc) := by
  rw [show k - q = (k - (q + 1)) + 1 from by omega]
  rfl
theorem ff_end (lt : Nat → Int32) (k : Nat) (sc : Int32) : ffL lt (k - k) k sc = nI k := by rw [Nat.sub_self]; rfl
theorem ffS_n (lt : Nat → Int32) (q : Nat) : ffS lt q (-1) = f_X3_fitsHouses lt q := if_pos rfl
theorem isF_in {lt : Nat → Int32} {k q : Nat} (h : q < k) (hk : k ≤ 18) (a b : Int32) : f_X6_isFigure lt k q a b = 0 ↔ f_X6_within (lt q - 48) a b = 0 := by
  unfold f_X6_isFigure
  rw [if_neg (nI_ge h (by omega))]
  by_cases z : f_X6_within (lt q - 48) a b = 0
  · rw [if_pos z]; exact ⟨fun _ => z, fun _ => rfl⟩
  · rw [if_neg z]; exact ⟨fun e => absurd e one_ne, fun e => absurd e z⟩
theorem isF_out {lt : Nat → Int32} {k q : Nat} (h : k ≤ q) (hq : q < 2 ^ 31) (a b : Int32) : f_X6_isFigure lt k q a b = 0 := if_pos (nI_le h hq)
/-- a kind is due -/
theorem seg0 {lt : Nat → Int32} {k i : Nat} (hk : k ≤ 18) (hl : rng lt) (hq : 4 * i < k) : ffL lt (k - 4 * i) (4 * i) (-1) = if f_X6_kindBy (lt (4 * i)) = -1 then nI (4 * i) else ffL lt (k - (4 * i + 1)) (4 * i + 1) (-1) := by
  obtain ⟨c, hc, e⟩ := hl (4 * i)
  rw [ff_step hq, ffS_n]
  have hf : f_X3_fitsHouses lt (4 * i) = if f_J1_indexOf_4cfef (lt (4 * i)) < 0 then 0 else 1 := by
    unfold f_X3_fitsHouses
    rw [show 4 * i % 4 = 0 from by omega, if_pos (show nI 0 = 0 from rfl)]
  rw [hf]
  have hi := dec_iff (ki_lt c hc)
  by_cases hz : f_X6_kindBy (lt (4 * i)) = -1
  · rw [if_pos (show f_J1_indexOf_4cfef (lt (4 * i)) < 0 by rw [e] at hz ⊢; exact hi.mpr hz), if_pos rfl, if_pos hz]
  · rw [if_neg (show ¬ f_J1_indexOf_4cfef (lt (4 * i)) < 0 by rw [e] at hz ⊢; exact fun z => hz (hi.mp z)), if_neg one_ne, if_neg hz, if_neg (show ¬ lt (4 * i) = 59 from fun z => hz (by rw [z]; exact k59))]
/-- a figure is due -/
theorem seg1 {lt : Nat → Int32} {k i : Nat} (hk : k ≤ 18) (hl : rng lt) (hq : 4 * i + 1 ≤ k) : ffL lt (k - (4 * i + 1)) (4 * i + 1) (-1) = if f_X6_isFigure lt k (4 * i + 1) 0 9 = 0 then nI (4 * i + 1) else ffL lt (k - (4 * i + 2)) (4 * i + 2) (-1) := by
  rcases Nat.lt_or_eq_of_le hq with h | h
  · obtain ⟨c, hc, e⟩ := hl (4 * i + 1)
    rw [ff_step h, ffS_n]
    have hf : f_X3_fitsHouses lt (4 * i + 1) = isB (lt (4 * i + 1)) 48 57 := by
      unfold f_X3_fitsHouses
      rw [show (4 * i + 1) % 4 = 1 from by omega, if_neg (show ¬ nI 1 = 0 by decide), if_pos (show nI 1 = 1 from rfl)]
      rfl
    rw [hf]
    have hi := (dec_iff (bt09 c hc))
    rw [← e] at hi
    by_cases hz : f_X6_isFigure lt k (4 * i + 1) 0 9 = 0
    · rw [if_pos (hi.mpr ((isF_in h hk 0 9).mp hz)), if_pos hz]
    · have hw : ¬ f_X6_within (lt (4 * i + 1) - 48) 0 9 = 0 := fun z => hz ((isF_in h hk 0 9).mpr z)
      rw [if_neg (fun z => hw (hi.mp z)), if_neg hz, if_neg (show ¬ lt (4 * i + 1) = 59 from fun z => hw (by rw [z]; exact w59))]
  · rw [← h, ff_end, if_pos (isF_out (Nat.le_refl _) (by omega) 0 9)]
theorem seg2 {lt : Nat → Int32} {k i : Nat} (hk : k ≤ 18) (hl : rng lt) (hq : 4 * i + 2 ≤ k) : ffL lt (k - (4 * i + 2)) (4 * i + 2) (-1) = if f_X6_isFigure lt k (4 * i + 2) 1 9 = 0 then nI (4 * i + 2) else ffL lt (k - (4 * i + 3)) (4 * i + 3) (-1) := by
  rcases Nat.lt_or_eq_of_le hq with h | h
  · obtain ⟨c, hc, e⟩ := hl (4 * i + 2)
    rw [ff_step h, ffS_n]
    have hf : f_X3_fitsHouses lt (4 * i + 2) = isB (lt (4 * i + 2)) 49 57 := by
      unfold f_X3_fitsHouses
      rw [show (4 * i + 2) % 4 = 2 from by omega, if_neg (show ¬ nI 2 = 0 by decide), if_neg (show ¬ nI 2 = 1 by decide), if_pos (show nI 2 = 2 from rfl)]
      rfl
    rw [hf]
    have hi := (dec_iff (bt19 c hc))
    rw [← e] at hi
    by_cases hz : f_X6_isFigure lt k (4 * i + 2) 1 9 = 0
    · rw [if_pos (hi.mpr ((isF_in h hk 1 9).mp hz)), if_pos hz]
    · have hw : ¬ f_X6_within (lt (4 * i + 2) - 48) 1 9 = 0 := fun z => hz ((isF_in h hk 1 9).mpr z)
      rw [if_neg (fun z => hw (hi.mp z)), if_neg hz, if_neg (show ¬ lt (4 * i + 2) = 59 from fun z => hw (by rw [z]; exact w59b))]
  · rw [← h, ff_end, if_pos (isF_out (Nat.le_refl _) (by omega) 1 9)]
/-- a sign between is due -/
theorem fits3 {lt : Nat → Int32} {i : Nat} : f_X3_fitsHouses lt (4 * i + 3) = if lt (4 * i + 3) = 44 then (if 4 ≤ nI (i + 1) then 0 else 1) else if lt (4 * i + 3) = 59 then (if nI (i + 1) < 2 then 0 else 1) else 0 := by
  unfold f_X3_fitsHouses
  rw [show (4 * i + 3) % 4 = 3 from by omega, show (4 * i + 3) / 4 = i from by omega, if_neg (show ¬ nI 3 = 0 by decide), if_neg (show ¬ nI 3 = 1 by decide), if_neg (show ¬ nI 3 = 2 by decide), nI_1]
theorem tail3 {lt : Nat → Int32} {k p : Nat} (hk : k ≤ 18) (hl : rng lt) (hp : p < k) : ffL lt (k - (p + 1)) (p + 1) (nI p) = if f_X6_isFigure lt k (p + 1) 0 3 = 0 then nI (p + 1) else nI (p + 2) := by
  have hne : ¬ nI p = -1 := fun z => nI_pos (n := p) (by omega) (by rw [z]; decide)
  rcases Nat.lt_or_eq_of_le (show p + 1 ≤ k from hp) with h | h
  · obtain ⟨c, hc, e⟩ := hl (p + 1)
    have hi := (dec_iff (bt03 c hc))
    rw [← e] at hi
    rw [ff_step h]
    by_cases hz : f_X6_isFigure lt k (p + 1) 0 3 = 0
    · have hs : ffS lt (p + 1) (nI p) = 0 := by
        unfold ffS
        rw [if_neg hne, nI_1, if_pos rfl]
        exact if_pos (hi.mpr ((isF_in h hk 0 3).mp hz))
      rw [if_pos hs, if_pos hz]
    · have hw : ¬ f_X6_within (lt (p + 1) - 48) 0 3 = 0 := fun z => hz ((isF_in h hk 0 3).mpr z)
      have hs : ffS lt (p + 1) (nI p) = 1 := by
        unfold ffS
        rw [if_neg hne, nI_1, if_pos rfl]
        exact if_neg (fun z => hw (hi.mp z))
      rw [hs, if_neg one_ne, if_neg hz, if_neg (show ¬ lt (p + 1) = 59 from fun z => hw (by rw [z]; exact w59c))]
      rcases Nat.lt_or_eq_of_le (show p + 2 ≤ k from h) with h2 | h2
      · rw [ff_step h2]
        have hs2 : ffS lt (p + 2) (nI p) = 0 := by
          unfold ffS
          rw [if_neg hne, nI_1, if_neg]
          rw [nI_eq (by omega) (by omega)]
          omega
        rw [if_pos hs2]
      · rw [← h2, ff_end]
  · rw [← h, ff_end, if_pos (isF_out (Nat.le_refl _) (by omega) 0 3)]
theorem readOne_eq {lt : Nat → Int32} {k i : Nat} (hk : k ≤ 18) (hl : rng lt) (hq : 4 * i ≤ k) : ffL lt (k - 4 * i) (4 * i) (-1) = if f_X6_readOne lt k (4 * i) = nI (4 * i) + 3 then ffL lt (k - (4 * i + 3)) (4 * i + 3) (-1) else f_X6_readOne lt k (4 * i) := by
  rw [show nI (4 * i) + 3 = nI (4 * i + 3) from nI_add _ 3]
  have ne : ∀ {a : Nat}, a < 4 * i + 3 → ¬ nI a = nI (4 * i + 3) := fun h z => by
    rw [nI_eq (by omega) (by omega)] at z; omega
  rcases Nat.lt_or_eq_of_le hq with h | h
  · have hnk : ¬ nI (4 * i) = nI k := fun z => by rw [nI_eq (by omega) (by omega)] at z; omega
    rw [seg0 hk hl h]
    by_cases h1 : f_X6_kindBy (lt (4 * i)) = -1
    · rw [if_pos h1, show f_X6_readOne lt k (4 * i) = nI (4 * i) from (if_neg hnk).trans (if_pos h1), if_neg (ne (by omega))]
    rw [if_neg h1, seg1 hk hl (by omega)]
    by_cases h2 : f_X6_isFigure lt k (4 * i + 1) 0 9 = 0
    · rw [if_pos h2, show f_X6_readOne lt k (4 * i) = nI (4 * i + 1) from (if_neg hnk).trans ((if_neg h1).trans (if_pos h2)), if_neg (ne (by omega))]
    have q1 := isF_lt hk (by omega) h2
    rw [if_neg h2, seg2 hk hl (by omega)]
    by_cases h3 : f_X6_isFigure lt k (4 * i + 2) 1 9 = 0
    · rw [if_pos h3, show f_X6_readOne lt k (4 * i) = nI (4 * i + 2) from (if_neg hnk).trans ((if_neg h1).trans ((if_neg h2).trans (if_pos h3))), if_neg (ne (by omega))]
    rw [if_neg h3, if_pos]
    exact ((if_neg hnk).trans ((if_neg h1).trans ((if_neg h2).trans (if_neg h3)))).trans (nI_add _ 3)
  · rw [← h, ff_end, show f_X6_readOne lt (4 * i) (4 * i) = nI (4 * i) from if_pos rfl, if_neg (ne (by omega))]
theorem readOne_coin {lt : Nat → Int32} {k q : Nat} (hk : k ≤ 18) (hq : q ≤ k) (h : f_X6_readOne lt k q = nI q + 3) : ¬ f_X6_isFigure lt k (q + 2) 1 9 = 0 := by
  intro h4
  have hlt := rdOne_lt hk hq h
  rw [show nI q + 3 = nI (q + 3) from nI_add q 3] at h
  by_cases h1 : nI q = nI k
  · rw [show f_X6_readOne lt k q = nI q from if_pos h1, nI_eq (by omega) (by omega)] at h; omega
  by_cases h2 : f_X6_kindBy (lt q) = -1
  · rw [show f_X6_readOne lt k q = nI q from (if_neg h1).trans (if_pos h2), nI_eq (by omega) (by omega)] at h; omega
  by_cases h3 : f_X6_isFigure lt k (q + 1) 0 9 = 0
  · rw [show f_X6_readOne lt k q = nI (q + 1) from (if_neg h1).trans ((if_neg h2).trans (if_pos h3)), nI_eq (by omega) (by omega)] at h; omega
  rw [show f_X6_readOne lt k q = nI (q + 2) from (if_neg h1).trans ((if_neg h2).trans ((if_neg h3).trans (if_pos h4))), nI_eq (by omega) (by omega)] at h; omega
/-- behind a house: what the class does at the sign between -/
theorem seg3 {lt : Nat → Int32} {k i : Nat} (hk : k ≤ 18) (hl : rng lt) (hi : i < 4) (hq : 4 * i + 3 ≤ k) : ffL lt (k - (4 * i + 3)) (4 * i + 3) (-1) =
    if (¬ nI k ≤ nI (4 * i + 3)) ∧ lt (4 * i + 3) = 59 ∧ (¬ nI (i + 1) ≤ 1) then (if f_X6_isFigure lt k (4 * i + 4) 0 3 = 0 then nI (4 * i + 3) + 1 else nI (4 * i + 3) + 2)
    else if nI (4 * i + 3) = nI k ∨ nI (i + 1) = 4 ∨ ¬ lt (4 * i + 3) = 44 then nI (4 * i + 3) else ffL lt (k - 4 * (i + 1)) (4 * (i + 1)) (-1) := by
  rw [show 4 * (i + 1) = 4 * i + 3 + 1 from rfl, nI_1, show nI (4 * i + 3) + 2 = nI (4 * i + 3 + 2) from nI_add _ 2]
  rcases Nat.lt_or_eq_of_le hq with h | h
  · have hnk : ¬ nI k ≤ nI (4 * i + 3) := nI_ge h (by omega)
    have hne : ¬ nI (4 * i + 3) = nI k := fun z => by rw [nI_eq (by omega) (by omega)] at z; omega
    rw [ff_step h, ffS_n, fits3]
    by_cases h44 : lt (4 * i + 3) = 44
    · have h59 : ¬ lt (4 * i + 3) = 59 := by rw [h44]; decide
      rw [if_pos h44, if_neg (show ¬ ((¬ nI k ≤ nI (4 * i + 3)) ∧ lt (4 * i + 3) = 59 ∧ (¬ nI (i + 1) ≤ 1)) from fun z => h59 z.2.1), if_neg h59]
      by_cases h4 : nI (i + 1) = 4
      · rw [if_pos (show (4 : Int32) ≤ nI (i + 1) by rw [h4]; decide), if_pos rfl, if_pos (Or.inr (Or.inl h4))]
      · have hi3 : i + 1 < 4 := by
          rcases Nat.lt_or_ge (i + 1) 4 with q | q
          · exact q
          · exact absurd (by rw [show i + 1 = 4 from by omega]; rfl) h4
        rw [if_neg (show ¬ (4 : Int32) ≤ nI (i + 1) from nI_ge (b := 4) hi3 (by decide)), if_neg one_ne, if_neg (fun z => z.elim hne (fun z => z.elim h4 (fun z => z h44)))]
    · rw [if_neg h44]
      by_cases h59 : lt (4 * i + 3) = 59
      · rw [if_pos h59, if_pos h59]
        by_cases h1 : nI (i + 1) ≤ 1
        · have : i = 0 := by
            have := (nI_leI (b := 1) (by omega) (by decide)).mp h1
            omega
          rw [if_pos (show nI (i + 1) < 2 by rw [this]; decide), if_pos rfl, if_neg (fun z => z.2.2 h1), if_pos (Or.inr (Or.inr h44))]
        · have h2 : ¬ nI (i + 1) < 2 := fun z => h1 (by
            have := (nI_ltI (b := 2) (by omega) (by decide)).mp z
            exact nI_le (b := 1) (by omega) (by decide))
          rw [if_neg h2, if_neg one_ne, if_pos ⟨hnk, h59, h1⟩, tail3 hk hl h]
      · rw [if_neg h59, if_pos rfl, if_neg (show ¬ ((¬ nI k ≤ nI (4 * i + 3)) ∧ lt (4 * i + 3) = 59 ∧ (¬ nI (i + 1) ≤ 1)) from fun z => h59 z.2.1), if_pos (Or.inr (Or.inr h44))]
  · rw [← h, ff_end, if_neg (fun z => z.1 (Int32.le_refl _)), if_pos (Or.inl rfl)]
theorem rd_unf (lt : Nat → Int32) (k f i : Nat) : rdL lt k (f + 1) i = if f_X6_readOne lt k (4 * i) = nI (4 * i) + 3 then
      (if (¬ nI k ≤ nI (4 * i + 3)) ∧ lt (4 * i + 3) = 59 ∧ (¬ nI (i + 1) ≤ 1) then
         (if f_X6_isFigure lt k (4 * i + 4) 0 3 = 0 then (nI (4 * i + 3) + 1, 0, nI (i + 1)) else (nI (4 * i + 3) + 2, (if nI (4 * i + 3) + 2 = nI k then 1 else 0), nI (i + 1)))
       else if nI (4 * i + 3) = nI k ∨ nI (i + 1) = 4 ∨ ¬ lt (4 * i + 3) = 44 then (nI (4 * i + 3), 0, nI (i + 1))
       else rdL lt k f (i + 1))
    else (f_X6_readOne lt k (4 * i), 0, nI i) := rfl
/-- the places agree -/
theorem rd_ff {lt : Nat → Int32} {k : Nat} (hk : k ≤ 18) (hl : rng lt) : ∀ f i, f + 1 + i = 4 → 4 * i ≤ k → ffL lt (k - 4 * i) (4 * i) (-1) = (rdL lt k (f + 1) i).1 := by
  intro f
  induction f with
  | zero =>
    intro i hi hq
    have e3 : i = 3 := by omega
    rw [readOne_eq hk hl hq, rd_unf]
    by_cases h3 : f_X6_readOne lt k (4 * i) = nI (4 * i) + 3
    · have hp := rdOne_lt hk hq h3
      rw [if_pos h3, if_pos h3, seg3 hk hl (by omega) (by omega)]
      split
      · split <;> rfl
      · rw [if_pos (Or.inr (Or.inl (show nI (i + 1) = 4 by rw [e3]; rfl))), if_pos (Or.inr (Or.inl (show nI (i + 1) = 4 by rw [e3]; rfl)))]
    · rw [if_neg h3, if_neg h3]
  | succ f ih =>
    intro i hi hq
    rw [readOne_eq hk hl hq, rd_unf]
    by_cases h3 : f_X6_readOne lt k (4 * i) = nI (4 * i) + 3
    · have hp := rdOne_lt hk hq h3
      rw [if_pos h3, if_pos h3, seg3 hk hl (by omega) (by omega)]
      split
      · split <;> rfl
      · by_cases hor : nI (4 * i + 3) = nI k ∨ nI (i + 1) = 4 ∨ ¬ lt (4 * i + 3) = 44
        · rw [if_pos hor, if_pos hor]
        · rw [if_neg hor, if_neg hor]
          refine ih (i + 1) (by omega) ?_
          rcases Nat.lt_or_ge (4 * i + 3) k with q | q
          · omega
          · exact absurd (Or.inl (by rw [show 4 * i + 3 = k from by omega])) hor
    · rw [if_neg h3, if_neg h3]
theorem fault_eq {lt : Nat → Int32} {k : Nat} (hk : k ≤ 18) (hl : rng lt) : ffL lt k 0 (-1) = (rdL lt k 4 0).1 := rd_ff hk hl 3 0 rfl (Nat.zero_le k)
/-- where the reference finds it whole -/
theorem rd_whole {lt : Nat → Int32} {k : Nat} (hk : k ≤ 18) : ∀ f i, f + i = 4 → 4 * i ≤ k → ¬ (rdL lt k f i).2.1 = 0 → ∃ m, i ≤ m ∧ 1 ≤ m ∧ m < 4 ∧ k = 4 * m + 5 ∧ lt (4 * m + 3) = 59 ∧ (rdL lt k f i).1 = nI k ∧ (rdL lt k f i).2.2 = nI (m + 1) ∧ ∀ j, i ≤ j → j ≤ m → ¬ f_X6_isFigure lt k (4 * j + 2) 1 9 = 0
  | 0, i, hi, hq, h => absurd rfl h
  | f + 1, i, hi, hq, h => by
    rw [rd_unf] at h ⊢
    by_cases h3 : f_X6_readOne lt k (4 * i) = nI (4 * i) + 3
    case neg => rw [if_neg h3] at h; exact absurd rfl h
    have hp := rdOne_lt hk hq h3
    have hco := readOne_coin hk hq h3
    rw [if_pos h3] at h ⊢
    by_cases hA : (¬ nI k ≤ nI (4 * i + 3)) ∧ lt (4 * i + 3) = 59 ∧ (¬ nI (i + 1) ≤ 1)
    · rw [if_pos hA] at h ⊢
      by_cases hF : f_X6_isFigure lt k (4 * i + 4) 0 3 = 0
      · rw [if_pos hF] at h; exact absurd rfl h
      rw [if_neg hF] at h ⊢
      by_cases hE : nI (4 * i + 3) + 2 = nI k
      · have hk5 : k = 4 * i + 5 := by
          rw [show nI (4 * i + 3) + 2 = nI (4 * i + 3 + 2) from nI_add _ 2, nI_eq (by omega) (by omega)] at hE
          omega
        have h1 : 1 ≤ i := by
          rcases Nat.eq_zero_or_pos i with z | z
          · exact absurd (by rw [z]; decide) hA.2.2
          · exact z
        exact ⟨i, Nat.le_refl i, h1, by omega, hk5, hA.2.1, hE, rfl, fun j h1 h2 => by rw [show j = i from by omega]; exact hco⟩
      · rw [if_neg hE] at h; exact absurd rfl h
    · rw [if_neg hA] at h ⊢
      by_cases hor : nI (4 * i + 3) = nI k ∨ nI (i + 1) = 4 ∨ ¬ lt (4 * i + 3) = 44
      · rw [if_pos hor] at h; exact absurd rfl h
      rw [if_neg hor] at h ⊢
      have hlt : 4 * i + 3 < k := by
        rcases Nat.lt_or_ge (4 * i + 3) k with q | q
        · exact q
        · exact absurd (Or.inl (by rw [show 4 * i + 3 = k from by omega])) hor
      obtain ⟨m, g1, g2, g3, g4, g5, g6, g7, g8⟩ := rd_whole hk f (i + 1) (by omega) (by omega) h
      refine ⟨m, by omega, g2, g3, g4, g5, g6, g7, fun j h1 h2 => ?_⟩
      by_cases e : j = i
      · rw [e]; exact hco
      · exact g8 j (by omega) h2
/-- where the class finds it one -/
theorem rd_yes {lt : Nat → Int32} {k m : Nat} (hk : k ≤ 18) (hl : rng lt) (hm : k = 4 * m + 5) (h1 : 1 ≤ m) (h59 : lt (4 * m + 3) = 59) : ∀ f i, f + 1 + i = 4 → i ≤ m → ffL lt (k - 4 * i) (4 * i) (-1) = nI k → ¬ (rdL lt k (f + 1) i).2.1 = 0 := by
  intro f
  induction f with
  | zero =>
    intro i hi him hff
    have e3 : i = 3 := by omega
    have em : m = 3 := by omega
    rw [readOne_eq hk hl (by omega)] at hff
    by_cases h3 : f_X6_readOne lt k (4 * i) = nI (4 * i) + 3
    case neg =>
      rw [if_neg h3] at hff
      have hne : ∀ {a : Nat}, a < k → ¬ nI a = nI k := fun q z => by rw [nI_eq (by omega) (by omega)] at z; omega
      exfalso
      unfold f_X6_readOne at hff h3
      split at hff
      · exact hne (by omega) hff
      · split at hff
        · exact hne (by omega) hff
        · split at hff
          · exact hne (by omega) hff
          · split at hff
            · exact hne (by omega) hff
            · rename_i a1 a2 a3 a4
              rw [if_neg a1, if_neg a2, if_neg a3, if_neg a4] at h3
              exact h3 rfl
    rw [if_pos h3, seg3 hk hl (by omega) (by omega)] at hff
    have hA : (¬ nI k ≤ nI (4 * i + 3)) ∧ lt (4 * i + 3) = 59 ∧ (¬ nI (i + 1) ≤ 1) := ⟨nI_ge (by omega) (by omega), by rw [show i = m from by omega]; exact h59, by rw [e3]; decide⟩
    rw [if_pos hA] at hff
    rw [rd_unf, if_pos h3, if_pos hA]
    by_cases hF : f_X6_isFigure lt k (4 * i + 4) 0 3 = 0
    · rw [if_pos hF, nI_1, nI_eq (by omega) (by omega)] at hff; omega
    · rw [if_neg hF] at hff ⊢
      show ¬ (if nI (4 * i + 3) + 2 = nI k then (1 : Int32) else 0) = 0
      rw [if_pos hff]; exact one_ne
  | succ f ih =>
    intro i hi him hff
    rw [readOne_eq hk hl (by omega)] at hff
    by_cases h3 : f_X6_readOne lt k (4 * i) = nI (4 * i) + 3
    case neg =>
      rw [if_neg h3] at hff
      have hne : ∀ {a : Nat}, a < k → ¬ nI a = nI k := fun q z => by rw [nI_eq (by omega) (by omega)] at z; omega
      exfalso
      unfold f_X6_readOne at hff h3
      split at hff
      · exact hne (by omega) hff
      · split at hff
        · exact hne (by omega) hff
        · split at hff
          · exact hne (by omega) hff
          · split at hff
            · exact hne (by omega) hff
            · rename_i a1 a2 a3 a4
              rw [if_neg a1, if_neg a2, if_neg a3, if_neg a4] at h3
              exact h3 rfl
    rw [if_pos h3, seg3 hk hl (by omega) (by omega)] at hff
    rw [rd_unf, if_pos h3]
    by_cases hA : (¬ nI k ≤ nI (4 * i + 3)) ∧ lt (4 * i + 3) = 59 ∧ (¬ nI (i + 1) ≤ 1)
    · rw [if_pos hA] at hff ⊢
      by_cases hF : f_X6_isFigure lt k (4 * i + 4) 0 3 = 0
      · rw [if_pos hF, nI_1, nI_eq (by omega) (by omega)] at hff; omega
      · rw [if_neg hF] at hff ⊢
        show ¬ (if nI (4 * i + 3) + 2 = nI k then (1 : Int32) else 0) = 0
        rw [if_pos hff]; exact one_ne
    · rw [if_neg hA] at hff ⊢
      by_cases hor : nI (4 * i + 3) = nI k ∨ nI (i + 1) = 4 ∨ ¬ lt (4 * i + 3) = 44
      · rw [if_pos hor, nI_eq (by omega) (by omega)] at hff; omega
      · rw [if_neg hor] at hff ⊢
        have him2 : i ≠ m := by
          intro z
          refine hA ⟨nI_ge (by omega) (by omega), by rw [z]; exact h59, ?_⟩
          exact nI_ge (b := i + 1) (a := 1) (by omega) (by omega)
        exact ih (i + 1) (by omega) (by omega) hff
theorem mk_iff {lt : Nat → Int32} {k : Nat} (hk : k ≤ 18) (hl : rng lt) : f_X3_isMarket lt k = 0 ↔ (rdL lt k 4 0).2.1 = 0 := by
  constructor
  · intro h
    apply Decidable.byContradiction
    intro hw
    obtain ⟨m, -, h1, -, hm, h59, he, -, -⟩ := rd_whole hk 4 0 rfl (Nat.zero_le k) hw
    have e1 : f_X3_isMarket lt k = 1 := by
      unfold f_X3_isMarket
      rw [if_neg (show ¬ nI k < 2 from nI_nlt (b := 2) (by omega) (by omega)), if_pos (by rw [show k - 2 = 4 * m + 3 from by omega]; exact h59), if_pos ((fault_eq hk hl).trans he)]
    rw [e1] at h
    exact one_ne h
  · intro h
    apply Decidable.byContradiction
    intro hw
    obtain ⟨g1, g2, g3, g4, g5⟩ := isM_k hk hw
    refine rd_yes (m := k / 4 - 1) hk hl (by omega) (by omega) (by rw [show 4 * (k / 4 - 1) + 3 = k - 2 from by omega]; exact g4) 3 0 rfl (by omega) ?_ h
    exact g5
theorem op_K {lt : Nat → Int32} (hl : rng lt) : opK lt = mkK lt := by
  funext i
  obtain ⟨c, hc, e⟩ := hl (4 * i)
  unfold opK mkK
  rw [show i * 4 = 4 * i from Nat.mul_comm i 4, e]
  exact ki_eq c hc
theorem op_S (lt : Nat → Int32) : opS lt = mkS lt := by
  funext i
  unfold opS mkS
  rw [show i * 4 = 4 * i from Nat.mul_comm i 4, Int32.sub_eq_add_neg, Int32.sub_eq_add_neg, Int32.add_assoc]
theorem op_C (lt : Nat → Int32) : opC lt = mkC lt := by
  funext i
  unfold opC mkC
  rw [show i * 4 = 4 * i from Nat.mul_comm i 4]
theorem coin19 : ∀ c, c < 128 → ¬ f_X6_within (nI c - 48) 1 9 = 0 → (1 ≤ c - 48 ∧ c - 48 ≤ 9 ∧ nI c - 48 = nI (c - 48)) := by decide +kernel
