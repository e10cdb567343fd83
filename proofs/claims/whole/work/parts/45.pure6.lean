/-! ===== the plan: what both sides tell ===== -/
theorem cand_inj {p q c p' q' c' : Nat} (e : cand p q c = cand p' q' c') (hq : q ≤ 3) (hc : c < 4096) (hq' : q' ≤ 3) (hc' : c' < 4096) : p = p' ∧ q = q' ∧ c = c' := by
  unfold cand at e
  refine ⟨by omega, by omega, by omega⟩
theorem dgt_eq : ∀ g, g < 16 → 10 * (nI g / 4) + (nI g - nI g / 4 * 4) = dgt g ∧ ¬ nI g = -1 := by decide
theorem q3_eq : ∀ q, q ≤ 3 → ∀ i, i < q → (nI q - 1) - nI i = nI (q - 1 - i) := by decide
theorem w10_eq : ∀ i, i ≤ 2 → nI (10 + i) - 10 = nI i := by decide
theorem isq_w (w : Int32) (hw : ¬ f_X5_isPlanQuestion w = 0) : w = 0 ∨ w = 1 ∨ ∃ i : Nat, i ≤ 2 ∧ w = nI (10 + i) := by
  unfold f_X5_isPlanQuestion at hw
  by_cases h0 : w = 0
  · exact Or.inl h0
  by_cases h1 : w = 1
  · exact Or.inr (Or.inl h1)
  rw [if_neg h0, if_neg h1] at hw
  by_cases h2 : w < 10
  · rw [if_pos h2] at hw; exact absurd rfl hw
  rw [if_neg h2] at hw
  by_cases h3 : 13 ≤ w
  · rw [if_pos h3] at hw; exact absurd rfl hw
  have h4 : ¬ w < 0 := fun z => h2 (Int32.lt_of_lt_of_le z (by decide))
  obtain ⟨j, j1, rfl⟩ := nI_of h4
  have a1 : ¬ j < 10 := fun z => h2 (nI_lt (b := 10) z (by decide))
  have a2 : ¬ 13 ≤ j := fun z => h3 (nI_le (a := 13) z j1)
  exact Or.inr (Or.inr ⟨j - 10, by omega, by rw [show 10 + (j - 10) = j from by omega]⟩)
theorem isq_eq (w : Int32) : f_X5_isPlanQuestion w = 0 ↔ f_X6_within w 0 1 = 0 ∧ f_X6_within w 10 12 = 0 := by
  constructor
  · intro hq
    have h0 : ¬ w = 0 := fun z => by rw [z] at hq; exact absurd hq (by decide)
    have h1 : ¬ w = 1 := fun z => by rw [z] at hq; exact absurd hq (by decide)
    have hq2 : (if w < 10 then (0 : Int32) else if 13 ≤ w then 0 else 1) = 0 := by
      unfold f_X5_isPlanQuestion at hq
      rw [if_neg h0, if_neg h1] at hq
      exact hq
    by_cases h4 : w < 0
    · exact ⟨wi_lo h4, wi_lo (Int32.lt_of_lt_of_le h4 (by decide))⟩
    obtain ⟨j, j1, rfl⟩ := nI_of h4
    have b0 : ¬ j = 0 := fun z => h0 (by rw [z]; rfl)
    have b1 : ¬ j = 1 := fun z => h1 (by rw [z]; rfl)
    refine ⟨wi_hi (nI_lt (a := 1) (by omega) j1), ?_⟩
    by_cases h2 : nI j < 10
    · exact wi_lo h2
    · rw [if_neg h2] at hq2
      by_cases h3 : 13 ≤ nI j
      · have a2 : 13 ≤ j := (nI_leI (a := 13) (by decide) j1).mp h3
        exact wi_hi (nI_lt (a := 12) (by omega) j1)
      · rw [if_neg h3] at hq2
        exact absurd hq2 one_ne
  · intro ⟨h1, h2⟩
    apply Classical.byContradiction
    intro hq
    rcases isq_w w hq with rfl | rfl | ⟨i, hi, rfl⟩
    · exact absurd h1 (by decide)
    · exact absurd h1 (by decide)
    · have e : f_X6_within (nI (10 + i)) 10 12 = 1 := wi_in (nI_nlt (a := 10 + i) (b := 10) (by omega) (by omega)) (nI_nlt (a := 12) (b := 10 + i) (by omega) (by decide))
      exact one_ne (e.symm.trans h2)
section PR
variable {st kd co : Nat → Int32} {tl wa bu : Int32} {h n jb : Nat} {cN : Nat → Nat}
set_option maxRecDepth 100000 in
theorem tell_eq (hn : n ≤ 4) (hh : h < 2 ^ 31) (hb : ¬ f_X6_within bu 0 (nI n - 1) = 0) (hc : ∀ j, j < n → co j = nI (cN j) ∧ 1 ≤ cN j ∧ cN j ≤ 9) (tr be : Nat → Int32) (w : Int32) (hw : ¬ f_X5_isPlanQuestion w = 0) : f_X4_tell (tsF kd co tl (nI h) wa bu jb n 3 0 st 0 0 (0, 1000, tr, be)).2.2.2 (tsF kd co tl (nI h) wa bu jb n 3 0 st 0 0 (0, 1000, tr, be)).1 (tsF kd co tl (nI h) wa bu jb n 3 0 st 0 0 (0, 1000, tr, be)).2.1 w = planT (plM (pbR st kd co tl (nI h) n bu jb wa) 3) w := by
  obtain ⟨K, k1, _, k3, _⟩ := plan_ok (st := st) (kd := kd) (co := co) (tl := tl) (wa := wa) (jb := jb) hn hh hb hc 3 0 0 0 0 st (0, 1000, tr, be) KINF rfl (by decide) rfl (Or.inl ⟨rfl, rfl, rfl⟩) (fun i hi => absurd hi (Nat.not_lt_zero i))
  have hM := relM_all (st := st) (kd := kd) (tl := tl) (wa := wa) (h := h) (jb := jb) hn hb hc 3 (Nat.le_refl _)
  have e : K = mnM (VV st kd co tl wa bu h n jb cN) 3 := by
    refine Nat.le_antisymm ?_ ?_
    · rcases mnM_at (VV st kd co tl wa bu h n jb cN) 3 with z | ⟨q, c, z1, z2, z3, z4⟩
      · rw [z]; exact good_inf k1
      · rw [z4]
        have := k3 q c z1 z2 (Nat.div_eq_of_lt z3)
        rw [Nat.zero_add] at this
        exact this
    · obtain ⟨y1, y2⟩ := mnM_le (VV st kd co tl wa bu h n jb cN) 3
      rcases k1 with ⟨z, _⟩ | ⟨p, q, c, _, _, z2, z3, z4, z5, _⟩
      · rw [z]; exact y1
      · rw [← z5]; exact y2 q c z2 z3 z4
  rw [← e] at hM
  generalize tsF kd co tl (nI h) wa bu jb n 3 0 st 0 0 (0, 1000, tr, be) = σ at *
  generalize plM (pbR st kd co tl (nI h) n bu jb wa) 3 = τ at *
  clear e k3
  rcases k1 with ⟨z0, z1, z2⟩ | ⟨p, q, c, z0, z1, z2, z3, z4, _, _, z7, z8, z9⟩
  · rcases hM with ⟨y0, y1⟩ | ⟨p', q', c', y0, y1, y2, y3, y4, _⟩
    · unfold f_X4_tell planT
      rw [z1, y1, if_pos rfl, if_pos rfl]
    · have := cand_lt y1 y3 (Nat.lt_of_lt_of_le y4 (pow16 q' y3))
      omega
  · have hc4 : c < 4096 := Nat.lt_of_lt_of_le z4 (pow16 q z3)
    rcases hM with ⟨y0, y1⟩ | ⟨p', q', c', y0, y1, y2, y3, y4, _, y6⟩
    · have := cand_lt z1 z3 hc4
      omega
    · obtain ⟨r1, r2, r3⟩ := cand_inj (z0.symm.trans y0) z3 hc4 y3 (Nat.lt_of_lt_of_le y4 (pow16 q' y3))
      subst r1 r2 r3
      unfold f_X4_tell planT
      rw [z7, z8, y6, if_neg (nI_ne0 z2 (by omega))]
      show _ = if nI c = -1 then (-1 : Int32) else if w = 0 then nI p else if w = 1 then nI q else if nI q ≤ w - 10 then -1
        else if (nI c >>> ((4 * ((nI q - 1) - (w - 10))) &&& 31)) &&& 15 = -1 then -1 else 10 * (((nI c >>> ((4 * ((nI q - 1) - (w - 10))) &&& 31)) &&& 15) / 4) + (((nI c >>> ((4 * ((nI q - 1) - (w - 10))) &&& 31)) &&& 15) - ((nI c >>> ((4 * ((nI q - 1) - (w - 10))) &&& 31)) &&& 15) / 4 * 4)
      rw [if_neg (show ¬ nI c = -1 from fun z => nI_pos (n := c) (by omega) (by rw [z]; decide))]
      rcases isq_w w hw with rfl | rfl | ⟨i, hi, rfl⟩
      · rw [if_pos rfl, if_pos rfl]
      · rw [if_neg one_ne, if_pos rfl, if_neg one_ne, if_pos rfl]
      · have n0 : ¬ nI (10 + i) = 0 := nI_ne0 (by omega) (by omega)
        have n1 : ¬ nI (10 + i) = 1 := fun z => absurd ((nI_eq (b := 1) (by omega) (by decide)).mp z) (by omega)
        rw [if_neg n0, if_neg n1, if_neg n0, if_neg n1, w10_eq i hi, if_neg (nI_pos (by omega))]
        by_cases hqi : q ≤ i
        · rw [if_pos (nI_le hqi (by omega)), if_pos (nI_le hqi (by omega))]
        · rw [if_neg (nI_ge (by omega) (by omega)), if_neg (nI_ge (by omega) (by omega)), nI_clamp (by omega), z9 i (by omega), q3_eq q z3 i (by omega), dg_eq hc4 (by omega)]
          obtain ⟨d1, d2⟩ := dgt_eq (dg c (q - 1 - i)) (dg_lt _ _)
          rw [if_neg d2, d1]
end PR
theorem plan_eq {st kd co : Nat → Int32} {tl : Int32} {h n a0 : Nat} {cN : Nat → Nat} (hn : n ≤ 4) (hh : h < 2 ^ 31) (hc : ∀ j, j < n → co j = nI (cN j) ∧ 1 ≤ cN j ∧ cN j ≤ 9) (ha : a0 ≤ 40) (ps tr be sv : Nat → Int32) (bs1 bp1 bu1 wa1 b a w : Int32) : (f_X5_plan (nI a0) ps tr be bs1 bp1 bu1 wa1 kd st co n tl (nI h) b a w).1 = (f_X6_plan kd st co sv n tl (nI h) (nI a0) b a w).1 ∧ ∃ a1, a1 ≤ 40 ∧ (f_X5_plan (nI a0) ps tr be bs1 bp1 bu1 wa1 kd st co n tl (nI h) b a w).2.1 = nI a1 ∧ (f_X6_plan kd st co sv n tl (nI h) (nI a0) b a w).2.1 = nI a1 := by
  unfold f_X5_plan f_X6_plan
  rw [has_w hn]
  by_cases h1 : f_X6_within b 0 (nI n - 1) = 0
  · rw [if_pos h1, if_pos h1]; exact ⟨rfl, a0, ha, rfl, rfl⟩
  rw [if_neg h1, if_neg h1]
  by_cases h2 : a < 1
  · rw [if_pos h2, if_pos (wi_lo h2)]; exact ⟨rfl, a0, ha, rfl, rfl⟩
  by_cases h3 : 60 < a
  · rw [if_neg h2, if_pos h3, if_pos (wi_hi h3)]; exact ⟨rfl, a0, ha, rfl, rfl⟩
  rw [if_neg h2, if_neg h3, if_neg (show ¬ f_X6_within a 1 60 = 0 by rw [wi_in h2 h3]; exact one_ne)]
  by_cases h4 : f_X5_isPlanQuestion w = 0
  · rw [if_pos h4, if_pos ((isq_eq w).mp h4).1, if_pos ((isq_eq w).mp h4).2]; exact ⟨rfl, a0, ha, rfl, rfl⟩
  rw [if_neg h4]
  have key : (if f_X6_within w 0 1 = 0 then (if f_X6_within w 10 12 = 0 then ((-102 : Int32), nI a0, sv) else if nI a0 = 40 then ((-103), nI a0, sv) else (planT (plM (pbR st kd co tl (nI h) n b b.toNatClampNeg a) 3) w, (nI a0 + 1), st)) else if nI a0 = 40 then ((-103), nI a0, sv) else (planT (plM (pbR st kd co tl (nI h) n b b.toNatClampNeg a) 3) w, (nI a0 + 1), st)) = if nI a0 = 40 then ((-103), nI a0, sv) else (planT (plM (pbR st kd co tl (nI h) n b b.toNatClampNeg a) 3) w, (nI a0 + 1), st) := by
    by_cases h5 : f_X6_within w 0 1 = 0
    · rw [if_pos h5, if_neg (fun z => h4 ((isq_eq w).mpr ⟨h5, z⟩))]
    · rw [if_neg h5]
  rw [key]
  by_cases h6 : nI a0 = 40
  · rw [if_pos h6, if_neg (fun z => (l40 ha).mp z h6)]; exact ⟨rfl, a0, ha, rfl, rfl⟩
  · rw [if_neg h6, if_pos ((l40 ha).mpr h6)]
    have T := tell_eq (st := st) (kd := kd) (co := co) (tl := tl) (wa := a) (bu := b) (h := h) (n := n) (jb := b.toNatClampNeg) (cN := cN) hn hh h1 hc tr be w h4
    generalize tsF kd co tl (nI h) a b b.toNatClampNeg n 3 0 st 0 0 (0, 1000, tr, be) = σ at T ⊢
    generalize plM (pbR st kd co tl (nI h) n b b.toNatClampNeg a) 3 = τ at T ⊢
    refine ⟨T, a0 + 1, ?_, nI_1 a0, nI_1 a0⟩
    have : ¬ a0 = 40 := fun z => h6 (by rw [z]; rfl)
    omega
