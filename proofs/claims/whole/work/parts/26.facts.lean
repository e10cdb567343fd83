/-! ===== plain facts of the class's own functions ===== -/
theorem has_ix {n : Nat} {b : Int32} (hn : n ≤ 4) (h : ¬ f_X2_has n b = 0) : ix b b.toNatClampNeg n := by
  by_cases h1 : b < 0
  · exact absurd (if_pos h1) h
  · by_cases h2 : nI n ≤ b
    · exact absurd ((if_neg h1).trans (if_pos h2)) h
    · exact ix_of h1 h2 (by rw [nI_toInt (by omega)]; exact Int.le_refl _)
theorem has_no {n : Nat} {b : Int32} (hn : n ≤ 4) (h : ix b b.toNatClampNeg n) : f_X2_has n b = 1 := by
  obtain ⟨j, hj, rfl⟩ := vp_in_of h.1 (by omega)
  exact (if_neg (nI_pos (by omega))).trans (if_neg (nI_ge hj (by omega)))
/-- the place of the last semicolon ahead of i -/
def scL (lt : Nat → Int32) : Nat → Int32
  | 0 => -1
  | i + 1 => if lt i = 59 then nI i else scL lt i
theorem ff_all {lt : Nat → Int32} {k : Nat} (hk : k ≤ 18) : ∀ (f j : Nat), j + f = k → ffL lt f j (scL lt j) = nI k → ∀ i, j ≤ i → i < k → ¬ ffS lt i (scL lt i) = 0
  | 0, j, h1, _, i, h3, h4 => by omega
  | f + 1, j, h1, h2, i, h3, h4 => by
    by_cases hz : ffS lt j (scL lt j) = 0
    · have e : ffL lt (f + 1) j (scL lt j) = nI j := if_pos hz
      rw [e] at h2
      have := (nI_eq (by omega) (by omega)).mp h2
      omega
    · have e : ffL lt (f + 1) j (scL lt j) = ffL lt f (j + 1) (scL lt (j + 1)) := if_neg hz
      rw [e] at h2
      by_cases hi : i = j
      · subst hi; exact hz
      · exact ff_all hk f (j + 1) (by omega) h2 i (by omega) h4
theorem isB59 {lt : Nat → Int32} {j : Nat} (h : lt j = 59) (u : Int32) {w : Int32} (hw : w < 59) : f_X3_isBetween lt j u w = 0 := by
  unfold f_X3_isBetween
  rw [h]
  by_cases h1 : (59 : Int32) < u
  · exact if_pos h1
  · exact (if_neg h1).trans (if_pos hw)
theorem isM_k {lt : Nat → Int32} {k : Nat} (hk : k ≤ 18) (h : ¬ f_X3_isMarket lt k = 0) : k = 4 * (k / 4) + 1 ∧ 2 ≤ k / 4 ∧ k / 4 ≤ 4 ∧ lt (k - 2) = 59 ∧ ffL lt k 0 (-1) = nI k := by
  by_cases h1 : nI k < 2
  · exact absurd (if_pos h1) h
  by_cases h2 : lt (k - 2) = 59
  case neg => exact absurd ((if_neg h1).trans (if_neg h2)) h
  by_cases h3 : ffL lt k 0 (-1) = nI k
  case neg => exact absurd ((if_neg h1).trans ((if_pos h2).trans (if_neg h3))) h
  have h2k : 2 ≤ k := Nat.le_of_not_lt fun z => h1 (nI_lt (b := 2) z (by decide))
  have hA := ff_all hk k 0 (by omega) h3 (k - 2) (by omega) (by omega)
  by_cases hs : scL lt (k - 2) = -1
  case neg =>
    refine absurd ?_ hA
    unfold ffS
    rw [if_neg hs]
    split
    · exact if_pos (isB59 h2 48 (by decide))
    · rfl
  have hB : ¬ f_X3_fitsHouses lt (k - 2) = 0 := fun z => hA ((if_pos hs).trans z)
  rcases (show (k - 2) % 4 = 0 ∨ (k - 2) % 4 = 1 ∨ (k - 2) % 4 = 2 ∨ (k - 2) % 4 = 3 by omega) with e | e | e | e
  · refine absurd ?_ hB
    unfold f_X3_fitsHouses
    rw [e, h2]
    exact (if_pos (by decide)).trans (if_pos (by decide))
  · refine absurd ?_ hB
    unfold f_X3_fitsHouses
    rw [e]
    exact (if_neg (by decide)).trans ((if_pos (by decide)).trans (isB59 h2 48 (by decide)))
  · refine absurd ?_ hB
    unfold f_X3_fitsHouses
    rw [e]
    exact (if_neg (by decide)).trans ((if_neg (by decide)).trans ((if_pos (by decide)).trans (isB59 h2 49 (by decide))))
  · have hh : ¬ nI ((k - 2) / 4) + 1 < 2 := by
      intro z
      refine absurd ?_ hB
      unfold f_X3_fitsHouses
      rw [e, h2]
      exact (if_neg (by decide)).trans ((if_neg (by decide)).trans ((if_neg (by decide)).trans ((if_neg (by decide)).trans ((if_pos rfl).trans (if_pos z)))))
    rw [nI_1] at hh
    have : 2 ≤ (k - 2) / 4 + 1 := Nat.le_of_not_lt fun z => hh (nI_lt (b := 2) z (by decide))
    exact ⟨by omega, by omega, by omega, h2, h3⟩
theorem itF_inv (P : PS → Prop) {f : Nat → PS → PS} (hf : ∀ k σ, P σ → P (f k σ)) : ∀ n σ, P σ → P (itF f n σ)
  | 0, _, h => h
  | n + 1, σ, h => hf n _ (itF_inv P hf n σ h)
theorem keepF_bs {q : Nat} {pa : Int32} {σ : PS} (hq : q ≤ 3) (h : σ.1.toInt ≤ 3) : (keepF q pa σ).1.toInt ≤ 3 := by
  have e : (nI q).toInt ≤ 3 := by rw [nI_toInt (by omega)]; omega
  show (f_X4_keepIfBetter σ.2.2.1 σ.2.2.2 σ.1 σ.2.1 q pa).1.toInt ≤ 3
  unfold f_X4_keepIfBetter
  split
  · exact e
  · split
    · split
      · exact h
      · exact e
    · exact h
theorem tsF_bs (kd co : Nat → Int32) (tl ho wa bu : Int32) (jb n : Nat) : ∀ (d md : Nat) (ps : Nat → Int32) (got pa : Int32) (σ : PS), md + d ≤ 3 → σ.1.toInt ≤ 3 → (tsF kd co tl ho wa bu jb n d md ps got pa σ).1.toInt ≤ 3
  | 0, _, _, _, _, _, _, h => h
  | d + 1, md, ps, got, pa, σ, hd, h => by
    refine itF_inv (fun σ => σ.1.toInt ≤ 3) (fun j σ h => ?_) n σ h
    show (dealF kd co tl ho wa bu jb n (tsF kd co tl ho wa bu jb n d (md + 1)) md ps got pa j σ).1.toInt ≤ 3
    unfold dealF
    split
    · exact h
    · refine itF_inv (fun σ => σ.1.toInt ≤ 3) (fun t σ h => ?_) n σ h
      show (saleF kd co tl ho wa jb (tsF kd co tl ho wa bu jb n d (md + 1)) md ps got pa j t (σ.1, σ.2.1, upd σ.2.2.1 md (10 * nI j + nI t), σ.2.2.2)).1.toInt ≤ 3
      unfold saleF
      split
      · split
        · exact h
        · exact tsF_bs kd co tl ho wa bu jb n d (md + 1) _ _ _ _ (by omega) h
      · exact keepF_bs (by omega) h
def foldS (g : Nat → Int64) : Nat → Int64 → Int64
  | 0, h => h
  | k + 1, h => 31 * foldS g k h + g k
