/-! ===== the plan: the class's search finds the least run of sales ===== -/
def dgt (g : Nat) : Int32 := 10 * nI (g / 4) + nI (g % 4)
def GoodP (V : Nat → Nat → Nat) (σ : PS) (K B : Nat) : Prop := (K = KINF ∧ σ.1 = 0 ∧ σ.2.1 = 1000) ∨ ∃ p q c : Nat, K = cand p q c ∧ p ≤ 27 ∧ 1 ≤ q ∧ q ≤ 3 ∧ c < 16 ^ q ∧ V q c = K ∧ (c + 1) * 16 ^ (3 - q) ≤ B ∧ σ.1 = nI q ∧ σ.2.1 = nI p ∧ ∀ i, i < q → σ.2.2.2 i = dgt (dg c (q - 1 - i))
def CovP (V : Nat → Nat → Nat) (m d x K : Nat) : Prop := ∀ r c', r ≤ d → c' / 16 ^ r = x → K ≤ V (m + r) c'
def TrP (tr : Nat → Int32) (md c : Nat) : Prop := ∀ i, i < md → tr i = dgt (dg c (md - 1 - i))
theorem good_up {V : Nat → Nat → Nat} {σ : PS} {K B B' : Nat} (h : B ≤ B') (hr : GoodP V σ K B) : GoodP V σ K B' := by
  rcases hr with e | ⟨p, q, c, g0, g1, g2, g3, g4, g5, g6, g7⟩
  · exact Or.inl e
  · exact Or.inr ⟨p, q, c, g0, g1, g2, g3, g4, g5, Nat.le_trans g6 h, g7⟩
set_option maxRecDepth 100000 in
theorem good_inf {V : Nat → Nat → Nat} {σ : PS} {K B : Nat} (hr : GoodP V σ K B) : K ≤ KINF := by
  rcases hr with e | ⟨p, q, c, g0, g1, g2, g3, g4, _⟩
  · rw [e.1]; exact Nat.le_refl _
  · rw [g0]
    exact Nat.le_of_lt (cand_lt g1 g3 (Nat.lt_of_lt_of_le g4 (pow16 q g3)))
theorem cand_up {p q c p' q' c' : Nat} (h : p < p') (hq : q ≤ 3) (hc : c < 4096) : cand p q c ≤ cand p' q' c' := by unfold cand; omega
set_option maxRecDepth 100000 in
theorem good_keep {V : Nat → Nat → Nat} {σ : PS} {K x md d p : Nat} (hr : GoodP V σ K (x * 16 ^ d)) (hmd : md + 1 + d = 3) (hx : x < 16 ^ (md + 1)) (hp : p ≤ 27) (hV : V (md + 1) x = cand p (md + 1) x) (htr : TrP σ.2.2.1 (md + 1) x) : ∃ K', GoodP V (keepF (md + 1) (nI p) σ) K' ((x + 1) * 16 ^ d) ∧ K' ≤ K ∧ K' ≤ cand p (md + 1) x := by
  have hx4 : x < 4096 := Nat.lt_of_lt_of_le hx (pow16 (md + 1) (by omega))
  have hnew : f_X4_keepIfBetter σ.2.2.1 σ.2.2.2 σ.1 σ.2.1 (md + 1) (nI p) = (nI (md + 1), nI p, fillN σ.2.2.1 σ.2.2.2 (md + 1)) → GoodP V (keepF (md + 1) (nI p) σ) (cand p (md + 1) x) ((x + 1) * 16 ^ d) := by
    intro e
    unfold keepF
    rw [e]
    refine Or.inr ⟨p, md + 1, x, rfl, hp, Nat.succ_pos _, by omega, hx, hV, ?_, rfl, rfl, fun i hi => ?_⟩
    · rw [show 3 - (md + 1) = d from by omega]; exact Nat.le_refl _
    · show fillN σ.2.2.1 σ.2.2.2 (md + 1) i = _
      unfold fillN
      rw [if_pos hi]
      exact htr i hi
  have hold : f_X4_keepIfBetter σ.2.2.1 σ.2.2.2 σ.1 σ.2.1 (md + 1) (nI p) = (σ.1, σ.2.1, σ.2.2.2) → GoodP V (keepF (md + 1) (nI p) σ) K ((x + 1) * 16 ^ d) := by
    intro e
    unfold keepF
    rw [e]
    exact good_up (Nat.mul_le_mul_right _ (Nat.le_succ x)) hr
  have hcp : cand p (md + 1) x < KINF := cand_lt hp (by omega) hx4
  rcases hr with ⟨rfl, e1, e2⟩ | ⟨p0, q0, c0, g0, g1, g2, g3, g4, g5, g6, g7, g8, g9⟩
  · refine ⟨_, hnew ?_, Nat.le_of_lt hcp, Nat.le_refl _⟩
    unfold f_X4_keepIfBetter
    rw [e2, if_pos (show nI p < 1000 from nI_lt (b := 1000) (by omega) (by decide))]
  · have hc4 : c0 < 4096 := Nat.lt_of_lt_of_le g4 (pow16 q0 g3)
    by_cases h1 : p < p0
    · refine ⟨_, hnew ?_, ?_, Nat.le_refl _⟩
      · unfold f_X4_keepIfBetter
        rw [g8, if_pos (nI_lt h1 (by omega))]
      · rw [g0]; exact cand_up h1 (by omega) hx4
    · by_cases h2 : p = p0
      · by_cases h3 : q0 ≤ md + 1
        · refine ⟨_, hold ?_, Nat.le_refl _, ?_⟩
          · unfold f_X4_keepIfBetter
            rw [g8, if_neg (nI_nlt (by omega) (by omega)), if_pos (by rw [h2]), g7, if_pos (nI_le h3 (by omega))]
          · rw [g0]
            by_cases h4 : q0 = md + 1
            · subst h4
              rw [show 3 - (md + 1) = d from by omega] at g6
              have h5 : c0 + 1 ≤ x := Nat.le_of_mul_le_mul_right g6 (Nat.pow_pos (by decide))
              unfold cand
              omega
            · unfold cand
              omega
        · refine ⟨_, hnew ?_, ?_, Nat.le_refl _⟩
          · unfold f_X4_keepIfBetter
            rw [g8, if_neg (nI_nlt (by omega) (by omega)), if_pos (by rw [h2]), g7, if_neg (nI_ge (by omega) (by omega))]
          · rw [g0]
            unfold cand
            omega
      · refine ⟨_, hold ?_, Nat.le_refl _, ?_⟩
        · unfold f_X4_keepIfBetter
          rw [g8, if_neg (nI_nlt (by omega) (by omega)), if_neg (fun z => h2 ((nI_eq (by omega) (by omega)).mp z))]
        · rw [g0]; exact cand_up (by omega) g3 hc4
theorem dg_0 (c g : Nat) (hg : g < 16) : dg (16 * c + g) 0 = g := by
  unfold dg
  rw [Nat.pow_zero, Nat.div_one]
  omega
theorem dg_s (c g k : Nat) (hg : g < 16) : dg (16 * c + g) (k + 1) = dg c k := by
  unfold dg
  rw [Nat.pow_succ, Nat.mul_comm (16 ^ k) 16, ← Nat.div_div_eq_div_mul, show (16 * c + g) / 16 = c from by omega]
theorem tr_s {tr : Nat → Int32} {md c j t : Nat} (hj : j < 4) (ht : t < 4) (h : TrP tr md c) : TrP (upd tr md (10 * nI j + nI t)) (md + 1) (16 * c + (4 * j + t)) := by
  intro i hi
  by_cases e : i = md
  · subst e
    rw [pk_us, show i + 1 - 1 - i = 0 from by omega, dg_0 _ _ (by omega)]
    unfold dgt
    rw [show (4 * j + t) / 4 = j from by omega, show (4 * j + t) % 4 = t from by omega]
  · rw [pk_un e, h i (by omega), show md + 1 - 1 - i = (md - 1 - i) + 1 from by omega, dg_s _ _ _ (by omega)]
section PQ
variable {st kd co : Nat → Int32} {tl wa bu : Int32} {h n jb : Nat} {cN : Nat → Nat}
/-- what lies below a run of sales costs more -/
theorem desc (hn : n ≤ 4) (hb : ¬ f_X6_within bu 0 (nI n - 1) = 0) (hc : ∀ j, j < n → co j = nI (cN j) ∧ 1 ≤ cN j ∧ cN j ≤ 9) (m r c' : Nat) : VV st kd co tl wa bu h n jb cN (m + r) c' = KINF ∨ (VV st kd co tl wa bu h n jb cN (m + r) c' = cand (pN cN (m + r) c') (m + r) c' ∧ ¬ (evC st kd co tl bu h n jb m (c' / 16 ^ r)).1 = 0 ∧ pN cN m (c' / 16 ^ r) + r ≤ pN cN (m + r) c') := by
  unfold VV
  by_cases h1 : (evC st kd co tl bu h n jb (m + r) c').1 = 0
  · rw [if_pos h1]; exact Or.inl rfl
  · rw [if_neg h1]
    by_cases h2 : (evC st kd co tl bu h n jb (m + r) c').2.1 < wa
    · rw [if_pos h2]; exact Or.inl rfl
    · rw [if_neg h2]
      exact Or.inr ⟨rfl, ev_pre r m c' h1 hn hb hc⟩
def PlanOK (st kd co : Nat → Int32) (tl wa bu : Int32) (h n jb : Nat) (cN : Nat → Nat) (d : Nat) : Prop := ∀ (md c : Nat) (got pa : Int32) (ps : Nat → Int32) (σ : PS) (K : Nat), md + d = 3 → c < 16 ^ md → evC st kd co tl bu h n jb md c = (1, got, pa, ps) → GoodP (VV st kd co tl wa bu h n jb cN) σ K (c * 16 ^ d) → TrP σ.2.2.1 md c → ∃ K', GoodP (VV st kd co tl wa bu h n jb cN) (tsF kd co tl (nI h) wa bu jb n d md ps got pa σ) K' ((c + 1) * 16 ^ d) ∧ K' ≤ K ∧ (∀ r c', 1 ≤ r → r ≤ d → c' / 16 ^ r = c → K' ≤ VV st kd co tl wa bu h n jb cN (md + r) c') ∧ ∀ i, i < md → (tsF kd co tl (nI h) wa bu jb n d md ps got pa σ).2.2.1 i = σ.2.2.1 i
set_option maxRecDepth 100000 in
theorem st_step (hn : n ≤ 4) (hh : h < 2 ^ 31) (hb : ¬ f_X6_within bu 0 (nI n - 1) = 0) (hc : ∀ j, j < n → co j = nI (cN j) ∧ 1 ≤ cN j ∧ cN j ≤ 9) {d : Nat} (ih : PlanOK st kd co tl wa bu h n jb cN d) {md c : Nat} {got pa : Int32} {ps : Nat → Int32} {σ : PS} {K j t : Nat} (hmd : md + 1 + d = 3) (hcm : c < 16 ^ md) (hv : evC st kd co tl bu h n jb md c = (1, got, pa, ps)) (hj : j < n) (ht : t < n) (hbj : ¬ bu = nI j) (hr : GoodP (VV st kd co tl wa bu h n jb cN) σ K ((16 * c + (4 * j + t)) * 16 ^ d)) (htr : TrP σ.2.2.1 md c) : ∃ K', GoodP (VV st kd co tl wa bu h n jb cN) (stepT kd co tl (nI h) wa jb (tsF kd co tl (nI h) wa bu jb n d (md + 1)) md ps got pa j t σ) K' ((16 * c + (4 * j + t) + 1) * 16 ^ d) ∧ K' ≤ K ∧ CovP (VV st kd co tl wa bu h n jb cN) (md + 1) d (16 * c + (4 * j + t)) K' ∧ ∀ i, i < md → (stepT kd co tl (nI h) wa jb (tsF kd co tl (nI h) wa bu jb n d (md + 1)) md ps got pa j t σ).2.2.1 i = σ.2.2.1 i := by
  have hg : 4 * j + t < 16 := by omega
  have hx16 : (16 * c + (4 * j + t)) / 16 = c := by omega
  have hm16 : (16 * c + (4 * j + t)) % 16 = 4 * j + t := by omega
  have ej : (4 * j + t) / 4 = j := by omega
  have et : (4 * j + t) % 4 = t := by omega
  have hok : okD bu n (4 * j + t) := by unfold okD; rw [ej, et]; exact ⟨hj, ht, hbj⟩
  have hx : 16 * c + (4 * j + t) < 16 ^ (md + 1) := by rw [Nat.pow_succ]; omega
  have htr2 : TrP (upd σ.2.2.1 md (10 * nI j + nI t)) (md + 1) (16 * c + (4 * j + t)) := tr_s (by omega) (by omega) htr
  have hE : evC st kd co tl bu h n jb (md + 1) (16 * c + (4 * j + t)) = (1, got + f_X2_ounces kd tl (ps t) jb (nI h), pa + co j, upd ps t (f_X2_weightAfter kd (ps t) t j)) := by
    show pbS kd co tl (nI h) n bu jb (evC st kd co tl bu h n jb md ((16 * c + (4 * j + t)) / 16)) ((16 * c + (4 * j + t)) % 16) = _
    rw [hx16, hm16, hv, pbS_yes hn hb rfl hg hok, ej, et, oz_eq hh, wear_eq]
  have hE0 : ¬ (evC st kd co tl bu h n jb (md + 1) (16 * c + (4 * j + t))).1 = 0 := by rw [hE]; exact one_ne
  obtain ⟨hp1, hp2⟩ := ev_paid (st := st) (kd := kd) (tl := tl) (h := h) (jb := jb) hn hb hc (md + 1) (16 * c + (4 * j + t)) hE0
  have hp1' : pa + co j = nI (pN cN (md + 1) (16 * c + (4 * j + t))) := by rw [hE] at hp1; exact hp1
  have hp3 : pN cN (md + 1) (16 * c + (4 * j + t)) ≤ 27 := by omega
  have hx4 : 16 * c + (4 * j + t) < 4096 := Nat.lt_of_lt_of_le hx (pow16 (md + 1) (by omega))
  generalize hX : 16 * c + (4 * j + t) = x at *
  have hr2 : GoodP (VV st kd co tl wa bu h n jb cN) (σ.1, σ.2.1, upd σ.2.2.1 md (10 * nI j + nI t), σ.2.2.2) K (x * 16 ^ d) := hr
  have hK := good_inf hr
  unfold stepT saleF
  have hupd : ∀ i, i < md → upd σ.2.2.1 md (10 * nI j + nI t) i = σ.2.2.1 i := fun i hi => pk_un (by omega)
  by_cases h1 : got + f_X2_ounces kd tl (ps t) jb (nI h) < wa
  · rw [if_pos h1]
    have hV0 : VV st kd co tl wa bu h n jb cN (md + 1) x = KINF := by
      unfold VV
      rw [if_neg hE0, hE, if_pos h1]
    by_cases h2 : σ.2.1 ≤ pa + co j
    · rw [if_pos h2]
      refine ⟨K, good_up (Nat.mul_le_mul_right _ (Nat.le_succ x)) hr2, Nat.le_refl _, fun r c' hrd hc' => ?_, hupd⟩
      cases r with
      | zero =>
        rw [Nat.pow_zero, Nat.div_one] at hc'
        subst hc'
        show K ≤ VV st kd co tl wa bu h n jb cN (md + 1) c'
        rw [hV0]
        exact hK
      | succ r =>
        rcases desc (st := st) (kd := kd) (tl := tl) (wa := wa) (h := h) (jb := jb) hn hb hc (md + 1) (r + 1) c' with e | ⟨e1, _, e3⟩
        · rw [e]; exact hK
        · rw [e1]
          rw [hc'] at e3
          rcases hr with ⟨k1, k2, k3⟩ | ⟨p0, q0, c0, g0, g1, g2, g3, g4, g5, g6, g7, g8, g9⟩
          · rw [k3, hp1'] at h2
            exact absurd h2 (nI_ge (b := 1000) (by omega) (by decide))
          · rw [g8, hp1'] at h2
            have h3 := (nI_leI (by omega) (by omega)).mp h2
            rw [g0]
            exact cand_up (by omega) g3 (Nat.lt_of_lt_of_le g4 (pow16 q0 g3))
    · rw [if_neg h2]
      obtain ⟨K', k1, k2, k3, k4⟩ := ih (md + 1) x _ _ _ _ K hmd hx hE hr2 htr2
      refine ⟨K', k1, k2, fun r c' hrd hc' => ?_, fun i hi => (k4 i (by omega)).trans (hupd i hi)⟩
      cases r with
      | zero =>
        rw [Nat.pow_zero, Nat.div_one] at hc'
        subst hc'
        show K' ≤ VV st kd co tl wa bu h n jb cN (md + 1) c'
        rw [hV0]
        exact Nat.le_trans k2 hK
      | succ r => exact k3 (r + 1) c' (by omega) hrd hc'
  · rw [if_neg h1, hp1']
    have hV1 : VV st kd co tl wa bu h n jb cN (md + 1) x = cand (pN cN (md + 1) x) (md + 1) x := by
      unfold VV
      rw [if_neg hE0, hE, if_neg h1]
    obtain ⟨K', k1, k2, k3⟩ := good_keep hr2 hmd hx hp3 hV1 htr2
    refine ⟨K', k1, k2, fun r c' hrd hc' => ?_, hupd⟩
    cases r with
    | zero =>
      rw [Nat.pow_zero, Nat.div_one] at hc'
      subst hc'
      show K' ≤ VV st kd co tl wa bu h n jb cN (md + 1) c'
      rw [hV1]
      exact k3
    | succ r =>
      rcases desc (st := st) (kd := kd) (tl := tl) (wa := wa) (h := h) (jb := jb) hn hb hc (md + 1) (r + 1) c' with e | ⟨e1, _, e3⟩
      · rw [e]; exact Nat.le_trans k2 hK
      · rw [e1]
        rw [hc'] at e3
        exact Nat.le_trans k3 (cand_up (by omega) (by omega) hx4)
theorem cov_le {V : Nat → Nat → Nat} {m d x K K' : Nat} (h : K' ≤ K) (hc : CovP V m d x K) : CovP V m d x K' := fun r c' h1 h2 => Nat.le_trans h (hc r c' h1 h2)
set_option maxRecDepth 100000 in
theorem st_in (hn : n ≤ 4) (hh : h < 2 ^ 31) (hb : ¬ f_X6_within bu 0 (nI n - 1) = 0) (hc : ∀ j, j < n → co j = nI (cN j) ∧ 1 ≤ cN j ∧ cN j ≤ 9) {d : Nat} (ih : PlanOK st kd co tl wa bu h n jb cN d) {md c : Nat} {got pa : Int32} {ps : Nat → Int32} {σ : PS} {K j : Nat} (hmd : md + 1 + d = 3) (hcm : c < 16 ^ md) (hv : evC st kd co tl bu h n jb md c = (1, got, pa, ps)) (hj : j < n) (hbj : ¬ bu = nI j) (hr : GoodP (VV st kd co tl wa bu h n jb cN) σ K ((16 * c + 4 * j) * 16 ^ d)) (htr : TrP σ.2.2.1 md c) : ∀ t, t ≤ n → ∃ K', GoodP (VV st kd co tl wa bu h n jb cN) (itF (stepT kd co tl (nI h) wa jb (tsF kd co tl (nI h) wa bu jb n d (md + 1)) md ps got pa j) t σ) K' ((16 * c + (4 * j + t)) * 16 ^ d) ∧ K' ≤ K ∧ (∀ t', t' < t → CovP (VV st kd co tl wa bu h n jb cN) (md + 1) d (16 * c + (4 * j + t')) K') ∧ ∀ i, i < md → (itF (stepT kd co tl (nI h) wa jb (tsF kd co tl (nI h) wa bu jb n d (md + 1)) md ps got pa j) t σ).2.2.1 i = σ.2.2.1 i
  | 0, _ => ⟨K, hr, Nat.le_refl _, fun t' h0 => absurd h0 (Nat.not_lt_zero t'), fun _ _ => rfl⟩
  | t + 1, ht => by
    obtain ⟨K1, a1, a2, a3, a4⟩ := st_in hn hh hb hc ih hmd hcm hv hj hbj hr htr t (by omega)
    obtain ⟨K2, b1, b2, b3, b4⟩ := st_step hn hh hb hc ih (t := t) hmd hcm hv hj (by omega) hbj a1 (fun i hi => (a4 i hi).trans (htr i hi))
    refine ⟨K2, b1, Nat.le_trans b2 a2, fun t' h0 => ?_, fun i hi => (b4 i hi).trans (a4 i hi)⟩
    by_cases e : t' = t
    · subst e; exact b3
    · exact cov_le b2 (a3 t' (by omega))
set_option maxRecDepth 100000 in
theorem st_out (hn : n ≤ 4) (hh : h < 2 ^ 31) (hb : ¬ f_X6_within bu 0 (nI n - 1) = 0) (hc : ∀ j, j < n → co j = nI (cN j) ∧ 1 ≤ cN j ∧ cN j ≤ 9) {d : Nat} (ih : PlanOK st kd co tl wa bu h n jb cN d) {md c : Nat} {got pa : Int32} {ps : Nat → Int32} {σ : PS} {K : Nat} (hmd : md + 1 + d = 3) (hcm : c < 16 ^ md) (hv : evC st kd co tl bu h n jb md c = (1, got, pa, ps)) (hr : GoodP (VV st kd co tl wa bu h n jb cN) σ K ((16 * c) * 16 ^ d)) (htr : TrP σ.2.2.1 md c) : ∀ j, j ≤ n → ∃ K', GoodP (VV st kd co tl wa bu h n jb cN) (itF (dealF kd co tl (nI h) wa bu jb n (tsF kd co tl (nI h) wa bu jb n d (md + 1)) md ps got pa) j σ) K' ((16 * c + 4 * j) * 16 ^ d) ∧ K' ≤ K ∧ (∀ j' t', j' < j → ¬ bu = nI j' → t' < n → CovP (VV st kd co tl wa bu h n jb cN) (md + 1) d (16 * c + (4 * j' + t')) K') ∧ ∀ i, i < md → (itF (dealF kd co tl (nI h) wa bu jb n (tsF kd co tl (nI h) wa bu jb n d (md + 1)) md ps got pa) j σ).2.2.1 i = σ.2.2.1 i
  | 0, _ => ⟨K, hr, Nat.le_refl _, fun j' _ h0 => absurd h0 (Nat.not_lt_zero j'), fun _ _ => rfl⟩
  | j + 1, hj => by
    obtain ⟨K1, a1, a2, a3, a4⟩ := st_out hn hh hb hc ih hmd hcm hv hr htr j (by omega)
    show ∃ K', GoodP (VV st kd co tl wa bu h n jb cN) (dealF kd co tl (nI h) wa bu jb n (tsF kd co tl (nI h) wa bu jb n d (md + 1)) md ps got pa j (itF (dealF kd co tl (nI h) wa bu jb n (tsF kd co tl (nI h) wa bu jb n d (md + 1)) md ps got pa) j σ)) K' ((16 * c + 4 * (j + 1)) * 16 ^ d) ∧ K' ≤ K ∧ (∀ j' t', j' < j + 1 → ¬ bu = nI j' → t' < n → CovP (VV st kd co tl wa bu h n jb cN) (md + 1) d (16 * c + (4 * j' + t')) K') ∧ ∀ i, i < md → (dealF kd co tl (nI h) wa bu jb n (tsF kd co tl (nI h) wa bu jb n d (md + 1)) md ps got pa j (itF (dealF kd co tl (nI h) wa bu jb n (tsF kd co tl (nI h) wa bu jb n d (md + 1)) md ps got pa) j σ)).2.2.1 i = σ.2.2.1 i
    unfold dealF
    by_cases hbj : nI j = bu
    · rw [if_pos hbj]
      refine ⟨K1, good_up (Nat.mul_le_mul_right _ (by omega)) a1, a2, fun j' t' h0 h1 h2 => ?_, a4⟩
      by_cases e : j' = j
      · subst e; exact absurd hbj.symm h1
      · exact a3 j' t' (by omega) h1 h2
    · rw [if_neg hbj]
      obtain ⟨K2, b1, b2, b3, b4⟩ := st_in hn hh hb hc ih (j := j) hmd hcm hv (by omega) (fun z => hbj z.symm) a1 (fun i hi => (a4 i hi).trans (htr i hi)) n (Nat.le_refl _)
      refine ⟨K2, good_up (Nat.mul_le_mul_right _ (by omega)) b1, Nat.le_trans b2 a2, fun j' t' h0 h1 h2 => ?_, fun i hi => (b4 i hi).trans (a4 i hi)⟩
      by_cases e : j' = j
      · subst e; exact b3 t' h2
      · exact cov_le b2 (a3 j' t' (by omega) h1 h2)
set_option maxRecDepth 100000 in
theorem plan_ok (hn : n ≤ 4) (hh : h < 2 ^ 31) (hb : ¬ f_X6_within bu 0 (nI n - 1) = 0) (hc : ∀ j, j < n → co j = nI (cN j) ∧ 1 ≤ cN j ∧ cN j ≤ 9) : ∀ d, PlanOK st kd co tl wa bu h n jb cN d
  | 0 => fun md c got pa ps σ K hmd hcm hv hr htr => ⟨K, good_up (Nat.mul_le_mul_right _ (Nat.le_succ c)) hr, Nat.le_refl _, fun r c' h1 h2 _ => by omega, fun _ _ => rfl⟩
  | d + 1 => fun md c got pa ps σ K hmd hcm hv hr htr => by
    have e16 : ∀ y : Nat, y * 16 ^ (d + 1) = (16 * y) * 16 ^ d := fun y => by rw [Nat.pow_succ, Nat.mul_comm (16 ^ d) 16, ← Nat.mul_assoc, Nat.mul_comm y 16]
    rw [e16] at hr
    obtain ⟨K', a1, a2, a3, a4⟩ := st_out hn hh hb hc (plan_ok hn hh hb hc d) (md := md) (c := c) (by omega) hcm hv hr htr n (Nat.le_refl _)
    refine ⟨K', ?_, a2, fun r c' h1 h2 h3 => ?_, a4⟩
    · rw [e16]
      exact good_up (Nat.mul_le_mul_right _ (by omega)) a1
    · obtain ⟨r, rfl⟩ : ∃ r', r = r' + 1 := ⟨r - 1, by omega⟩
      have hx : c' / 16 ^ r / 16 = c := by rw [Nat.div_div_eq_div_mul, ← Nat.pow_succ]; exact h3
      rw [show md + (r + 1) = md + 1 + r from by omega]
      rcases desc (st := st) (kd := kd) (tl := tl) (wa := wa) (h := h) (jb := jb) hn hb hc (md + 1) r c' with e | ⟨_, e2, _⟩
      · rw [e]
        exact good_inf a1
      · obtain ⟨_, ho⟩ := pbS_no (σ := evC st kd co tl bu h n jb md (c' / 16 ^ r / 16)) (g := c' / 16 ^ r % 16) e2 hn hb (Nat.mod_lt _ (by decide))
        refine a3 (c' / 16 ^ r % 16 / 4) (c' / 16 ^ r % 16 % 4) ho.1 ho.2.2 ho.2.1 r c' (by omega) ?_
        omega
end PQ
