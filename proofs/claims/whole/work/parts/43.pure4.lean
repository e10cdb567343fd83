/-! ===== the plan: every run of sales as a number (price, how many, which), the least of them on both sides ===== -/
def cand (p q c : Nat) : Nat := p * 16384 + q * 4096 + c
def KINF : Nat := 16384000
section PL
variable (st kd co : Nat → Int32) (tl wa bu : Int32) (h n jb : Nat) (cN : Nat → Nat)
/-- the reference's state behind m sales, whose numbers are c's figures to 16 -/
def evC : Nat → Nat → QS
  | 0, _ => (1, 0, 0, st)
  | m + 1, c => pbS kd co tl (nI h) n bu jb (evC m (c / 16)) (c % 16)
def pN : Nat → Nat → Nat
  | 0, _ => 0
  | m + 1, c => pN m (c / 16) + cN (c % 16 / 4)
theorem pbL_ev (cd : Nat) : ∀ r m, pbL kd co tl (nI h) n bu jb cd r (evC st kd co tl bu h n jb m (cd / 16 ^ r)) = evC st kd co tl bu h n jb (m + r) cd
  | 0, m => by
    show evC st kd co tl bu h n jb m (cd / 1) = _
    rw [Nat.div_one]
    rfl
  | r + 1, m => by
    show pbL kd co tl (nI h) n bu jb cd r (pbS kd co tl (nI h) n bu jb (evC st kd co tl bu h n jb m (cd / 16 ^ (r + 1))) (dg cd r)) = _
    have e : pbS kd co tl (nI h) n bu jb (evC st kd co tl bu h n jb m (cd / 16 ^ (r + 1))) (dg cd r) = evC st kd co tl bu h n jb (m + 1) (cd / 16 ^ r) := by
      show _ = pbS kd co tl (nI h) n bu jb (evC st kd co tl bu h n jb m (cd / 16 ^ r / 16)) (cd / 16 ^ r % 16)
      rw [Nat.div_div_eq_div_mul, ← Nat.pow_succ]
      rfl
    rw [e, pbL_ev cd r (m + 1), show m + 1 + r = m + (r + 1) from by omega]
theorem pbL_all {q cd : Nat} (hc : cd < 16 ^ q) : pbL kd co tl (nI h) n bu jb cd q (1, 0, 0, st) = evC st kd co tl bu h n jb q cd := by
  have e := pbL_ev st kd co tl bu h n jb cd q 0
  rw [show cd / 16 ^ q = 0 from Nat.div_eq_of_lt hc, Nat.zero_add] at e
  exact e
/-- a figure names a sale that may be -/
def okD (g : Nat) : Prop := g / 4 < n ∧ g % 4 < n ∧ ¬ bu = nI (g / 4)
end PL
section PM
variable {st kd co : Nat → Int32} {tl wa bu : Int32} {h n jb : Nat} {cN : Nat → Nat}
theorem hs_nI {n x : Nat} (hn : n ≤ 4) (hx : x < 2 ^ 31) : f_X6_within (nI x) 0 (nI n - 1) = 0 ↔ ¬ x < n := by
  rw [← has_w hn]
  unfold f_X2_has
  rw [if_neg (nI_pos hx)]
  by_cases z : x < n
  · rw [if_neg (nI_ge z (by omega))]; exact ⟨fun e => absurd e one_ne, fun e => absurd z e⟩
  · rw [if_pos (nI_le (by omega) hx)]; exact ⟨fun _ => z, fun _ => rfl⟩
theorem sale_ok {n : Nat} {bu : Int32} (hn : n ≤ 4) (hb : ¬ f_X6_within bu 0 (nI n - 1) = 0) {g : Nat} (hg : g < 16) : f_X6_isSale n bu (nI (g / 4)) (nI (g % 4)) = 0 ↔ ¬ okD bu n g := by
  unfold f_X6_isSale okD
  rw [if_neg hb]
  by_cases h1 : g / 4 < n
  · rw [if_neg (fun z => ((hs_nI hn (by omega)).mp z) h1)]
    by_cases h2 : g % 4 < n
    · rw [if_neg (fun z => ((hs_nI hn (by omega)).mp z) h2)]
      by_cases h3 : bu = nI (g / 4)
      · rw [if_pos h3]; exact ⟨fun _ z => z.2.2 h3, fun _ => rfl⟩
      · rw [if_neg h3]; exact ⟨fun e => absurd e one_ne, fun e => absurd ⟨h1, h2, h3⟩ e⟩
    · rw [if_pos ((hs_nI hn (by omega)).mpr h2)]; exact ⟨fun _ z => h2 z.2.1, fun _ => rfl⟩
  · rw [if_pos ((hs_nI hn (by omega)).mpr h1)]; exact ⟨fun _ z => h1 z.1, fun _ => rfl⟩
theorem pbS_yes (hn : n ≤ 4) (hb : ¬ f_X6_within bu 0 (nI n - 1) = 0) {σ : QS} (hs : σ.1 = 1) {g : Nat} (hg : g < 16) (ho : okD bu n g) : pbS kd co tl (nI h) n bu jb σ g = (1, σ.2.1 + f_X6_ounces kd σ.2.2.2 tl jb (g % 4) (nI h), σ.2.2.1 + co (g / 4), f_X6_wear kd σ.2.2.2 (g / 4) (g % 4)) := by
  unfold pbS
  rw [if_neg (by rw [hs]; exact one_ne), if_neg (fun z => (sale_ok hn hb hg).mp z ho)]
theorem pbS_no {σ : QS} {g : Nat} (h : ¬ (pbS kd co tl (nI h) n bu jb σ g).1 = 0) (hn : n ≤ 4) (hb : ¬ f_X6_within bu 0 (nI n - 1) = 0) (hg : g < 16) : ¬ σ.1 = 0 ∧ okD bu n g := by
  unfold pbS at h
  by_cases h1 : σ.1 = 0
  · rw [if_pos h1] at h; exact absurd rfl h
  · rw [if_neg h1] at h
    refine ⟨h1, Classical.byContradiction (fun z => ?_)⟩
    rw [if_pos ((sale_ok hn hb hg).mpr z)] at h
    exact h rfl
theorem ev_01 : ∀ m c, (evC st kd co tl bu h n jb m c).1 = 0 ∨ (evC st kd co tl bu h n jb m c).1 = 1
  | 0, _ => Or.inr rfl
  | m + 1, c => by
    show (pbS kd co tl (nI h) n bu jb (evC st kd co tl bu h n jb m (c / 16)) (c % 16)).1 = 0 ∨ (pbS kd co tl (nI h) n bu jb (evC st kd co tl bu h n jb m (c / 16)) (c % 16)).1 = 1
    unfold pbS
    split
    · exact Or.inl rfl
    · split
      · exact Or.inl rfl
      · exact Or.inr rfl
/-- what is paid, as a number -/
theorem ev_paid (hn : n ≤ 4) (hb : ¬ f_X6_within bu 0 (nI n - 1) = 0) (hc : ∀ j, j < n → co j = nI (cN j) ∧ 1 ≤ cN j ∧ cN j ≤ 9) : ∀ m c, ¬ (evC st kd co tl bu h n jb m c).1 = 0 → (evC st kd co tl bu h n jb m c).2.2.1 = nI (pN cN m c) ∧ pN cN m c ≤ 9 * m
  | 0, _, _ => ⟨rfl, Nat.le_refl 0⟩
  | m + 1, c, hv => by
    obtain ⟨h1, ho⟩ := pbS_no hv hn hb (Nat.mod_lt c (by decide))
    have hs : (evC st kd co tl bu h n jb m (c / 16)).1 = 1 := (ev_01 m (c / 16)).resolve_left h1
    obtain ⟨e1, e2⟩ := ev_paid hn hb hc m (c / 16) h1
    have e : evC st kd co tl bu h n jb (m + 1) c = _ := pbS_yes (kd := kd) (co := co) (tl := tl) (h := h) (jb := jb) hn hb hs (Nat.mod_lt c (by decide)) ho
    obtain ⟨q1, q2, q3⟩ := hc _ ho.1
    rw [e]
    refine ⟨?_, ?_⟩
    · show (evC st kd co tl bu h n jb m (c / 16)).2.2.1 + co (c % 16 / 4) = nI (pN cN m (c / 16) + cN (c % 16 / 4))
      rw [e1, q1, nI_add]
    · show pN cN m (c / 16) + cN (c % 16 / 4) ≤ 9 * (m + 1)
      omega
theorem ev_pre : ∀ r m c, ¬ (evC st kd co tl bu h n jb (m + r) c).1 = 0 → (hn : n ≤ 4) → (hb : ¬ f_X6_within bu 0 (nI n - 1) = 0) → (hc : ∀ j, j < n → co j = nI (cN j) ∧ 1 ≤ cN j ∧ cN j ≤ 9) → ¬ (evC st kd co tl bu h n jb m (c / 16 ^ r)).1 = 0 ∧ pN cN m (c / 16 ^ r) + r ≤ pN cN (m + r) c
  | 0, m, c, hv, _, _, _ => by rw [Nat.pow_zero, Nat.div_one]; exact ⟨hv, Nat.le_refl _⟩
  | r + 1, m, c, hv, hn, hb, hc => by
    obtain ⟨h1, ho⟩ := pbS_no (σ := evC st kd co tl bu h n jb (m + r) (c / 16)) hv hn hb (Nat.mod_lt c (by decide))
    obtain ⟨e1, e2⟩ := ev_pre r m (c / 16) h1 hn hb hc
    rw [Nat.div_div_eq_div_mul, show 16 * 16 ^ r = 16 ^ (r + 1) from by rw [Nat.pow_succ, Nat.mul_comm]] at e1 e2
    refine ⟨e1, ?_⟩
    have q := (hc _ ho.1).2.1
    show _ ≤ pN cN (m + r) (c / 16) + cN (c % 16 / 4)
    omega
/-- what a run of sales is worth -/
def VV (st kd co : Nat → Int32) (tl wa bu : Int32) (h n jb : Nat) (cN : Nat → Nat) (q c : Nat) : Nat := if (evC st kd co tl bu h n jb q c).1 = 0 then KINF else if (evC st kd co tl bu h n jb q c).2.1 < wa then KINF else cand (pN cN q c) q c
theorem pbR_val (hn : n ≤ 4) (hb : ¬ f_X6_within bu 0 (nI n - 1) = 0) (hc : ∀ j, j < n → co j = nI (cN j) ∧ 1 ≤ cN j ∧ cN j ≤ 9) {q cd : Nat} (hcd : cd < 16 ^ q) : (pbR st kd co tl (nI h) n bu jb wa q cd = 268435456 ∧ VV st kd co tl wa bu h n jb cN q cd = KINF) ∨ (pbR st kd co tl (nI h) n bu jb wa q cd = nI (pN cN q cd) ∧ pN cN q cd ≤ 9 * q ∧ VV st kd co tl wa bu h n jb cN q cd = cand (pN cN q cd) q cd) := by
  unfold pbR VV
  rw [pbL_all st kd co tl bu h n jb hcd]
  by_cases h1 : (evC st kd co tl bu h n jb q cd).1 = 0
  · rw [if_pos h1, if_pos h1]; exact Or.inl ⟨rfl, rfl⟩
  · rw [if_neg h1, if_neg h1]
    by_cases h2 : (evC st kd co tl bu h n jb q cd).2.1 < wa
    · rw [if_pos h2, if_pos h2]; exact Or.inl ⟨rfl, rfl⟩
    · rw [if_neg h2, if_neg h2]
      obtain ⟨e1, e2⟩ := ev_paid (st := st) (kd := kd) (tl := tl) (h := h) (jb := jb) hn hb hc q cd h1
      exact Or.inr ⟨e1, e2, rfl⟩
/-! the reference's least -/
def mnC (V : Nat → Nat) (K : Nat) : Nat → Nat
  | 0 => K
  | c + 1 => min (mnC V K c) (V c)
def mnM (V : Nat → Nat → Nat) : Nat → Nat
  | 0 => KINF
  | m + 1 => mnC (V (m + 1)) (mnM V m) (16 ^ (m + 1))
/-- the reference's three numbers, and the least so far; all that it has seen stand ahead of (q, c) -/
def RelM (τ : TT) (K : Nat) (q c : Nat) : Prop := (K = KINF ∧ τ = (-1, 0, 268435456)) ∨ ∃ p q0 c0 : Nat, K = cand p q0 c0 ∧ p ≤ 27 ∧ 1 ≤ q0 ∧ q0 ≤ 3 ∧ c0 < 16 ^ q0 ∧ q0 * 4096 + c0 < q * 4096 + c ∧ τ = (nI c0, nI q0, nI p)
theorem cand_lt {p q c : Nat} (hp : p ≤ 27) (hq : q ≤ 3) (hc : c < 4096) : cand p q c < KINF := by unfold cand KINF; omega
theorem relM_step {τ : TT} {K q c : Nat} {P : Int32} {v p : Nat} (hq1 : 1 ≤ q) (hq : q ≤ 3) (hc : c < 16 ^ q) (hr : RelM τ K q c) (hP : (P = 268435456 ∧ v = KINF) ∨ (P = nI p ∧ p ≤ 27 ∧ v = cand p q c)) : RelM (if τ.2.2 ≤ P then τ else (nI c, nI q, P)) (min K v) q (c + 1) := by
  have h40 := pow16 q hq
  rcases hr with ⟨rfl, rfl⟩ | ⟨p0, q0, c0, rfl, g1, g2, g3, g4, g5, rfl⟩
  · rcases hP with ⟨rfl, rfl⟩ | ⟨rfl, k1, rfl⟩
    · rw [if_pos (show (268435456 : Int32) ≤ 268435456 by decide), Nat.min_self]
      exact Or.inl ⟨rfl, rfl⟩
    · rw [if_neg (show ¬ (268435456 : Int32) ≤ nI p from nI_ge (b := 268435456) (by omega) (by decide)), Nat.min_eq_right (Nat.le_of_lt (cand_lt k1 hq (by omega)))]
      exact Or.inr ⟨p, q, c, rfl, k1, hq1, hq, hc, by omega, rfl⟩
  · have h41 := pow16 q0 g3
    have hk := cand_lt g1 g3 (c := c0) (by omega)
    rcases hP with ⟨rfl, rfl⟩ | ⟨rfl, k1, rfl⟩
    · rw [if_pos (show nI p0 ≤ 268435456 from nI_le (b := 268435456) (by omega) (by decide)), Nat.min_eq_left (Nat.le_of_lt hk)]
      exact Or.inr ⟨p0, q0, c0, rfl, g1, g2, g3, g4, by omega, rfl⟩
    · by_cases hpp : p0 ≤ p
      · rw [if_pos (show nI p0 ≤ nI p from nI_le hpp (by omega)), Nat.min_eq_left (show cand p0 q0 c0 ≤ cand p q c by unfold cand; omega)]
        exact Or.inr ⟨p0, q0, c0, rfl, g1, g2, g3, g4, by omega, rfl⟩
      · rw [if_neg (show ¬ nI p0 ≤ nI p from nI_ge (by omega) (by omega)), Nat.min_eq_right (show cand p q c ≤ cand p0 q0 c0 by unfold cand; omega)]
        exact Or.inr ⟨p, q, c, rfl, k1, hq1, hq, hc, Nat.lt_succ_self _, rfl⟩
theorem relM_C (hn : n ≤ 4) (hb : ¬ f_X6_within bu 0 (nI n - 1) = 0) (hc : ∀ j, j < n → co j = nI (cN j) ∧ 1 ≤ cN j ∧ cN j ≤ 9) {q : Nat} (hq1 : 1 ≤ q) (hq : q ≤ 3) {τ : TT} {K : Nat} (hr : RelM τ K q 0) : ∀ c, c ≤ 16 ^ q → RelM (plC (pbR st kd co tl (nI h) n bu jb wa q) q τ c) (mnC (VV st kd co tl wa bu h n jb cN q) K c) q c
  | 0, _ => hr
  | c + 1, h1 => by
    refine relM_step (p := pN cN q c) hq1 hq (by omega) (relM_C hn hb hc hq1 hq hr c (by omega)) ?_
    rcases pbR_val (st := st) (kd := kd) (tl := tl) (wa := wa) (h := h) (jb := jb) hn hb hc (q := q) (cd := c) (by omega) with e | ⟨e1, e2, e3⟩
    · exact Or.inl e
    · exact Or.inr ⟨e1, by omega, e3⟩
theorem relM_up {τ : TT} {K q c q2 c2 : Nat} (h : q * 4096 + c ≤ q2 * 4096 + c2) (hr : RelM τ K q c) : RelM τ K q2 c2 := by
  rcases hr with e | ⟨p, q0, c0, g0, g1, g2, g3, g4, g5, g6⟩
  · exact Or.inl e
  · exact Or.inr ⟨p, q0, c0, g0, g1, g2, g3, g4, Nat.lt_of_lt_of_le g5 h, g6⟩
theorem relM_all (hn : n ≤ 4) (hb : ¬ f_X6_within bu 0 (nI n - 1) = 0) (hc : ∀ j, j < n → co j = nI (cN j) ∧ 1 ≤ cN j ∧ cN j ≤ 9) : ∀ m, m ≤ 3 → RelM (plM (pbR st kd co tl (nI h) n bu jb wa) m) (mnM (VV st kd co tl wa bu h n jb cN) m) (m + 1) 0
  | 0, _ => Or.inl ⟨rfl, rfl⟩
  | m + 1, hm => by
    have e := relM_C (st := st) (kd := kd) (tl := tl) (wa := wa) (h := h) (jb := jb) hn hb hc (q := m + 1) (by omega) (by omega) (relM_all hn hb hc m (by omega)) (16 ^ (m + 1)) (Nat.le_refl _)
    exact relM_up (by have := pow16 (m + 1) (by omega); omega) e
theorem mnC_le (V : Nat → Nat) (K : Nat) : ∀ N, mnC V K N ≤ K ∧ ∀ c, c < N → mnC V K N ≤ V c
  | 0 => ⟨Nat.le_refl K, fun c h => absurd h (Nat.not_lt_zero c)⟩
  | N + 1 => by
    obtain ⟨h1, h2⟩ := mnC_le V K N
    refine ⟨Nat.le_trans (Nat.min_le_left _ _) h1, fun c hc => ?_⟩
    by_cases e : c = N
    · subst e; exact Nat.min_le_right _ _
    · exact Nat.le_trans (Nat.min_le_left _ _) (h2 c (by omega))
theorem mnC_at (V : Nat → Nat) (K : Nat) : ∀ N, mnC V K N = K ∨ ∃ c, c < N ∧ mnC V K N = V c
  | 0 => Or.inl rfl
  | N + 1 => by
    show min (mnC V K N) (V N) = K ∨ ∃ c, c < N + 1 ∧ min (mnC V K N) (V N) = V c
    rcases Nat.le_total (mnC V K N) (V N) with q | q
    · rw [Nat.min_eq_left q]
      rcases mnC_at V K N with e | ⟨c, h1, h2⟩
      · exact Or.inl e
      · exact Or.inr ⟨c, by omega, h2⟩
    · rw [Nat.min_eq_right q]
      exact Or.inr ⟨N, by omega, rfl⟩
theorem mnM_le (V : Nat → Nat → Nat) : ∀ m, mnM V m ≤ KINF ∧ ∀ q c, 1 ≤ q → q ≤ m → c < 16 ^ q → mnM V m ≤ V q c
  | 0 => ⟨Nat.le_refl _, fun q c h1 h2 _ => by omega⟩
  | m + 1 => by
    obtain ⟨h1, h2⟩ := mnM_le V m
    obtain ⟨g1, g2⟩ := mnC_le (V (m + 1)) (mnM V m) (16 ^ (m + 1))
    refine ⟨Nat.le_trans g1 h1, fun q c a1 a2 a3 => ?_⟩
    by_cases e : q = m + 1
    · subst e; exact g2 c a3
    · exact Nat.le_trans g1 (h2 q c a1 (by omega) a3)
theorem mnM_at (V : Nat → Nat → Nat) : ∀ m, mnM V m = KINF ∨ ∃ q c, 1 ≤ q ∧ q ≤ m ∧ c < 16 ^ q ∧ mnM V m = V q c
  | 0 => Or.inl rfl
  | m + 1 => by
    rcases mnC_at (V (m + 1)) (mnM V m) (16 ^ (m + 1)) with e | ⟨c, h1, h2⟩
    · rcases mnM_at V m with e2 | ⟨q, c, a1, a2, a3, a4⟩
      · exact Or.inl (e.trans e2)
      · exact Or.inr ⟨q, c, a1, by omega, a3, e.trans a4⟩
    · exact Or.inr ⟨m + 1, c, by omega, Nat.le_refl _, h1, h2⟩
end PM
