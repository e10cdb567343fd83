/-! ===== what each pair of calls leaves, in one form ===== -/
theorem buy_ok {kd st co gt pd de us : Nat → Int32} {n h a : Nat} {tl : Int32} (hn : n ≤ 4) (hh : h < 2 ^ 31) (ha : a ≤ 100) (b d t : Int32) : ∃ (R : Int32) (a2 : Nat) (st2 gt2 pd2 de2 us2 : Nat → Int32), a2 ≤ 100 ∧ f_X5_buy kd st co gt pd de us n tl (nI h) (nI a) b d t = (R, nI a2, st2, gt2, pd2, de2, us2) ∧ f_X6_buy kd st co gt pd de us n tl (nI h) (nI a) b d t = (R, nI a2, st2, gt2, pd2, de2, us2) := by
  rw [buy_eq hn hh ha]
  unfold f_X6_buy
  by_cases h1 : f_X6_isSale n b d t = 0
  · rw [if_pos h1]; exact ⟨_, a, _, _, _, _, _, ha, rfl, rfl⟩
  · rw [if_neg h1]
    by_cases h2 : nI a = 100
    · rw [if_pos h2]; exact ⟨_, a, _, _, _, _, _, ha, rfl, rfl⟩
    · rw [if_neg h2, nI_1]
      have h3 : ¬ a = 100 := fun z => h2 (by rw [z]; rfl)
      exact ⟨_, a + 1, _, _, _, _, _, by omega, rfl, rfl⟩
theorem hour_ok {n h : Nat} (hn : n ≤ 4) : ∃ (R : Int32) (h2 : Nat), h2 ≤ h + 1 ∧ f_X5_hour n (nI h) = (R, nI h2) ∧ f_X6_hour n (nI h) = (R, nI h2) := by
  rw [hour_eq hn]
  unfold f_X6_hour
  by_cases h1 : nI n = 0
  · rw [if_pos h1]; exact ⟨_, h, Nat.le_succ h, rfl, rfl⟩
  · rw [if_neg h1, nI_1]; exact ⟨_, h + 1, Nat.le_refl _, rfl, rfl⟩
theorem lose_ok (lo b : Int32) : ∃ (R lo2 : Int32), f_X5_lose lo b = (R, lo2) ∧ f_X6_lose lo b = (R, lo2) := ⟨(f_X6_lose lo b).1, (f_X6_lose lo b).2, by rw [lose_eq], rfl⟩
theorem pass_ok2 {tm tn : Nat → Int32} {n a : Nat} (hn : n ≤ 4) (ha : a ≤ 8) (hm : ∀ j, j < n → tm j = tn j) (b : Int32) : ∃ (R : Int32) (d2 : Nat) (tm2 tn2 : Nat → Int32), d2 ≤ 8 ∧ (∀ j, j < n → tm2 j = tn2 j) ∧ f_X5_pass n tm (nI a) b = (R, nI d2, tm2) ∧ f_X6_pass tn n (nI a) b = (R, nI d2, tn2) := by
  rcases pass_ok (tm := tm) (tn := tn) hn ha b with ⟨r, e1, e2⟩ | ⟨h1, _, e1, e2⟩
  · exact ⟨r, a, tm, tn, ha, hm, e1, e2⟩
  · exact ⟨_, a + 1, _, _, h1, pass_rel hm _, e1, e2⟩
/-- the image that both sides keep -/
def KP (i n r : Nat) (ik kho ksl jd jo ek em eh es ed el : Int32) (kst kgt kpd kde kus jm ke : Nat → Int32) : Prop :=
  (ik = 1 ∧ ek = 1 ∧ em = nI r ∧ (∃ x : Nat, x ≤ i + 1 ∧ kho = nI x ∧ eh = nI x) ∧ (∃ x : Nat, x ≤ 100 ∧ ksl = nI x ∧ es = nI x) ∧ (∃ x : Nat, x ≤ 8 ∧ jd = nI x ∧ ed = nI x) ∧ el = jo ∧ ∃ km : Nat → Int32, ke = kpF kst kgt kpd kde kus km ∧ ∀ j, j < n → jm j = km j) ∨ (ik = 0 ∧ (ek = 0 ∨ ∃ x : Nat, x < r ∧ em = nI x))
theorem KP.up {i n r : Nat} {ik kho ksl jd jo ek em eh es ed el : Int32} {kst kgt kpd kde kus jm ke : Nat → Int32} (h : KP i n r ik kho ksl jd jo ek em eh es ed el kst kgt kpd kde kus jm ke) : KP (i + 1) n r ik kho ksl jd jo ek em eh es ed el kst kgt kpd kde kus jm ke := by
  rcases h with ⟨h1, h2, h3, ⟨x, x1, x2, x3⟩, h5⟩ | h
  · exact Or.inl ⟨h1, h2, h3, ⟨x, by omega, x2, x3⟩, h5⟩
  · exact Or.inr h
theorem KP.new {i n r : Nat} {ik kho ksl jd jo ek em eh es ed el : Int32} {kst kgt kpd kde kus jm ke : Nat → Int32} (n2 : Nat) (h : KP i n r ik kho ksl jd jo ek em eh es ed el kst kgt kpd kde kus jm ke) : KP (i + 1) n2 (r + 1) 0 kho ksl jd jo ek em eh es ed el kst kgt kpd kde kus jm ke := by
  rcases h with ⟨_, _, h3, _⟩ | ⟨_, h | ⟨x, x1, x2⟩⟩
  · exact Or.inr ⟨rfl, Or.inr ⟨r, Nat.lt_succ_self r, h3⟩⟩
  · exact Or.inr ⟨rfl, Or.inl h⟩
  · exact Or.inr ⟨rfl, Or.inr ⟨x, by omega, x2⟩⟩
theorem image_ok {i n r h a d : Nat} {ik kho ksl jd jo ek em eh es ed el lo : Int32} {st gt pd de us tm tn kst kgt kpd kde kus jm ke : Nat → Int32} (hn : n ≤ 4) (hh : h ≤ i + 1) (ha : a ≤ 100) (hd : d ≤ 8) (hm : ∀ j, j < n → tm j = tn j) (hk : KP i n r ik kho ksl jd jo ek em eh es ed el kst kgt kpd kde kus jm ke) : ∃ (R ik2 kho2 ksl2 jd2 jo2 ek2 em2 eh2 es2 ed2 el2 : Int32) (kst2 kgt2 kpd2 kde2 kus2 jm2 ke2 : Nat → Int32), f_X5_image ik st gt pd de us n (nI h) (nI a) tm (nI d) lo kst kgt kpd kde kus kho ksl jm jd jo = (R, ik2, nI n, kho2, ksl2, kst2, kgt2, kpd2, kde2, kus2, jd2, jo2, jm2) ∧ f_X6_image st gt pd de us tn ke (nI r) n (nI h) (nI a) (nI d) lo ek em eh es ed el = (R, ek2, em2, eh2, es2, ed2, el2, ke2) ∧ KP (i + 1) n r ik2 kho2 ksl2 jd2 jo2 ek2 em2 eh2 es2 ed2 el2 kst2 kgt2 kpd2 kde2 kus2 jm2 ke2 := by
  unfold f_X5_image f_X6_image
  by_cases h1 : nI n = 0
  · rw [if_pos ((open_w hn).mpr h1), if_pos h1]
    exact ⟨_, _, _, _, _, _, _, _, _, _, _, _, _, _, _, _, _, _, _, rfl, rfl, hk.up⟩
  · rw [if_neg (fun z => h1 ((open_w hn).mp z)), if_neg h1]
    exact ⟨_, _, _, _, _, _, _, _, _, _, _, _, _, _, _, _, _, _, _, rfl, rfl, Or.inl ⟨rfl, rfl, rfl, ⟨h, by omega, rfl, rfl⟩, ⟨a, ha, rfl, rfl⟩, ⟨d, hd, rfl, rfl⟩, rfl, tn, rfl, hm⟩⟩
theorem ke0 (a b c d e f : Nat → Int32) : keR (kpF a b c d e f) 0 = a := by
  funext i
  unfold keR kpF
  rw [if_pos (by omega), show (6 * i + 0) / 6 = i from by omega]
theorem ke1 (a b c d e f : Nat → Int32) : keR (kpF a b c d e f) 1 = b := by
  funext i
  unfold keR kpF
  rw [if_neg (by omega), if_pos (by omega), show (6 * i + 1) / 6 = i from by omega]
theorem ke2 (a b c d e f : Nat → Int32) : keR (kpF a b c d e f) 2 = c := by
  funext i
  unfold keR kpF
  rw [if_neg (by omega), if_neg (by omega), if_pos (by omega), show (6 * i + 2) / 6 = i from by omega]
theorem ke3 (a b c d e f : Nat → Int32) : keR (kpF a b c d e f) 3 = d := by
  funext i
  unfold keR kpF
  rw [if_neg (by omega), if_neg (by omega), if_neg (by omega), if_pos (by omega), show (6 * i + 3) / 6 = i from by omega]
theorem ke4 (a b c d e f : Nat → Int32) : keR (kpF a b c d e f) 4 = e := by
  funext i
  unfold keR kpF
  rw [if_neg (by omega), if_neg (by omega), if_neg (by omega), if_neg (by omega), if_pos (by omega), show (6 * i + 4) / 6 = i from by omega]
theorem ke5 (a b c d e f : Nat → Int32) : keR (kpF a b c d e f) 5 = f := by
  funext i
  unfold keR kpF
  rw [if_neg (by omega), if_neg (by omega), if_neg (by omega), if_neg (by omega), if_neg (by omega), show (6 * i + 5) / 6 = i from by omega]
theorem restore_ok {i n r h a d : Nat} {ik kho ksl jd jo ek em eh es ed el lo : Int32} {st gt pd de us tm tn kst kgt kpd kde kus jm ke : Nat → Int32} (hr : r < 2 ^ 31) (hh : h ≤ i + 1) (ha : a ≤ 100) (hd : d ≤ 8) (hm : ∀ j, j < n → tm j = tn j) (hk : KP i n r ik kho ksl jd jo ek em eh es ed el kst kgt kpd kde kus jm ke) : ∃ (R lo2 : Int32) (h2 a2 d2 : Nat) (st2 gt2 pd2 de2 us2 tm2 tn2 : Nat → Int32), h2 ≤ i + 1 ∧ a2 ≤ 100 ∧ d2 ≤ 8 ∧ (∀ j, j < n → tm2 j = tn2 j) ∧ f_X5_restore ik st gt pd de us n (nI h) (nI a) tm (nI d) lo kst kgt kpd kde kus kho ksl jm jd jo = (R, nI n, nI h2, nI a2, st2, gt2, pd2, de2, us2, nI d2, lo2, tm2) ∧ f_X6_restore st gt pd de us tn ke (nI r) (nI h) (nI a) (nI d) lo ek em eh es ed el = (R, nI h2, nI a2, nI d2, lo2, st2, gt2, pd2, de2, us2, tn2) := by
  unfold f_X5_restore f_X6_restore
  rcases hk with ⟨rfl, rfl, rfl, ⟨x, x1, rfl, rfl⟩, ⟨y, y1, rfl, rfl⟩, ⟨z, z1, rfl, rfl⟩, rfl, km, rfl, hkm⟩ | ⟨rfl, hz⟩
  · rw [if_neg one_ne, if_neg one_ne, if_pos rfl, ke0, ke1, ke2, ke3, ke4, ke5]
    exact ⟨_, _, x, y, z, _, _, _, _, _, _, _, x1, y1, z1, hkm, rfl, rfl⟩
  · rw [if_pos rfl]
    have e6 : (if ek = 0 then ((-103 : Int32), nI h, nI a, nI d, lo, st, gt, pd, de, us, tn) else if em = nI r then (eh, eh, es, ed, el, keR ke 0, keR ke 1, keR ke 2, keR ke 3, keR ke 4, keR ke 5) else ((-103), nI h, nI a, nI d, lo, st, gt, pd, de, us, tn)) = ((-103), nI h, nI a, nI d, lo, st, gt, pd, de, us, tn) := by
      rcases hz with z | ⟨x, x1, rfl⟩
      · rw [if_pos z]
      · by_cases z : ek = 0
        · rw [if_pos z]
        · rw [if_neg z, if_neg (fun w => absurd ((nI_eq (by omega) hr).mp w) (by omega))]
    rw [e6]
    exact ⟨_, _, h, a, d, _, _, _, _, _, _, _, hh, ha, hd, hm, rfl, rfl⟩
theorem market_yes {lt : Nat → Int32} {k : Nat} (hk : k ≤ 18) (hw : ¬ (rdL lt k 4 0).2.1 = 0) : (rdL lt k 4 0).2.2 = nI (k / 4) ∧ (rdL lt k 4 0).1 = nI k ∧ k = 4 * (k / 4) + 1 ∧ k / 4 ≤ 4 ∧ 2 ≤ k / 4 ∧ ∀ j, j < k / 4 → ¬ f_X6_isFigure lt k (4 * j + 2) 1 9 = 0 := by
  obtain ⟨q, _, h1, h2, h3, _, h5, h6, h7⟩ := rd_whole hk 4 0 rfl (Nat.zero_le _) hw
  have e : k / 4 = q + 1 := by omega
  rw [e]
  exact ⟨h6, h5, by omega, by omega, by omega, fun j hj => h7 j (Nat.zero_le _) (by omega)⟩
theorem market_coin {lt co : Nat → Int32} {k : Nat} (hk : k ≤ 18) (hl : rng lt) (hw : ¬ (rdL lt k 4 0).2.1 = 0) : ∃ cN : Nat → Nat, ∀ j, j < k / 4 → fillN (mkC lt) co (k / 4) j = nI (cN j) ∧ 1 ≤ cN j ∧ cN j ≤ 9 := by
  obtain ⟨_, _, h3, h4, _, h6⟩ := market_yes hk hw
  refine ⟨fun j => (Classical.choose (hl (4 * j + 2))) - 48, fun j hj => ?_⟩
  have q := Classical.choose_spec (hl (4 * j + 2))
  have z := h6 j hj
  have z2 : ¬ f_X6_within (lt (4 * j + 2) - 48) 1 9 = 0 := fun y => z ((isF_in (by omega) hk 1 9).mpr y)
  rw [q.2] at z2
  obtain ⟨c1, c2, c3⟩ := coin19 _ q.1 z2
  refine ⟨?_, c1, c2⟩
  unfold fillN
  rw [if_pos hj]
  unfold mkC
  rw [q.2]
  exact c3
theorem market_ok {ik mr tl ho sl hd lo : Int32} {kd st co gt pd de us tm lt : Nat → Int32} {n k : Nat} (hk : k ≤ 18) (hl : rng lt) (hw : ¬ (rdL lt k 4 0).2.1 = 0) : f_X5_market ik mr kd st co gt pd de us n tl ho sl tm hd lo lt k = (nI (k / 4), 0, mr + 1, nI (k / 4), lt (k - 1) - 48, 1, 0, fillN (mkK lt) kd (k / 4), fillN (mkS lt) st (k / 4), fillN (mkC lt) co (k / 4), fillN ze gt (k / 4), fillN ze pd (k / 4), fillN ze de (k / 4), fillN ze us (k / 4), 0, 0, (fun _ => 0), 0) := by
  unfold f_X5_market
  rw [if_neg (fun z => hw ((mk_iff hk hl).mp z)), op_K hl, op_S, op_C]
theorem market_nay {ik mr tl ho sl hd lo : Int32} {kd st co gt pd de us tm lt : Nat → Int32} {n k : Nat} (hk : k ≤ 18) (hl : rng lt) (hz : (rdL lt k 4 0).2.1 = 0) : f_X5_market ik mr kd st co gt pd de us n tl ho sl tm hd lo lt k = ((-103), ik, mr, nI n, tl, ho, sl, kd, st, co, gt, pd, de, us, hd, lo, tm, nI k) := by
  unfold f_X5_market
  rw [if_pos ((mk_iff hk hl).mpr hz)]
theorem ze_rel (tn : Nat → Int32) (N : Nat) : ∀ j, j < N → (fun _ => (0 : Int32)) j = fillN ze tn N j := by
  intro j hj
  unfold fillN
  rw [if_pos hj]
  rfl
