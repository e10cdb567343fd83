/-! ===== the String constant that the class reads: "hrowm" ===== -/
def kLet (j : Nat) : Int32 := ([104, 114, 111, 119, 109] : List Int32).getD j 0
def gStr (ka va : Nat) (A : Nat → Prop) (U : State) (H : Heap) : Prop :=
  vk_R RX3 31 "hrowm" ka U ∧ vk_R RX5 97 "hrowm" ka U ∧ va_O "java/lang/String" ka A U H ∧ va_OF "java/lang/String" "coder" "B" (.int 0) ka A U H ∧ va_OF "java/lang/String" "value" "[B" (.ref va) ka A U H ∧ va_T .byte va 5 (fun j => .int (kLet j)) A U H ∧ va_Z "java/lang/String" "COMPACT_STRINGS" "Z" (.int 1) A U H
theorem gStr.same {ka va : Nat} {A : Nat → Prop} {u U : State} {H : Heap} (h : u.vm = U.vm) (q : gStr ka va A u H) : gStr ka va A U H := ⟨q.1.same h.symm, q.2.1.same h.symm, q.2.2.1.moved (h ▸ Vm.Alike.refl u.vm), q.2.2.2.1.moved (h ▸ Vm.Alike.refl u.vm), q.2.2.2.2.1.moved (h ▸ Vm.Alike.refl u.vm), q.2.2.2.2.2.1.moved (h ▸ Vm.Alike.refl u.vm), q.2.2.2.2.2.2.moved (h ▸ Vm.Alike.refl u.vm)⟩
theorem gStr.warm {ka va : Nat} {A : Nat → Prop} {s U : State} {H : Heap} (h : s.WarmedH U.vm) (q : gStr ka va A s H) : gStr ka va A U H := ⟨q.1.warm h, q.2.1.warm h, q.2.2.1.moved h.alike, q.2.2.2.1.moved h.alike, q.2.2.2.2.1.moved h.alike, q.2.2.2.2.2.1.moved h.alike, q.2.2.2.2.2.2.moved h.alike⟩
theorem gStr.kept {ka va : Nat} {A : Nat → Prop} {U : State} {H H1 : Heap} (q : gStr ka va A U H) (hq : ∀ a : Nat, a < H.size → ¬ A a → H1[a]? = H[a]?) : gStr ka va A U H1 := ⟨q.1, q.2.1, q.2.2.1.kept hq, q.2.2.2.1.kept hq, q.2.2.2.2.1.kept hq, q.2.2.2.2.2.1.kept hq, q.2.2.2.2.2.2.kept hq⟩
theorem gStr.narrow {ka va : Nat} {A B : Nat → Prop} {U : State} {H : Heap} (q : gStr ka va A U H) (hAB : ∀ q, B q → A q) : gStr ka va B U H := ⟨q.1, q.2.1, q.2.2.1.narrow hAB, q.2.2.2.1.narrow hAB, q.2.2.2.2.1.narrow hAB, q.2.2.2.2.2.1.narrow hAB, q.2.2.2.2.2.2.narrow hAB⟩
abbrev gF : Nat → Prop := fun _ => False
abbrev gPrS (D : va_G) (cB cC cI : ClassId) (ka va : Nat) (av : List Value) (wc : va_W) : Array Value → State → Prop := va_Pc av (fun U => va_P D vwCl wc U.heap ∧ gK D cB cC cI U ∧ gStr ka va gF U U.heap)
abbrev gPwS (D : va_G) (cB cC cI : ClassId) (ka va : Nat) (av : List Value) (wc : va_W) (sz : Nat) : Array Value → State → Prop := va_Pc av (fun U => U.heap.size = sz ∧ va_P D vwCl wc U.heap ∧ gK D cB cC cI U ∧ va_D (fun _ => True) wc ∧ gStr ka va (va_A wc sz) U U.heap)
theorem gPrS_blind {D : va_G} {cB cC cI : ClassId} {ka va : Nat} {av : List Value} {wc : va_W} : FrameBlind (gPrS D cB cC cI ka va av wc) := fun a U g mk q => ⟨q.1, q.2.1, gK.same (u := U) (U := U.calling g mk a) rfl q.2.2.1, gStr.same (u := U) (U := U.calling g mk a) rfl q.2.2.2⟩
theorem gPwS_blind {D : va_G} {cB cC cI : ClassId} {ka va : Nat} {av : List Value} {wc : va_W} {sz : Nat} : FrameBlind (gPwS D cB cC cI ka va av wc sz) := fun a U g mk q => ⟨q.1, q.2.1, q.2.2.1, gK.same (u := U) (U := U.calling g mk a) rfl q.2.2.2.1, q.2.2.2.2.1, gStr.same (u := U) (U := U.calling g mk a) rfl q.2.2.2.2.2⟩
theorem metRS {l : Launch} {y : MethodName} {ws ws' : List Cond} {rm : Room} {D : va_G} {cB cC cI : ClassId} {ka va : Nat} {av : List Value} {wc : va_W} {Qc : Array Value → State → Outcome → State → Prop} {cc : ByteArray} {maxL : Nat} {ret : Option FieldType} (own : String) (hown : y.cls = own)
    (hy : plainName y.cls = true) (hw : ws = Cond.code y cc maxL ret :: ws') (hlen : (lg_sl av).length ≤ maxL)
    (body : ∀ (p : Program) (e : Env) (s : State) (m : MethodId) (below : List Frame) (meth : Method) (c : Code), p.tables.exec = Jvm.exec → c.code = cc → meth.sig.returnType = ret → c.maxLocals = maxL → s.vm.findClass own = some m.cls → (∀ w ∈ ws, w.before av.toArray s = true) → meth.locks = false → va_P D vwCl wc s.heap → gK D cB cC cI s → gStr ka va gF s s.heap → ∀ ls : Array Slot, lv_has ls maxL (lv_args 0 av) →
      W p l e (headSpec ws rm).room s m av.toArray below meth c s.heap [] 0 0 (MQ below Qc av.toArray s 0 0 (fun _ => False)) (F0 m 0 ls [])) : Met l y ws rm (gPrS D cB cC cI ka va av wc) Qc 0 0 (fun _ => False) := by
  refine Met.ofW (cc := cc) (maxL := maxL) (ret := ret) hy hw ?_
  intro p e s m args below meth c s₁ B hml hv
  obtain ⟨rfl, hP, hK, hG⟩ := hv
  have hl := lv_entry av (n := maxL) hlen
  rw [lg_entry_eq]
  exact body p e s m below meth c B.exec B.bytes B.returns hml (hown ▸ findClass_of_methodNamed B.named) (atoms_spec (ws := ws) B.pre) B.notSynchronized hP hK hG _ hl
theorem metWS {l : Launch} {y : MethodName} {ws ws' : List Cond} {rm : Room} {D : va_G} {cB cC cI : ClassId} {ka va : Nat} {av : List Value} {wc : va_W} {sz mc ms : Nat} {QA : (Nat → Prop) → Array Value → State → Outcome → State → Prop} {cc : ByteArray} {maxL : Nat} {ret : Option FieldType} (own : String) (hown : y.cls = own)
    (hy : plainName y.cls = true) (hw : ws = Cond.code y cc maxL ret :: ws') (hlen : (lg_sl av).length ≤ maxL)
    (body : ∀ (p : Program) (e : Env) (s : State) (m : MethodId) (below : List Frame) (meth : Method) (c : Code) (A : Nat → Prop), p.tables.exec = Jvm.exec → c.code = cc → meth.sig.returnType = ret → c.maxLocals = maxL → s.vm.findClass own = some m.cls → (∀ w ∈ ws, w.before av.toArray s = true) → meth.locks = false → meth.name = y.name → va_P D vwCl wc s.heap → gK D cB cC cI s → va_D A wc → (∀ q : Nat, s.heap.size ≤ q → A q) → va_S A s.heap s.heap [] → gStr ka va A s s.heap → ∀ ls : Array Slot, lv_has ls maxL (lv_args 0 av) →
      W p l e (headSpec ws rm).room s m av.toArray below meth c s.heap [] 0 0 (MQ below (QA A) av.toArray s mc ms A) (F0 m 0 ls [])) : Met l y ws rm (gPwS D cB cC cI ka va av wc sz) (QA (va_A wc sz)) mc ms (va_A wc sz) := by
  refine Met.ofW (cc := cc) (maxL := maxL) (ret := ret) hy hw ?_
  intro p e s m args below meth c s₁ B hml hv
  obtain ⟨rfl, hsz, hP, hK, hD0, hG⟩ := hv
  subst hsz
  have hl := lv_entry av (n := maxL) hlen
  rw [lg_entry_eq]
  exact body p e s m below meth c (va_A wc s.heap.size) B.exec B.bytes B.returns hml (hown ▸ findClass_of_methodNamed B.named) (atoms_spec (ws := ws) B.pre) B.notSynchronized (name_of_methodNamed B.named B.method).1 hP hK (hD0.self (sz := s.heap.size)) (fun q h => Or.inr h) va_S.rf hG _ hl
section MyCallsS
variable {p : Program} {l : Launch} {e : Env} {R : Room} {s : State} {m : MethodId} {args : Array Value} {below : List Frame} {meth : Method} {c : Code} {H : Heap} {locs : List Loc} {cells slots : Nat} {Q : State → Prop}
variable {cc bytes : ByteArray} {pc nL maxL index n ci q0 N : Nat} {ls : Array Slot} {rest As st : List Value} {D : va_G} {cB cC cI : ClassId} {w0 wc wr : va_W} {own C : String} {y : MethodName} {ret : Option FieldType} {rm : Room} {Ts ws : List Cond} {b ka va : Nat} {T : u_T} {fs : List Value} {A0 : Nat → Prop} {H0 : Heap}
theorem gPrS_at (hG : gStr ka va gF s H) (hK : gK D cB cC cI s) (hP : va_P D vwCl w0 H) (is : List Nat) (hs : is.map (fun i => w0[i]?) = wc.map some) {av : List Value} (U : State) (hU : U.heap = H) (hW : s.WarmedH U.vm) : gPrS D cB cC cI ka va av wc av.toArray U := ⟨rfl, by rw [hU]; exact hP.sub is (fm_of_map hs), hK.warm hW, by rw [hU]; exact hG.warm hW⟩
theorem rcViS {e0 : Int32} (S : CallFix p m c cc nL s args Ts own) (hM : Met l y ws rm (gPrS D cB cC cI ka va (.ref b :: As) wc) (vp_Si (fun r => r = e0)) 0 0 (fun _ => False)) (cw : CallW R s args own C index y bytes maxL ret ws rm 0 0 n) (hG : gStr ka va gF s H)
    (hK : gK D cB cC cI s) (hP : va_P D vwCl w0 H) (is : List Nat) (hs : is.map (fun i => w0[i]?) = wc.map some) (hc : vwCl[ci]? = some (C, T, N)) (q0 : Nat) (he : w0[q0]? = some (b, .inr (ci, fs)))
    (hn : As.length = n) (hsize : ls.size = nL) (hst : st = As.reverse ++ .ref b :: rest) (hW : (rest.map fun v => v.category).sum ≤ 8) (hdg : decode cc pc = .ok (.invokevirtual index, 3)) (hf : cells + 0 ≤ R.cells ∧ slots + 0 ≤ R.slots)
    (kk : W p l e R s m args below meth c H locs cells slots Q (F0 m (pc + 3) ls (.int e0 :: rest))) : W p l e R s m args below meth c H locs cells slots Q (F0 m pc ls st) :=
  vp_callSi (W.runV (As := As) (rest := rest) (b := b) S hM cw ⟨gPrS_blind, va_recv hK.1 hP hc he, fun U hU hW => gPrS_at hG hK hP is hs U hU hW⟩ rfl hn hsize hst (lv_room hW) hdg hf) (fun r hr => hr ▸ kk)
theorem rcSiS {e0 : Int32} (S : CallFix p m c cc nL s args Ts own) (hM : Met l y ws rm (gPrS D cB cC cI ka va As wc) (vp_Si (fun r => r = e0)) 0 0 (fun _ => False)) (cw : CallB R s args own index y bytes maxL ret ws rm 0 0 n ∧ (Cond.static y).before args s = true) (hG : gStr ka va gF s H)
    (hK : gK D cB cC cI s) (hP : va_P D vwCl w0 H) (is : List Nat) (hs : is.map (fun i => w0[i]?) = wc.map some)
    (hn : As.length = n) (hsize : ls.size = nL) (hst : st = As.reverse ++ rest) (hW : (rest.map fun v => v.category).sum ≤ 8) (hdg : decode cc pc = .ok (.invokestatic index, 3)) (hf : cells + 0 ≤ R.cells ∧ slots + 0 ≤ R.slots)
    (kk : W p l e R s m args below meth c H locs cells slots Q (F0 m (pc + 3) ls (.int e0 :: rest))) : W p l e R s m args below meth c H locs cells slots Q (F0 m pc ls st) :=
  vp_callSi (W.runS (As := As) (rest := rest) S hM cw ⟨gPrS_blind, fun U hU hW => gPrS_at hG hK hP is hs U hU hW⟩ rfl hn hsize hst (lv_room hW) hdg hf) (fun r hr => hr ▸ kk)
/-- a call on the String itself -/
theorem rcTiS {e0 : Int32} (S : CallFix p m c cc nL s args Ts own) (hM : Met l y ws rm (gPrS D cB cC cI ka va (.ref ka :: As) wc) (vp_Si (fun r => r = e0)) 0 0 (fun _ => False)) (cw : CallW R s args own "java/lang/String" index y bytes maxL ret ws rm 0 0 n) (hG : gStr ka va gF s H)
    (hK : gK D cB cC cI s) (hP : va_P D vwCl w0 H) (is : List Nat) (hs : is.map (fun i => w0[i]?) = wc.map some)
    (hn : As.length = n) (hsize : ls.size = nL) (hst : st = As.reverse ++ .ref ka :: rest) (hW : (rest.map fun v => v.category).sum ≤ 8) (hdg : decode cc pc = .ok (.invokevirtual index, 3)) (hf : cells + 0 ≤ R.cells ∧ slots + 0 ≤ R.slots)
    (kk : W p l e R s m args below meth c H locs cells slots Q (F0 m (pc + 3) ls (.int e0 :: rest))) : W p l e R s m args below meth c H locs cells slots Q (F0 m pc ls st) :=
  vp_callSi (W.runV (As := As) (rest := rest) (b := ka) S hM cw ⟨gPrS_blind, (by obtain ⟨cell, h1, h2, h3, -⟩ := hG.2.2.1; exact ⟨cell, h1, h2, h3⟩), fun U hU hW => gPrS_at hG hK hP is hs U hU hW⟩ rfl hn hsize hst (lv_room hW) hdg hf) (fun r hr => hr ▸ kk)
theorem gPwS_at (hG : gStr ka va A0 s H) (hK : gK D cB cC cI s) (hP : va_P D vwCl w0 H) (hD : va_D A0 w0) (hF : ∀ q, va_A wc H.size q → A0 q) (is : List Nat) (hn : va_nd is = true) (hs : is.map (fun i => w0[i]?) = wc.map some) {av : List Value} (U : State) (hU : U.heap = H) (hW : s.WarmedH U.vm) : gPwS D cB cC cI ka va av wc H.size av.toArray U := ⟨rfl, by rw [hU], by rw [hU]; exact hP.sub is (fm_of_map hs), hK.warm hW, (hD.sub is hn hs).weaken (fun _ _ _ _ => trivial), by rw [hU]; exact (hG.narrow hF).warm hW⟩
theorem wcVv1S {w1 w2 : va_W} (S : CallFix p m c cc nL s args Ts own) (hM : Met l y ws rm (gPwS D cB cC cI ka va (.ref b :: As) wc H.size) (QWv D w1 (va_A wc H.size)) 0 0 (va_A wc H.size)) (cw : CallW R s args own C index y bytes maxL ret ws rm 0 0 n) (hG : gStr ka va A0 s H)
    (hK : gK D cB cC cI s) (hP : va_P D vwCl w0 H) (hD : va_D A0 w0) (hS : va_S A0 H0 H locs) (hA : ∀ q, H0.size ≤ q → A0 q) (isC isR perm : List Nat) (hnC : va_nd isC = true) (hC : isC.map (fun i => w0[i]?) = wc.map some) (hR : isR.map (fun i => w0[i]?) = wr.map some) (hnR : va_nd isR = true) (hdis : ∀ i ∈ isR, i ∉ isC) (hnp : va_nd perm = true) (hp : perm.map (fun i => (wr ++ w1)[i]?) = w2.map some)
    (hc : vwCl[ci]? = some (C, T, N)) (q0 : Nat) (he : w0[q0]? = some (b, .inr (ci, fs)))
    (hn : As.length = n) (hsize : ls.size = nL) (hst : st = As.reverse ++ .ref b :: rest) (hW : (rest.map fun v => v.category).sum ≤ 8) (hdg : decode cc pc = .ok (.invokevirtual index, 3)) (hf : cells + 0 ≤ R.cells ∧ slots + 0 ≤ R.slots)
    (kk : ∀ (H1 : Heap) (locs1 : List Loc), va_P D vwCl w2 H1 → va_D A0 w2 → va_S A0 H0 H1 locs1 → W p l e R s m args below meth c H1 locs1 cells slots Q (F0 m (pc + 3) ls rest)) : W p l e R s m args below meth c H locs cells slots Q (F0 m pc ls st) := by
  have hF := va_free (wc := wc) hD hS hA isC hC
  refine va_callv (va_runV (As := As) (rest := rest) (b := b) S hM cw ⟨gPwS_blind, va_recv hK.1 hP hc he, fun U hU hW => gPwS_at hG hK hP hD hF isC hnC hC U hU hW⟩ rfl hn hsize hst (lv_room hW) hdg hf) hS (fun q _ h => hF q h) hF (fun u t H1 locs1 ht _ hw hB _ hk1 hS1 => ?_)
  obtain ⟨hP1, hD1⟩ := hB
  rw [ht] at hP1
  obtain ⟨a, b⟩ := gBack hP hD isC isR perm hC hR hnR hdis hnp hp hk1 hF hP1 hD1
  exact kk H1 locs1 a b hS1
theorem wcVi1S {e0 : Int32} {w1 w2 : va_W} (S : CallFix p m c cc nL s args Ts own) (hM : Met l y ws rm (gPwS D cB cC cI ka va (.ref b :: As) wc H.size) (QWi D e0 w1 (va_A wc H.size)) 0 0 (va_A wc H.size)) (cw : CallW R s args own C index y bytes maxL ret ws rm 0 0 n) (hG : gStr ka va A0 s H)
    (hK : gK D cB cC cI s) (hP : va_P D vwCl w0 H) (hD : va_D A0 w0) (hS : va_S A0 H0 H locs) (hA : ∀ q, H0.size ≤ q → A0 q) (isC isR perm : List Nat) (hnC : va_nd isC = true) (hC : isC.map (fun i => w0[i]?) = wc.map some) (hR : isR.map (fun i => w0[i]?) = wr.map some) (hnR : va_nd isR = true) (hdis : ∀ i ∈ isR, i ∉ isC) (hnp : va_nd perm = true) (hp : perm.map (fun i => (wr ++ w1)[i]?) = w2.map some)
    (hc : vwCl[ci]? = some (C, T, N)) (q0 : Nat) (he : w0[q0]? = some (b, .inr (ci, fs)))
    (hn : As.length = n) (hsize : ls.size = nL) (hst : st = As.reverse ++ .ref b :: rest) (hW : (rest.map fun v => v.category).sum ≤ 8) (hdg : decode cc pc = .ok (.invokevirtual index, 3)) (hf : cells + 0 ≤ R.cells ∧ slots + 0 ≤ R.slots)
    (kk : ∀ (H1 : Heap) (locs1 : List Loc), va_P D vwCl w2 H1 → va_D A0 w2 → va_S A0 H0 H1 locs1 → W p l e R s m args below meth c H1 locs1 cells slots Q (F0 m (pc + 3) ls (.int e0 :: rest))) : W p l e R s m args below meth c H locs cells slots Q (F0 m pc ls st) := by
  have hF := va_free (wc := wc) hD hS hA isC hC
  refine va_calli (va_runV (As := As) (rest := rest) (b := b) S hM cw ⟨gPwS_blind, va_recv hK.1 hP hc he, fun U hU hW => gPwS_at hG hK hP hD hF isC hnC hC U hU hW⟩ rfl hn hsize hst (lv_room hW) hdg hf) hS (fun q _ h => hF q h) hF (fun r u t H1 locs1 ht _ hw hB _ hk1 hS1 => ?_)
  obtain ⟨hP1, hD1⟩ := hB
  rw [ht] at hP1
  obtain ⟨a, b⟩ := gBack hP hD isC isR perm hC hR hnR hdis hnp hp hk1 hF hP1 hD1
  have hw : r = e0 := hw
  subst hw
  exact kk H1 locs1 a b hS1
end MyCallsS
theorem nb01 {v : Int32} (h : v = 0 ∨ v = 1) : narrow .boolean (.int v) = .int v := by rcases h with rfl | rfl <;> rfl
def fillN (f g : Nat → Int32) (j : Nat) : Nat → Int32 := fun i => if i < j then f i else g i
theorem fillN_0 (f g : Nat → Int32) : fillN f g 0 = g := by funext i; exact if_neg (Nat.not_lt_zero i)
theorem fillN_s (f g : Nat → Int32) (j : Nat) : upd (fillN f g j) j (f j) = fillN f g (j + 1) := by
  funext i
  by_cases h : i = j
  · subst h
    rw [pk_us]
    exact (if_pos (Nat.lt_succ_self i)).symm
  · rw [pk_un h]
    by_cases h2 : i < j
    · rw [fillN, fillN, if_pos h2, if_pos (by omega)]
    · rw [fillN, fillN, if_neg h2, if_neg (by omega)]
