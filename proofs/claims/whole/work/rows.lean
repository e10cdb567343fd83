section
-- ===== PART A: goes FIRST, ahead of the names: the tables' words, and 'selects' of the private methods out of them =====
/-- a private method of a class that the tables say can be made, by its rows of tables_1 -/
def lw_okq (q : MethodName × Nat) : Prop := (q.1.cls ≠ "java/lang/invoke/MethodHandle" ∧ q.1.cls ≠ "java/lang/invoke/VarHandle") ∧ Cond.instantiable q.1.cls q.2 ∈ tables_1 ∧ Cond.privateMethod q.1 ∈ tables_1 ∧ Cond.instanceMethod q.1 ∈ tables_1
theorem lw_p0 : lw_okq (⟨"BuyersWeights$Page", "fitsHouses", "(I)Z"⟩, 2) := ⟨⟨by decide +kernel, by decide +kernel⟩, List.mem_of_getElem? (i := 24) (by decide +kernel), List.mem_of_getElem? (i := 217) (by decide +kernel), List.mem_of_getElem? (i := 218) (by decide +kernel)⟩
theorem lw_p1 : lw_okq (⟨"BuyersWeights$Page", "isBetween", "(ICC)Z"⟩, 2) := ⟨⟨by decide +kernel, by decide +kernel⟩, List.mem_of_getElem? (i := 24) (by decide +kernel), List.mem_of_getElem? (i := 308) (by decide +kernel), List.mem_of_getElem? (i := 309) (by decide +kernel)⟩
theorem lw_p2 : lw_okq (⟨"BuyersWeights", "canTrade", "(II)Z"⟩, 10) := ⟨⟨by decide +kernel, by decide +kernel⟩, List.mem_of_getElem? (i := 16) (by decide +kernel), List.mem_of_getElem? (i := 367) (by decide +kernel), List.mem_of_getElem? (i := 368) (by decide +kernel)⟩
theorem lw_p3 : lw_okq (⟨"BuyersWeights$Planner", "trySales", "(LBuyersWeights$Market;III)V"⟩, 7) := ⟨⟨by decide +kernel, by decide +kernel⟩, List.mem_of_getElem? (i := 115) (by decide +kernel), List.mem_of_getElem? (i := 414) (by decide +kernel), List.mem_of_getElem? (i := 415) (by decide +kernel)⟩
theorem lw_p4 : lw_okq (⟨"BuyersWeights$Planner", "trySale", "(LBuyersWeights$Market;IIIII)V"⟩, 7) := ⟨⟨by decide +kernel, by decide +kernel⟩, List.mem_of_getElem? (i := 115) (by decide +kernel), List.mem_of_getElem? (i := 418) (by decide +kernel), List.mem_of_getElem? (i := 419) (by decide +kernel)⟩
theorem lw_p5 : lw_okq (⟨"BuyersWeights$Planner", "keepIfBetter", "(II)V"⟩, 7) := ⟨⟨by decide +kernel, by decide +kernel⟩, List.mem_of_getElem? (i := 115) (by decide +kernel), List.mem_of_getElem? (i := 423) (by decide +kernel), List.mem_of_getElem? (i := 424) (by decide +kernel)⟩
theorem lw_p6 : lw_okq (⟨"BuyersWeights$Ledger", "howManySetsWith", "(II)I"⟩, 3) := ⟨⟨by decide +kernel, by decide +kernel⟩, List.mem_of_getElem? (i := 97) (by decide +kernel), List.mem_of_getElem? (i := 465) (by decide +kernel), List.mem_of_getElem? (i := 466) (by decide +kernel)⟩
theorem lw_p7 : lw_okq (⟨"BuyersWeights$Ledger", "explains", "(II)Z"⟩, 3) := ⟨⟨by decide +kernel, by decide +kernel⟩, List.mem_of_getElem? (i := 97) (by decide +kernel), List.mem_of_getElem? (i := 469) (by decide +kernel), List.mem_of_getElem? (i := 470) (by decide +kernel)⟩
theorem lw_p8 : lw_okq (⟨"BuyersWeights$DrawnSales", "drawSale", "(LBuyersWeights$Market;I)V"⟩, 3) := ⟨⟨by decide +kernel, by decide +kernel⟩, List.mem_of_getElem? (i := 143) (by decide +kernel), List.mem_of_getElem? (i := 500) (by decide +kernel), List.mem_of_getElem? (i := 501) (by decide +kernel)⟩
theorem lw_p9 : lw_okq (⟨"BuyersWeights$DrawnSales", "draw", "(I)I"⟩, 3) := ⟨⟨by decide +kernel, by decide +kernel⟩, List.mem_of_getElem? (i := 143) (by decide +kernel), List.mem_of_getElem? (i := 504) (by decide +kernel), List.mem_of_getElem? (i := 505) (by decide +kernel)⟩
theorem lw_p10 : lw_okq (⟨"BuyersWeights", "foldHouse", "(JI)J"⟩, 10) := ⟨⟨by decide +kernel, by decide +kernel⟩, List.mem_of_getElem? (i := 16) (by decide +kernel), List.mem_of_getElem? (i := 545) (by decide +kernel), List.mem_of_getElem? (i := 546) (by decide +kernel)⟩
theorem lw_p11 : lw_okq (⟨"BuyersWeights", "foldLedger", "(J)J"⟩, 10) := ⟨⟨by decide +kernel, by decide +kernel⟩, List.mem_of_getElem? (i := 16) (by decide +kernel), List.mem_of_getElem? (i := 555) (by decide +kernel), List.mem_of_getElem? (i := 556) (by decide +kernel)⟩
theorem lw_p12 : lw_okq (⟨"BuyersWeightsModel", "read", "()I"⟩, 30) := ⟨⟨by decide +kernel, by decide +kernel⟩, List.mem_of_getElem? (i := 562) (by decide +kernel), List.mem_of_getElem? (i := 674) (by decide +kernel), List.mem_of_getElem? (i := 675) (by decide +kernel)⟩
theorem lw_p13 : lw_okq (⟨"BuyersWeightsModel", "readOne", "(I)I"⟩, 30) := ⟨⟨by decide +kernel, by decide +kernel⟩, List.mem_of_getElem? (i := 562) (by decide +kernel), List.mem_of_getElem? (i := 678) (by decide +kernel), List.mem_of_getElem? (i := 679) (by decide +kernel)⟩
theorem lw_p14 : lw_okq (⟨"BuyersWeightsModel", "isFigure", "(III)Z"⟩, 30) := ⟨⟨by decide +kernel, by decide +kernel⟩, List.mem_of_getElem? (i := 562) (by decide +kernel), List.mem_of_getElem? (i := 685) (by decide +kernel), List.mem_of_getElem? (i := 686) (by decide +kernel)⟩
theorem lw_p15 : lw_okq (⟨"BuyersWeightsModel", "isHouse", "(I)Z"⟩, 30) := ⟨⟨by decide +kernel, by decide +kernel⟩, List.mem_of_getElem? (i := 562) (by decide +kernel), List.mem_of_getElem? (i := 697) (by decide +kernel), List.mem_of_getElem? (i := 698) (by decide +kernel)⟩
def lw_privs_1 : List (MethodName × Nat) := [(⟨"BuyersWeights$Page", "fitsHouses", "(I)Z"⟩, 2), (⟨"BuyersWeights$Page", "isBetween", "(ICC)Z"⟩, 2), (⟨"BuyersWeights", "canTrade", "(II)Z"⟩, 10), (⟨"BuyersWeights$Planner", "trySales", "(LBuyersWeights$Market;III)V"⟩, 7), (⟨"BuyersWeights$Planner", "trySale", "(LBuyersWeights$Market;IIIII)V"⟩, 7), (⟨"BuyersWeights$Planner", "keepIfBetter", "(II)V"⟩, 7), (⟨"BuyersWeights$Ledger", "howManySetsWith", "(II)I"⟩, 3), (⟨"BuyersWeights$Ledger", "explains", "(II)Z"⟩, 3), (⟨"BuyersWeights$DrawnSales", "drawSale", "(LBuyersWeights$Market;I)V"⟩, 3), (⟨"BuyersWeights$DrawnSales", "draw", "(I)I"⟩, 3), (⟨"BuyersWeights", "foldHouse", "(JI)J"⟩, 10), (⟨"BuyersWeights", "foldLedger", "(J)J"⟩, 10), (⟨"BuyersWeightsModel", "read", "()I"⟩, 30), (⟨"BuyersWeightsModel", "readOne", "(I)I"⟩, 30), (⟨"BuyersWeightsModel", "isFigure", "(III)Z"⟩, 30), (⟨"BuyersWeightsModel", "isHouse", "(I)Z"⟩, 30)]
theorem lw_r1 : ∀ q ∈ lw_privs_1, lw_okq q := List.forall_mem_cons.mpr ⟨lw_p0, List.forall_mem_cons.mpr ⟨lw_p1, List.forall_mem_cons.mpr ⟨lw_p2, List.forall_mem_cons.mpr ⟨lw_p3, List.forall_mem_cons.mpr ⟨lw_p4, List.forall_mem_cons.mpr ⟨lw_p5, List.forall_mem_cons.mpr ⟨lw_p6, List.forall_mem_cons.mpr ⟨lw_p7, List.forall_mem_cons.mpr ⟨lw_p8, List.forall_mem_cons.mpr ⟨lw_p9, List.forall_mem_cons.mpr ⟨lw_p10, List.forall_mem_cons.mpr ⟨lw_p11, List.forall_mem_cons.mpr ⟨lw_p12, List.forall_mem_cons.mpr ⟨lw_p13, List.forall_mem_cons.mpr ⟨lw_p14, List.forall_mem_cons.mpr ⟨lw_p15, fun _ h => absurd h List.not_mem_nil⟩⟩⟩⟩⟩⟩⟩⟩⟩⟩⟩⟩⟩⟩⟩⟩
theorem lw_p16 : lw_okq (⟨"BuyersWeightsModel", "houseNow", "(II)I"⟩, 30) := ⟨⟨by decide +kernel, by decide +kernel⟩, List.mem_of_getElem? (i := 562) (by decide +kernel), List.mem_of_getElem? (i := 701) (by decide +kernel), List.mem_of_getElem? (i := 702) (by decide +kernel)⟩
theorem lw_p17 : lw_okq (⟨"BuyersWeightsModel", "isSale", "(III)Z"⟩, 30) := ⟨⟨by decide +kernel, by decide +kernel⟩, List.mem_of_getElem? (i := 562) (by decide +kernel), List.mem_of_getElem? (i := 713) (by decide +kernel), List.mem_of_getElem? (i := 714) (by decide +kernel)⟩
theorem lw_p18 : lw_okq (⟨"BuyersWeightsModel", "ounces", "(III)I"⟩, 30) := ⟨⟨by decide +kernel, by decide +kernel⟩, List.mem_of_getElem? (i := 562) (by decide +kernel), List.mem_of_getElem? (i := 717) (by decide +kernel), List.mem_of_getElem? (i := 718) (by decide +kernel)⟩
theorem lw_p19 : lw_okq (⟨"BuyersWeightsModel", "wear", "(II)V"⟩, 30) := ⟨⟨by decide +kernel, by decide +kernel⟩, List.mem_of_getElem? (i := 562) (by decide +kernel), List.mem_of_getElem? (i := 725) (by decide +kernel), List.mem_of_getElem? (i := 726) (by decide +kernel)⟩
theorem lw_p20 : lw_okq (⟨"BuyersWeightsModel", "planNow", "(III)I"⟩, 30) := ⟨⟨by decide +kernel, by decide +kernel⟩, List.mem_of_getElem? (i := 562) (by decide +kernel), List.mem_of_getElem? (i := 737) (by decide +kernel), List.mem_of_getElem? (i := 738) (by decide +kernel)⟩
theorem lw_p21 : lw_okq (⟨"BuyersWeightsModel", "save", "()V"⟩, 30) := ⟨⟨by decide +kernel, by decide +kernel⟩, List.mem_of_getElem? (i := 562) (by decide +kernel), List.mem_of_getElem? (i := 741) (by decide +kernel), List.mem_of_getElem? (i := 742) (by decide +kernel)⟩
theorem lw_p22 : lw_okq (⟨"BuyersWeightsModel", "paidBy", "(IIII)I"⟩, 30) := ⟨⟨by decide +kernel, by decide +kernel⟩, List.mem_of_getElem? (i := 562) (by decide +kernel), List.mem_of_getElem? (i := 746) (by decide +kernel), List.mem_of_getElem? (i := 747) (by decide +kernel)⟩
theorem lw_p23 : lw_okq (⟨"BuyersWeightsModel", "load", "()V"⟩, 30) := ⟨⟨by decide +kernel, by decide +kernel⟩, List.mem_of_getElem? (i := 562) (by decide +kernel), List.mem_of_getElem? (i := 750) (by decide +kernel), List.mem_of_getElem? (i := 751) (by decide +kernel)⟩
theorem lw_p24 : lw_okq (⟨"BuyersWeightsModel", "fairNow", "(II)I"⟩, 30) := ⟨⟨by decide +kernel, by decide +kernel⟩, List.mem_of_getElem? (i := 562) (by decide +kernel), List.mem_of_getElem? (i := 758) (by decide +kernel), List.mem_of_getElem? (i := 759) (by decide +kernel)⟩
theorem lw_p25 : lw_okq (⟨"BuyersWeightsModel", "rubbedNow", "(I)I"⟩, 30) := ⟨⟨by decide +kernel, by decide +kernel⟩, List.mem_of_getElem? (i := 562) (by decide +kernel), List.mem_of_getElem? (i := 778) (by decide +kernel), List.mem_of_getElem? (i := 779) (by decide +kernel)⟩
theorem lw_p26 : lw_okq (⟨"BuyersWeightsModel", "isRubbed", "(I)Z"⟩, 30) := ⟨⟨by decide +kernel, by decide +kernel⟩, List.mem_of_getElem? (i := 562) (by decide +kernel), List.mem_of_getElem? (i := 782) (by decide +kernel), List.mem_of_getElem? (i := 783) (by decide +kernel)⟩
theorem lw_p27 : lw_okq (⟨"BuyersWeightsModel", "watchNow", "()I"⟩, 30) := ⟨⟨by decide +kernel, by decide +kernel⟩, List.mem_of_getElem? (i := 562) (by decide +kernel), List.mem_of_getElem? (i := 793) (by decide +kernel), List.mem_of_getElem? (i := 794) (by decide +kernel)⟩
theorem lw_p28 : lw_okq (⟨"BuyersWeightsModel", "marketsNow", "(III)I"⟩, 30) := ⟨⟨by decide +kernel, by decide +kernel⟩, List.mem_of_getElem? (i := 562) (by decide +kernel), List.mem_of_getElem? (i := 801) (by decide +kernel), List.mem_of_getElem? (i := 802) (by decide +kernel)⟩
theorem lw_p29 : lw_okq (⟨"BuyersWeightsModel", "draw", "(I)I"⟩, 30) := ⟨⟨by decide +kernel, by decide +kernel⟩, List.mem_of_getElem? (i := 562) (by decide +kernel), List.mem_of_getElem? (i := 805) (by decide +kernel), List.mem_of_getElem? (i := 806) (by decide +kernel)⟩
theorem lw_p30 : lw_okq (⟨"BuyersWeightsModel", "weighsAll", "()I"⟩, 30) := ⟨⟨by decide +kernel, by decide +kernel⟩, List.mem_of_getElem? (i := 562) (by decide +kernel), List.mem_of_getElem? (i := 813) (by decide +kernel), List.mem_of_getElem? (i := 814) (by decide +kernel)⟩
theorem lw_p31 : lw_okq (⟨"BuyersWeightsModel", "howMany", "(I)I"⟩, 30) := ⟨⟨by decide +kernel, by decide +kernel⟩, List.mem_of_getElem? (i := 562) (by decide +kernel), List.mem_of_getElem? (i := 829) (by decide +kernel), List.mem_of_getElem? (i := 830) (by decide +kernel)⟩
def lw_privs_2 : List (MethodName × Nat) := [(⟨"BuyersWeightsModel", "houseNow", "(II)I"⟩, 30), (⟨"BuyersWeightsModel", "isSale", "(III)Z"⟩, 30), (⟨"BuyersWeightsModel", "ounces", "(III)I"⟩, 30), (⟨"BuyersWeightsModel", "wear", "(II)V"⟩, 30), (⟨"BuyersWeightsModel", "planNow", "(III)I"⟩, 30), (⟨"BuyersWeightsModel", "save", "()V"⟩, 30), (⟨"BuyersWeightsModel", "paidBy", "(IIII)I"⟩, 30), (⟨"BuyersWeightsModel", "load", "()V"⟩, 30), (⟨"BuyersWeightsModel", "fairNow", "(II)I"⟩, 30), (⟨"BuyersWeightsModel", "rubbedNow", "(I)I"⟩, 30), (⟨"BuyersWeightsModel", "isRubbed", "(I)Z"⟩, 30), (⟨"BuyersWeightsModel", "watchNow", "()I"⟩, 30), (⟨"BuyersWeightsModel", "marketsNow", "(III)I"⟩, 30), (⟨"BuyersWeightsModel", "draw", "(I)I"⟩, 30), (⟨"BuyersWeightsModel", "weighsAll", "()I"⟩, 30), (⟨"BuyersWeightsModel", "howMany", "(I)I"⟩, 30)]
theorem lw_r2 : ∀ q ∈ lw_privs_2, lw_okq q := List.forall_mem_cons.mpr ⟨lw_p16, List.forall_mem_cons.mpr ⟨lw_p17, List.forall_mem_cons.mpr ⟨lw_p18, List.forall_mem_cons.mpr ⟨lw_p19, List.forall_mem_cons.mpr ⟨lw_p20, List.forall_mem_cons.mpr ⟨lw_p21, List.forall_mem_cons.mpr ⟨lw_p22, List.forall_mem_cons.mpr ⟨lw_p23, List.forall_mem_cons.mpr ⟨lw_p24, List.forall_mem_cons.mpr ⟨lw_p25, List.forall_mem_cons.mpr ⟨lw_p26, List.forall_mem_cons.mpr ⟨lw_p27, List.forall_mem_cons.mpr ⟨lw_p28, List.forall_mem_cons.mpr ⟨lw_p29, List.forall_mem_cons.mpr ⟨lw_p30, List.forall_mem_cons.mpr ⟨lw_p31, fun _ h => absurd h List.not_mem_nil⟩⟩⟩⟩⟩⟩⟩⟩⟩⟩⟩⟩⟩⟩⟩⟩
theorem lw_p32 : lw_okq (⟨"BuyersWeightsModel", "sum", "(I)I"⟩, 30) := ⟨⟨by decide +kernel, by decide +kernel⟩, List.mem_of_getElem? (i := 562) (by decide +kernel), List.mem_of_getElem? (i := 833) (by decide +kernel), List.mem_of_getElem? (i := 834) (by decide +kernel)⟩
theorem lw_p33 : lw_okq (⟨"BuyersWeightsModel", "mix", "(J)V"⟩, 30) := ⟨⟨by decide +kernel, by decide +kernel⟩, List.mem_of_getElem? (i := 562) (by decide +kernel), List.mem_of_getElem? (i := 842) (by decide +kernel), List.mem_of_getElem? (i := 843) (by decide +kernel)⟩
def lw_privs_3 : List (MethodName × Nat) := [(⟨"BuyersWeightsModel", "sum", "(I)I"⟩, 30), (⟨"BuyersWeightsModel", "mix", "(J)V"⟩, 30)]
theorem lw_r3 : ∀ q ∈ lw_privs_3, lw_okq q := List.forall_mem_cons.mpr ⟨lw_p32, List.forall_mem_cons.mpr ⟨lw_p33, fun _ h => absurd h List.not_mem_nil⟩⟩
def lw_privs : List (MethodName × Nat) := lw_privs_1 ++ (lw_privs_2 ++ (lw_privs_3))
def lw_tbl : List Cond := k2_sels lw_privs ++ tables_1
theorem lw_privs_ok : ∀ q ∈ lw_privs, lw_okq q := by
  show ∀ q ∈ lw_privs_1 ++ (lw_privs_2 ++ (lw_privs_3)), lw_okq q
  exact List.forall_mem_append.mpr ⟨lw_r1, List.forall_mem_append.mpr ⟨lw_r2, lw_r3⟩⟩
end
section
/-! ===== BEGIN words of one list among another's, by their places ===== -/
theorem goodIn_r {big : List Cond} (ws : List Cond) (ps : List Nat) (hp : ws = ps.filterMap (fun i => big[i]?)) (h : ws.all goodWord = true) : GoodIn big ws := by
  intro w hw
  have h1 := List.all_eq_true.mp h w hw
  rw [hp] at hw
  obtain ⟨i, -, hi⟩ := List.mem_filterMap.mp hw
  have hm : w ∈ big := by first | exact List.mem_of_getElem? hi | exact List.getElem?_mem hi
  exact ⟨hm, good_of_word h1⟩
theorem goodIn_app {big a b : List Cond} (ha : GoodIn big a) (hb : GoodIn big b) : GoodIn big (a ++ b) := fun w h => (List.mem_append.mp h).elim (ha w) (hb w)
theorem goodIn_ca {big a b : List Cond} {c : Cond} (ha : GoodIn big (c :: a)) (hb : GoodIn big b) : GoodIn big (c :: (a ++ b)) := fun w h => (List.mem_cons.mp h).elim (fun e => ha w (List.mem_cons.mpr (Or.inl e))) (fun h => (List.mem_append.mp h).elim (fun h => ha w (List.mem_cons.mpr (Or.inr h))) (hb w))
theorem goodIn_sub {big ws : List Cond} (hm : ∀ w ∈ ws, w ∈ big) (h : ws.all goodWord = true) : GoodIn big ws := fun w hw => ⟨hm w hw, good_of_word (List.all_eq_true.mp h w hw)⟩
/-! ===== END ===== -/

/-! ===== BEGIN printed: names, fields, word lists, decode rows ===== -/
def RX0 : String := "BuyersWeights$DrawnSales"
def TX0 : u_T := fun k => match k with
  | 0 => ("BuyersWeights$DrawnSales", "stones", "[I", true)
  | 1 => ("BuyersWeights$DrawnSales", "seed", "I", false)
  | _ => ("BuyersWeights$DrawnSales", "ouncesGot", "I", false)
def tyX0 : Nat → FieldType := fun k => match k with
  | 0 => .array .int
  | 1 => .int
  | _ => .int
abbrev wsX00 : List Cond := u_ws RX0 TX0 3
theorem nmX0 : ∀ a, a < 3 → ∀ b, b < 3 → a ≠ b → (TX0 a).2.1 ≠ (TX0 b).2.1 := by decide +kernel
theorem tyX0_ok : ∀ k, k < 3 → parseFieldDescriptor (TX0 k).2.2.1 = some (tyX0 k) := by decide +kernel
abbrev cX0_init : ByteArray := prog_2_method_1_code
def yX0_init : MethodName := ⟨RX0, "<init>", "()V"⟩
abbrev cX0_run : ByteArray := prog_2_method_2_code
def yX0_run : MethodName := ⟨RX0, "run", "(LBuyersWeights$Market;II)V"⟩
abbrev cX0_drawSale : ByteArray := prog_2_method_3_code
def yX0_drawSale : MethodName := ⟨RX0, "drawSale", "(LBuyersWeights$Market;I)V"⟩
abbrev cX0_draw : ByteArray := prog_2_method_4_code
def yX0_draw : MethodName := ⟨RX0, "draw", "(I)I"⟩
def RX1 : String := "BuyersWeights$Ledger"
def TX1 : u_T := fun k => match k with
  | 0 => ("BuyersWeights$Ledger", "times", "[I", true)
  | 1 => ("BuyersWeights$Ledger", "hands", "I", false)
  | _ => ("BuyersWeights$Ledger", "lost", "I", false)
def tyX1 : Nat → FieldType := fun k => match k with
  | 0 => .array .int
  | 1 => .int
  | _ => .int
abbrev wsX10 : List Cond := u_ws RX1 TX1 3
theorem nmX1 : ∀ a, a < 3 → ∀ b, b < 3 → a ≠ b → (TX1 a).2.1 ≠ (TX1 b).2.1 := by decide +kernel
theorem tyX1_ok : ∀ k, k < 3 → parseFieldDescriptor (TX1 k).2.2.1 = some (tyX1 k) := by decide +kernel
abbrev cX1_init : ByteArray := prog_3_method_1_code
def yX1_init : MethodName := ⟨RX1, "<init>", "()V"⟩
abbrev cX1_add : ByteArray := prog_3_method_2_code
def yX1_add : MethodName := ⟨RX1, "add", "(I)V"⟩
abbrev cX1_forget : ByteArray := prog_3_method_3_code
def yX1_forget : MethodName := ⟨RX1, "forget", "()V"⟩
abbrev cX1_copyFrom : ByteArray := prog_3_method_4_code
def yX1_copyFrom : MethodName := ⟨RX1, "copyFrom", "(LBuyersWeights$Ledger;)V"⟩
abbrev cX1_howManySets : ByteArray := prog_3_method_5_code
def yX1_howManySets : MethodName := ⟨RX1, "howManySets", "(I)I"⟩
abbrev cX1_leastSet : ByteArray := prog_3_method_6_code
def yX1_leastSet : MethodName := ⟨RX1, "leastSet", "(I)I"⟩
abbrev cX1_inAllSets : ByteArray := prog_3_method_7_code
def yX1_inAllSets : MethodName := ⟨RX1, "inAllSets", "(I)I"⟩
abbrev cX1_houseToWatch : ByteArray := prog_3_method_8_code
def yX1_houseToWatch : MethodName := ⟨RX1, "houseToWatch", "(I)I"⟩
abbrev cX1_howManySetsWith : ByteArray := prog_3_method_9_code
def yX1_howManySetsWith : MethodName := ⟨RX1, "howManySetsWith", "(II)I"⟩
abbrev cX1_explains : ByteArray := prog_3_method_10_code
def yX1_explains : MethodName := ⟨RX1, "explains", "(II)Z"⟩
def RX2 : String := "BuyersWeights$Market"
def TX2 : u_T := fun k => match k with
  | 0 => ("BuyersWeights$Market", "kinds", "[I", true)
  | 1 => ("BuyersWeights$Market", "stones", "[I", true)
  | 2 => ("BuyersWeights$Market", "coins", "[I", true)
  | 3 => ("BuyersWeights$Market", "got", "[I", true)
  | 4 => ("BuyersWeights$Market", "paid", "[I", true)
  | 5 => ("BuyersWeights$Market", "dealt", "[I", true)
  | 6 => ("BuyersWeights$Market", "used", "[I", true)
  | 7 => ("BuyersWeights$Market", "houses", "I", false)
  | 8 => ("BuyersWeights$Market", "tilt", "I", false)
  | 9 => ("BuyersWeights$Market", "hourNow", "I", false)
  | _ => ("BuyersWeights$Market", "sales", "I", false)
def tyX2 : Nat → FieldType := fun k => match k with
  | 0 => .array .int
  | 1 => .array .int
  | 2 => .array .int
  | 3 => .array .int
  | 4 => .array .int
  | 5 => .array .int
  | 6 => .array .int
  | 7 => .int
  | 8 => .int
  | 9 => .int
  | _ => .int
abbrev wsX20 : List Cond := u_ws RX2 TX2 11
theorem nmX2 : ∀ a, a < 11 → ∀ b, b < 11 → a ≠ b → (TX2 a).2.1 ≠ (TX2 b).2.1 := by decide +kernel
theorem tyX2_ok : ∀ k, k < 11 → parseFieldDescriptor (TX2 k).2.2.1 = some (tyX2 k) := by decide +kernel
abbrev cX2_init : ByteArray := prog_4_method_1_code
def yX2_init : MethodName := ⟨RX2, "<init>", "()V"⟩
abbrev cX2_open : ByteArray := prog_4_method_2_code
def yX2_open : MethodName := ⟨RX2, "open", "(LBuyersWeights$Page;)V"⟩
abbrev cX2_isOpen : ByteArray := prog_4_method_3_code
def yX2_isOpen : MethodName := ⟨RX2, "isOpen", "()Z"⟩
abbrev cX2_has : ByteArray := prog_4_method_4_code
def yX2_has : MethodName := ⟨RX2, "has", "(I)Z"⟩
abbrev cX2_tell : ByteArray := prog_4_method_5_code
def yX2_tell : MethodName := ⟨RX2, "tell", "(II)I"⟩
abbrev cX2_ounces : ByteArray := prog_4_method_6_code
def yX2_ounces : MethodName := ⟨RX2, "ounces", "(III)I"⟩
abbrev cX2_weightAfter : ByteArray := prog_4_method_7_code
def yX2_weightAfter : MethodName := ⟨RX2, "weightAfter", "(III)I"⟩
abbrev cX2_sell : ByteArray := prog_4_method_8_code
def yX2_sell : MethodName := ⟨RX2, "sell", "(III)I"⟩
abbrev cX2_isFair : ByteArray := prog_4_method_9_code
def yX2_isFair : MethodName := ⟨RX2, "isFair", "(II)Z"⟩
abbrev cX2_sum : ByteArray := prog_4_method_10_code
def yX2_sum : MethodName := ⟨RX2, "sum", "([I)I"⟩
abbrev cX2_copyDoingsOf : ByteArray := prog_4_method_11_code
def yX2_copyDoingsOf : MethodName := ⟨RX2, "copyDoingsOf", "(LBuyersWeights$Market;)V"⟩
def RX3 : String := "BuyersWeights$Page"
def TX3 : u_T := fun k => match k with
  | 0 => ("BuyersWeights$Page", "letters", "[C", true)
  | _ => ("BuyersWeights$Page", "length", "I", false)
def tyX3 : Nat → FieldType := fun k => match k with
  | 0 => .array .char
  | _ => .int
abbrev wsX30 : List Cond := u_ws RX3 TX3 2
theorem nmX3 : ∀ a, a < 2 → ∀ b, b < 2 → a ≠ b → (TX3 a).2.1 ≠ (TX3 b).2.1 := by decide +kernel
theorem tyX3_ok : ∀ k, k < 2 → parseFieldDescriptor (TX3 k).2.2.1 = some (tyX3 k) := by decide +kernel
abbrev cX3_init : ByteArray := prog_5_method_1_code
def yX3_init : MethodName := ⟨RX3, "<init>", "()V"⟩
abbrev cX3_add : ByteArray := prog_5_method_2_code
def yX3_add : MethodName := ⟨RX3, "add", "(C)V"⟩
abbrev cX3_empty : ByteArray := prog_5_method_3_code
def yX3_empty : MethodName := ⟨RX3, "empty", "()V"⟩
abbrev cX3_firstFault : ByteArray := prog_5_method_4_code
def yX3_firstFault : MethodName := ⟨RX3, "firstFault", "()I"⟩
abbrev cX3_isMarket : ByteArray := prog_5_method_5_code
def yX3_isMarket : MethodName := ⟨RX3, "isMarket", "()Z"⟩
abbrev cX3_howManyHouses : ByteArray := prog_5_method_6_code
def yX3_howManyHouses : MethodName := ⟨RX3, "howManyHouses", "()I"⟩
abbrev cX3_kind : ByteArray := prog_5_method_7_code
def yX3_kind : MethodName := ⟨RX3, "kind", "(I)I"⟩
abbrev cX3_digit : ByteArray := prog_5_method_8_code
def yX3_digit : MethodName := ⟨RX3, "digit", "(I)I"⟩
abbrev cX3_fitsHouses : ByteArray := prog_5_method_9_code
def yX3_fitsHouses : MethodName := ⟨RX3, "fitsHouses", "(I)Z"⟩
abbrev cX3_isBetween : ByteArray := prog_5_method_10_code
def yX3_isBetween : MethodName := ⟨RX3, "isBetween", "(ICC)Z"⟩
def RX4 : String := "BuyersWeights$Planner"
def TX4 : u_T := fun k => match k with
  | 0 => ("BuyersWeights$Planner", "stones", "[I", true)
  | 1 => ("BuyersWeights$Planner", "tried", "[I", true)
  | 2 => ("BuyersWeights$Planner", "best", "[I", true)
  | 3 => ("BuyersWeights$Planner", "bestSales", "I", false)
  | 4 => ("BuyersWeights$Planner", "bestPaid", "I", false)
  | 5 => ("BuyersWeights$Planner", "buyer", "I", false)
  | _ => ("BuyersWeights$Planner", "wanted", "I", false)
def tyX4 : Nat → FieldType := fun k => match k with
  | 0 => .array .int
  | 1 => .array .int
  | 2 => .array .int
  | 3 => .int
  | 4 => .int
  | 5 => .int
  | _ => .int
abbrev wsX40 : List Cond := u_ws RX4 TX4 7
theorem nmX4 : ∀ a, a < 7 → ∀ b, b < 7 → a ≠ b → (TX4 a).2.1 ≠ (TX4 b).2.1 := by decide +kernel
theorem tyX4_ok : ∀ k, k < 7 → parseFieldDescriptor (TX4 k).2.2.1 = some (tyX4 k) := by decide +kernel
abbrev cX4_init : ByteArray := prog_6_method_1_code
def yX4_init : MethodName := ⟨RX4, "<init>", "()V"⟩
abbrev cX4_seek : ByteArray := prog_6_method_2_code
def yX4_seek : MethodName := ⟨RX4, "seek", "(LBuyersWeights$Market;II)V"⟩
abbrev cX4_tell : ByteArray := prog_6_method_3_code
def yX4_tell : MethodName := ⟨RX4, "tell", "(I)I"⟩
abbrev cX4_trySales : ByteArray := prog_6_method_4_code
def yX4_trySales : MethodName := ⟨RX4, "trySales", "(LBuyersWeights$Market;III)V"⟩
abbrev cX4_trySale : ByteArray := prog_6_method_5_code
def yX4_trySale : MethodName := ⟨RX4, "trySale", "(LBuyersWeights$Market;IIIII)V"⟩
abbrev cX4_keepIfBetter : ByteArray := prog_6_method_6_code
def yX4_keepIfBetter : MethodName := ⟨RX4, "keepIfBetter", "(II)V"⟩
def RX5 : String := "BuyersWeights"
def TX5 : u_T := fun k => match k with
  | 0 => ("BuyersWeights", "page", "LBuyersWeights$Page;", true)
  | 1 => ("BuyersWeights", "market", "LBuyersWeights$Market;", true)
  | 2 => ("BuyersWeights", "ledger", "LBuyersWeights$Ledger;", true)
  | 3 => ("BuyersWeights", "keptMarket", "LBuyersWeights$Market;", true)
  | 4 => ("BuyersWeights", "keptLedger", "LBuyersWeights$Ledger;", true)
  | 5 => ("BuyersWeights", "planner", "LBuyersWeights$Planner;", true)
  | 6 => ("BuyersWeights", "drawnSales", "LBuyersWeights$DrawnSales;", true)
  | 7 => ("BuyersWeights", "imageKept", "Z", false)
  | 8 => ("BuyersWeights", "marketsRead", "I", false)
  | _ => ("BuyersWeights", "plansDone", "I", false)
def tyX5 : Nat → FieldType := fun k => match k with
  | 0 => .object "BuyersWeights$Page"
  | 1 => .object "BuyersWeights$Market"
  | 2 => .object "BuyersWeights$Ledger"
  | 3 => .object "BuyersWeights$Market"
  | 4 => .object "BuyersWeights$Ledger"
  | 5 => .object "BuyersWeights$Planner"
  | 6 => .object "BuyersWeights$DrawnSales"
  | 7 => .boolean
  | 8 => .int
  | _ => .int
abbrev wsX50 : List Cond := u_ws RX5 TX5 10
theorem nmX5 : ∀ a, a < 10 → ∀ b, b < 10 → a ≠ b → (TX5 a).2.1 ≠ (TX5 b).2.1 := by decide +kernel
theorem tyX5_ok : ∀ k, k < 10 → parseFieldDescriptor (TX5 k).2.2.1 = some (tyX5 k) := by decide +kernel
abbrev cX5_init : ByteArray := prog_1_method_1_code
def yX5_init : MethodName := ⟨RX5, "<init>", "()V"⟩
abbrev cX5_letter : ByteArray := prog_1_method_2_code
def yX5_letter : MethodName := ⟨RX5, "letter", "(I)I"⟩
abbrev cX5_blank : ByteArray := prog_1_method_3_code
def yX5_blank : MethodName := ⟨RX5, "blank", "()I"⟩
abbrev cX5_fault : ByteArray := prog_1_method_4_code
def yX5_fault : MethodName := ⟨RX5, "fault", "()I"⟩
abbrev cX5_market : ByteArray := prog_1_method_5_code
def yX5_market : MethodName := ⟨RX5, "market", "()I"⟩
abbrev cX5_about : ByteArray := prog_1_method_6_code
def yX5_about : MethodName := ⟨RX5, "about", "(II)I"⟩
abbrev cX5_as : ByteArray := prog_1_method_7_code
def yX5_as : MethodName := ⟨RX5, "as", "(II)I"⟩
abbrev cX5_measure : ByteArray := prog_1_method_8_code
def yX5_measure : MethodName := ⟨RX5, "measure", "(III)I"⟩
abbrev cX5_buy : ByteArray := prog_1_method_9_code
def yX5_buy : MethodName := ⟨RX5, "buy", "(III)I"⟩
abbrev cX5_hour : ByteArray := prog_1_method_10_code
def yX5_hour : MethodName := ⟨RX5, "hour", "()I"⟩
abbrev cX5_plan : ByteArray := prog_1_method_11_code
def yX5_plan : MethodName := ⟨RX5, "plan", "(III)I"⟩
abbrev cX5_fair : ByteArray := prog_1_method_12_code
def yX5_fair : MethodName := ⟨RX5, "fair", "(II)I"⟩
abbrev cX5_pass : ByteArray := prog_1_method_13_code
def yX5_pass : MethodName := ⟨RX5, "pass", "(I)I"⟩
abbrev cX5_lose : ByteArray := prog_1_method_14_code
def yX5_lose : MethodName := ⟨RX5, "lose", "(I)I"⟩
abbrev cX5_clear : ByteArray := prog_1_method_15_code
def yX5_clear : MethodName := ⟨RX5, "clear", "()I"⟩
abbrev cX5_rubbed : ByteArray := prog_1_method_16_code
def yX5_rubbed : MethodName := ⟨RX5, "rubbed", "(I)I"⟩
abbrev cX5_watch : ByteArray := prog_1_method_17_code
def yX5_watch : MethodName := ⟨RX5, "watch", "()I"⟩
abbrev cX5_markets : ByteArray := prog_1_method_18_code
def yX5_markets : MethodName := ⟨RX5, "markets", "(III)I"⟩
abbrev cX5_image : ByteArray := prog_1_method_19_code
def yX5_image : MethodName := ⟨RX5, "image", "()I"⟩
abbrev cX5_restore : ByteArray := prog_1_method_20_code
def yX5_restore : MethodName := ⟨RX5, "restore", "()I"⟩
abbrev cX5_count : ByteArray := prog_1_method_21_code
def yX5_count : MethodName := ⟨RX5, "count", "(I)I"⟩
abbrev cX5_digest : ByteArray := prog_1_method_22_code
def yX5_digest : MethodName := ⟨RX5, "digest", "()J"⟩
abbrev cX5_foldHouse : ByteArray := prog_1_method_23_code
def yX5_foldHouse : MethodName := ⟨RX5, "foldHouse", "(JI)J"⟩
abbrev cX5_foldLedger : ByteArray := prog_1_method_24_code
def yX5_foldLedger : MethodName := ⟨RX5, "foldLedger", "(J)J"⟩
abbrev cX5_fold : ByteArray := prog_1_method_25_code
def yX5_fold : MethodName := ⟨RX5, "fold", "(JJ)J"⟩
abbrev cX5_canTrade : ByteArray := prog_1_method_26_code
def yX5_canTrade : MethodName := ⟨RX5, "canTrade", "(II)Z"⟩
abbrev cX5_isPlanQuestion : ByteArray := prog_1_method_27_code
def yX5_isPlanQuestion : MethodName := ⟨RX5, "isPlanQuestion", "(I)Z"⟩
abbrev cX5_isOfKind : ByteArray := prog_1_method_28_code
def yX5_isOfKind : MethodName := ⟨RX5, "isOfKind", "(II)Z"⟩
abbrev cX5_copyRow : ByteArray := prog_1_method_29_code
def yX5_copyRow : MethodName := ⟨RX5, "copyRow", "([I[I)V"⟩
def RX6 : String := "BuyersWeightsModel"
def TX6 : u_T := fun k => match k with
  | 0 => ("BuyersWeightsModel", "marketMany", "I", false)
  | 1 => ("BuyersWeightsModel", "houses", "I", false)
  | 2 => ("BuyersWeightsModel", "tilt", "I", false)
  | 3 => ("BuyersWeightsModel", "hour", "I", false)
  | 4 => ("BuyersWeightsModel", "kindOf", "[I", true)
  | 5 => ("BuyersWeightsModel", "weighsOf", "[I", true)
  | 6 => ("BuyersWeightsModel", "coinOf", "[I", true)
  | 7 => ("BuyersWeightsModel", "gotOf", "[I", true)
  | 8 => ("BuyersWeightsModel", "paidOf", "[I", true)
  | 9 => ("BuyersWeightsModel", "dealtOf", "[I", true)
  | 10 => ("BuyersWeightsModel", "usedOf", "[I", true)
  | 11 => ("BuyersWeightsModel", "sales", "I", false)
  | 12 => ("BuyersWeightsModel", "hands", "I", false)
  | 13 => ("BuyersWeightsModel", "handsOf", "[I", true)
  | 14 => ("BuyersWeightsModel", "lost", "I", false)
  | 15 => ("BuyersWeightsModel", "asks", "I", false)
  | 16 => ("BuyersWeightsModel", "pageLength", "I", false)
  | 17 => ("BuyersWeightsModel", "page", "[B", true)
  | 18 => ("BuyersWeightsModel", "isWhole", "Z", false)
  | 19 => ("BuyersWeightsModel", "newMany", "I", false)
  | 20 => ("BuyersWeightsModel", "saved", "[I", true)
  | 21 => ("BuyersWeightsModel", "seedNow", "J", false)
  | 22 => ("BuyersWeightsModel", "isKept", "Z", false)
  | 23 => ("BuyersWeightsModel", "keptMarket", "I", false)
  | 24 => ("BuyersWeightsModel", "keptHour", "I", false)
  | 25 => ("BuyersWeightsModel", "keptSales", "I", false)
  | 26 => ("BuyersWeightsModel", "keptHands", "I", false)
  | 27 => ("BuyersWeightsModel", "keptLost", "I", false)
  | 28 => ("BuyersWeightsModel", "kept", "[I", true)
  | _ => ("BuyersWeightsModel", "h", "J", false)
def tyX6 : Nat → FieldType := fun k => match k with
  | 0 => .int
  | 1 => .int
  | 2 => .int
  | 3 => .int
  | 4 => .array .int
  | 5 => .array .int
  | 6 => .array .int
  | 7 => .array .int
  | 8 => .array .int
  | 9 => .array .int
  | 10 => .array .int
  | 11 => .int
  | 12 => .int
  | 13 => .array .int
  | 14 => .int
  | 15 => .int
  | 16 => .int
  | 17 => .array .byte
  | 18 => .boolean
  | 19 => .int
  | 20 => .array .int
  | 21 => .long
  | 22 => .boolean
  | 23 => .int
  | 24 => .int
  | 25 => .int
  | 26 => .int
  | 27 => .int
  | 28 => .array .int
  | _ => .long
abbrev wsX60 : List Cond := u_ws RX6 TX6 30
theorem nmX6 : ∀ a, a < 30 → ∀ b, b < 30 → a ≠ b → (TX6 a).2.1 ≠ (TX6 b).2.1 := by decide +kernel
theorem tyX6_ok : ∀ k, k < 30 → parseFieldDescriptor (TX6 k).2.2.1 = some (tyX6 k) := by decide +kernel
abbrev cX6_init : ByteArray := prog_8_method_1_code
def yX6_init : MethodName := ⟨RX6, "<init>", "()V"⟩
abbrev cX6_within : ByteArray := prog_8_method_3_code
def yX6_within : MethodName := ⟨RX6, "within", "(III)Z"⟩
abbrev cX6_isIn : ByteArray := prog_8_method_4_code
def yX6_isIn : MethodName := ⟨RX6, "isIn", "(II)Z"⟩
abbrev cX6_letter : ByteArray := prog_8_method_5_code
def yX6_letter : MethodName := ⟨RX6, "letter", "(I)I"⟩
abbrev cX6_blank : ByteArray := prog_8_method_6_code
def yX6_blank : MethodName := ⟨RX6, "blank", "()I"⟩
abbrev cX6_kindBy : ByteArray := prog_8_method_7_code
def yX6_kindBy : MethodName := ⟨RX6, "kindBy", "(I)I"⟩
abbrev cX6_isFigure : ByteArray := prog_8_method_8_code
def yX6_isFigure : MethodName := ⟨RX6, "isFigure", "(III)Z"⟩
abbrev cX6_readOne : ByteArray := prog_8_method_9_code
def yX6_readOne : MethodName := ⟨RX6, "readOne", "(I)I"⟩
abbrev cX6_read : ByteArray := prog_8_method_10_code
def yX6_read : MethodName := ⟨RX6, "read", "()I"⟩
abbrev cX6_fault : ByteArray := prog_8_method_11_code
def yX6_fault : MethodName := ⟨RX6, "fault", "()I"⟩
abbrev cX6_market : ByteArray := prog_8_method_12_code
def yX6_market : MethodName := ⟨RX6, "market", "()I"⟩
abbrev cX6_isHouse : ByteArray := prog_8_method_13_code
def yX6_isHouse : MethodName := ⟨RX6, "isHouse", "(I)Z"⟩
abbrev cX6_houseNow : ByteArray := prog_8_method_14_code
def yX6_houseNow : MethodName := ⟨RX6, "houseNow", "(II)I"⟩
abbrev cX6_about : ByteArray := prog_8_method_15_code
def yX6_about : MethodName := ⟨RX6, "about", "(II)I"⟩
abbrev cX6_as : ByteArray := prog_8_method_16_code
def yX6_as : MethodName := ⟨RX6, "as", "(II)I"⟩
abbrev cX6_ounces : ByteArray := prog_8_method_17_code
def yX6_ounces : MethodName := ⟨RX6, "ounces", "(III)I"⟩
abbrev cX6_wear : ByteArray := prog_8_method_18_code
def yX6_wear : MethodName := ⟨RX6, "wear", "(II)V"⟩
abbrev cX6_isSale : ByteArray := prog_8_method_19_code
def yX6_isSale : MethodName := ⟨RX6, "isSale", "(III)Z"⟩
abbrev cX6_measure : ByteArray := prog_8_method_20_code
def yX6_measure : MethodName := ⟨RX6, "measure", "(III)I"⟩
abbrev cX6_buy : ByteArray := prog_8_method_21_code
def yX6_buy : MethodName := ⟨RX6, "buy", "(III)I"⟩
abbrev cX6_hour : ByteArray := prog_8_method_22_code
def yX6_hour : MethodName := ⟨RX6, "hour", "()I"⟩
abbrev cX6_save : ByteArray := prog_8_method_23_code
def yX6_save : MethodName := ⟨RX6, "save", "()V"⟩
abbrev cX6_load : ByteArray := prog_8_method_24_code
def yX6_load : MethodName := ⟨RX6, "load", "()V"⟩
abbrev cX6_paidBy : ByteArray := prog_8_method_25_code
def yX6_paidBy : MethodName := ⟨RX6, "paidBy", "(IIII)I"⟩
abbrev cX6_planNow : ByteArray := prog_8_method_26_code
def yX6_planNow : MethodName := ⟨RX6, "planNow", "(III)I"⟩
abbrev cX6_plan : ByteArray := prog_8_method_27_code
def yX6_plan : MethodName := ⟨RX6, "plan", "(III)I"⟩
abbrev cX6_fairNow : ByteArray := prog_8_method_28_code
def yX6_fairNow : MethodName := ⟨RX6, "fairNow", "(II)I"⟩
abbrev cX6_fair : ByteArray := prog_8_method_29_code
def yX6_fair : MethodName := ⟨RX6, "fair", "(II)I"⟩
abbrev cX6_pass : ByteArray := prog_8_method_30_code
def yX6_pass : MethodName := ⟨RX6, "pass", "(I)I"⟩
abbrev cX6_lose : ByteArray := prog_8_method_31_code
def yX6_lose : MethodName := ⟨RX6, "lose", "(I)I"⟩
abbrev cX6_clear : ByteArray := prog_8_method_32_code
def yX6_clear : MethodName := ⟨RX6, "clear", "()I"⟩
abbrev cX6_isRubbed : ByteArray := prog_8_method_33_code
def yX6_isRubbed : MethodName := ⟨RX6, "isRubbed", "(I)Z"⟩
abbrev cX6_rubbedNow : ByteArray := prog_8_method_34_code
def yX6_rubbedNow : MethodName := ⟨RX6, "rubbedNow", "(I)I"⟩
abbrev cX6_rubbed : ByteArray := prog_8_method_35_code
def yX6_rubbed : MethodName := ⟨RX6, "rubbed", "(I)I"⟩
abbrev cX6_watchNow : ByteArray := prog_8_method_36_code
def yX6_watchNow : MethodName := ⟨RX6, "watchNow", "()I"⟩
abbrev cX6_watch : ByteArray := prog_8_method_37_code
def yX6_watch : MethodName := ⟨RX6, "watch", "()I"⟩
abbrev cX6_draw : ByteArray := prog_8_method_38_code
def yX6_draw : MethodName := ⟨RX6, "draw", "(I)I"⟩
abbrev cX6_weighsAll : ByteArray := prog_8_method_39_code
def yX6_weighsAll : MethodName := ⟨RX6, "weighsAll", "()I"⟩
abbrev cX6_marketsNow : ByteArray := prog_8_method_40_code
def yX6_marketsNow : MethodName := ⟨RX6, "marketsNow", "(III)I"⟩
abbrev cX6_markets : ByteArray := prog_8_method_41_code
def yX6_markets : MethodName := ⟨RX6, "markets", "(III)I"⟩
abbrev cX6_image : ByteArray := prog_8_method_42_code
def yX6_image : MethodName := ⟨RX6, "image", "()I"⟩
abbrev cX6_restore : ByteArray := prog_8_method_43_code
def yX6_restore : MethodName := ⟨RX6, "restore", "()I"⟩
abbrev cX6_sum : ByteArray := prog_8_method_44_code
def yX6_sum : MethodName := ⟨RX6, "sum", "(I)I"⟩
abbrev cX6_howMany : ByteArray := prog_8_method_45_code
def yX6_howMany : MethodName := ⟨RX6, "howMany", "(I)I"⟩
abbrev cX6_count : ByteArray := prog_8_method_46_code
def yX6_count : MethodName := ⟨RX6, "count", "(I)I"⟩
abbrev cX6_mix : ByteArray := prog_8_method_47_code
def yX6_mix : MethodName := ⟨RX6, "mix", "(J)V"⟩
abbrev cX6_digest : ByteArray := prog_8_method_48_code
def yX6_digest : MethodName := ⟨RX6, "digest", "()J"⟩
def RJ11 : String := "java/lang/Character"
def TJ11 : u_T := fun k => match k with
  | _ => ("", "", "", false)
def tyJ11 : Nat → FieldType := fun k => match k with
  | _ => .int
abbrev wsJ110 : List Cond := u_ws RJ11 TJ11 0
theorem nmJ11 : ∀ a, a < 0 → ∀ b, b < 0 → a ≠ b → (TJ11 a).2.1 ≠ (TJ11 b).2.1 := by decide +kernel
theorem tyJ11_ok : ∀ k, k < 0 → parseFieldDescriptor (TJ11 k).2.2.1 = some (tyJ11 k) := by decide +kernel
abbrev cJ11_isValidCodePoint_9a6ad : ByteArray := prog_9_method_11_code
def yJ11_isValidCodePoint_9a6ad : MethodName := ⟨RJ11, "isValidCodePoint", "(I)Z"⟩
abbrev cJ11_highSurrogate_5068e : ByteArray := prog_9_method_28_code
def yJ11_highSurrogate_5068e : MethodName := ⟨RJ11, "highSurrogate", "(I)C"⟩
abbrev cJ11_lowSurrogate_5068e : ByteArray := prog_9_method_29_code
def yJ11_lowSurrogate_5068e : MethodName := ⟨RJ11, "lowSurrogate", "(I)C"⟩
def RJ9 : String := "java/lang/Math"
def TJ9 : u_T := fun k => match k with
  | _ => ("", "", "", false)
def tyJ9 : Nat → FieldType := fun k => match k with
  | _ => .int
abbrev wsJ90 : List Cond := u_ws RJ9 TJ9 0
theorem nmJ9 : ∀ a, a < 0 → ∀ b, b < 0 → a ≠ b → (TJ9 a).2.1 ≠ (TJ9 b).2.1 := by decide +kernel
theorem tyJ9_ok : ∀ k, k < 0 → parseFieldDescriptor (TJ9 k).2.2.1 = some (tyJ9 k) := by decide +kernel
abbrev cJ9_max_7cf53 : ByteArray := prog_10_method_65_code
def yJ9_max_7cf53 : MethodName := ⟨RJ9, "max", "(II)I"⟩
abbrev cJ9_min_7cf53 : ByteArray := prog_10_method_69_code
def yJ9_min_7cf53 : MethodName := ⟨RJ9, "min", "(II)I"⟩
def RJ0 : String := "java/lang/String"
def TJ0 : u_T := fun k => match k with
  | _ => ("", "", "", false)
def tyJ0 : Nat → FieldType := fun k => match k with
  | _ => .int
abbrev wsJ00 : List Cond := u_ws RJ0 TJ0 0
theorem nmJ0 : ∀ a, a < 0 → ∀ b, b < 0 → a ≠ b → (TJ0 a).2.1 ≠ (TJ0 b).2.1 := by decide +kernel
theorem tyJ0_ok : ∀ k, k < 0 → parseFieldDescriptor (TJ0 k).2.2.1 = some (tyJ0 k) := by decide +kernel
abbrev cJ0_length_8abf5 : ByteArray := prog_11_method_54_code
def yJ0_length_8abf5 : MethodName := ⟨RJ0, "length", "()I"⟩
abbrev cJ0_indexOf_0f7a4 : ByteArray := prog_11_method_79_code
def yJ0_indexOf_0f7a4 : MethodName := ⟨RJ0, "indexOf", "(I)I"⟩
abbrev cJ0_indexOf_7cf53 : ByteArray := prog_11_method_80_code
def yJ0_indexOf_7cf53 : MethodName := ⟨RJ0, "indexOf", "(II)I"⟩
abbrev cJ0_coder_7d493 : ByteArray := prog_11_method_152_code
def yJ0_coder_7d493 : MethodName := ⟨RJ0, "coder", "()B"⟩
abbrev cJ0_isLatin1_aae02 : ByteArray := prog_11_method_154_code
def yJ0_isLatin1_aae02 : MethodName := ⟨RJ0, "isLatin1", "()Z"⟩
abbrev cJ0_checkBoundsBeginEnd_23922 : ByteArray := prog_11_method_158_code
def yJ0_checkBoundsBeginEnd_23922 : MethodName := ⟨RJ0, "checkBoundsBeginEnd", "(III)V"⟩
def RJ1 : String := "java/lang/StringLatin1"
def TJ1 : u_T := fun k => match k with
  | _ => ("", "", "", false)
def tyJ1 : Nat → FieldType := fun k => match k with
  | _ => .int
abbrev wsJ10 : List Cond := u_ws RJ1 TJ1 0
theorem nmJ1 : ∀ a, a < 0 → ∀ b, b < 0 → a ≠ b → (TJ1 a).2.1 ≠ (TJ1 b).2.1 := by decide +kernel
theorem tyJ1_ok : ∀ k, k < 0 → parseFieldDescriptor (TJ1 k).2.2.1 = some (tyJ1 k) := by decide +kernel
abbrev cJ1_canEncode_9a6ad : ByteArray := prog_12_method_4_code
def yJ1_canEncode_9a6ad : MethodName := ⟨RJ1, "canEncode", "(I)Z"⟩
abbrev cJ1_indexOf_4cfef : ByteArray := prog_12_method_22_code
def yJ1_indexOf_4cfef : MethodName := ⟨RJ1, "indexOf", "([BIII)I"⟩
abbrev cJ1_indexOfChar_4cfef : ByteArray := prog_12_method_23_code
def yJ1_indexOfChar_4cfef : MethodName := ⟨RJ1, "indexOfChar", "([BIII)I"⟩
def RJ2 : String := "java/lang/StringUTF16"
def TJ2 : u_T := fun k => match k with
  | _ => ("", "", "", false)
def tyJ2 : Nat → FieldType := fun k => match k with
  | _ => .int
abbrev wsJ20 : List Cond := u_ws RJ2 TJ2 0
theorem nmJ2 : ∀ a, a < 0 → ∀ b, b < 0 → a ≠ b → (TJ2 a).2.1 ≠ (TJ2 b).2.1 := by decide +kernel
theorem tyJ2_ok : ∀ k, k < 0 → parseFieldDescriptor (TJ2 k).2.2.1 = some (tyJ2 k) := by decide +kernel
abbrev cJ2_getChar_3b067 : ByteArray := prog_13_method_5_code
def yJ2_getChar_3b067 : MethodName := ⟨RJ2, "getChar", "([BI)C"⟩
abbrev cJ2_length_9d52b : ByteArray := prog_13_method_6_code
def yJ2_length_9d52b : MethodName := ⟨RJ2, "length", "([B)I"⟩
abbrev cJ2_indexOf_4cfef : ByteArray := prog_13_method_40_code
def yJ2_indexOf_4cfef : MethodName := ⟨RJ2, "indexOf", "([BIII)I"⟩
abbrev cJ2_indexOfChar_4cfef : ByteArray := prog_13_method_47_code
def yJ2_indexOfChar_4cfef : MethodName := ⟨RJ2, "indexOfChar", "([BIII)I"⟩
abbrev cJ2_indexOfCharUnsafe_4cfef : ByteArray := prog_13_method_48_code
def yJ2_indexOfCharUnsafe_4cfef : MethodName := ⟨RJ2, "indexOfCharUnsafe", "([BIII)I"⟩
abbrev cJ2_indexOfSupplementary_4cfef : ByteArray := prog_13_method_49_code
def yJ2_indexOfSupplementary_4cfef : MethodName := ⟨RJ2, "indexOfSupplementary", "([BIII)I"⟩
abbrev cJ2_checkBoundsBeginEnd_d044e : ByteArray := prog_13_method_93_code
def yJ2_checkBoundsBeginEnd_d044e : MethodName := ⟨RJ2, "checkBoundsBeginEnd", "(II[B)V"⟩
def RJ10 : String := "java/lang/System"
def TJ10 : u_T := fun k => match k with
  | _ => ("", "", "", false)
def tyJ10 : Nat → FieldType := fun k => match k with
  | _ => .int
abbrev wsJ100 : List Cond := u_ws RJ10 TJ10 0
theorem nmJ10 : ∀ a, a < 0 → ∀ b, b < 0 → a ≠ b → (TJ10 a).2.1 ≠ (TJ10 b).2.1 := by decide +kernel
theorem tyJ10_ok : ∀ k, k < 0 → parseFieldDescriptor (TJ10 k).2.2.1 = some (tyJ10 k) := by decide +kernel
def RJ3 : String := "jdk/internal/util/Preconditions"
def TJ3 : u_T := fun k => match k with
  | _ => ("", "", "", false)
def tyJ3 : Nat → FieldType := fun k => match k with
  | _ => .int
abbrev wsJ30 : List Cond := u_ws RJ3 TJ3 0
theorem nmJ3 : ∀ a, a < 0 → ∀ b, b < 0 → a ≠ b → (TJ3 a).2.1 ≠ (TJ3 b).2.1 := by decide +kernel
theorem tyJ3_ok : ∀ k, k < 0 → parseFieldDescriptor (TJ3 k).2.2.1 = some (tyJ3 k) := by decide +kernel
abbrev cJ3_checkFromToIndex_8c36e : ByteArray := prog_15_method_12_code
def yJ3_checkFromToIndex_8c36e : MethodName := ⟨RJ3, "checkFromToIndex", "(IIILjava/util/function/BiFunction;)I"⟩
def RL : String := "BuyersWeightsLaw"
abbrev cL_law : ByteArray := code
def yL_law : MethodName := ⟨RL, "law", "([I)Z"⟩
def wsX0_init : List Cond := .code yX0_init cX0_init 1 none :: ([.methodLink RX0 3 objectInit, .instanceMethod objectInit, .code objectInit ⟨#[0xb1]⟩ 1 none, .arrayClass .int, .fieldLink RX0 9 "BuyersWeights$DrawnSales" "stones" "[I", .fieldLink RX0 15 "BuyersWeights$DrawnSales" "seed" "I", .fieldLink RX0 19 "BuyersWeights$DrawnSales" "ouncesGot" "I"] ++ wsX00)
def wsX5_copyRow : List Cond := .code yX5_copyRow cX5_copyRow 2 none :: ([.methodLink RX5 233 arraycopyName, .native arraycopyName, .static arraycopyName, .initialized "java/lang/System"])
def wsX0_draw : List Cond := .code yX0_draw cX0_draw 2 (some .int) :: ([.constantLong RX0 50 (1103515245), .fieldLink RX0 15 "BuyersWeights$DrawnSales" "seed" "I", .constantLong RX0 52 (12345), .constantLong RX0 54 (2147483648), .constant RX0 56 (65536)] ++ wsX00)
def wsX2_ounces : List Cond := .code yX2_ounces cX2_ounces 6 (some .int) :: ([.fieldLink RX2 37 "BuyersWeights$Market" "tilt" "I", .fieldLink RX2 9 "BuyersWeights$Market" "kinds" "[I", .methodLink RX2 62 Lib.Math.max.name, .static Lib.Math.max.name, .initialized "java/lang/Math", .code Lib.Math.max.name Lib.Math.max.code 2 (some .int)] ++ wsX20)
def wsX2_weightAfter : List Cond := .code yX2_weightAfter cX2_weightAfter 6 (some .int) :: ([.fieldLink RX2 9 "BuyersWeights$Market" "kinds" "[I", .methodLink RX2 62 Lib.Math.max.name, .static Lib.Math.max.name, .initialized "java/lang/Math", .code Lib.Math.max.name Lib.Math.max.code 2 (some .int)] ++ wsX20)
def wsX0_drawSale_r1 : List Cond := [Cond.fieldLink RX0 36 "BuyersWeights$Market" "houses" "I", Cond.fieldLink RX0 19 "BuyersWeights$DrawnSales" "ouncesGot" "I", Cond.fieldLink RX0 9 "BuyersWeights$DrawnSales" "stones" "[I", Cond.methodLink RX0 39 yX0_draw, Cond.instanceMethod yX0_draw, Cond.selects RX0 yX0_draw yX0_draw, Cond.initialized RX0, Cond.code yX0_draw cX0_draw 2 (some .int), Cond.constantLong RX0 50 (1103515245), Cond.fieldLink RX0 15 "BuyersWeights$DrawnSales" "seed" "I", Cond.constantLong RX0 52 (12345), Cond.constantLong RX0 54 (2147483648), Cond.constant RX0 56 (65536), Cond.methodLink RX0 43 yX2_ounces, Cond.instanceMethod yX2_ounces, Cond.selects RX2 yX2_ounces yX2_ounces, Cond.initialized RX2, Cond.code yX2_ounces cX2_ounces 6 (some .int), Cond.fieldLink RX2 37 "BuyersWeights$Market" "tilt" "I", Cond.fieldLink RX2 9 "BuyersWeights$Market" "kinds" "[I", Cond.methodLink RX2 62 Lib.Math.max.name, Cond.static Lib.Math.max.name, Cond.initialized "java/lang/Math", Cond.code Lib.Math.max.name Lib.Math.max.code 2 (some .int)]
def wsX0_drawSale_r2 : List Cond := [Cond.methodLink RX0 47 yX2_weightAfter, Cond.instanceMethod yX2_weightAfter, Cond.selects RX2 yX2_weightAfter yX2_weightAfter, Cond.code yX2_weightAfter cX2_weightAfter 6 (some .int)]
def wsX0_drawSale : List Cond := .code yX0_drawSale cX0_drawSale 6 none :: ((wsX0_drawSale_r1 ++ wsX0_drawSale_r2) ++ wsX20 ++ wsX00)
def wsX0_run_r1 : List Cond := [Cond.fieldLink RX0 22 "BuyersWeights$Market" "stones" "[I", Cond.fieldLink RX0 9 "BuyersWeights$DrawnSales" "stones" "[I", Cond.fieldLink RX0 15 "BuyersWeights$DrawnSales" "seed" "I", Cond.fieldLink RX0 19 "BuyersWeights$DrawnSales" "ouncesGot" "I", Cond.fieldLink RX0 29 "BuyersWeights$Market" "hourNow" "I", Cond.static yX5_copyRow, Cond.initialized RX5, Cond.code yX5_copyRow cX5_copyRow 2 none, Cond.methodLink RX5 233 arraycopyName, Cond.native arraycopyName, Cond.static arraycopyName, Cond.initialized "java/lang/System", Cond.methodLink RX0 32 yX0_drawSale, Cond.instanceMethod yX0_drawSale, Cond.selects RX0 yX0_drawSale yX0_drawSale, Cond.initialized RX0, Cond.code yX0_drawSale cX0_drawSale 6 none, Cond.fieldLink RX0 36 "BuyersWeights$Market" "houses" "I", Cond.methodLink RX0 39 yX0_draw, Cond.instanceMethod yX0_draw, Cond.selects RX0 yX0_draw yX0_draw, Cond.code yX0_draw cX0_draw 2 (some .int), Cond.constantLong RX0 50 (1103515245), Cond.constantLong RX0 52 (12345)]
def wsX0_run_r2 : List Cond := [Cond.constantLong RX0 54 (2147483648), Cond.constant RX0 56 (65536), Cond.methodLink RX0 43 yX2_ounces, Cond.instanceMethod yX2_ounces, Cond.selects RX2 yX2_ounces yX2_ounces, Cond.initialized RX2, Cond.code yX2_ounces cX2_ounces 6 (some .int), Cond.fieldLink RX2 37 "BuyersWeights$Market" "tilt" "I", Cond.fieldLink RX2 9 "BuyersWeights$Market" "kinds" "[I", Cond.methodLink RX2 62 Lib.Math.max.name, Cond.static Lib.Math.max.name, Cond.initialized "java/lang/Math", Cond.code Lib.Math.max.name Lib.Math.max.code 2 (some .int), Cond.methodLink RX0 47 yX2_weightAfter, Cond.instanceMethod yX2_weightAfter, Cond.selects RX2 yX2_weightAfter yX2_weightAfter, Cond.code yX2_weightAfter cX2_weightAfter 6 (some .int)]
def wsX0_run : List Cond := .code yX0_run cX0_run 5 none :: ((wsX0_run_r1 ++ wsX0_run_r2) ++ wsX20 ++ wsX00)
def wsX1_init : List Cond := .code yX1_init cX1_init 1 none :: ([.methodLink RX1 3 objectInit, .instanceMethod objectInit, .code objectInit ⟨#[0xb1]⟩ 1 none, .arrayClass .int, .fieldLink RX1 9 "BuyersWeights$Ledger" "times" "[I", .fieldLink RX1 15 "BuyersWeights$Ledger" "hands" "I", .fieldLink RX1 19 "BuyersWeights$Ledger" "lost" "I"] ++ wsX10)
def wsX1_add : List Cond := .code yX1_add cX1_add 2 none :: ([.fieldLink RX1 9 "BuyersWeights$Ledger" "times" "[I", .fieldLink RX1 15 "BuyersWeights$Ledger" "hands" "I"] ++ wsX10)
def wsX1_forget : List Cond := .code yX1_forget cX1_forget 2 none :: ([.fieldLink RX1 9 "BuyersWeights$Ledger" "times" "[I", .fieldLink RX1 15 "BuyersWeights$Ledger" "hands" "I", .fieldLink RX1 19 "BuyersWeights$Ledger" "lost" "I"] ++ wsX10)
def wsX1_copyFrom : List Cond := .code yX1_copyFrom cX1_copyFrom 2 none :: ([.fieldLink RX1 9 "BuyersWeights$Ledger" "times" "[I", .fieldLink RX1 15 "BuyersWeights$Ledger" "hands" "I", .fieldLink RX1 19 "BuyersWeights$Ledger" "lost" "I", .static yX5_copyRow, .initialized RX5, .code yX5_copyRow cX5_copyRow 2 none, .methodLink RX5 233 arraycopyName, .native arraycopyName, .static arraycopyName, .initialized "java/lang/System"] ++ wsX10)
def wsX1_explains : List Cond := .code yX1_explains cX1_explains 5 (some .boolean) :: ([.fieldLink RX1 9 "BuyersWeights$Ledger" "times" "[I", .fieldLink RX1 19 "BuyersWeights$Ledger" "lost" "I"] ++ wsX10)
def wsX1_howManySetsWith : List Cond := .code yX1_howManySetsWith cX1_howManySetsWith 5 (some .int) :: ([.methodLink RX1 30 yX1_explains, .instanceMethod yX1_explains, .selects RX1 yX1_explains yX1_explains, .initialized RX1, .code yX1_explains cX1_explains 5 (some .boolean), .fieldLink RX1 9 "BuyersWeights$Ledger" "times" "[I", .fieldLink RX1 19 "BuyersWeights$Ledger" "lost" "I"] ++ wsX10)
def wsX1_howManySets : List Cond := .code yX1_howManySets cX1_howManySets 2 (some .int) :: ([.methodLink RX1 26 yX1_howManySetsWith, .instanceMethod yX1_howManySetsWith, .selects RX1 yX1_howManySetsWith yX1_howManySetsWith, .initialized RX1, .code yX1_howManySetsWith cX1_howManySetsWith 5 (some .int), .methodLink RX1 30 yX1_explains, .instanceMethod yX1_explains, .selects RX1 yX1_explains yX1_explains, .code yX1_explains cX1_explains 5 (some .boolean), .fieldLink RX1 9 "BuyersWeights$Ledger" "times" "[I", .fieldLink RX1 19 "BuyersWeights$Ledger" "lost" "I"] ++ wsX10)
def wsX1_leastSet : List Cond := .code yX1_leastSet cX1_leastSet 3 (some .int) :: ([.methodLink RX1 30 yX1_explains, .instanceMethod yX1_explains, .selects RX1 yX1_explains yX1_explains, .initialized RX1, .code yX1_explains cX1_explains 5 (some .boolean), .fieldLink RX1 9 "BuyersWeights$Ledger" "times" "[I", .fieldLink RX1 19 "BuyersWeights$Ledger" "lost" "I"] ++ wsX10)
def wsX1_inAllSets : List Cond := .code yX1_inAllSets cX1_inAllSets 4 (some .int) :: ([.methodLink RX1 30 yX1_explains, .instanceMethod yX1_explains, .selects RX1 yX1_explains yX1_explains, .initialized RX1, .code yX1_explains cX1_explains 5 (some .boolean), .fieldLink RX1 9 "BuyersWeights$Ledger" "times" "[I", .fieldLink RX1 19 "BuyersWeights$Ledger" "lost" "I"] ++ wsX10)
def wsX1_houseToWatch : List Cond := .code yX1_houseToWatch cX1_houseToWatch 8 (some .int) :: ([.methodLink RX1 38 Lib.Math.max.name, .static Lib.Math.max.name, .initialized "java/lang/Math", .code Lib.Math.max.name Lib.Math.max.code 2 (some .int), .methodLink RX1 34 yX1_howManySets, .instanceMethod yX1_howManySets, .selects RX1 yX1_howManySets yX1_howManySets, .initialized RX1, .code yX1_howManySets cX1_howManySets 2 (some .int), .methodLink RX1 26 yX1_howManySetsWith, .instanceMethod yX1_howManySetsWith, .selects RX1 yX1_howManySetsWith yX1_howManySetsWith, .code yX1_howManySetsWith cX1_howManySetsWith 5 (some .int), .methodLink RX1 30 yX1_explains, .instanceMethod yX1_explains, .selects RX1 yX1_explains yX1_explains, .code yX1_explains cX1_explains 5 (some .boolean), .fieldLink RX1 9 "BuyersWeights$Ledger" "times" "[I", .fieldLink RX1 19 "BuyersWeights$Ledger" "lost" "I"] ++ wsX10)
def wsX2_init : List Cond := .code yX2_init cX2_init 1 none :: ([.methodLink RX2 3 objectInit, .instanceMethod objectInit, .code objectInit ⟨#[0xb1]⟩ 1 none, .arrayClass .int, .fieldLink RX2 9 "BuyersWeights$Market" "kinds" "[I", .fieldLink RX2 15 "BuyersWeights$Market" "stones" "[I", .fieldLink RX2 18 "BuyersWeights$Market" "coins" "[I", .fieldLink RX2 21 "BuyersWeights$Market" "got" "[I", .fieldLink RX2 24 "BuyersWeights$Market" "paid" "[I", .fieldLink RX2 27 "BuyersWeights$Market" "dealt" "[I", .fieldLink RX2 30 "BuyersWeights$Market" "used" "[I", .fieldLink RX2 33 "BuyersWeights$Market" "houses" "I", .fieldLink RX2 37 "BuyersWeights$Market" "tilt" "I", .fieldLink RX2 40 "BuyersWeights$Market" "hourNow" "I", .fieldLink RX2 43 "BuyersWeights$Market" "sales" "I"] ++ wsX20)
def wsX3_howManyHouses : List Cond := .code yX3_howManyHouses cX3_howManyHouses 1 (some .int) :: ([.fieldLink RX3 15 "BuyersWeights$Page" "length" "I"] ++ wsX30)
def wsX3_digit : List Cond := .code yX3_digit cX3_digit 2 (some .int) :: ([.fieldLink RX3 9 "BuyersWeights$Page" "letters" "[C"] ++ wsX30)
def wsJ0_isLatin1_aae02 : List Cond := .code yJ0_isLatin1_aae02 cJ0_isLatin1_aae02 1 (some .boolean) :: ([.fieldLink RJ0 38 "java/lang/String" "COMPACT_STRINGS" "Z", .fieldLink RJ0 15 "java/lang/String" "coder" "B"])
def wsJ0_coder_7d493 : List Cond := .code yJ0_coder_7d493 cJ0_coder_7d493 1 (some .byte) :: ([.fieldLink RJ0 38 "java/lang/String" "COMPACT_STRINGS" "Z", .fieldLink RJ0 15 "java/lang/String" "coder" "B"])
def wsJ0_length_8abf5 : List Cond := .code yJ0_length_8abf5 cJ0_length_8abf5 1 (some .int) :: ([.fieldLink RJ0 9 "java/lang/String" "value" "[B", .methodLink RJ0 335 yJ0_coder_7d493, .instanceMethod yJ0_coder_7d493, .selects RJ0 yJ0_coder_7d493 yJ0_coder_7d493, .initialized RJ0, .code yJ0_coder_7d493 cJ0_coder_7d493 1 (some .byte), .fieldLink RJ0 38 "java/lang/String" "COMPACT_STRINGS" "Z", .fieldLink RJ0 15 "java/lang/String" "coder" "B"])
def wsJ1_canEncode_9a6ad : List Cond := .code yJ1_canEncode_9a6ad cJ1_canEncode_9a6ad 1 (some .boolean) :: ([])
def wsJ1_indexOfChar_4cfef : List Cond := .code yJ1_indexOfChar_4cfef cJ1_indexOfChar_4cfef 6 (some .int) :: ([])
def wsJ1_indexOf_4cfef : List Cond := .code yJ1_indexOf_4cfef cJ1_indexOf_4cfef 4 (some .int) :: ([.methodLink RJ1 92 Lib.Math.max.name, .static Lib.Math.max.name, .initialized "java/lang/Math", .code Lib.Math.max.name Lib.Math.max.code 2 (some .int), .methodLink RJ1 38 Lib.Math.min.name, .static Lib.Math.min.name, .code Lib.Math.min.name Lib.Math.min.code 2 (some .int), .methodLink RJ1 88 yJ1_canEncode_9a6ad, .static yJ1_canEncode_9a6ad, .initialized RJ1, .code yJ1_canEncode_9a6ad cJ1_canEncode_9a6ad 1 (some .boolean), .methodLink RJ1 95 yJ1_indexOfChar_4cfef, .static yJ1_indexOfChar_4cfef, .code yJ1_indexOfChar_4cfef cJ1_indexOfChar_4cfef 6 (some .int)])
def wsJ2_length_9d52b : List Cond := .code yJ2_length_9d52b cJ2_length_9d52b 1 (some .int) :: ([])
def wsJ3_checkFromToIndex_8c36e : List Cond := .code yJ3_checkFromToIndex_8c36e cJ3_checkFromToIndex_8c36e 4 (some .int) :: ([])
def wsJ0_checkBoundsBeginEnd_23922 : List Cond := .code yJ0_checkBoundsBeginEnd_23922 cJ0_checkBoundsBeginEnd_23922 3 none :: ([.fieldLink RJ0 1053 "jdk/internal/util/Preconditions" "SIOOBE_FORMATTER" "Ljava/util/function/BiFunction;", .methodLink RJ0 1062 yJ3_checkFromToIndex_8c36e, .static yJ3_checkFromToIndex_8c36e, .initialized RJ3, .code yJ3_checkFromToIndex_8c36e cJ3_checkFromToIndex_8c36e 4 (some .int)])
def wsJ2_checkBoundsBeginEnd_d044e : List Cond := .code yJ2_checkBoundsBeginEnd_d044e cJ2_checkBoundsBeginEnd_d044e 3 none :: ([.methodLink RJ2 48 yJ2_length_9d52b, .static yJ2_length_9d52b, .initialized RJ2, .code yJ2_length_9d52b cJ2_length_9d52b 1 (some .int), .methodLink RJ2 241 yJ0_checkBoundsBeginEnd_23922, .static yJ0_checkBoundsBeginEnd_23922, .initialized RJ0, .code yJ0_checkBoundsBeginEnd_23922 cJ0_checkBoundsBeginEnd_23922 3 none, .fieldLink RJ0 1053 "jdk/internal/util/Preconditions" "SIOOBE_FORMATTER" "Ljava/util/function/BiFunction;", .methodLink RJ0 1062 yJ3_checkFromToIndex_8c36e, .static yJ3_checkFromToIndex_8c36e, .initialized RJ3, .code yJ3_checkFromToIndex_8c36e cJ3_checkFromToIndex_8c36e 4 (some .int)])
def wsJ2_getChar_3b067 : List Cond := .code yJ2_getChar_3b067 cJ2_getChar_3b067 2 (some .char) :: ([.fieldLink RJ2 44 "java/lang/StringUTF16" "$assertionsDisabled" "Z", .fieldLink RJ2 59 "java/lang/StringUTF16" "HI_BYTE_SHIFT" "I", .fieldLink RJ2 63 "java/lang/StringUTF16" "LO_BYTE_SHIFT" "I", .methodLink RJ2 48 yJ2_length_9d52b, .static yJ2_length_9d52b, .initialized RJ2, .code yJ2_length_9d52b cJ2_length_9d52b 1 (some .int)])
def wsJ2_indexOfCharUnsafe_4cfef : List Cond := .code yJ2_indexOfCharUnsafe_4cfef cJ2_indexOfCharUnsafe_4cfef 5 (some .int) :: ([.methodLink RJ2 71 yJ2_getChar_3b067, .static yJ2_getChar_3b067, .initialized RJ2, .code yJ2_getChar_3b067 cJ2_getChar_3b067 2 (some .char), .fieldLink RJ2 44 "java/lang/StringUTF16" "$assertionsDisabled" "Z", .fieldLink RJ2 59 "java/lang/StringUTF16" "HI_BYTE_SHIFT" "I", .fieldLink RJ2 63 "java/lang/StringUTF16" "LO_BYTE_SHIFT" "I", .methodLink RJ2 48 yJ2_length_9d52b, .static yJ2_length_9d52b, .code yJ2_length_9d52b cJ2_length_9d52b 1 (some .int)])
def wsJ2_indexOfChar_4cfef_r1 : List Cond := [Cond.methodLink RJ2 96 yJ2_checkBoundsBeginEnd_d044e, Cond.static yJ2_checkBoundsBeginEnd_d044e, Cond.initialized RJ2, Cond.code yJ2_checkBoundsBeginEnd_d044e cJ2_checkBoundsBeginEnd_d044e 3 none, Cond.methodLink RJ2 48 yJ2_length_9d52b, Cond.static yJ2_length_9d52b, Cond.code yJ2_length_9d52b cJ2_length_9d52b 1 (some .int), Cond.methodLink RJ2 241 yJ0_checkBoundsBeginEnd_23922, Cond.static yJ0_checkBoundsBeginEnd_23922, Cond.initialized RJ0, Cond.code yJ0_checkBoundsBeginEnd_23922 cJ0_checkBoundsBeginEnd_23922 3 none, Cond.fieldLink RJ0 1053 "jdk/internal/util/Preconditions" "SIOOBE_FORMATTER" "Ljava/util/function/BiFunction;", Cond.methodLink RJ0 1062 yJ3_checkFromToIndex_8c36e, Cond.static yJ3_checkFromToIndex_8c36e, Cond.initialized RJ3, Cond.code yJ3_checkFromToIndex_8c36e cJ3_checkFromToIndex_8c36e 4 (some .int), Cond.methodLink RJ2 244 yJ2_indexOfCharUnsafe_4cfef, Cond.static yJ2_indexOfCharUnsafe_4cfef, Cond.code yJ2_indexOfCharUnsafe_4cfef cJ2_indexOfCharUnsafe_4cfef 5 (some .int), Cond.methodLink RJ2 71 yJ2_getChar_3b067, Cond.static yJ2_getChar_3b067, Cond.code yJ2_getChar_3b067 cJ2_getChar_3b067 2 (some .char), Cond.fieldLink RJ2 44 "java/lang/StringUTF16" "$assertionsDisabled" "Z", Cond.fieldLink RJ2 59 "java/lang/StringUTF16" "HI_BYTE_SHIFT" "I"]
def wsJ2_indexOfChar_4cfef_r2 : List Cond := [Cond.fieldLink RJ2 63 "java/lang/StringUTF16" "LO_BYTE_SHIFT" "I"]
def wsJ2_indexOfChar_4cfef : List Cond := .code yJ2_indexOfChar_4cfef cJ2_indexOfChar_4cfef 4 (some .int) :: ((wsJ2_indexOfChar_4cfef_r1 ++ wsJ2_indexOfChar_4cfef_r2))
def wsJ11_isValidCodePoint_9a6ad : List Cond := .code yJ11_isValidCodePoint_9a6ad cJ11_isValidCodePoint_9a6ad 2 (some .boolean) :: ([])
def wsJ11_highSurrogate_5068e : List Cond := .code yJ11_highSurrogate_5068e cJ11_highSurrogate_5068e 1 (some .char) :: ([.constant RJ11 110 (55232)])
def wsJ11_lowSurrogate_5068e : List Cond := .code yJ11_lowSurrogate_5068e cJ11_lowSurrogate_5068e 1 (some .char) :: ([.constant RJ11 76 (56320)])
def wsJ2_indexOfSupplementary_4cfef_r1 : List Cond := [Cond.methodLink RJ2 164 yJ11_isValidCodePoint_9a6ad, Cond.static yJ11_isValidCodePoint_9a6ad, Cond.initialized RJ11, Cond.code yJ11_isValidCodePoint_9a6ad cJ11_isValidCodePoint_9a6ad 2 (some .boolean), Cond.methodLink RJ2 157 yJ11_highSurrogate_5068e, Cond.static yJ11_highSurrogate_5068e, Cond.code yJ11_highSurrogate_5068e cJ11_highSurrogate_5068e 1 (some .char), Cond.constant RJ11 110 (55232), Cond.methodLink RJ2 161 yJ11_lowSurrogate_5068e, Cond.static yJ11_lowSurrogate_5068e, Cond.code yJ11_lowSurrogate_5068e cJ11_lowSurrogate_5068e 1 (some .char), Cond.constant RJ11 76 (56320), Cond.methodLink RJ2 96 yJ2_checkBoundsBeginEnd_d044e, Cond.static yJ2_checkBoundsBeginEnd_d044e, Cond.initialized RJ2, Cond.code yJ2_checkBoundsBeginEnd_d044e cJ2_checkBoundsBeginEnd_d044e 3 none, Cond.methodLink RJ2 48 yJ2_length_9d52b, Cond.static yJ2_length_9d52b, Cond.code yJ2_length_9d52b cJ2_length_9d52b 1 (some .int), Cond.methodLink RJ2 241 yJ0_checkBoundsBeginEnd_23922, Cond.static yJ0_checkBoundsBeginEnd_23922, Cond.initialized RJ0, Cond.code yJ0_checkBoundsBeginEnd_23922 cJ0_checkBoundsBeginEnd_23922 3 none, Cond.fieldLink RJ0 1053 "jdk/internal/util/Preconditions" "SIOOBE_FORMATTER" "Ljava/util/function/BiFunction;"]
def wsJ2_indexOfSupplementary_4cfef_r2 : List Cond := [Cond.methodLink RJ0 1062 yJ3_checkFromToIndex_8c36e, Cond.static yJ3_checkFromToIndex_8c36e, Cond.initialized RJ3, Cond.code yJ3_checkFromToIndex_8c36e cJ3_checkFromToIndex_8c36e 4 (some .int), Cond.methodLink RJ2 71 yJ2_getChar_3b067, Cond.static yJ2_getChar_3b067, Cond.code yJ2_getChar_3b067 cJ2_getChar_3b067 2 (some .char), Cond.fieldLink RJ2 44 "java/lang/StringUTF16" "$assertionsDisabled" "Z", Cond.fieldLink RJ2 59 "java/lang/StringUTF16" "HI_BYTE_SHIFT" "I", Cond.fieldLink RJ2 63 "java/lang/StringUTF16" "LO_BYTE_SHIFT" "I"]
def wsJ2_indexOfSupplementary_4cfef : List Cond := .code yJ2_indexOfSupplementary_4cfef cJ2_indexOfSupplementary_4cfef 7 (some .int) :: ((wsJ2_indexOfSupplementary_4cfef_r1 ++ wsJ2_indexOfSupplementary_4cfef_r2))
def wsJ2_indexOf_4cfef_r1 : List Cond := [Cond.methodLink RJ2 224 Lib.Math.max.name, Cond.static Lib.Math.max.name, Cond.initialized "java/lang/Math", Cond.code Lib.Math.max.name Lib.Math.max.code 2 (some .int), Cond.methodLink RJ2 183 Lib.Math.min.name, Cond.static Lib.Math.min.name, Cond.code Lib.Math.min.name Lib.Math.min.code 2 (some .int), Cond.constant RJ2 227 (65536), Cond.methodLink RJ2 228 yJ2_indexOfChar_4cfef, Cond.static yJ2_indexOfChar_4cfef, Cond.initialized RJ2, Cond.code yJ2_indexOfChar_4cfef cJ2_indexOfChar_4cfef 4 (some .int), Cond.methodLink RJ2 96 yJ2_checkBoundsBeginEnd_d044e, Cond.static yJ2_checkBoundsBeginEnd_d044e, Cond.code yJ2_checkBoundsBeginEnd_d044e cJ2_checkBoundsBeginEnd_d044e 3 none, Cond.methodLink RJ2 48 yJ2_length_9d52b, Cond.static yJ2_length_9d52b, Cond.code yJ2_length_9d52b cJ2_length_9d52b 1 (some .int), Cond.methodLink RJ2 241 yJ0_checkBoundsBeginEnd_23922, Cond.static yJ0_checkBoundsBeginEnd_23922, Cond.initialized RJ0, Cond.code yJ0_checkBoundsBeginEnd_23922 cJ0_checkBoundsBeginEnd_23922 3 none, Cond.fieldLink RJ0 1053 "jdk/internal/util/Preconditions" "SIOOBE_FORMATTER" "Ljava/util/function/BiFunction;", Cond.methodLink RJ0 1062 yJ3_checkFromToIndex_8c36e]
def wsJ2_indexOf_4cfef_r2 : List Cond := [Cond.static yJ3_checkFromToIndex_8c36e, Cond.initialized RJ3, Cond.code yJ3_checkFromToIndex_8c36e cJ3_checkFromToIndex_8c36e 4 (some .int), Cond.methodLink RJ2 244 yJ2_indexOfCharUnsafe_4cfef, Cond.static yJ2_indexOfCharUnsafe_4cfef, Cond.code yJ2_indexOfCharUnsafe_4cfef cJ2_indexOfCharUnsafe_4cfef 5 (some .int), Cond.methodLink RJ2 71 yJ2_getChar_3b067, Cond.static yJ2_getChar_3b067, Cond.code yJ2_getChar_3b067 cJ2_getChar_3b067 2 (some .char), Cond.fieldLink RJ2 44 "java/lang/StringUTF16" "$assertionsDisabled" "Z", Cond.fieldLink RJ2 59 "java/lang/StringUTF16" "HI_BYTE_SHIFT" "I", Cond.fieldLink RJ2 63 "java/lang/StringUTF16" "LO_BYTE_SHIFT" "I", Cond.methodLink RJ2 232 yJ2_indexOfSupplementary_4cfef, Cond.static yJ2_indexOfSupplementary_4cfef, Cond.code yJ2_indexOfSupplementary_4cfef cJ2_indexOfSupplementary_4cfef 7 (some .int), Cond.methodLink RJ2 164 yJ11_isValidCodePoint_9a6ad, Cond.static yJ11_isValidCodePoint_9a6ad, Cond.initialized RJ11, Cond.code yJ11_isValidCodePoint_9a6ad cJ11_isValidCodePoint_9a6ad 2 (some .boolean), Cond.methodLink RJ2 157 yJ11_highSurrogate_5068e, Cond.static yJ11_highSurrogate_5068e, Cond.code yJ11_highSurrogate_5068e cJ11_highSurrogate_5068e 1 (some .char), Cond.constant RJ11 110 (55232), Cond.methodLink RJ2 161 yJ11_lowSurrogate_5068e]
def wsJ2_indexOf_4cfef_r3 : List Cond := [Cond.static yJ11_lowSurrogate_5068e, Cond.code yJ11_lowSurrogate_5068e cJ11_lowSurrogate_5068e 1 (some .char), Cond.constant RJ11 76 (56320)]
def wsJ2_indexOf_4cfef : List Cond := .code yJ2_indexOf_4cfef cJ2_indexOf_4cfef 4 (some .int) :: ((wsJ2_indexOf_4cfef_r1 ++ (wsJ2_indexOf_4cfef_r2 ++ wsJ2_indexOf_4cfef_r3)))
def wsJ0_indexOf_7cf53_r1 : List Cond := [Cond.fieldLink RJ0 9 "java/lang/String" "value" "[B", Cond.methodLink RJ0 492 yJ0_isLatin1_aae02, Cond.instanceMethod yJ0_isLatin1_aae02, Cond.selects RJ0 yJ0_isLatin1_aae02 yJ0_isLatin1_aae02, Cond.initialized RJ0, Cond.code yJ0_isLatin1_aae02 cJ0_isLatin1_aae02 1 (some .boolean), Cond.fieldLink RJ0 38 "java/lang/String" "COMPACT_STRINGS" "Z", Cond.fieldLink RJ0 15 "java/lang/String" "coder" "B", Cond.methodLink RJ0 505 yJ0_length_8abf5, Cond.instanceMethod yJ0_length_8abf5, Cond.selects RJ0 yJ0_length_8abf5 yJ0_length_8abf5, Cond.code yJ0_length_8abf5 cJ0_length_8abf5 1 (some .int), Cond.methodLink RJ0 335 yJ0_coder_7d493, Cond.instanceMethod yJ0_coder_7d493, Cond.selects RJ0 yJ0_coder_7d493 yJ0_coder_7d493, Cond.code yJ0_coder_7d493 cJ0_coder_7d493 1 (some .byte), Cond.methodLink RJ0 637 yJ1_indexOf_4cfef, Cond.static yJ1_indexOf_4cfef, Cond.initialized RJ1, Cond.code yJ1_indexOf_4cfef cJ1_indexOf_4cfef 4 (some .int), Cond.methodLink RJ1 92 Lib.Math.max.name, Cond.static Lib.Math.max.name, Cond.initialized "java/lang/Math", Cond.code Lib.Math.max.name Lib.Math.max.code 2 (some .int)]
def wsJ0_indexOf_7cf53_r2 : List Cond := [Cond.methodLink RJ1 38 Lib.Math.min.name, Cond.static Lib.Math.min.name, Cond.code Lib.Math.min.name Lib.Math.min.code 2 (some .int), Cond.methodLink RJ1 88 yJ1_canEncode_9a6ad, Cond.static yJ1_canEncode_9a6ad, Cond.code yJ1_canEncode_9a6ad cJ1_canEncode_9a6ad 1 (some .boolean), Cond.methodLink RJ1 95 yJ1_indexOfChar_4cfef, Cond.static yJ1_indexOfChar_4cfef, Cond.code yJ1_indexOfChar_4cfef cJ1_indexOfChar_4cfef 6 (some .int), Cond.methodLink RJ0 640 yJ2_indexOf_4cfef, Cond.static yJ2_indexOf_4cfef, Cond.initialized RJ2, Cond.code yJ2_indexOf_4cfef cJ2_indexOf_4cfef 4 (some .int), Cond.methodLink RJ2 224 Lib.Math.max.name, Cond.methodLink RJ2 183 Lib.Math.min.name, Cond.constant RJ2 227 (65536), Cond.methodLink RJ2 228 yJ2_indexOfChar_4cfef, Cond.static yJ2_indexOfChar_4cfef, Cond.code yJ2_indexOfChar_4cfef cJ2_indexOfChar_4cfef 4 (some .int), Cond.methodLink RJ2 96 yJ2_checkBoundsBeginEnd_d044e, Cond.static yJ2_checkBoundsBeginEnd_d044e, Cond.code yJ2_checkBoundsBeginEnd_d044e cJ2_checkBoundsBeginEnd_d044e 3 none, Cond.methodLink RJ2 48 yJ2_length_9d52b, Cond.static yJ2_length_9d52b]
def wsJ0_indexOf_7cf53_r3 : List Cond := [Cond.code yJ2_length_9d52b cJ2_length_9d52b 1 (some .int), Cond.methodLink RJ2 241 yJ0_checkBoundsBeginEnd_23922, Cond.static yJ0_checkBoundsBeginEnd_23922, Cond.code yJ0_checkBoundsBeginEnd_23922 cJ0_checkBoundsBeginEnd_23922 3 none, Cond.fieldLink RJ0 1053 "jdk/internal/util/Preconditions" "SIOOBE_FORMATTER" "Ljava/util/function/BiFunction;", Cond.methodLink RJ0 1062 yJ3_checkFromToIndex_8c36e, Cond.static yJ3_checkFromToIndex_8c36e, Cond.initialized RJ3, Cond.code yJ3_checkFromToIndex_8c36e cJ3_checkFromToIndex_8c36e 4 (some .int), Cond.methodLink RJ2 244 yJ2_indexOfCharUnsafe_4cfef, Cond.static yJ2_indexOfCharUnsafe_4cfef, Cond.code yJ2_indexOfCharUnsafe_4cfef cJ2_indexOfCharUnsafe_4cfef 5 (some .int), Cond.methodLink RJ2 71 yJ2_getChar_3b067, Cond.static yJ2_getChar_3b067, Cond.code yJ2_getChar_3b067 cJ2_getChar_3b067 2 (some .char), Cond.fieldLink RJ2 44 "java/lang/StringUTF16" "$assertionsDisabled" "Z", Cond.fieldLink RJ2 59 "java/lang/StringUTF16" "HI_BYTE_SHIFT" "I", Cond.fieldLink RJ2 63 "java/lang/StringUTF16" "LO_BYTE_SHIFT" "I", Cond.methodLink RJ2 232 yJ2_indexOfSupplementary_4cfef, Cond.static yJ2_indexOfSupplementary_4cfef, Cond.code yJ2_indexOfSupplementary_4cfef cJ2_indexOfSupplementary_4cfef 7 (some .int), Cond.methodLink RJ2 164 yJ11_isValidCodePoint_9a6ad, Cond.static yJ11_isValidCodePoint_9a6ad, Cond.initialized RJ11]
def wsJ0_indexOf_7cf53_r4 : List Cond := [Cond.code yJ11_isValidCodePoint_9a6ad cJ11_isValidCodePoint_9a6ad 2 (some .boolean), Cond.methodLink RJ2 157 yJ11_highSurrogate_5068e, Cond.static yJ11_highSurrogate_5068e, Cond.code yJ11_highSurrogate_5068e cJ11_highSurrogate_5068e 1 (some .char), Cond.constant RJ11 110 (55232), Cond.methodLink RJ2 161 yJ11_lowSurrogate_5068e, Cond.static yJ11_lowSurrogate_5068e, Cond.code yJ11_lowSurrogate_5068e cJ11_lowSurrogate_5068e 1 (some .char), Cond.constant RJ11 76 (56320)]
def wsJ0_indexOf_7cf53 : List Cond := .code yJ0_indexOf_7cf53 cJ0_indexOf_7cf53 3 (some .int) :: ((wsJ0_indexOf_7cf53_r1 ++ (wsJ0_indexOf_7cf53_r2 ++ (wsJ0_indexOf_7cf53_r3 ++ wsJ0_indexOf_7cf53_r4))))
def wsJ0_indexOf_0f7a4_r1 : List Cond := [Cond.methodLink RJ0 633 yJ0_indexOf_7cf53, Cond.instanceMethod yJ0_indexOf_7cf53, Cond.selects RJ0 yJ0_indexOf_7cf53 yJ0_indexOf_7cf53, Cond.initialized RJ0, Cond.code yJ0_indexOf_7cf53 cJ0_indexOf_7cf53 3 (some .int), Cond.fieldLink RJ0 9 "java/lang/String" "value" "[B", Cond.methodLink RJ0 492 yJ0_isLatin1_aae02, Cond.instanceMethod yJ0_isLatin1_aae02, Cond.selects RJ0 yJ0_isLatin1_aae02 yJ0_isLatin1_aae02, Cond.code yJ0_isLatin1_aae02 cJ0_isLatin1_aae02 1 (some .boolean), Cond.fieldLink RJ0 38 "java/lang/String" "COMPACT_STRINGS" "Z", Cond.fieldLink RJ0 15 "java/lang/String" "coder" "B", Cond.methodLink RJ0 505 yJ0_length_8abf5, Cond.instanceMethod yJ0_length_8abf5, Cond.selects RJ0 yJ0_length_8abf5 yJ0_length_8abf5, Cond.code yJ0_length_8abf5 cJ0_length_8abf5 1 (some .int), Cond.methodLink RJ0 335 yJ0_coder_7d493, Cond.instanceMethod yJ0_coder_7d493, Cond.selects RJ0 yJ0_coder_7d493 yJ0_coder_7d493, Cond.code yJ0_coder_7d493 cJ0_coder_7d493 1 (some .byte), Cond.methodLink RJ0 637 yJ1_indexOf_4cfef, Cond.static yJ1_indexOf_4cfef, Cond.initialized RJ1, Cond.code yJ1_indexOf_4cfef cJ1_indexOf_4cfef 4 (some .int)]
def wsJ0_indexOf_0f7a4_r2 : List Cond := [Cond.methodLink RJ1 92 Lib.Math.max.name, Cond.static Lib.Math.max.name, Cond.initialized "java/lang/Math", Cond.code Lib.Math.max.name Lib.Math.max.code 2 (some .int), Cond.methodLink RJ1 38 Lib.Math.min.name, Cond.static Lib.Math.min.name, Cond.code Lib.Math.min.name Lib.Math.min.code 2 (some .int), Cond.methodLink RJ1 88 yJ1_canEncode_9a6ad, Cond.static yJ1_canEncode_9a6ad, Cond.code yJ1_canEncode_9a6ad cJ1_canEncode_9a6ad 1 (some .boolean), Cond.methodLink RJ1 95 yJ1_indexOfChar_4cfef, Cond.static yJ1_indexOfChar_4cfef, Cond.code yJ1_indexOfChar_4cfef cJ1_indexOfChar_4cfef 6 (some .int), Cond.methodLink RJ0 640 yJ2_indexOf_4cfef, Cond.static yJ2_indexOf_4cfef, Cond.initialized RJ2, Cond.code yJ2_indexOf_4cfef cJ2_indexOf_4cfef 4 (some .int), Cond.methodLink RJ2 224 Lib.Math.max.name, Cond.methodLink RJ2 183 Lib.Math.min.name, Cond.constant RJ2 227 (65536), Cond.methodLink RJ2 228 yJ2_indexOfChar_4cfef, Cond.static yJ2_indexOfChar_4cfef, Cond.code yJ2_indexOfChar_4cfef cJ2_indexOfChar_4cfef 4 (some .int), Cond.methodLink RJ2 96 yJ2_checkBoundsBeginEnd_d044e]
def wsJ0_indexOf_0f7a4_r3 : List Cond := [Cond.static yJ2_checkBoundsBeginEnd_d044e, Cond.code yJ2_checkBoundsBeginEnd_d044e cJ2_checkBoundsBeginEnd_d044e 3 none, Cond.methodLink RJ2 48 yJ2_length_9d52b, Cond.static yJ2_length_9d52b, Cond.code yJ2_length_9d52b cJ2_length_9d52b 1 (some .int), Cond.methodLink RJ2 241 yJ0_checkBoundsBeginEnd_23922, Cond.static yJ0_checkBoundsBeginEnd_23922, Cond.code yJ0_checkBoundsBeginEnd_23922 cJ0_checkBoundsBeginEnd_23922 3 none, Cond.fieldLink RJ0 1053 "jdk/internal/util/Preconditions" "SIOOBE_FORMATTER" "Ljava/util/function/BiFunction;", Cond.methodLink RJ0 1062 yJ3_checkFromToIndex_8c36e, Cond.static yJ3_checkFromToIndex_8c36e, Cond.initialized RJ3, Cond.code yJ3_checkFromToIndex_8c36e cJ3_checkFromToIndex_8c36e 4 (some .int), Cond.methodLink RJ2 244 yJ2_indexOfCharUnsafe_4cfef, Cond.static yJ2_indexOfCharUnsafe_4cfef, Cond.code yJ2_indexOfCharUnsafe_4cfef cJ2_indexOfCharUnsafe_4cfef 5 (some .int), Cond.methodLink RJ2 71 yJ2_getChar_3b067, Cond.static yJ2_getChar_3b067, Cond.code yJ2_getChar_3b067 cJ2_getChar_3b067 2 (some .char), Cond.fieldLink RJ2 44 "java/lang/StringUTF16" "$assertionsDisabled" "Z", Cond.fieldLink RJ2 59 "java/lang/StringUTF16" "HI_BYTE_SHIFT" "I", Cond.fieldLink RJ2 63 "java/lang/StringUTF16" "LO_BYTE_SHIFT" "I", Cond.methodLink RJ2 232 yJ2_indexOfSupplementary_4cfef, Cond.static yJ2_indexOfSupplementary_4cfef]
def wsJ0_indexOf_0f7a4_r4 : List Cond := [Cond.code yJ2_indexOfSupplementary_4cfef cJ2_indexOfSupplementary_4cfef 7 (some .int), Cond.methodLink RJ2 164 yJ11_isValidCodePoint_9a6ad, Cond.static yJ11_isValidCodePoint_9a6ad, Cond.initialized RJ11, Cond.code yJ11_isValidCodePoint_9a6ad cJ11_isValidCodePoint_9a6ad 2 (some .boolean), Cond.methodLink RJ2 157 yJ11_highSurrogate_5068e, Cond.static yJ11_highSurrogate_5068e, Cond.code yJ11_highSurrogate_5068e cJ11_highSurrogate_5068e 1 (some .char), Cond.constant RJ11 110 (55232), Cond.methodLink RJ2 161 yJ11_lowSurrogate_5068e, Cond.static yJ11_lowSurrogate_5068e, Cond.code yJ11_lowSurrogate_5068e cJ11_lowSurrogate_5068e 1 (some .char), Cond.constant RJ11 76 (56320)]
def wsJ0_indexOf_0f7a4 : List Cond := .code yJ0_indexOf_0f7a4 cJ0_indexOf_0f7a4 2 (some .int) :: ((wsJ0_indexOf_0f7a4_r1 ++ (wsJ0_indexOf_0f7a4_r2 ++ (wsJ0_indexOf_0f7a4_r3 ++ wsJ0_indexOf_0f7a4_r4))))
def wsX3_kind_r1 : List Cond := [Cond.fieldLink RX3 9 "BuyersWeights$Page" "letters" "[C", Cond.methodLink RX3 33 yJ0_indexOf_0f7a4, Cond.instanceMethod yJ0_indexOf_0f7a4, Cond.selects RJ0 yJ0_indexOf_0f7a4 yJ0_indexOf_0f7a4, Cond.initialized RJ0, Cond.code yJ0_indexOf_0f7a4 cJ0_indexOf_0f7a4 2 (some .int), Cond.methodLink RJ0 633 yJ0_indexOf_7cf53, Cond.instanceMethod yJ0_indexOf_7cf53, Cond.selects RJ0 yJ0_indexOf_7cf53 yJ0_indexOf_7cf53, Cond.code yJ0_indexOf_7cf53 cJ0_indexOf_7cf53 3 (some .int), Cond.fieldLink RJ0 9 "java/lang/String" "value" "[B", Cond.methodLink RJ0 492 yJ0_isLatin1_aae02, Cond.instanceMethod yJ0_isLatin1_aae02, Cond.selects RJ0 yJ0_isLatin1_aae02 yJ0_isLatin1_aae02, Cond.code yJ0_isLatin1_aae02 cJ0_isLatin1_aae02 1 (some .boolean), Cond.fieldLink RJ0 38 "java/lang/String" "COMPACT_STRINGS" "Z", Cond.fieldLink RJ0 15 "java/lang/String" "coder" "B", Cond.methodLink RJ0 505 yJ0_length_8abf5, Cond.instanceMethod yJ0_length_8abf5, Cond.selects RJ0 yJ0_length_8abf5 yJ0_length_8abf5, Cond.code yJ0_length_8abf5 cJ0_length_8abf5 1 (some .int), Cond.methodLink RJ0 335 yJ0_coder_7d493, Cond.instanceMethod yJ0_coder_7d493, Cond.selects RJ0 yJ0_coder_7d493 yJ0_coder_7d493]
def wsX3_kind_r2 : List Cond := [Cond.code yJ0_coder_7d493 cJ0_coder_7d493 1 (some .byte), Cond.methodLink RJ0 637 yJ1_indexOf_4cfef, Cond.static yJ1_indexOf_4cfef, Cond.initialized RJ1, Cond.code yJ1_indexOf_4cfef cJ1_indexOf_4cfef 4 (some .int), Cond.methodLink RJ1 92 Lib.Math.max.name, Cond.static Lib.Math.max.name, Cond.initialized "java/lang/Math", Cond.code Lib.Math.max.name Lib.Math.max.code 2 (some .int), Cond.methodLink RJ1 38 Lib.Math.min.name, Cond.static Lib.Math.min.name, Cond.code Lib.Math.min.name Lib.Math.min.code 2 (some .int), Cond.methodLink RJ1 88 yJ1_canEncode_9a6ad, Cond.static yJ1_canEncode_9a6ad, Cond.code yJ1_canEncode_9a6ad cJ1_canEncode_9a6ad 1 (some .boolean), Cond.methodLink RJ1 95 yJ1_indexOfChar_4cfef, Cond.static yJ1_indexOfChar_4cfef, Cond.code yJ1_indexOfChar_4cfef cJ1_indexOfChar_4cfef 6 (some .int), Cond.methodLink RJ0 640 yJ2_indexOf_4cfef, Cond.static yJ2_indexOf_4cfef, Cond.initialized RJ2, Cond.code yJ2_indexOf_4cfef cJ2_indexOf_4cfef 4 (some .int), Cond.methodLink RJ2 224 Lib.Math.max.name, Cond.methodLink RJ2 183 Lib.Math.min.name]
def wsX3_kind_r3 : List Cond := [Cond.constant RJ2 227 (65536), Cond.methodLink RJ2 228 yJ2_indexOfChar_4cfef, Cond.static yJ2_indexOfChar_4cfef, Cond.code yJ2_indexOfChar_4cfef cJ2_indexOfChar_4cfef 4 (some .int), Cond.methodLink RJ2 96 yJ2_checkBoundsBeginEnd_d044e, Cond.static yJ2_checkBoundsBeginEnd_d044e, Cond.code yJ2_checkBoundsBeginEnd_d044e cJ2_checkBoundsBeginEnd_d044e 3 none, Cond.methodLink RJ2 48 yJ2_length_9d52b, Cond.static yJ2_length_9d52b, Cond.code yJ2_length_9d52b cJ2_length_9d52b 1 (some .int), Cond.methodLink RJ2 241 yJ0_checkBoundsBeginEnd_23922, Cond.static yJ0_checkBoundsBeginEnd_23922, Cond.code yJ0_checkBoundsBeginEnd_23922 cJ0_checkBoundsBeginEnd_23922 3 none, Cond.fieldLink RJ0 1053 "jdk/internal/util/Preconditions" "SIOOBE_FORMATTER" "Ljava/util/function/BiFunction;", Cond.methodLink RJ0 1062 yJ3_checkFromToIndex_8c36e, Cond.static yJ3_checkFromToIndex_8c36e, Cond.initialized RJ3, Cond.code yJ3_checkFromToIndex_8c36e cJ3_checkFromToIndex_8c36e 4 (some .int), Cond.methodLink RJ2 244 yJ2_indexOfCharUnsafe_4cfef, Cond.static yJ2_indexOfCharUnsafe_4cfef, Cond.code yJ2_indexOfCharUnsafe_4cfef cJ2_indexOfCharUnsafe_4cfef 5 (some .int), Cond.methodLink RJ2 71 yJ2_getChar_3b067, Cond.static yJ2_getChar_3b067, Cond.code yJ2_getChar_3b067 cJ2_getChar_3b067 2 (some .char)]
def wsX3_kind_r4 : List Cond := [Cond.fieldLink RJ2 44 "java/lang/StringUTF16" "$assertionsDisabled" "Z", Cond.fieldLink RJ2 59 "java/lang/StringUTF16" "HI_BYTE_SHIFT" "I", Cond.fieldLink RJ2 63 "java/lang/StringUTF16" "LO_BYTE_SHIFT" "I", Cond.methodLink RJ2 232 yJ2_indexOfSupplementary_4cfef, Cond.static yJ2_indexOfSupplementary_4cfef, Cond.code yJ2_indexOfSupplementary_4cfef cJ2_indexOfSupplementary_4cfef 7 (some .int), Cond.methodLink RJ2 164 yJ11_isValidCodePoint_9a6ad, Cond.static yJ11_isValidCodePoint_9a6ad, Cond.initialized RJ11, Cond.code yJ11_isValidCodePoint_9a6ad cJ11_isValidCodePoint_9a6ad 2 (some .boolean), Cond.methodLink RJ2 157 yJ11_highSurrogate_5068e, Cond.static yJ11_highSurrogate_5068e, Cond.code yJ11_highSurrogate_5068e cJ11_highSurrogate_5068e 1 (some .char), Cond.constant RJ11 110 (55232), Cond.methodLink RJ2 161 yJ11_lowSurrogate_5068e, Cond.static yJ11_lowSurrogate_5068e, Cond.code yJ11_lowSurrogate_5068e cJ11_lowSurrogate_5068e 1 (some .char), Cond.constant RJ11 76 (56320)]
def wsX3_kind : List Cond := .code yX3_kind cX3_kind 2 (some .int) :: ((wsX3_kind_r1 ++ (wsX3_kind_r2 ++ (wsX3_kind_r3 ++ wsX3_kind_r4))) ++ wsX30)
def wsX2_open_r1 : List Cond := [Cond.fieldLink RX2 33 "BuyersWeights$Market" "houses" "I", Cond.fieldLink RX2 52 "BuyersWeights$Page" "length" "I", Cond.fieldLink RX2 37 "BuyersWeights$Market" "tilt" "I", Cond.fieldLink RX2 40 "BuyersWeights$Market" "hourNow" "I", Cond.fieldLink RX2 43 "BuyersWeights$Market" "sales" "I", Cond.fieldLink RX2 9 "BuyersWeights$Market" "kinds" "[I", Cond.fieldLink RX2 15 "BuyersWeights$Market" "stones" "[I", Cond.fieldLink RX2 18 "BuyersWeights$Market" "coins" "[I", Cond.fieldLink RX2 21 "BuyersWeights$Market" "got" "[I", Cond.fieldLink RX2 24 "BuyersWeights$Market" "paid" "[I", Cond.fieldLink RX2 27 "BuyersWeights$Market" "dealt" "[I", Cond.fieldLink RX2 30 "BuyersWeights$Market" "used" "[I", Cond.methodLink RX2 46 yX3_howManyHouses, Cond.instanceMethod yX3_howManyHouses, Cond.selects RX3 yX3_howManyHouses yX3_howManyHouses, Cond.initialized RX3, Cond.code yX3_howManyHouses cX3_howManyHouses 1 (some .int), Cond.fieldLink RX3 15 "BuyersWeights$Page" "length" "I", Cond.methodLink RX2 55 yX3_digit, Cond.instanceMethod yX3_digit, Cond.selects RX3 yX3_digit yX3_digit, Cond.code yX3_digit cX3_digit 2 (some .int), Cond.fieldLink RX3 9 "BuyersWeights$Page" "letters" "[C", Cond.methodLink RX2 59 yX3_kind]
def wsX2_open_r2 : List Cond := [Cond.instanceMethod yX3_kind, Cond.selects RX3 yX3_kind yX3_kind, Cond.code yX3_kind cX3_kind 2 (some .int), Cond.methodLink RX3 33 yJ0_indexOf_0f7a4, Cond.instanceMethod yJ0_indexOf_0f7a4, Cond.selects RJ0 yJ0_indexOf_0f7a4 yJ0_indexOf_0f7a4, Cond.initialized RJ0, Cond.code yJ0_indexOf_0f7a4 cJ0_indexOf_0f7a4 2 (some .int), Cond.methodLink RJ0 633 yJ0_indexOf_7cf53, Cond.instanceMethod yJ0_indexOf_7cf53, Cond.selects RJ0 yJ0_indexOf_7cf53 yJ0_indexOf_7cf53, Cond.code yJ0_indexOf_7cf53 cJ0_indexOf_7cf53 3 (some .int), Cond.fieldLink RJ0 9 "java/lang/String" "value" "[B", Cond.methodLink RJ0 492 yJ0_isLatin1_aae02, Cond.instanceMethod yJ0_isLatin1_aae02, Cond.selects RJ0 yJ0_isLatin1_aae02 yJ0_isLatin1_aae02, Cond.code yJ0_isLatin1_aae02 cJ0_isLatin1_aae02 1 (some .boolean), Cond.fieldLink RJ0 38 "java/lang/String" "COMPACT_STRINGS" "Z", Cond.fieldLink RJ0 15 "java/lang/String" "coder" "B", Cond.methodLink RJ0 505 yJ0_length_8abf5, Cond.instanceMethod yJ0_length_8abf5, Cond.selects RJ0 yJ0_length_8abf5 yJ0_length_8abf5, Cond.code yJ0_length_8abf5 cJ0_length_8abf5 1 (some .int), Cond.methodLink RJ0 335 yJ0_coder_7d493]
def wsX2_open_r3 : List Cond := [Cond.instanceMethod yJ0_coder_7d493, Cond.selects RJ0 yJ0_coder_7d493 yJ0_coder_7d493, Cond.code yJ0_coder_7d493 cJ0_coder_7d493 1 (some .byte), Cond.methodLink RJ0 637 yJ1_indexOf_4cfef, Cond.static yJ1_indexOf_4cfef, Cond.initialized RJ1, Cond.code yJ1_indexOf_4cfef cJ1_indexOf_4cfef 4 (some .int), Cond.methodLink RJ1 92 Lib.Math.max.name, Cond.static Lib.Math.max.name, Cond.initialized "java/lang/Math", Cond.code Lib.Math.max.name Lib.Math.max.code 2 (some .int), Cond.methodLink RJ1 38 Lib.Math.min.name, Cond.static Lib.Math.min.name, Cond.code Lib.Math.min.name Lib.Math.min.code 2 (some .int), Cond.methodLink RJ1 88 yJ1_canEncode_9a6ad, Cond.static yJ1_canEncode_9a6ad, Cond.code yJ1_canEncode_9a6ad cJ1_canEncode_9a6ad 1 (some .boolean), Cond.methodLink RJ1 95 yJ1_indexOfChar_4cfef, Cond.static yJ1_indexOfChar_4cfef, Cond.code yJ1_indexOfChar_4cfef cJ1_indexOfChar_4cfef 6 (some .int), Cond.methodLink RJ0 640 yJ2_indexOf_4cfef, Cond.static yJ2_indexOf_4cfef, Cond.initialized RJ2, Cond.code yJ2_indexOf_4cfef cJ2_indexOf_4cfef 4 (some .int)]
def wsX2_open_r4 : List Cond := [Cond.methodLink RJ2 224 Lib.Math.max.name, Cond.methodLink RJ2 183 Lib.Math.min.name, Cond.constant RJ2 227 (65536), Cond.methodLink RJ2 228 yJ2_indexOfChar_4cfef, Cond.static yJ2_indexOfChar_4cfef, Cond.code yJ2_indexOfChar_4cfef cJ2_indexOfChar_4cfef 4 (some .int), Cond.methodLink RJ2 96 yJ2_checkBoundsBeginEnd_d044e, Cond.static yJ2_checkBoundsBeginEnd_d044e, Cond.code yJ2_checkBoundsBeginEnd_d044e cJ2_checkBoundsBeginEnd_d044e 3 none, Cond.methodLink RJ2 48 yJ2_length_9d52b, Cond.static yJ2_length_9d52b, Cond.code yJ2_length_9d52b cJ2_length_9d52b 1 (some .int), Cond.methodLink RJ2 241 yJ0_checkBoundsBeginEnd_23922, Cond.static yJ0_checkBoundsBeginEnd_23922, Cond.code yJ0_checkBoundsBeginEnd_23922 cJ0_checkBoundsBeginEnd_23922 3 none, Cond.fieldLink RJ0 1053 "jdk/internal/util/Preconditions" "SIOOBE_FORMATTER" "Ljava/util/function/BiFunction;", Cond.methodLink RJ0 1062 yJ3_checkFromToIndex_8c36e, Cond.static yJ3_checkFromToIndex_8c36e, Cond.initialized RJ3, Cond.code yJ3_checkFromToIndex_8c36e cJ3_checkFromToIndex_8c36e 4 (some .int), Cond.methodLink RJ2 244 yJ2_indexOfCharUnsafe_4cfef, Cond.static yJ2_indexOfCharUnsafe_4cfef, Cond.code yJ2_indexOfCharUnsafe_4cfef cJ2_indexOfCharUnsafe_4cfef 5 (some .int), Cond.methodLink RJ2 71 yJ2_getChar_3b067]
def wsX2_open_r5 : List Cond := [Cond.static yJ2_getChar_3b067, Cond.code yJ2_getChar_3b067 cJ2_getChar_3b067 2 (some .char), Cond.fieldLink RJ2 44 "java/lang/StringUTF16" "$assertionsDisabled" "Z", Cond.fieldLink RJ2 59 "java/lang/StringUTF16" "HI_BYTE_SHIFT" "I", Cond.fieldLink RJ2 63 "java/lang/StringUTF16" "LO_BYTE_SHIFT" "I", Cond.methodLink RJ2 232 yJ2_indexOfSupplementary_4cfef, Cond.static yJ2_indexOfSupplementary_4cfef, Cond.code yJ2_indexOfSupplementary_4cfef cJ2_indexOfSupplementary_4cfef 7 (some .int), Cond.methodLink RJ2 164 yJ11_isValidCodePoint_9a6ad, Cond.static yJ11_isValidCodePoint_9a6ad, Cond.initialized RJ11, Cond.code yJ11_isValidCodePoint_9a6ad cJ11_isValidCodePoint_9a6ad 2 (some .boolean), Cond.methodLink RJ2 157 yJ11_highSurrogate_5068e, Cond.static yJ11_highSurrogate_5068e, Cond.code yJ11_highSurrogate_5068e cJ11_highSurrogate_5068e 1 (some .char), Cond.constant RJ11 110 (55232), Cond.methodLink RJ2 161 yJ11_lowSurrogate_5068e, Cond.static yJ11_lowSurrogate_5068e, Cond.code yJ11_lowSurrogate_5068e cJ11_lowSurrogate_5068e 1 (some .char), Cond.constant RJ11 76 (56320)]
def wsX2_open : List Cond := .code yX2_open cX2_open 4 none :: ((wsX2_open_r1 ++ (wsX2_open_r2 ++ (wsX2_open_r3 ++ (wsX2_open_r4 ++ wsX2_open_r5)))) ++ wsX20 ++ wsX30)
def wsX2_isOpen : List Cond := .code yX2_isOpen cX2_isOpen 1 (some .boolean) :: ([.fieldLink RX2 33 "BuyersWeights$Market" "houses" "I"] ++ wsX20)
def wsX2_has : List Cond := .code yX2_has cX2_has 2 (some .boolean) :: ([.fieldLink RX2 33 "BuyersWeights$Market" "houses" "I"] ++ wsX20)
def wsX2_tell : List Cond := .code yX2_tell cX2_tell 3 (some .int) :: ([.fieldLink RX2 9 "BuyersWeights$Market" "kinds" "[I", .fieldLink RX2 15 "BuyersWeights$Market" "stones" "[I", .fieldLink RX2 18 "BuyersWeights$Market" "coins" "[I", .fieldLink RX2 21 "BuyersWeights$Market" "got" "[I", .fieldLink RX2 24 "BuyersWeights$Market" "paid" "[I", .fieldLink RX2 27 "BuyersWeights$Market" "dealt" "[I", .fieldLink RX2 30 "BuyersWeights$Market" "used" "[I"] ++ wsX20)
def wsX2_sell : List Cond := .code yX2_sell cX2_sell 5 (some .int) :: ([.fieldLink RX2 15 "BuyersWeights$Market" "stones" "[I", .fieldLink RX2 40 "BuyersWeights$Market" "hourNow" "I", .fieldLink RX2 21 "BuyersWeights$Market" "got" "[I", .fieldLink RX2 24 "BuyersWeights$Market" "paid" "[I", .fieldLink RX2 18 "BuyersWeights$Market" "coins" "[I", .fieldLink RX2 27 "BuyersWeights$Market" "dealt" "[I", .fieldLink RX2 30 "BuyersWeights$Market" "used" "[I", .fieldLink RX2 43 "BuyersWeights$Market" "sales" "I", .methodLink RX2 68 yX2_ounces, .instanceMethod yX2_ounces, .selects RX2 yX2_ounces yX2_ounces, .initialized RX2, .code yX2_ounces cX2_ounces 6 (some .int), .fieldLink RX2 37 "BuyersWeights$Market" "tilt" "I", .fieldLink RX2 9 "BuyersWeights$Market" "kinds" "[I", .methodLink RX2 62 Lib.Math.max.name, .static Lib.Math.max.name, .initialized "java/lang/Math", .code Lib.Math.max.name Lib.Math.max.code 2 (some .int), .methodLink RX2 72 yX2_weightAfter, .instanceMethod yX2_weightAfter, .selects RX2 yX2_weightAfter yX2_weightAfter, .code yX2_weightAfter cX2_weightAfter 6 (some .int)] ++ wsX20)
def wsX2_isFair : List Cond := .code yX2_isFair cX2_isFair 5 (some .boolean) :: ([.fieldLink RX2 15 "BuyersWeights$Market" "stones" "[I", .fieldLink RX2 40 "BuyersWeights$Market" "hourNow" "I", .fieldLink RX2 33 "BuyersWeights$Market" "houses" "I", .fieldLink RX2 18 "BuyersWeights$Market" "coins" "[I", .methodLink RX2 68 yX2_ounces, .instanceMethod yX2_ounces, .selects RX2 yX2_ounces yX2_ounces, .initialized RX2, .code yX2_ounces cX2_ounces 6 (some .int), .fieldLink RX2 37 "BuyersWeights$Market" "tilt" "I", .fieldLink RX2 9 "BuyersWeights$Market" "kinds" "[I", .methodLink RX2 62 Lib.Math.max.name, .static Lib.Math.max.name, .initialized "java/lang/Math", .code Lib.Math.max.name Lib.Math.max.code 2 (some .int)] ++ wsX20)
def wsX2_sum : List Cond := .code yX2_sum cX2_sum 4 (some .int) :: ([.fieldLink RX2 33 "BuyersWeights$Market" "houses" "I"] ++ wsX20)
def wsX2_copyDoingsOf : List Cond := .code yX2_copyDoingsOf cX2_copyDoingsOf 2 none :: ([.fieldLink RX2 40 "BuyersWeights$Market" "hourNow" "I", .fieldLink RX2 43 "BuyersWeights$Market" "sales" "I", .fieldLink RX2 15 "BuyersWeights$Market" "stones" "[I", .fieldLink RX2 21 "BuyersWeights$Market" "got" "[I", .fieldLink RX2 24 "BuyersWeights$Market" "paid" "[I", .fieldLink RX2 27 "BuyersWeights$Market" "dealt" "[I", .fieldLink RX2 30 "BuyersWeights$Market" "used" "[I", .static yX5_copyRow, .initialized RX5, .code yX5_copyRow cX5_copyRow 2 none, .methodLink RX5 233 arraycopyName, .native arraycopyName, .static arraycopyName, .initialized "java/lang/System"] ++ wsX20)
def wsX3_init : List Cond := .code yX3_init cX3_init 1 none :: ([.methodLink RX3 3 objectInit, .instanceMethod objectInit, .code objectInit ⟨#[0xb1]⟩ 1 none, .arrayClass .char, .fieldLink RX3 9 "BuyersWeights$Page" "letters" "[C", .fieldLink RX3 15 "BuyersWeights$Page" "length" "I"] ++ wsX30)
def wsX3_add : List Cond := .code yX3_add cX3_add 2 none :: ([.fieldLink RX3 15 "BuyersWeights$Page" "length" "I", .fieldLink RX3 9 "BuyersWeights$Page" "letters" "[C"] ++ wsX30)
def wsX3_empty : List Cond := .code yX3_empty cX3_empty 1 none :: ([.fieldLink RX3 15 "BuyersWeights$Page" "length" "I"] ++ wsX30)
def wsX3_isBetween : List Cond := .code yX3_isBetween cX3_isBetween 4 (some .boolean) :: ([.fieldLink RX3 9 "BuyersWeights$Page" "letters" "[C"] ++ wsX30)
def wsX3_fitsHouses_r1 : List Cond := [Cond.fieldLink RX3 9 "BuyersWeights$Page" "letters" "[C", Cond.methodLink RX3 33 yJ0_indexOf_0f7a4, Cond.instanceMethod yJ0_indexOf_0f7a4, Cond.selects RJ0 yJ0_indexOf_0f7a4 yJ0_indexOf_0f7a4, Cond.initialized RJ0, Cond.code yJ0_indexOf_0f7a4 cJ0_indexOf_0f7a4 2 (some .int), Cond.methodLink RJ0 633 yJ0_indexOf_7cf53, Cond.instanceMethod yJ0_indexOf_7cf53, Cond.selects RJ0 yJ0_indexOf_7cf53 yJ0_indexOf_7cf53, Cond.code yJ0_indexOf_7cf53 cJ0_indexOf_7cf53 3 (some .int), Cond.fieldLink RJ0 9 "java/lang/String" "value" "[B", Cond.methodLink RJ0 492 yJ0_isLatin1_aae02, Cond.instanceMethod yJ0_isLatin1_aae02, Cond.selects RJ0 yJ0_isLatin1_aae02 yJ0_isLatin1_aae02, Cond.code yJ0_isLatin1_aae02 cJ0_isLatin1_aae02 1 (some .boolean), Cond.fieldLink RJ0 38 "java/lang/String" "COMPACT_STRINGS" "Z", Cond.fieldLink RJ0 15 "java/lang/String" "coder" "B", Cond.methodLink RJ0 505 yJ0_length_8abf5, Cond.instanceMethod yJ0_length_8abf5, Cond.selects RJ0 yJ0_length_8abf5 yJ0_length_8abf5, Cond.code yJ0_length_8abf5 cJ0_length_8abf5 1 (some .int), Cond.methodLink RJ0 335 yJ0_coder_7d493, Cond.instanceMethod yJ0_coder_7d493, Cond.selects RJ0 yJ0_coder_7d493 yJ0_coder_7d493]
def wsX3_fitsHouses_r2 : List Cond := [Cond.code yJ0_coder_7d493 cJ0_coder_7d493 1 (some .byte), Cond.methodLink RJ0 637 yJ1_indexOf_4cfef, Cond.static yJ1_indexOf_4cfef, Cond.initialized RJ1, Cond.code yJ1_indexOf_4cfef cJ1_indexOf_4cfef 4 (some .int), Cond.methodLink RJ1 92 Lib.Math.max.name, Cond.static Lib.Math.max.name, Cond.initialized "java/lang/Math", Cond.code Lib.Math.max.name Lib.Math.max.code 2 (some .int), Cond.methodLink RJ1 38 Lib.Math.min.name, Cond.static Lib.Math.min.name, Cond.code Lib.Math.min.name Lib.Math.min.code 2 (some .int), Cond.methodLink RJ1 88 yJ1_canEncode_9a6ad, Cond.static yJ1_canEncode_9a6ad, Cond.code yJ1_canEncode_9a6ad cJ1_canEncode_9a6ad 1 (some .boolean), Cond.methodLink RJ1 95 yJ1_indexOfChar_4cfef, Cond.static yJ1_indexOfChar_4cfef, Cond.code yJ1_indexOfChar_4cfef cJ1_indexOfChar_4cfef 6 (some .int), Cond.methodLink RJ0 640 yJ2_indexOf_4cfef, Cond.static yJ2_indexOf_4cfef, Cond.initialized RJ2, Cond.code yJ2_indexOf_4cfef cJ2_indexOf_4cfef 4 (some .int), Cond.methodLink RJ2 224 Lib.Math.max.name, Cond.methodLink RJ2 183 Lib.Math.min.name]
def wsX3_fitsHouses_r3 : List Cond := [Cond.constant RJ2 227 (65536), Cond.methodLink RJ2 228 yJ2_indexOfChar_4cfef, Cond.static yJ2_indexOfChar_4cfef, Cond.code yJ2_indexOfChar_4cfef cJ2_indexOfChar_4cfef 4 (some .int), Cond.methodLink RJ2 96 yJ2_checkBoundsBeginEnd_d044e, Cond.static yJ2_checkBoundsBeginEnd_d044e, Cond.code yJ2_checkBoundsBeginEnd_d044e cJ2_checkBoundsBeginEnd_d044e 3 none, Cond.methodLink RJ2 48 yJ2_length_9d52b, Cond.static yJ2_length_9d52b, Cond.code yJ2_length_9d52b cJ2_length_9d52b 1 (some .int), Cond.methodLink RJ2 241 yJ0_checkBoundsBeginEnd_23922, Cond.static yJ0_checkBoundsBeginEnd_23922, Cond.code yJ0_checkBoundsBeginEnd_23922 cJ0_checkBoundsBeginEnd_23922 3 none, Cond.fieldLink RJ0 1053 "jdk/internal/util/Preconditions" "SIOOBE_FORMATTER" "Ljava/util/function/BiFunction;", Cond.methodLink RJ0 1062 yJ3_checkFromToIndex_8c36e, Cond.static yJ3_checkFromToIndex_8c36e, Cond.initialized RJ3, Cond.code yJ3_checkFromToIndex_8c36e cJ3_checkFromToIndex_8c36e 4 (some .int), Cond.methodLink RJ2 244 yJ2_indexOfCharUnsafe_4cfef, Cond.static yJ2_indexOfCharUnsafe_4cfef, Cond.code yJ2_indexOfCharUnsafe_4cfef cJ2_indexOfCharUnsafe_4cfef 5 (some .int), Cond.methodLink RJ2 71 yJ2_getChar_3b067, Cond.static yJ2_getChar_3b067, Cond.code yJ2_getChar_3b067 cJ2_getChar_3b067 2 (some .char)]
def wsX3_fitsHouses_r4 : List Cond := [Cond.fieldLink RJ2 44 "java/lang/StringUTF16" "$assertionsDisabled" "Z", Cond.fieldLink RJ2 59 "java/lang/StringUTF16" "HI_BYTE_SHIFT" "I", Cond.fieldLink RJ2 63 "java/lang/StringUTF16" "LO_BYTE_SHIFT" "I", Cond.methodLink RJ2 232 yJ2_indexOfSupplementary_4cfef, Cond.static yJ2_indexOfSupplementary_4cfef, Cond.code yJ2_indexOfSupplementary_4cfef cJ2_indexOfSupplementary_4cfef 7 (some .int), Cond.methodLink RJ2 164 yJ11_isValidCodePoint_9a6ad, Cond.static yJ11_isValidCodePoint_9a6ad, Cond.initialized RJ11, Cond.code yJ11_isValidCodePoint_9a6ad cJ11_isValidCodePoint_9a6ad 2 (some .boolean), Cond.methodLink RJ2 157 yJ11_highSurrogate_5068e, Cond.static yJ11_highSurrogate_5068e, Cond.code yJ11_highSurrogate_5068e cJ11_highSurrogate_5068e 1 (some .char), Cond.constant RJ11 110 (55232), Cond.methodLink RJ2 161 yJ11_lowSurrogate_5068e, Cond.static yJ11_lowSurrogate_5068e, Cond.code yJ11_lowSurrogate_5068e cJ11_lowSurrogate_5068e 1 (some .char), Cond.constant RJ11 76 (56320), Cond.methodLink RX3 23 yX3_isBetween, Cond.instanceMethod yX3_isBetween, Cond.selects RX3 yX3_isBetween yX3_isBetween, Cond.initialized RX3, Cond.code yX3_isBetween cX3_isBetween 4 (some .boolean)]
def wsX3_fitsHouses : List Cond := .code yX3_fitsHouses cX3_fitsHouses 4 (some .boolean) :: ((wsX3_fitsHouses_r1 ++ (wsX3_fitsHouses_r2 ++ (wsX3_fitsHouses_r3 ++ wsX3_fitsHouses_r4))) ++ wsX30)
def wsX3_firstFault_r1 : List Cond := [Cond.fieldLink RX3 15 "BuyersWeights$Page" "length" "I", Cond.fieldLink RX3 9 "BuyersWeights$Page" "letters" "[C", Cond.methodLink RX3 19 yX3_fitsHouses, Cond.instanceMethod yX3_fitsHouses, Cond.selects RX3 yX3_fitsHouses yX3_fitsHouses, Cond.initialized RX3, Cond.code yX3_fitsHouses cX3_fitsHouses 4 (some .boolean), Cond.methodLink RX3 33 yJ0_indexOf_0f7a4, Cond.instanceMethod yJ0_indexOf_0f7a4, Cond.selects RJ0 yJ0_indexOf_0f7a4 yJ0_indexOf_0f7a4, Cond.initialized RJ0, Cond.code yJ0_indexOf_0f7a4 cJ0_indexOf_0f7a4 2 (some .int), Cond.methodLink RJ0 633 yJ0_indexOf_7cf53, Cond.instanceMethod yJ0_indexOf_7cf53, Cond.selects RJ0 yJ0_indexOf_7cf53 yJ0_indexOf_7cf53, Cond.code yJ0_indexOf_7cf53 cJ0_indexOf_7cf53 3 (some .int), Cond.fieldLink RJ0 9 "java/lang/String" "value" "[B", Cond.methodLink RJ0 492 yJ0_isLatin1_aae02, Cond.instanceMethod yJ0_isLatin1_aae02, Cond.selects RJ0 yJ0_isLatin1_aae02 yJ0_isLatin1_aae02, Cond.code yJ0_isLatin1_aae02 cJ0_isLatin1_aae02 1 (some .boolean), Cond.fieldLink RJ0 38 "java/lang/String" "COMPACT_STRINGS" "Z", Cond.fieldLink RJ0 15 "java/lang/String" "coder" "B", Cond.methodLink RJ0 505 yJ0_length_8abf5]
def wsX3_firstFault_r2 : List Cond := [Cond.instanceMethod yJ0_length_8abf5, Cond.selects RJ0 yJ0_length_8abf5 yJ0_length_8abf5, Cond.code yJ0_length_8abf5 cJ0_length_8abf5 1 (some .int), Cond.methodLink RJ0 335 yJ0_coder_7d493, Cond.instanceMethod yJ0_coder_7d493, Cond.selects RJ0 yJ0_coder_7d493 yJ0_coder_7d493, Cond.code yJ0_coder_7d493 cJ0_coder_7d493 1 (some .byte), Cond.methodLink RJ0 637 yJ1_indexOf_4cfef, Cond.static yJ1_indexOf_4cfef, Cond.initialized RJ1, Cond.code yJ1_indexOf_4cfef cJ1_indexOf_4cfef 4 (some .int), Cond.methodLink RJ1 92 Lib.Math.max.name, Cond.static Lib.Math.max.name, Cond.initialized "java/lang/Math", Cond.code Lib.Math.max.name Lib.Math.max.code 2 (some .int), Cond.methodLink RJ1 38 Lib.Math.min.name, Cond.static Lib.Math.min.name, Cond.code Lib.Math.min.name Lib.Math.min.code 2 (some .int), Cond.methodLink RJ1 88 yJ1_canEncode_9a6ad, Cond.static yJ1_canEncode_9a6ad, Cond.code yJ1_canEncode_9a6ad cJ1_canEncode_9a6ad 1 (some .boolean), Cond.methodLink RJ1 95 yJ1_indexOfChar_4cfef, Cond.static yJ1_indexOfChar_4cfef, Cond.code yJ1_indexOfChar_4cfef cJ1_indexOfChar_4cfef 6 (some .int)]
def wsX3_firstFault_r3 : List Cond := [Cond.methodLink RJ0 640 yJ2_indexOf_4cfef, Cond.static yJ2_indexOf_4cfef, Cond.initialized RJ2, Cond.code yJ2_indexOf_4cfef cJ2_indexOf_4cfef 4 (some .int), Cond.methodLink RJ2 224 Lib.Math.max.name, Cond.methodLink RJ2 183 Lib.Math.min.name, Cond.constant RJ2 227 (65536), Cond.methodLink RJ2 228 yJ2_indexOfChar_4cfef, Cond.static yJ2_indexOfChar_4cfef, Cond.code yJ2_indexOfChar_4cfef cJ2_indexOfChar_4cfef 4 (some .int), Cond.methodLink RJ2 96 yJ2_checkBoundsBeginEnd_d044e, Cond.static yJ2_checkBoundsBeginEnd_d044e, Cond.code yJ2_checkBoundsBeginEnd_d044e cJ2_checkBoundsBeginEnd_d044e 3 none, Cond.methodLink RJ2 48 yJ2_length_9d52b, Cond.static yJ2_length_9d52b, Cond.code yJ2_length_9d52b cJ2_length_9d52b 1 (some .int), Cond.methodLink RJ2 241 yJ0_checkBoundsBeginEnd_23922, Cond.static yJ0_checkBoundsBeginEnd_23922, Cond.code yJ0_checkBoundsBeginEnd_23922 cJ0_checkBoundsBeginEnd_23922 3 none, Cond.fieldLink RJ0 1053 "jdk/internal/util/Preconditions" "SIOOBE_FORMATTER" "Ljava/util/function/BiFunction;", Cond.methodLink RJ0 1062 yJ3_checkFromToIndex_8c36e, Cond.static yJ3_checkFromToIndex_8c36e, Cond.initialized RJ3, Cond.code yJ3_checkFromToIndex_8c36e cJ3_checkFromToIndex_8c36e 4 (some .int)]
def wsX3_firstFault_r4 : List Cond := [Cond.methodLink RJ2 244 yJ2_indexOfCharUnsafe_4cfef, Cond.static yJ2_indexOfCharUnsafe_4cfef, Cond.code yJ2_indexOfCharUnsafe_4cfef cJ2_indexOfCharUnsafe_4cfef 5 (some .int), Cond.methodLink RJ2 71 yJ2_getChar_3b067, Cond.static yJ2_getChar_3b067, Cond.code yJ2_getChar_3b067 cJ2_getChar_3b067 2 (some .char), Cond.fieldLink RJ2 44 "java/lang/StringUTF16" "$assertionsDisabled" "Z", Cond.fieldLink RJ2 59 "java/lang/StringUTF16" "HI_BYTE_SHIFT" "I", Cond.fieldLink RJ2 63 "java/lang/StringUTF16" "LO_BYTE_SHIFT" "I", Cond.methodLink RJ2 232 yJ2_indexOfSupplementary_4cfef, Cond.static yJ2_indexOfSupplementary_4cfef, Cond.code yJ2_indexOfSupplementary_4cfef cJ2_indexOfSupplementary_4cfef 7 (some .int), Cond.methodLink RJ2 164 yJ11_isValidCodePoint_9a6ad, Cond.static yJ11_isValidCodePoint_9a6ad, Cond.initialized RJ11, Cond.code yJ11_isValidCodePoint_9a6ad cJ11_isValidCodePoint_9a6ad 2 (some .boolean), Cond.methodLink RJ2 157 yJ11_highSurrogate_5068e, Cond.static yJ11_highSurrogate_5068e, Cond.code yJ11_highSurrogate_5068e cJ11_highSurrogate_5068e 1 (some .char), Cond.constant RJ11 110 (55232), Cond.methodLink RJ2 161 yJ11_lowSurrogate_5068e, Cond.static yJ11_lowSurrogate_5068e, Cond.code yJ11_lowSurrogate_5068e cJ11_lowSurrogate_5068e 1 (some .char), Cond.constant RJ11 76 (56320)]
def wsX3_firstFault_r5 : List Cond := [Cond.methodLink RX3 23 yX3_isBetween, Cond.instanceMethod yX3_isBetween, Cond.selects RX3 yX3_isBetween yX3_isBetween, Cond.code yX3_isBetween cX3_isBetween 4 (some .boolean)]
def wsX3_firstFault : List Cond := .code yX3_firstFault cX3_firstFault 4 (some .int) :: ((wsX3_firstFault_r1 ++ (wsX3_firstFault_r2 ++ (wsX3_firstFault_r3 ++ (wsX3_firstFault_r4 ++ wsX3_firstFault_r5)))) ++ wsX30)
def wsX3_isMarket_r1 : List Cond := [Cond.fieldLink RX3 15 "BuyersWeights$Page" "length" "I", Cond.fieldLink RX3 9 "BuyersWeights$Page" "letters" "[C", Cond.methodLink RX3 27 yX3_firstFault, Cond.instanceMethod yX3_firstFault, Cond.selects RX3 yX3_firstFault yX3_firstFault, Cond.initialized RX3, Cond.code yX3_firstFault cX3_firstFault 4 (some .int), Cond.methodLink RX3 19 yX3_fitsHouses, Cond.instanceMethod yX3_fitsHouses, Cond.selects RX3 yX3_fitsHouses yX3_fitsHouses, Cond.code yX3_fitsHouses cX3_fitsHouses 4 (some .boolean), Cond.methodLink RX3 33 yJ0_indexOf_0f7a4, Cond.instanceMethod yJ0_indexOf_0f7a4, Cond.selects RJ0 yJ0_indexOf_0f7a4 yJ0_indexOf_0f7a4, Cond.initialized RJ0, Cond.code yJ0_indexOf_0f7a4 cJ0_indexOf_0f7a4 2 (some .int), Cond.methodLink RJ0 633 yJ0_indexOf_7cf53, Cond.instanceMethod yJ0_indexOf_7cf53, Cond.selects RJ0 yJ0_indexOf_7cf53 yJ0_indexOf_7cf53, Cond.code yJ0_indexOf_7cf53 cJ0_indexOf_7cf53 3 (some .int), Cond.fieldLink RJ0 9 "java/lang/String" "value" "[B", Cond.methodLink RJ0 492 yJ0_isLatin1_aae02, Cond.instanceMethod yJ0_isLatin1_aae02, Cond.selects RJ0 yJ0_isLatin1_aae02 yJ0_isLatin1_aae02]
def wsX3_isMarket_r2 : List Cond := [Cond.code yJ0_isLatin1_aae02 cJ0_isLatin1_aae02 1 (some .boolean), Cond.fieldLink RJ0 38 "java/lang/String" "COMPACT_STRINGS" "Z", Cond.fieldLink RJ0 15 "java/lang/String" "coder" "B", Cond.methodLink RJ0 505 yJ0_length_8abf5, Cond.instanceMethod yJ0_length_8abf5, Cond.selects RJ0 yJ0_length_8abf5 yJ0_length_8abf5, Cond.code yJ0_length_8abf5 cJ0_length_8abf5 1 (some .int), Cond.methodLink RJ0 335 yJ0_coder_7d493, Cond.instanceMethod yJ0_coder_7d493, Cond.selects RJ0 yJ0_coder_7d493 yJ0_coder_7d493, Cond.code yJ0_coder_7d493 cJ0_coder_7d493 1 (some .byte), Cond.methodLink RJ0 637 yJ1_indexOf_4cfef, Cond.static yJ1_indexOf_4cfef, Cond.initialized RJ1, Cond.code yJ1_indexOf_4cfef cJ1_indexOf_4cfef 4 (some .int), Cond.methodLink RJ1 92 Lib.Math.max.name, Cond.static Lib.Math.max.name, Cond.initialized "java/lang/Math", Cond.code Lib.Math.max.name Lib.Math.max.code 2 (some .int), Cond.methodLink RJ1 38 Lib.Math.min.name, Cond.static Lib.Math.min.name, Cond.code Lib.Math.min.name Lib.Math.min.code 2 (some .int), Cond.methodLink RJ1 88 yJ1_canEncode_9a6ad, Cond.static yJ1_canEncode_9a6ad]
def wsX3_isMarket_r3 : List Cond := [Cond.code yJ1_canEncode_9a6ad cJ1_canEncode_9a6ad 1 (some .boolean), Cond.methodLink RJ1 95 yJ1_indexOfChar_4cfef, Cond.static yJ1_indexOfChar_4cfef, Cond.code yJ1_indexOfChar_4cfef cJ1_indexOfChar_4cfef 6 (some .int), Cond.methodLink RJ0 640 yJ2_indexOf_4cfef, Cond.static yJ2_indexOf_4cfef, Cond.initialized RJ2, Cond.code yJ2_indexOf_4cfef cJ2_indexOf_4cfef 4 (some .int), Cond.methodLink RJ2 224 Lib.Math.max.name, Cond.methodLink RJ2 183 Lib.Math.min.name, Cond.constant RJ2 227 (65536), Cond.methodLink RJ2 228 yJ2_indexOfChar_4cfef, Cond.static yJ2_indexOfChar_4cfef, Cond.code yJ2_indexOfChar_4cfef cJ2_indexOfChar_4cfef 4 (some .int), Cond.methodLink RJ2 96 yJ2_checkBoundsBeginEnd_d044e, Cond.static yJ2_checkBoundsBeginEnd_d044e, Cond.code yJ2_checkBoundsBeginEnd_d044e cJ2_checkBoundsBeginEnd_d044e 3 none, Cond.methodLink RJ2 48 yJ2_length_9d52b, Cond.static yJ2_length_9d52b, Cond.code yJ2_length_9d52b cJ2_length_9d52b 1 (some .int), Cond.methodLink RJ2 241 yJ0_checkBoundsBeginEnd_23922, Cond.static yJ0_checkBoundsBeginEnd_23922, Cond.code yJ0_checkBoundsBeginEnd_23922 cJ0_checkBoundsBeginEnd_23922 3 none, Cond.fieldLink RJ0 1053 "jdk/internal/util/Preconditions" "SIOOBE_FORMATTER" "Ljava/util/function/BiFunction;"]
def wsX3_isMarket_r4 : List Cond := [Cond.methodLink RJ0 1062 yJ3_checkFromToIndex_8c36e, Cond.static yJ3_checkFromToIndex_8c36e, Cond.initialized RJ3, Cond.code yJ3_checkFromToIndex_8c36e cJ3_checkFromToIndex_8c36e 4 (some .int), Cond.methodLink RJ2 244 yJ2_indexOfCharUnsafe_4cfef, Cond.static yJ2_indexOfCharUnsafe_4cfef, Cond.code yJ2_indexOfCharUnsafe_4cfef cJ2_indexOfCharUnsafe_4cfef 5 (some .int), Cond.methodLink RJ2 71 yJ2_getChar_3b067, Cond.static yJ2_getChar_3b067, Cond.code yJ2_getChar_3b067 cJ2_getChar_3b067 2 (some .char), Cond.fieldLink RJ2 44 "java/lang/StringUTF16" "$assertionsDisabled" "Z", Cond.fieldLink RJ2 59 "java/lang/StringUTF16" "HI_BYTE_SHIFT" "I", Cond.fieldLink RJ2 63 "java/lang/StringUTF16" "LO_BYTE_SHIFT" "I", Cond.methodLink RJ2 232 yJ2_indexOfSupplementary_4cfef, Cond.static yJ2_indexOfSupplementary_4cfef, Cond.code yJ2_indexOfSupplementary_4cfef cJ2_indexOfSupplementary_4cfef 7 (some .int), Cond.methodLink RJ2 164 yJ11_isValidCodePoint_9a6ad, Cond.static yJ11_isValidCodePoint_9a6ad, Cond.initialized RJ11, Cond.code yJ11_isValidCodePoint_9a6ad cJ11_isValidCodePoint_9a6ad 2 (some .boolean), Cond.methodLink RJ2 157 yJ11_highSurrogate_5068e, Cond.static yJ11_highSurrogate_5068e, Cond.code yJ11_highSurrogate_5068e cJ11_highSurrogate_5068e 1 (some .char), Cond.constant RJ11 110 (55232)]
def wsX3_isMarket_r5 : List Cond := [Cond.methodLink RJ2 161 yJ11_lowSurrogate_5068e, Cond.static yJ11_lowSurrogate_5068e, Cond.code yJ11_lowSurrogate_5068e cJ11_lowSurrogate_5068e 1 (some .char), Cond.constant RJ11 76 (56320), Cond.methodLink RX3 23 yX3_isBetween, Cond.instanceMethod yX3_isBetween, Cond.selects RX3 yX3_isBetween yX3_isBetween, Cond.code yX3_isBetween cX3_isBetween 4 (some .boolean)]
def wsX3_isMarket : List Cond := .code yX3_isMarket cX3_isMarket 1 (some .boolean) :: ((wsX3_isMarket_r1 ++ (wsX3_isMarket_r2 ++ (wsX3_isMarket_r3 ++ (wsX3_isMarket_r4 ++ wsX3_isMarket_r5)))) ++ wsX30)
def wsX4_init : List Cond := .code yX4_init cX4_init 1 none :: ([.methodLink RX4 3 objectInit, .instanceMethod objectInit, .code objectInit ⟨#[0xb1]⟩ 1 none, .arrayClass .int, .fieldLink RX4 9 "BuyersWeights$Planner" "stones" "[I", .fieldLink RX4 15 "BuyersWeights$Planner" "tried" "[I", .fieldLink RX4 18 "BuyersWeights$Planner" "best" "[I", .fieldLink RX4 21 "BuyersWeights$Planner" "bestSales" "I", .fieldLink RX4 25 "BuyersWeights$Planner" "bestPaid" "I", .fieldLink RX4 28 "BuyersWeights$Planner" "buyer" "I", .fieldLink RX4 31 "BuyersWeights$Planner" "wanted" "I"] ++ wsX40)
def wsX4_keepIfBetter : List Cond := .code yX4_keepIfBetter cX4_keepIfBetter 3 none :: ([.fieldLink RX4 25 "BuyersWeights$Planner" "bestPaid" "I", .fieldLink RX4 21 "BuyersWeights$Planner" "bestSales" "I", .fieldLink RX4 15 "BuyersWeights$Planner" "tried" "[I", .fieldLink RX4 18 "BuyersWeights$Planner" "best" "[I", .methodLink RX4 69 arraycopyName, .native arraycopyName, .static arraycopyName, .initialized "java/lang/System"] ++ wsX40)
def wsX4_trySale_r1 : List Cond := [Cond.fieldLink RX4 9 "BuyersWeights$Planner" "stones" "[I", Cond.fieldLink RX4 28 "BuyersWeights$Planner" "buyer" "I", Cond.fieldLink RX4 52 "BuyersWeights$Market" "hourNow" "I", Cond.fieldLink RX4 59 "BuyersWeights$Market" "coins" "[I", Cond.fieldLink RX4 31 "BuyersWeights$Planner" "wanted" "I", Cond.fieldLink RX4 25 "BuyersWeights$Planner" "bestPaid" "I", Cond.methodLink RX4 55 yX2_ounces, Cond.instanceMethod yX2_ounces, Cond.selects RX2 yX2_ounces yX2_ounces, Cond.initialized RX2, Cond.code yX2_ounces cX2_ounces 6 (some .int), Cond.fieldLink RX2 37 "BuyersWeights$Market" "tilt" "I", Cond.fieldLink RX2 9 "BuyersWeights$Market" "kinds" "[I", Cond.methodLink RX2 62 Lib.Math.max.name, Cond.static Lib.Math.max.name, Cond.initialized "java/lang/Math", Cond.code Lib.Math.max.name Lib.Math.max.code 2 (some .int), Cond.methodLink RX4 62 yX4_keepIfBetter, Cond.instanceMethod yX4_keepIfBetter, Cond.selects RX4 yX4_keepIfBetter yX4_keepIfBetter, Cond.initialized RX4, Cond.code yX4_keepIfBetter cX4_keepIfBetter 3 none, Cond.fieldLink RX4 21 "BuyersWeights$Planner" "bestSales" "I", Cond.fieldLink RX4 15 "BuyersWeights$Planner" "tried" "[I"]
def wsX4_trySale_r2 : List Cond := [Cond.fieldLink RX4 18 "BuyersWeights$Planner" "best" "[I", Cond.methodLink RX4 69 arraycopyName, Cond.native arraycopyName, Cond.static arraycopyName, Cond.initialized "java/lang/System", Cond.methodLink RX4 66 yX2_weightAfter, Cond.instanceMethod yX2_weightAfter, Cond.selects RX2 yX2_weightAfter yX2_weightAfter, Cond.code yX2_weightAfter cX2_weightAfter 6 (some .int), Cond.methodLink RX4 41 yX4_trySales, Cond.instanceMethod yX4_trySales, Cond.selects RX4 yX4_trySales yX4_trySales, Cond.code yX4_trySales cX4_trySales 7 none, Cond.fieldLink RX4 45 "BuyersWeights$Market" "houses" "I", Cond.methodLink RX4 48 yX4_trySale, Cond.instanceMethod yX4_trySale, Cond.selects RX4 yX4_trySale yX4_trySale]
def wsX4_trySale : List Cond := .code yX4_trySale cX4_trySale 10 none :: ((wsX4_trySale_r1 ++ wsX4_trySale_r2) ++ wsX40 ++ wsX20)
def wsX4_trySales_r1 : List Cond := [Cond.fieldLink RX4 45 "BuyersWeights$Market" "houses" "I", Cond.fieldLink RX4 28 "BuyersWeights$Planner" "buyer" "I", Cond.fieldLink RX4 15 "BuyersWeights$Planner" "tried" "[I", Cond.methodLink RX4 48 yX4_trySale, Cond.instanceMethod yX4_trySale, Cond.selects RX4 yX4_trySale yX4_trySale, Cond.initialized RX4, Cond.code yX4_trySale cX4_trySale 10 none, Cond.fieldLink RX4 9 "BuyersWeights$Planner" "stones" "[I", Cond.fieldLink RX4 52 "BuyersWeights$Market" "hourNow" "I", Cond.fieldLink RX4 59 "BuyersWeights$Market" "coins" "[I", Cond.fieldLink RX4 31 "BuyersWeights$Planner" "wanted" "I", Cond.fieldLink RX4 25 "BuyersWeights$Planner" "bestPaid" "I", Cond.methodLink RX4 55 yX2_ounces, Cond.instanceMethod yX2_ounces, Cond.selects RX2 yX2_ounces yX2_ounces, Cond.initialized RX2, Cond.code yX2_ounces cX2_ounces 6 (some .int), Cond.fieldLink RX2 37 "BuyersWeights$Market" "tilt" "I", Cond.fieldLink RX2 9 "BuyersWeights$Market" "kinds" "[I", Cond.methodLink RX2 62 Lib.Math.max.name, Cond.static Lib.Math.max.name, Cond.initialized "java/lang/Math", Cond.code Lib.Math.max.name Lib.Math.max.code 2 (some .int)]
def wsX4_trySales_r2 : List Cond := [Cond.methodLink RX4 62 yX4_keepIfBetter, Cond.instanceMethod yX4_keepIfBetter, Cond.selects RX4 yX4_keepIfBetter yX4_keepIfBetter, Cond.code yX4_keepIfBetter cX4_keepIfBetter 3 none, Cond.fieldLink RX4 21 "BuyersWeights$Planner" "bestSales" "I", Cond.fieldLink RX4 18 "BuyersWeights$Planner" "best" "[I", Cond.methodLink RX4 69 arraycopyName, Cond.native arraycopyName, Cond.static arraycopyName, Cond.initialized "java/lang/System", Cond.methodLink RX4 66 yX2_weightAfter, Cond.instanceMethod yX2_weightAfter, Cond.selects RX2 yX2_weightAfter yX2_weightAfter, Cond.code yX2_weightAfter cX2_weightAfter 6 (some .int), Cond.methodLink RX4 41 yX4_trySales, Cond.instanceMethod yX4_trySales, Cond.selects RX4 yX4_trySales yX4_trySales]
def wsX4_trySales : List Cond := .code yX4_trySales cX4_trySales 7 none :: ((wsX4_trySales_r1 ++ wsX4_trySales_r2) ++ wsX40 ++ wsX20)
def wsX4_seek_r1 : List Cond := [Cond.fieldLink RX4 34 "BuyersWeights$Market" "stones" "[I", Cond.fieldLink RX4 9 "BuyersWeights$Planner" "stones" "[I", Cond.fieldLink RX4 21 "BuyersWeights$Planner" "bestSales" "I", Cond.fieldLink RX4 25 "BuyersWeights$Planner" "bestPaid" "I", Cond.fieldLink RX4 28 "BuyersWeights$Planner" "buyer" "I", Cond.fieldLink RX4 31 "BuyersWeights$Planner" "wanted" "I", Cond.static yX5_copyRow, Cond.initialized RX5, Cond.code yX5_copyRow cX5_copyRow 2 none, Cond.methodLink RX5 233 arraycopyName, Cond.native arraycopyName, Cond.static arraycopyName, Cond.initialized "java/lang/System", Cond.methodLink RX4 41 yX4_trySales, Cond.instanceMethod yX4_trySales, Cond.selects RX4 yX4_trySales yX4_trySales, Cond.initialized RX4, Cond.code yX4_trySales cX4_trySales 7 none, Cond.fieldLink RX4 45 "BuyersWeights$Market" "houses" "I", Cond.fieldLink RX4 15 "BuyersWeights$Planner" "tried" "[I", Cond.methodLink RX4 48 yX4_trySale, Cond.instanceMethod yX4_trySale, Cond.selects RX4 yX4_trySale yX4_trySale, Cond.code yX4_trySale cX4_trySale 10 none]
def wsX4_seek_r2 : List Cond := [Cond.fieldLink RX4 52 "BuyersWeights$Market" "hourNow" "I", Cond.fieldLink RX4 59 "BuyersWeights$Market" "coins" "[I", Cond.methodLink RX4 55 yX2_ounces, Cond.instanceMethod yX2_ounces, Cond.selects RX2 yX2_ounces yX2_ounces, Cond.initialized RX2, Cond.code yX2_ounces cX2_ounces 6 (some .int), Cond.fieldLink RX2 37 "BuyersWeights$Market" "tilt" "I", Cond.fieldLink RX2 9 "BuyersWeights$Market" "kinds" "[I", Cond.methodLink RX2 62 Lib.Math.max.name, Cond.static Lib.Math.max.name, Cond.initialized "java/lang/Math", Cond.code Lib.Math.max.name Lib.Math.max.code 2 (some .int), Cond.methodLink RX4 62 yX4_keepIfBetter, Cond.instanceMethod yX4_keepIfBetter, Cond.selects RX4 yX4_keepIfBetter yX4_keepIfBetter, Cond.code yX4_keepIfBetter cX4_keepIfBetter 3 none, Cond.fieldLink RX4 18 "BuyersWeights$Planner" "best" "[I", Cond.methodLink RX4 69 arraycopyName, Cond.methodLink RX4 66 yX2_weightAfter, Cond.instanceMethod yX2_weightAfter, Cond.selects RX2 yX2_weightAfter yX2_weightAfter, Cond.code yX2_weightAfter cX2_weightAfter 6 (some .int)]
def wsX4_seek : List Cond := .code yX4_seek cX4_seek 4 none :: ((wsX4_seek_r1 ++ wsX4_seek_r2) ++ wsX20 ++ wsX40)
def wsX4_tell : List Cond := .code yX4_tell cX4_tell 3 (some .int) :: ([.fieldLink RX4 21 "BuyersWeights$Planner" "bestSales" "I", .fieldLink RX4 25 "BuyersWeights$Planner" "bestPaid" "I", .fieldLink RX4 18 "BuyersWeights$Planner" "best" "[I"] ++ wsX40)
def wsX5_init_r1 : List Cond := [Cond.methodLink RX5 1 objectInit, Cond.instanceMethod objectInit, Cond.code objectInit ⟨#[0xb1]⟩ 1 none, Cond.classLink RX5 7 RX3, Cond.instantiable RX3 2, Cond.initialized RX3, Cond.fieldLink RX5 10 "BuyersWeights" "page" "LBuyersWeights$Page;", Cond.classLink RX5 16 RX2, Cond.instantiable RX2 11, Cond.initialized RX2, Cond.fieldLink RX5 19 "BuyersWeights" "market" "LBuyersWeights$Market;", Cond.classLink RX5 23 RX1, Cond.instantiable RX1 3, Cond.initialized RX1, Cond.fieldLink RX5 26 "BuyersWeights" "ledger" "LBuyersWeights$Ledger;", Cond.fieldLink RX5 30 "BuyersWeights" "keptMarket" "LBuyersWeights$Market;", Cond.fieldLink RX5 33 "BuyersWeights" "keptLedger" "LBuyersWeights$Ledger;", Cond.classLink RX5 36 RX4, Cond.instantiable RX4 7, Cond.initialized RX4, Cond.fieldLink RX5 39 "BuyersWeights" "planner" "LBuyersWeights$Planner;", Cond.classLink RX5 43 RX0, Cond.instantiable RX0 3, Cond.initialized RX0]
def wsX5_init_r2 : List Cond := [Cond.fieldLink RX5 46 "BuyersWeights" "drawnSales" "LBuyersWeights$DrawnSales;", Cond.fieldLink RX5 50 "BuyersWeights" "imageKept" "Z", Cond.fieldLink RX5 54 "BuyersWeights" "marketsRead" "I", Cond.fieldLink RX5 58 "BuyersWeights" "plansDone" "I", Cond.instanceMethod yX3_init, Cond.code yX3_init cX3_init 1 none, Cond.methodLink RX3 3 objectInit, Cond.arrayClass .char, Cond.fieldLink RX3 9 "BuyersWeights$Page" "letters" "[C", Cond.fieldLink RX3 15 "BuyersWeights$Page" "length" "I", Cond.instanceMethod yX2_init, Cond.code yX2_init cX2_init 1 none, Cond.methodLink RX2 3 objectInit, Cond.arrayClass .int, Cond.fieldLink RX2 9 "BuyersWeights$Market" "kinds" "[I", Cond.fieldLink RX2 15 "BuyersWeights$Market" "stones" "[I", Cond.fieldLink RX2 18 "BuyersWeights$Market" "coins" "[I", Cond.fieldLink RX2 21 "BuyersWeights$Market" "got" "[I", Cond.fieldLink RX2 24 "BuyersWeights$Market" "paid" "[I", Cond.fieldLink RX2 27 "BuyersWeights$Market" "dealt" "[I", Cond.fieldLink RX2 30 "BuyersWeights$Market" "used" "[I", Cond.fieldLink RX2 33 "BuyersWeights$Market" "houses" "I", Cond.fieldLink RX2 37 "BuyersWeights$Market" "tilt" "I", Cond.fieldLink RX2 40 "BuyersWeights$Market" "hourNow" "I"]
def wsX5_init_r3 : List Cond := [Cond.fieldLink RX2 43 "BuyersWeights$Market" "sales" "I", Cond.instanceMethod yX1_init, Cond.code yX1_init cX1_init 1 none, Cond.methodLink RX1 3 objectInit, Cond.fieldLink RX1 9 "BuyersWeights$Ledger" "times" "[I", Cond.fieldLink RX1 15 "BuyersWeights$Ledger" "hands" "I", Cond.fieldLink RX1 19 "BuyersWeights$Ledger" "lost" "I", Cond.instanceMethod yX4_init, Cond.code yX4_init cX4_init 1 none, Cond.methodLink RX4 3 objectInit, Cond.fieldLink RX4 9 "BuyersWeights$Planner" "stones" "[I", Cond.fieldLink RX4 15 "BuyersWeights$Planner" "tried" "[I", Cond.fieldLink RX4 18 "BuyersWeights$Planner" "best" "[I", Cond.fieldLink RX4 21 "BuyersWeights$Planner" "bestSales" "I", Cond.fieldLink RX4 25 "BuyersWeights$Planner" "bestPaid" "I", Cond.fieldLink RX4 28 "BuyersWeights$Planner" "buyer" "I", Cond.fieldLink RX4 31 "BuyersWeights$Planner" "wanted" "I", Cond.instanceMethod yX0_init, Cond.code yX0_init cX0_init 1 none, Cond.methodLink RX0 3 objectInit, Cond.fieldLink RX0 9 "BuyersWeights$DrawnSales" "stones" "[I", Cond.fieldLink RX0 15 "BuyersWeights$DrawnSales" "seed" "I", Cond.fieldLink RX0 19 "BuyersWeights$DrawnSales" "ouncesGot" "I"]
def wsX5_init : List Cond := .code yX5_init cX5_init 1 none :: ((wsX5_init_r1 ++ (wsX5_init_r2 ++ wsX5_init_r3)) ++ wsX30 ++ wsX50 ++ wsX20 ++ wsX10 ++ wsX40 ++ wsX00)
def wsX5_letter : List Cond := .code yX5_letter cX5_letter 2 (some .int) :: ([.fieldLink RX5 10 "BuyersWeights" "page" "LBuyersWeights$Page;", .fieldLink RX5 61 "BuyersWeights$Page" "length" "I", .methodLink RX5 64 yX3_add, .instanceMethod yX3_add, .selects RX3 yX3_add yX3_add, .initialized RX3, .code yX3_add cX3_add 2 none, .fieldLink RX3 15 "BuyersWeights$Page" "length" "I", .fieldLink RX3 9 "BuyersWeights$Page" "letters" "[C"] ++ wsX50 ++ wsX30)
def wsX5_blank : List Cond := .code yX5_blank cX5_blank 2 (some .int) :: ([.fieldLink RX5 10 "BuyersWeights" "page" "LBuyersWeights$Page;", .fieldLink RX5 61 "BuyersWeights$Page" "length" "I", .methodLink RX5 68 yX3_empty, .instanceMethod yX3_empty, .selects RX3 yX3_empty yX3_empty, .initialized RX3, .code yX3_empty cX3_empty 1 none, .fieldLink RX3 15 "BuyersWeights$Page" "length" "I"] ++ wsX50 ++ wsX30)
def wsX5_fault_r1 : List Cond := [Cond.fieldLink RX5 10 "BuyersWeights" "page" "LBuyersWeights$Page;", Cond.methodLink RX5 71 yX3_firstFault, Cond.instanceMethod yX3_firstFault, Cond.selects RX3 yX3_firstFault yX3_firstFault, Cond.initialized RX3, Cond.code yX3_firstFault cX3_firstFault 4 (some .int), Cond.fieldLink RX3 15 "BuyersWeights$Page" "length" "I", Cond.fieldLink RX3 9 "BuyersWeights$Page" "letters" "[C", Cond.methodLink RX3 19 yX3_fitsHouses, Cond.instanceMethod yX3_fitsHouses, Cond.selects RX3 yX3_fitsHouses yX3_fitsHouses, Cond.code yX3_fitsHouses cX3_fitsHouses 4 (some .boolean), Cond.methodLink RX3 33 yJ0_indexOf_0f7a4, Cond.instanceMethod yJ0_indexOf_0f7a4, Cond.selects RJ0 yJ0_indexOf_0f7a4 yJ0_indexOf_0f7a4, Cond.initialized RJ0, Cond.code yJ0_indexOf_0f7a4 cJ0_indexOf_0f7a4 2 (some .int), Cond.methodLink RJ0 633 yJ0_indexOf_7cf53, Cond.instanceMethod yJ0_indexOf_7cf53, Cond.selects RJ0 yJ0_indexOf_7cf53 yJ0_indexOf_7cf53, Cond.code yJ0_indexOf_7cf53 cJ0_indexOf_7cf53 3 (some .int), Cond.fieldLink RJ0 9 "java/lang/String" "value" "[B", Cond.methodLink RJ0 492 yJ0_isLatin1_aae02, Cond.instanceMethod yJ0_isLatin1_aae02]
def wsX5_fault_r2 : List Cond := [Cond.selects RJ0 yJ0_isLatin1_aae02 yJ0_isLatin1_aae02, Cond.code yJ0_isLatin1_aae02 cJ0_isLatin1_aae02 1 (some .boolean), Cond.fieldLink RJ0 38 "java/lang/String" "COMPACT_STRINGS" "Z", Cond.fieldLink RJ0 15 "java/lang/String" "coder" "B", Cond.methodLink RJ0 505 yJ0_length_8abf5, Cond.instanceMethod yJ0_length_8abf5, Cond.selects RJ0 yJ0_length_8abf5 yJ0_length_8abf5, Cond.code yJ0_length_8abf5 cJ0_length_8abf5 1 (some .int), Cond.methodLink RJ0 335 yJ0_coder_7d493, Cond.instanceMethod yJ0_coder_7d493, Cond.selects RJ0 yJ0_coder_7d493 yJ0_coder_7d493, Cond.code yJ0_coder_7d493 cJ0_coder_7d493 1 (some .byte), Cond.methodLink RJ0 637 yJ1_indexOf_4cfef, Cond.static yJ1_indexOf_4cfef, Cond.initialized RJ1, Cond.code yJ1_indexOf_4cfef cJ1_indexOf_4cfef 4 (some .int), Cond.methodLink RJ1 92 Lib.Math.max.name, Cond.static Lib.Math.max.name, Cond.initialized "java/lang/Math", Cond.code Lib.Math.max.name Lib.Math.max.code 2 (some .int), Cond.methodLink RJ1 38 Lib.Math.min.name, Cond.static Lib.Math.min.name, Cond.code Lib.Math.min.name Lib.Math.min.code 2 (some .int), Cond.methodLink RJ1 88 yJ1_canEncode_9a6ad]
def wsX5_fault_r3 : List Cond := [Cond.static yJ1_canEncode_9a6ad, Cond.code yJ1_canEncode_9a6ad cJ1_canEncode_9a6ad 1 (some .boolean), Cond.methodLink RJ1 95 yJ1_indexOfChar_4cfef, Cond.static yJ1_indexOfChar_4cfef, Cond.code yJ1_indexOfChar_4cfef cJ1_indexOfChar_4cfef 6 (some .int), Cond.methodLink RJ0 640 yJ2_indexOf_4cfef, Cond.static yJ2_indexOf_4cfef, Cond.initialized RJ2, Cond.code yJ2_indexOf_4cfef cJ2_indexOf_4cfef 4 (some .int), Cond.methodLink RJ2 224 Lib.Math.max.name, Cond.methodLink RJ2 183 Lib.Math.min.name, Cond.constant RJ2 227 (65536), Cond.methodLink RJ2 228 yJ2_indexOfChar_4cfef, Cond.static yJ2_indexOfChar_4cfef, Cond.code yJ2_indexOfChar_4cfef cJ2_indexOfChar_4cfef 4 (some .int), Cond.methodLink RJ2 96 yJ2_checkBoundsBeginEnd_d044e, Cond.static yJ2_checkBoundsBeginEnd_d044e, Cond.code yJ2_checkBoundsBeginEnd_d044e cJ2_checkBoundsBeginEnd_d044e 3 none, Cond.methodLink RJ2 48 yJ2_length_9d52b, Cond.static yJ2_length_9d52b, Cond.code yJ2_length_9d52b cJ2_length_9d52b 1 (some .int), Cond.methodLink RJ2 241 yJ0_checkBoundsBeginEnd_23922, Cond.static yJ0_checkBoundsBeginEnd_23922, Cond.code yJ0_checkBoundsBeginEnd_23922 cJ0_checkBoundsBeginEnd_23922 3 none]
def wsX5_fault_r4 : List Cond := [Cond.fieldLink RJ0 1053 "jdk/internal/util/Preconditions" "SIOOBE_FORMATTER" "Ljava/util/function/BiFunction;", Cond.methodLink RJ0 1062 yJ3_checkFromToIndex_8c36e, Cond.static yJ3_checkFromToIndex_8c36e, Cond.initialized RJ3, Cond.code yJ3_checkFromToIndex_8c36e cJ3_checkFromToIndex_8c36e 4 (some .int), Cond.methodLink RJ2 244 yJ2_indexOfCharUnsafe_4cfef, Cond.static yJ2_indexOfCharUnsafe_4cfef, Cond.code yJ2_indexOfCharUnsafe_4cfef cJ2_indexOfCharUnsafe_4cfef 5 (some .int), Cond.methodLink RJ2 71 yJ2_getChar_3b067, Cond.static yJ2_getChar_3b067, Cond.code yJ2_getChar_3b067 cJ2_getChar_3b067 2 (some .char), Cond.fieldLink RJ2 44 "java/lang/StringUTF16" "$assertionsDisabled" "Z", Cond.fieldLink RJ2 59 "java/lang/StringUTF16" "HI_BYTE_SHIFT" "I", Cond.fieldLink RJ2 63 "java/lang/StringUTF16" "LO_BYTE_SHIFT" "I", Cond.methodLink RJ2 232 yJ2_indexOfSupplementary_4cfef, Cond.static yJ2_indexOfSupplementary_4cfef, Cond.code yJ2_indexOfSupplementary_4cfef cJ2_indexOfSupplementary_4cfef 7 (some .int), Cond.methodLink RJ2 164 yJ11_isValidCodePoint_9a6ad, Cond.static yJ11_isValidCodePoint_9a6ad, Cond.initialized RJ11, Cond.code yJ11_isValidCodePoint_9a6ad cJ11_isValidCodePoint_9a6ad 2 (some .boolean), Cond.methodLink RJ2 157 yJ11_highSurrogate_5068e, Cond.static yJ11_highSurrogate_5068e, Cond.code yJ11_highSurrogate_5068e cJ11_highSurrogate_5068e 1 (some .char)]
def wsX5_fault_r5 : List Cond := [Cond.constant RJ11 110 (55232), Cond.methodLink RJ2 161 yJ11_lowSurrogate_5068e, Cond.static yJ11_lowSurrogate_5068e, Cond.code yJ11_lowSurrogate_5068e cJ11_lowSurrogate_5068e 1 (some .char), Cond.constant RJ11 76 (56320), Cond.methodLink RX3 23 yX3_isBetween, Cond.instanceMethod yX3_isBetween, Cond.selects RX3 yX3_isBetween yX3_isBetween, Cond.code yX3_isBetween cX3_isBetween 4 (some .boolean)]
def wsX5_fault : List Cond := .code yX5_fault cX5_fault 1 (some .int) :: ((wsX5_fault_r1 ++ (wsX5_fault_r2 ++ (wsX5_fault_r3 ++ (wsX5_fault_r4 ++ wsX5_fault_r5)))) ++ wsX50 ++ wsX30)
def wsX5_market_r1 : List Cond := [Cond.fieldLink RX5 10 "BuyersWeights" "page" "LBuyersWeights$Page;", Cond.fieldLink RX5 19 "BuyersWeights" "market" "LBuyersWeights$Market;", Cond.fieldLink RX5 26 "BuyersWeights" "ledger" "LBuyersWeights$Ledger;", Cond.fieldLink RX5 50 "BuyersWeights" "imageKept" "Z", Cond.fieldLink RX5 54 "BuyersWeights" "marketsRead" "I", Cond.fieldLink RX5 86 "BuyersWeights$Market" "houses" "I", Cond.methodLink RX5 75 yX3_isMarket, Cond.instanceMethod yX3_isMarket, Cond.selects RX3 yX3_isMarket yX3_isMarket, Cond.initialized RX3, Cond.code yX3_isMarket cX3_isMarket 1 (some .boolean), Cond.fieldLink RX3 15 "BuyersWeights$Page" "length" "I", Cond.fieldLink RX3 9 "BuyersWeights$Page" "letters" "[C", Cond.methodLink RX3 27 yX3_firstFault, Cond.instanceMethod yX3_firstFault, Cond.selects RX3 yX3_firstFault yX3_firstFault, Cond.code yX3_firstFault cX3_firstFault 4 (some .int), Cond.methodLink RX3 19 yX3_fitsHouses, Cond.instanceMethod yX3_fitsHouses, Cond.selects RX3 yX3_fitsHouses yX3_fitsHouses, Cond.code yX3_fitsHouses cX3_fitsHouses 4 (some .boolean), Cond.methodLink RX3 33 yJ0_indexOf_0f7a4, Cond.instanceMethod yJ0_indexOf_0f7a4, Cond.selects RJ0 yJ0_indexOf_0f7a4 yJ0_indexOf_0f7a4]
def wsX5_market_r2 : List Cond := [Cond.initialized RJ0, Cond.code yJ0_indexOf_0f7a4 cJ0_indexOf_0f7a4 2 (some .int), Cond.methodLink RJ0 633 yJ0_indexOf_7cf53, Cond.instanceMethod yJ0_indexOf_7cf53, Cond.selects RJ0 yJ0_indexOf_7cf53 yJ0_indexOf_7cf53, Cond.code yJ0_indexOf_7cf53 cJ0_indexOf_7cf53 3 (some .int), Cond.fieldLink RJ0 9 "java/lang/String" "value" "[B", Cond.methodLink RJ0 492 yJ0_isLatin1_aae02, Cond.instanceMethod yJ0_isLatin1_aae02, Cond.selects RJ0 yJ0_isLatin1_aae02 yJ0_isLatin1_aae02, Cond.code yJ0_isLatin1_aae02 cJ0_isLatin1_aae02 1 (some .boolean), Cond.fieldLink RJ0 38 "java/lang/String" "COMPACT_STRINGS" "Z", Cond.fieldLink RJ0 15 "java/lang/String" "coder" "B", Cond.methodLink RJ0 505 yJ0_length_8abf5, Cond.instanceMethod yJ0_length_8abf5, Cond.selects RJ0 yJ0_length_8abf5 yJ0_length_8abf5, Cond.code yJ0_length_8abf5 cJ0_length_8abf5 1 (some .int), Cond.methodLink RJ0 335 yJ0_coder_7d493, Cond.instanceMethod yJ0_coder_7d493, Cond.selects RJ0 yJ0_coder_7d493 yJ0_coder_7d493, Cond.code yJ0_coder_7d493 cJ0_coder_7d493 1 (some .byte), Cond.methodLink RJ0 637 yJ1_indexOf_4cfef, Cond.static yJ1_indexOf_4cfef, Cond.initialized RJ1]
def wsX5_market_r3 : List Cond := [Cond.code yJ1_indexOf_4cfef cJ1_indexOf_4cfef 4 (some .int), Cond.methodLink RJ1 92 Lib.Math.max.name, Cond.static Lib.Math.max.name, Cond.initialized "java/lang/Math", Cond.code Lib.Math.max.name Lib.Math.max.code 2 (some .int), Cond.methodLink RJ1 38 Lib.Math.min.name, Cond.static Lib.Math.min.name, Cond.code Lib.Math.min.name Lib.Math.min.code 2 (some .int), Cond.methodLink RJ1 88 yJ1_canEncode_9a6ad, Cond.static yJ1_canEncode_9a6ad, Cond.code yJ1_canEncode_9a6ad cJ1_canEncode_9a6ad 1 (some .boolean), Cond.methodLink RJ1 95 yJ1_indexOfChar_4cfef, Cond.static yJ1_indexOfChar_4cfef, Cond.code yJ1_indexOfChar_4cfef cJ1_indexOfChar_4cfef 6 (some .int), Cond.methodLink RJ0 640 yJ2_indexOf_4cfef, Cond.static yJ2_indexOf_4cfef, Cond.initialized RJ2, Cond.code yJ2_indexOf_4cfef cJ2_indexOf_4cfef 4 (some .int), Cond.methodLink RJ2 224 Lib.Math.max.name, Cond.methodLink RJ2 183 Lib.Math.min.name, Cond.constant RJ2 227 (65536), Cond.methodLink RJ2 228 yJ2_indexOfChar_4cfef, Cond.static yJ2_indexOfChar_4cfef, Cond.code yJ2_indexOfChar_4cfef cJ2_indexOfChar_4cfef 4 (some .int)]
def wsX5_market_r4 : List Cond := [Cond.methodLink RJ2 96 yJ2_checkBoundsBeginEnd_d044e, Cond.static yJ2_checkBoundsBeginEnd_d044e, Cond.code yJ2_checkBoundsBeginEnd_d044e cJ2_checkBoundsBeginEnd_d044e 3 none, Cond.methodLink RJ2 48 yJ2_length_9d52b, Cond.static yJ2_length_9d52b, Cond.code yJ2_length_9d52b cJ2_length_9d52b 1 (some .int), Cond.methodLink RJ2 241 yJ0_checkBoundsBeginEnd_23922, Cond.static yJ0_checkBoundsBeginEnd_23922, Cond.code yJ0_checkBoundsBeginEnd_23922 cJ0_checkBoundsBeginEnd_23922 3 none, Cond.fieldLink RJ0 1053 "jdk/internal/util/Preconditions" "SIOOBE_FORMATTER" "Ljava/util/function/BiFunction;", Cond.methodLink RJ0 1062 yJ3_checkFromToIndex_8c36e, Cond.static yJ3_checkFromToIndex_8c36e, Cond.initialized RJ3, Cond.code yJ3_checkFromToIndex_8c36e cJ3_checkFromToIndex_8c36e 4 (some .int), Cond.methodLink RJ2 244 yJ2_indexOfCharUnsafe_4cfef, Cond.static yJ2_indexOfCharUnsafe_4cfef, Cond.code yJ2_indexOfCharUnsafe_4cfef cJ2_indexOfCharUnsafe_4cfef 5 (some .int), Cond.methodLink RJ2 71 yJ2_getChar_3b067, Cond.static yJ2_getChar_3b067, Cond.code yJ2_getChar_3b067 cJ2_getChar_3b067 2 (some .char), Cond.fieldLink RJ2 44 "java/lang/StringUTF16" "$assertionsDisabled" "Z", Cond.fieldLink RJ2 59 "java/lang/StringUTF16" "HI_BYTE_SHIFT" "I", Cond.fieldLink RJ2 63 "java/lang/StringUTF16" "LO_BYTE_SHIFT" "I", Cond.methodLink RJ2 232 yJ2_indexOfSupplementary_4cfef]
def wsX5_market_r5 : List Cond := [Cond.static yJ2_indexOfSupplementary_4cfef, Cond.code yJ2_indexOfSupplementary_4cfef cJ2_indexOfSupplementary_4cfef 7 (some .int), Cond.methodLink RJ2 164 yJ11_isValidCodePoint_9a6ad, Cond.static yJ11_isValidCodePoint_9a6ad, Cond.initialized RJ11, Cond.code yJ11_isValidCodePoint_9a6ad cJ11_isValidCodePoint_9a6ad 2 (some .boolean), Cond.methodLink RJ2 157 yJ11_highSurrogate_5068e, Cond.static yJ11_highSurrogate_5068e, Cond.code yJ11_highSurrogate_5068e cJ11_highSurrogate_5068e 1 (some .char), Cond.constant RJ11 110 (55232), Cond.methodLink RJ2 161 yJ11_lowSurrogate_5068e, Cond.static yJ11_lowSurrogate_5068e, Cond.code yJ11_lowSurrogate_5068e cJ11_lowSurrogate_5068e 1 (some .char), Cond.constant RJ11 76 (56320), Cond.methodLink RX3 23 yX3_isBetween, Cond.instanceMethod yX3_isBetween, Cond.selects RX3 yX3_isBetween yX3_isBetween, Cond.code yX3_isBetween cX3_isBetween 4 (some .boolean), Cond.methodLink RX5 79 yX2_open, Cond.instanceMethod yX2_open, Cond.selects RX2 yX2_open yX2_open, Cond.initialized RX2, Cond.code yX2_open cX2_open 4 none, Cond.fieldLink RX2 33 "BuyersWeights$Market" "houses" "I"]
def wsX5_market_r6 : List Cond := [Cond.fieldLink RX2 52 "BuyersWeights$Page" "length" "I", Cond.fieldLink RX2 37 "BuyersWeights$Market" "tilt" "I", Cond.fieldLink RX2 40 "BuyersWeights$Market" "hourNow" "I", Cond.fieldLink RX2 43 "BuyersWeights$Market" "sales" "I", Cond.fieldLink RX2 9 "BuyersWeights$Market" "kinds" "[I", Cond.fieldLink RX2 15 "BuyersWeights$Market" "stones" "[I", Cond.fieldLink RX2 18 "BuyersWeights$Market" "coins" "[I", Cond.fieldLink RX2 21 "BuyersWeights$Market" "got" "[I", Cond.fieldLink RX2 24 "BuyersWeights$Market" "paid" "[I", Cond.fieldLink RX2 27 "BuyersWeights$Market" "dealt" "[I", Cond.fieldLink RX2 30 "BuyersWeights$Market" "used" "[I", Cond.methodLink RX2 46 yX3_howManyHouses, Cond.instanceMethod yX3_howManyHouses, Cond.selects RX3 yX3_howManyHouses yX3_howManyHouses, Cond.code yX3_howManyHouses cX3_howManyHouses 1 (some .int), Cond.methodLink RX2 55 yX3_digit, Cond.instanceMethod yX3_digit, Cond.selects RX3 yX3_digit yX3_digit, Cond.code yX3_digit cX3_digit 2 (some .int), Cond.methodLink RX2 59 yX3_kind, Cond.instanceMethod yX3_kind, Cond.selects RX3 yX3_kind yX3_kind, Cond.code yX3_kind cX3_kind 2 (some .int), Cond.methodLink RX5 68 yX3_empty]
def wsX5_market_r7 : List Cond := [Cond.instanceMethod yX3_empty, Cond.selects RX3 yX3_empty yX3_empty, Cond.code yX3_empty cX3_empty 1 none, Cond.methodLink RX5 83 yX1_forget, Cond.instanceMethod yX1_forget, Cond.selects RX1 yX1_forget yX1_forget, Cond.initialized RX1, Cond.code yX1_forget cX1_forget 2 none, Cond.fieldLink RX1 9 "BuyersWeights$Ledger" "times" "[I", Cond.fieldLink RX1 15 "BuyersWeights$Ledger" "hands" "I", Cond.fieldLink RX1 19 "BuyersWeights$Ledger" "lost" "I"]
def wsX5_market : List Cond := .code yX5_market cX5_market 1 (some .int) :: ((wsX5_market_r1 ++ (wsX5_market_r2 ++ (wsX5_market_r3 ++ (wsX5_market_r4 ++ (wsX5_market_r5 ++ (wsX5_market_r6 ++ wsX5_market_r7)))))) ++ wsX50 ++ wsX20 ++ wsX30 ++ wsX10)
def wsX5_about : List Cond := .code yX5_about cX5_about 3 (some .int) :: ([.fieldLink RX5 19 "BuyersWeights" "market" "LBuyersWeights$Market;", .methodLink RX5 89 yX2_has, .instanceMethod yX2_has, .selects RX2 yX2_has yX2_has, .initialized RX2, .code yX2_has cX2_has 2 (some .boolean), .fieldLink RX2 33 "BuyersWeights$Market" "houses" "I", .methodLink RX5 93 yX2_tell, .instanceMethod yX2_tell, .selects RX2 yX2_tell yX2_tell, .code yX2_tell cX2_tell 3 (some .int), .fieldLink RX2 9 "BuyersWeights$Market" "kinds" "[I", .fieldLink RX2 15 "BuyersWeights$Market" "stones" "[I", .fieldLink RX2 18 "BuyersWeights$Market" "coins" "[I", .fieldLink RX2 21 "BuyersWeights$Market" "got" "[I", .fieldLink RX2 24 "BuyersWeights$Market" "paid" "[I", .fieldLink RX2 27 "BuyersWeights$Market" "dealt" "[I", .fieldLink RX2 30 "BuyersWeights$Market" "used" "[I"] ++ wsX50 ++ wsX20)
def wsX5_isOfKind : List Cond := .code yX5_isOfKind cX5_isOfKind 2 (some .boolean) :: ([])
def wsX5_as : List Cond := .code yX5_as cX5_as 3 (some .int) :: ([.fieldLink RX5 19 "BuyersWeights" "market" "LBuyersWeights$Market;", .fieldLink RX5 103 "BuyersWeights$Market" "kinds" "[I", .methodLink RX5 89 yX2_has, .instanceMethod yX2_has, .selects RX2 yX2_has yX2_has, .initialized RX2, .code yX2_has cX2_has 2 (some .boolean), .fieldLink RX2 33 "BuyersWeights$Market" "houses" "I", .methodLink RX5 99 yJ0_length_8abf5, .instanceMethod yJ0_length_8abf5, .selects RJ0 yJ0_length_8abf5 yJ0_length_8abf5, .initialized RJ0, .code yJ0_length_8abf5 cJ0_length_8abf5 1 (some .int), .fieldLink RJ0 9 "java/lang/String" "value" "[B", .methodLink RJ0 335 yJ0_coder_7d493, .instanceMethod yJ0_coder_7d493, .selects RJ0 yJ0_coder_7d493 yJ0_coder_7d493, .code yJ0_coder_7d493 cJ0_coder_7d493 1 (some .byte), .fieldLink RJ0 38 "java/lang/String" "COMPACT_STRINGS" "Z", .fieldLink RJ0 15 "java/lang/String" "coder" "B", .methodLink RX5 107 yX5_isOfKind, .static yX5_isOfKind, .initialized RX5, .code yX5_isOfKind cX5_isOfKind 2 (some .boolean)] ++ wsX50 ++ wsX20)
def wsX5_canTrade : List Cond := .code yX5_canTrade cX5_canTrade 3 (some .boolean) :: ([.fieldLink RX5 19 "BuyersWeights" "market" "LBuyersWeights$Market;", .methodLink RX5 89 yX2_has, .instanceMethod yX2_has, .selects RX2 yX2_has yX2_has, .initialized RX2, .code yX2_has cX2_has 2 (some .boolean), .fieldLink RX2 33 "BuyersWeights$Market" "houses" "I"] ++ wsX50 ++ wsX20)
def wsX5_measure : List Cond := .code yX5_measure cX5_measure 4 (some .int) :: ([.fieldLink RX5 19 "BuyersWeights" "market" "LBuyersWeights$Market;", .fieldLink RX5 114 "BuyersWeights$Market" "stones" "[I", .fieldLink RX5 117 "BuyersWeights$Market" "hourNow" "I", .methodLink RX5 111 yX5_canTrade, .instanceMethod yX5_canTrade, .selects RX5 yX5_canTrade yX5_canTrade, .initialized RX5, .code yX5_canTrade cX5_canTrade 3 (some .boolean), .methodLink RX5 89 yX2_has, .instanceMethod yX2_has, .selects RX2 yX2_has yX2_has, .initialized RX2, .code yX2_has cX2_has 2 (some .boolean), .fieldLink RX2 33 "BuyersWeights$Market" "houses" "I", .methodLink RX5 120 yX2_ounces, .instanceMethod yX2_ounces, .selects RX2 yX2_ounces yX2_ounces, .code yX2_ounces cX2_ounces 6 (some .int), .fieldLink RX2 37 "BuyersWeights$Market" "tilt" "I", .fieldLink RX2 9 "BuyersWeights$Market" "kinds" "[I", .methodLink RX2 62 Lib.Math.max.name, .static Lib.Math.max.name, .initialized "java/lang/Math", .code Lib.Math.max.name Lib.Math.max.code 2 (some .int)] ++ wsX50 ++ wsX20)
def wsX5_buy_r1 : List Cond := [Cond.fieldLink RX5 19 "BuyersWeights" "market" "LBuyersWeights$Market;", Cond.fieldLink RX5 124 "BuyersWeights$Market" "sales" "I", Cond.methodLink RX5 111 yX5_canTrade, Cond.instanceMethod yX5_canTrade, Cond.selects RX5 yX5_canTrade yX5_canTrade, Cond.initialized RX5, Cond.code yX5_canTrade cX5_canTrade 3 (some .boolean), Cond.methodLink RX5 89 yX2_has, Cond.instanceMethod yX2_has, Cond.selects RX2 yX2_has yX2_has, Cond.initialized RX2, Cond.code yX2_has cX2_has 2 (some .boolean), Cond.fieldLink RX2 33 "BuyersWeights$Market" "houses" "I", Cond.methodLink RX5 127 yX2_sell, Cond.instanceMethod yX2_sell, Cond.selects RX2 yX2_sell yX2_sell, Cond.code yX2_sell cX2_sell 5 (some .int), Cond.fieldLink RX2 15 "BuyersWeights$Market" "stones" "[I", Cond.fieldLink RX2 40 "BuyersWeights$Market" "hourNow" "I", Cond.fieldLink RX2 21 "BuyersWeights$Market" "got" "[I", Cond.fieldLink RX2 24 "BuyersWeights$Market" "paid" "[I", Cond.fieldLink RX2 18 "BuyersWeights$Market" "coins" "[I", Cond.fieldLink RX2 27 "BuyersWeights$Market" "dealt" "[I", Cond.fieldLink RX2 30 "BuyersWeights$Market" "used" "[I"]
def wsX5_buy_r2 : List Cond := [Cond.fieldLink RX2 43 "BuyersWeights$Market" "sales" "I", Cond.methodLink RX2 68 yX2_ounces, Cond.instanceMethod yX2_ounces, Cond.selects RX2 yX2_ounces yX2_ounces, Cond.code yX2_ounces cX2_ounces 6 (some .int), Cond.fieldLink RX2 37 "BuyersWeights$Market" "tilt" "I", Cond.fieldLink RX2 9 "BuyersWeights$Market" "kinds" "[I", Cond.methodLink RX2 62 Lib.Math.max.name, Cond.static Lib.Math.max.name, Cond.initialized "java/lang/Math", Cond.code Lib.Math.max.name Lib.Math.max.code 2 (some .int), Cond.methodLink RX2 72 yX2_weightAfter, Cond.instanceMethod yX2_weightAfter, Cond.selects RX2 yX2_weightAfter yX2_weightAfter, Cond.code yX2_weightAfter cX2_weightAfter 6 (some .int)]
def wsX5_buy : List Cond := .code yX5_buy cX5_buy 4 (some .int) :: ((wsX5_buy_r1 ++ wsX5_buy_r2) ++ wsX50 ++ wsX20)
def wsX5_hour : List Cond := .code yX5_hour cX5_hour 1 (some .int) :: ([.fieldLink RX5 19 "BuyersWeights" "market" "LBuyersWeights$Market;", .fieldLink RX5 117 "BuyersWeights$Market" "hourNow" "I", .methodLink RX5 130 yX2_isOpen, .instanceMethod yX2_isOpen, .selects RX2 yX2_isOpen yX2_isOpen, .initialized RX2, .code yX2_isOpen cX2_isOpen 1 (some .boolean), .fieldLink RX2 33 "BuyersWeights$Market" "houses" "I"] ++ wsX50 ++ wsX20)
def wsX5_isPlanQuestion : List Cond := .code yX5_isPlanQuestion cX5_isPlanQuestion 1 (some .boolean) :: ([])
def wsX5_plan_r1 : List Cond := [Cond.fieldLink RX5 19 "BuyersWeights" "market" "LBuyersWeights$Market;", Cond.fieldLink RX5 58 "BuyersWeights" "plansDone" "I", Cond.fieldLink RX5 39 "BuyersWeights" "planner" "LBuyersWeights$Planner;", Cond.methodLink RX5 89 yX2_has, Cond.instanceMethod yX2_has, Cond.selects RX2 yX2_has yX2_has, Cond.initialized RX2, Cond.code yX2_has cX2_has 2 (some .boolean), Cond.fieldLink RX2 33 "BuyersWeights$Market" "houses" "I", Cond.methodLink RX5 133 yX5_isPlanQuestion, Cond.static yX5_isPlanQuestion, Cond.initialized RX5, Cond.code yX5_isPlanQuestion cX5_isPlanQuestion 1 (some .boolean), Cond.methodLink RX5 136 yX4_seek, Cond.instanceMethod yX4_seek, Cond.selects RX4 yX4_seek yX4_seek, Cond.initialized RX4, Cond.code yX4_seek cX4_seek 4 none, Cond.fieldLink RX4 34 "BuyersWeights$Market" "stones" "[I", Cond.fieldLink RX4 9 "BuyersWeights$Planner" "stones" "[I", Cond.fieldLink RX4 21 "BuyersWeights$Planner" "bestSales" "I", Cond.fieldLink RX4 25 "BuyersWeights$Planner" "bestPaid" "I", Cond.fieldLink RX4 28 "BuyersWeights$Planner" "buyer" "I", Cond.fieldLink RX4 31 "BuyersWeights$Planner" "wanted" "I"]
def wsX5_plan_r2 : List Cond := [Cond.static yX5_copyRow, Cond.code yX5_copyRow cX5_copyRow 2 none, Cond.methodLink RX5 233 arraycopyName, Cond.native arraycopyName, Cond.static arraycopyName, Cond.initialized "java/lang/System", Cond.methodLink RX4 41 yX4_trySales, Cond.instanceMethod yX4_trySales, Cond.selects RX4 yX4_trySales yX4_trySales, Cond.code yX4_trySales cX4_trySales 7 none, Cond.fieldLink RX4 45 "BuyersWeights$Market" "houses" "I", Cond.fieldLink RX4 15 "BuyersWeights$Planner" "tried" "[I", Cond.methodLink RX4 48 yX4_trySale, Cond.instanceMethod yX4_trySale, Cond.selects RX4 yX4_trySale yX4_trySale, Cond.code yX4_trySale cX4_trySale 10 none, Cond.fieldLink RX4 52 "BuyersWeights$Market" "hourNow" "I", Cond.fieldLink RX4 59 "BuyersWeights$Market" "coins" "[I", Cond.methodLink RX4 55 yX2_ounces, Cond.instanceMethod yX2_ounces, Cond.selects RX2 yX2_ounces yX2_ounces, Cond.code yX2_ounces cX2_ounces 6 (some .int), Cond.fieldLink RX2 37 "BuyersWeights$Market" "tilt" "I", Cond.fieldLink RX2 9 "BuyersWeights$Market" "kinds" "[I"]
def wsX5_plan_r3 : List Cond := [Cond.methodLink RX2 62 Lib.Math.max.name, Cond.static Lib.Math.max.name, Cond.initialized "java/lang/Math", Cond.code Lib.Math.max.name Lib.Math.max.code 2 (some .int), Cond.methodLink RX4 62 yX4_keepIfBetter, Cond.instanceMethod yX4_keepIfBetter, Cond.selects RX4 yX4_keepIfBetter yX4_keepIfBetter, Cond.code yX4_keepIfBetter cX4_keepIfBetter 3 none, Cond.fieldLink RX4 18 "BuyersWeights$Planner" "best" "[I", Cond.methodLink RX4 69 arraycopyName, Cond.methodLink RX4 66 yX2_weightAfter, Cond.instanceMethod yX2_weightAfter, Cond.selects RX2 yX2_weightAfter yX2_weightAfter, Cond.code yX2_weightAfter cX2_weightAfter 6 (some .int), Cond.methodLink RX5 140 yX4_tell, Cond.instanceMethod yX4_tell, Cond.selects RX4 yX4_tell yX4_tell, Cond.code yX4_tell cX4_tell 3 (some .int)]
def wsX5_plan : List Cond := .code yX5_plan cX5_plan 4 (some .int) :: ((wsX5_plan_r1 ++ (wsX5_plan_r2 ++ wsX5_plan_r3)) ++ wsX50 ++ wsX20 ++ wsX40)
def wsX5_fair_r1 : List Cond := [Cond.fieldLink RX5 19 "BuyersWeights" "market" "LBuyersWeights$Market;", Cond.methodLink RX5 111 yX5_canTrade, Cond.instanceMethod yX5_canTrade, Cond.selects RX5 yX5_canTrade yX5_canTrade, Cond.initialized RX5, Cond.code yX5_canTrade cX5_canTrade 3 (some .boolean), Cond.methodLink RX5 89 yX2_has, Cond.instanceMethod yX2_has, Cond.selects RX2 yX2_has yX2_has, Cond.initialized RX2, Cond.code yX2_has cX2_has 2 (some .boolean), Cond.fieldLink RX2 33 "BuyersWeights$Market" "houses" "I", Cond.methodLink RX5 143 yX2_isFair, Cond.instanceMethod yX2_isFair, Cond.selects RX2 yX2_isFair yX2_isFair, Cond.code yX2_isFair cX2_isFair 5 (some .boolean), Cond.fieldLink RX2 15 "BuyersWeights$Market" "stones" "[I", Cond.fieldLink RX2 40 "BuyersWeights$Market" "hourNow" "I", Cond.fieldLink RX2 18 "BuyersWeights$Market" "coins" "[I", Cond.methodLink RX2 68 yX2_ounces, Cond.instanceMethod yX2_ounces, Cond.selects RX2 yX2_ounces yX2_ounces, Cond.code yX2_ounces cX2_ounces 6 (some .int), Cond.fieldLink RX2 37 "BuyersWeights$Market" "tilt" "I"]
def wsX5_fair_r2 : List Cond := [Cond.fieldLink RX2 9 "BuyersWeights$Market" "kinds" "[I", Cond.methodLink RX2 62 Lib.Math.max.name, Cond.static Lib.Math.max.name, Cond.initialized "java/lang/Math", Cond.code Lib.Math.max.name Lib.Math.max.code 2 (some .int)]
def wsX5_fair : List Cond := .code yX5_fair cX5_fair 3 (some .int) :: ((wsX5_fair_r1 ++ wsX5_fair_r2) ++ wsX50 ++ wsX20)
def wsX5_pass : List Cond := .code yX5_pass cX5_pass 2 (some .int) :: ([.fieldLink RX5 19 "BuyersWeights" "market" "LBuyersWeights$Market;", .fieldLink RX5 26 "BuyersWeights" "ledger" "LBuyersWeights$Ledger;", .fieldLink RX5 146 "BuyersWeights$Ledger" "hands" "I", .methodLink RX5 89 yX2_has, .instanceMethod yX2_has, .selects RX2 yX2_has yX2_has, .initialized RX2, .code yX2_has cX2_has 2 (some .boolean), .fieldLink RX2 33 "BuyersWeights$Market" "houses" "I", .methodLink RX5 149 yX1_add, .instanceMethod yX1_add, .selects RX1 yX1_add yX1_add, .initialized RX1, .code yX1_add cX1_add 2 none, .fieldLink RX1 9 "BuyersWeights$Ledger" "times" "[I", .fieldLink RX1 15 "BuyersWeights$Ledger" "hands" "I"] ++ wsX50 ++ wsX10 ++ wsX20)
def wsX5_lose : List Cond := .code yX5_lose cX5_lose 3 (some .int) :: ([.fieldLink RX5 26 "BuyersWeights" "ledger" "LBuyersWeights$Ledger;", .fieldLink RX5 152 "BuyersWeights$Ledger" "lost" "I"] ++ wsX50 ++ wsX10)
def wsX5_clear : List Cond := .code yX5_clear cX5_clear 2 (some .int) :: ([.fieldLink RX5 26 "BuyersWeights" "ledger" "LBuyersWeights$Ledger;", .fieldLink RX5 146 "BuyersWeights$Ledger" "hands" "I", .methodLink RX5 83 yX1_forget, .instanceMethod yX1_forget, .selects RX1 yX1_forget yX1_forget, .initialized RX1, .code yX1_forget cX1_forget 2 none, .fieldLink RX1 9 "BuyersWeights$Ledger" "times" "[I", .fieldLink RX1 15 "BuyersWeights$Ledger" "hands" "I", .fieldLink RX1 19 "BuyersWeights$Ledger" "lost" "I"] ++ wsX50 ++ wsX10)
def wsX5_rubbed_r1 : List Cond := [Cond.fieldLink RX5 19 "BuyersWeights" "market" "LBuyersWeights$Market;", Cond.fieldLink RX5 26 "BuyersWeights" "ledger" "LBuyersWeights$Ledger;", Cond.fieldLink RX5 86 "BuyersWeights$Market" "houses" "I", Cond.methodLink RX5 130 yX2_isOpen, Cond.instanceMethod yX2_isOpen, Cond.selects RX2 yX2_isOpen yX2_isOpen, Cond.initialized RX2, Cond.code yX2_isOpen cX2_isOpen 1 (some .boolean), Cond.fieldLink RX2 33 "BuyersWeights$Market" "houses" "I", Cond.methodLink RX5 155 yX1_howManySets, Cond.instanceMethod yX1_howManySets, Cond.selects RX1 yX1_howManySets yX1_howManySets, Cond.initialized RX1, Cond.code yX1_howManySets cX1_howManySets 2 (some .int), Cond.methodLink RX1 26 yX1_howManySetsWith, Cond.instanceMethod yX1_howManySetsWith, Cond.selects RX1 yX1_howManySetsWith yX1_howManySetsWith, Cond.code yX1_howManySetsWith cX1_howManySetsWith 5 (some .int), Cond.methodLink RX1 30 yX1_explains, Cond.instanceMethod yX1_explains, Cond.selects RX1 yX1_explains yX1_explains, Cond.code yX1_explains cX1_explains 5 (some .boolean), Cond.fieldLink RX1 9 "BuyersWeights$Ledger" "times" "[I", Cond.fieldLink RX1 19 "BuyersWeights$Ledger" "lost" "I"]
def wsX5_rubbed_r2 : List Cond := [Cond.methodLink RX5 158 yX1_leastSet, Cond.instanceMethod yX1_leastSet, Cond.selects RX1 yX1_leastSet yX1_leastSet, Cond.code yX1_leastSet cX1_leastSet 3 (some .int), Cond.methodLink RX5 161 yX1_inAllSets, Cond.instanceMethod yX1_inAllSets, Cond.selects RX1 yX1_inAllSets yX1_inAllSets, Cond.code yX1_inAllSets cX1_inAllSets 4 (some .int)]
def wsX5_rubbed : List Cond := .code yX5_rubbed cX5_rubbed 2 (some .int) :: ((wsX5_rubbed_r1 ++ wsX5_rubbed_r2) ++ wsX50 ++ wsX20 ++ wsX10)
def wsX5_watch_r1 : List Cond := [Cond.fieldLink RX5 19 "BuyersWeights" "market" "LBuyersWeights$Market;", Cond.fieldLink RX5 26 "BuyersWeights" "ledger" "LBuyersWeights$Ledger;", Cond.fieldLink RX5 86 "BuyersWeights$Market" "houses" "I", Cond.methodLink RX5 130 yX2_isOpen, Cond.instanceMethod yX2_isOpen, Cond.selects RX2 yX2_isOpen yX2_isOpen, Cond.initialized RX2, Cond.code yX2_isOpen cX2_isOpen 1 (some .boolean), Cond.fieldLink RX2 33 "BuyersWeights$Market" "houses" "I", Cond.methodLink RX5 164 yX1_houseToWatch, Cond.instanceMethod yX1_houseToWatch, Cond.selects RX1 yX1_houseToWatch yX1_houseToWatch, Cond.initialized RX1, Cond.code yX1_houseToWatch cX1_houseToWatch 8 (some .int), Cond.methodLink RX1 38 Lib.Math.max.name, Cond.static Lib.Math.max.name, Cond.initialized "java/lang/Math", Cond.code Lib.Math.max.name Lib.Math.max.code 2 (some .int), Cond.methodLink RX1 34 yX1_howManySets, Cond.instanceMethod yX1_howManySets, Cond.selects RX1 yX1_howManySets yX1_howManySets, Cond.code yX1_howManySets cX1_howManySets 2 (some .int), Cond.methodLink RX1 26 yX1_howManySetsWith, Cond.instanceMethod yX1_howManySetsWith]
def wsX5_watch_r2 : List Cond := [Cond.selects RX1 yX1_howManySetsWith yX1_howManySetsWith, Cond.code yX1_howManySetsWith cX1_howManySetsWith 5 (some .int), Cond.methodLink RX1 30 yX1_explains, Cond.instanceMethod yX1_explains, Cond.selects RX1 yX1_explains yX1_explains, Cond.code yX1_explains cX1_explains 5 (some .boolean), Cond.fieldLink RX1 9 "BuyersWeights$Ledger" "times" "[I", Cond.fieldLink RX1 19 "BuyersWeights$Ledger" "lost" "I"]
def wsX5_watch : List Cond := .code yX5_watch cX5_watch 1 (some .int) :: ((wsX5_watch_r1 ++ wsX5_watch_r2) ++ wsX50 ++ wsX20 ++ wsX10)
def wsX5_markets_r1 : List Cond := [Cond.fieldLink RX5 19 "BuyersWeights" "market" "LBuyersWeights$Market;", Cond.fieldLink RX5 46 "BuyersWeights" "drawnSales" "LBuyersWeights$DrawnSales;", Cond.fieldLink RX5 170 "BuyersWeights$DrawnSales" "ouncesGot" "I", Cond.fieldLink RX5 173 "BuyersWeights$DrawnSales" "stones" "[I", Cond.fieldLink RX5 178 "BuyersWeights$DrawnSales" "seed" "I", Cond.methodLink RX5 130 yX2_isOpen, Cond.instanceMethod yX2_isOpen, Cond.selects RX2 yX2_isOpen yX2_isOpen, Cond.initialized RX2, Cond.code yX2_isOpen cX2_isOpen 1 (some .boolean), Cond.fieldLink RX2 33 "BuyersWeights$Market" "houses" "I", Cond.methodLink RX5 167 yX0_run, Cond.instanceMethod yX0_run, Cond.selects RX0 yX0_run yX0_run, Cond.initialized RX0, Cond.code yX0_run cX0_run 5 none, Cond.fieldLink RX0 22 "BuyersWeights$Market" "stones" "[I", Cond.fieldLink RX0 9 "BuyersWeights$DrawnSales" "stones" "[I", Cond.fieldLink RX0 15 "BuyersWeights$DrawnSales" "seed" "I", Cond.fieldLink RX0 19 "BuyersWeights$DrawnSales" "ouncesGot" "I", Cond.fieldLink RX0 29 "BuyersWeights$Market" "hourNow" "I", Cond.static yX5_copyRow, Cond.initialized RX5, Cond.code yX5_copyRow cX5_copyRow 2 none]
def wsX5_markets_r2 : List Cond := [Cond.methodLink RX5 233 arraycopyName, Cond.native arraycopyName, Cond.static arraycopyName, Cond.initialized "java/lang/System", Cond.methodLink RX0 32 yX0_drawSale, Cond.instanceMethod yX0_drawSale, Cond.selects RX0 yX0_drawSale yX0_drawSale, Cond.code yX0_drawSale cX0_drawSale 6 none, Cond.fieldLink RX0 36 "BuyersWeights$Market" "houses" "I", Cond.methodLink RX0 39 yX0_draw, Cond.instanceMethod yX0_draw, Cond.selects RX0 yX0_draw yX0_draw, Cond.code yX0_draw cX0_draw 2 (some .int), Cond.constantLong RX0 50 (1103515245), Cond.constantLong RX0 52 (12345), Cond.constantLong RX0 54 (2147483648), Cond.constant RX0 56 (65536), Cond.methodLink RX0 43 yX2_ounces, Cond.instanceMethod yX2_ounces, Cond.selects RX2 yX2_ounces yX2_ounces, Cond.code yX2_ounces cX2_ounces 6 (some .int), Cond.fieldLink RX2 37 "BuyersWeights$Market" "tilt" "I", Cond.fieldLink RX2 9 "BuyersWeights$Market" "kinds" "[I", Cond.methodLink RX2 62 Lib.Math.max.name]
def wsX5_markets_r3 : List Cond := [Cond.static Lib.Math.max.name, Cond.initialized "java/lang/Math", Cond.code Lib.Math.max.name Lib.Math.max.code 2 (some .int), Cond.methodLink RX0 47 yX2_weightAfter, Cond.instanceMethod yX2_weightAfter, Cond.selects RX2 yX2_weightAfter yX2_weightAfter, Cond.code yX2_weightAfter cX2_weightAfter 6 (some .int), Cond.methodLink RX5 174 yX2_sum, Cond.instanceMethod yX2_sum, Cond.selects RX2 yX2_sum yX2_sum, Cond.code yX2_sum cX2_sum 4 (some .int)]
def wsX5_markets : List Cond := .code yX5_markets cX5_markets 4 (some .int) :: ((wsX5_markets_r1 ++ (wsX5_markets_r2 ++ wsX5_markets_r3)) ++ wsX50 ++ wsX00 ++ wsX20)
def wsX5_image_r1 : List Cond := [Cond.fieldLink RX5 19 "BuyersWeights" "market" "LBuyersWeights$Market;", Cond.fieldLink RX5 30 "BuyersWeights" "keptMarket" "LBuyersWeights$Market;", Cond.fieldLink RX5 33 "BuyersWeights" "keptLedger" "LBuyersWeights$Ledger;", Cond.fieldLink RX5 26 "BuyersWeights" "ledger" "LBuyersWeights$Ledger;", Cond.fieldLink RX5 50 "BuyersWeights" "imageKept" "Z", Cond.fieldLink RX5 117 "BuyersWeights$Market" "hourNow" "I", Cond.methodLink RX5 130 yX2_isOpen, Cond.instanceMethod yX2_isOpen, Cond.selects RX2 yX2_isOpen yX2_isOpen, Cond.initialized RX2, Cond.code yX2_isOpen cX2_isOpen 1 (some .boolean), Cond.fieldLink RX2 33 "BuyersWeights$Market" "houses" "I", Cond.methodLink RX5 181 yX2_copyDoingsOf, Cond.instanceMethod yX2_copyDoingsOf, Cond.selects RX2 yX2_copyDoingsOf yX2_copyDoingsOf, Cond.code yX2_copyDoingsOf cX2_copyDoingsOf 2 none, Cond.fieldLink RX2 40 "BuyersWeights$Market" "hourNow" "I", Cond.fieldLink RX2 43 "BuyersWeights$Market" "sales" "I", Cond.fieldLink RX2 15 "BuyersWeights$Market" "stones" "[I", Cond.fieldLink RX2 21 "BuyersWeights$Market" "got" "[I", Cond.fieldLink RX2 24 "BuyersWeights$Market" "paid" "[I", Cond.fieldLink RX2 27 "BuyersWeights$Market" "dealt" "[I", Cond.fieldLink RX2 30 "BuyersWeights$Market" "used" "[I", Cond.static yX5_copyRow]
def wsX5_image_r2 : List Cond := [Cond.initialized RX5, Cond.code yX5_copyRow cX5_copyRow 2 none, Cond.methodLink RX5 233 arraycopyName, Cond.native arraycopyName, Cond.static arraycopyName, Cond.initialized "java/lang/System", Cond.methodLink RX5 185 yX1_copyFrom, Cond.instanceMethod yX1_copyFrom, Cond.selects RX1 yX1_copyFrom yX1_copyFrom, Cond.initialized RX1, Cond.code yX1_copyFrom cX1_copyFrom 2 none, Cond.fieldLink RX1 9 "BuyersWeights$Ledger" "times" "[I", Cond.fieldLink RX1 15 "BuyersWeights$Ledger" "hands" "I", Cond.fieldLink RX1 19 "BuyersWeights$Ledger" "lost" "I"]
def wsX5_image : List Cond := .code yX5_image cX5_image 1 (some .int) :: ((wsX5_image_r1 ++ wsX5_image_r2) ++ wsX50 ++ wsX20 ++ wsX10)
def wsX5_restore_r1 : List Cond := [Cond.fieldLink RX5 50 "BuyersWeights" "imageKept" "Z", Cond.fieldLink RX5 19 "BuyersWeights" "market" "LBuyersWeights$Market;", Cond.fieldLink RX5 30 "BuyersWeights" "keptMarket" "LBuyersWeights$Market;", Cond.fieldLink RX5 26 "BuyersWeights" "ledger" "LBuyersWeights$Ledger;", Cond.fieldLink RX5 33 "BuyersWeights" "keptLedger" "LBuyersWeights$Ledger;", Cond.fieldLink RX5 117 "BuyersWeights$Market" "hourNow" "I", Cond.methodLink RX5 181 yX2_copyDoingsOf, Cond.instanceMethod yX2_copyDoingsOf, Cond.selects RX2 yX2_copyDoingsOf yX2_copyDoingsOf, Cond.initialized RX2, Cond.code yX2_copyDoingsOf cX2_copyDoingsOf 2 none, Cond.fieldLink RX2 40 "BuyersWeights$Market" "hourNow" "I", Cond.fieldLink RX2 43 "BuyersWeights$Market" "sales" "I", Cond.fieldLink RX2 15 "BuyersWeights$Market" "stones" "[I", Cond.fieldLink RX2 21 "BuyersWeights$Market" "got" "[I", Cond.fieldLink RX2 24 "BuyersWeights$Market" "paid" "[I", Cond.fieldLink RX2 27 "BuyersWeights$Market" "dealt" "[I", Cond.fieldLink RX2 30 "BuyersWeights$Market" "used" "[I", Cond.static yX5_copyRow, Cond.initialized RX5, Cond.code yX5_copyRow cX5_copyRow 2 none, Cond.methodLink RX5 233 arraycopyName, Cond.native arraycopyName, Cond.static arraycopyName]
def wsX5_restore_r2 : List Cond := [Cond.initialized "java/lang/System", Cond.methodLink RX5 185 yX1_copyFrom, Cond.instanceMethod yX1_copyFrom, Cond.selects RX1 yX1_copyFrom yX1_copyFrom, Cond.initialized RX1, Cond.code yX1_copyFrom cX1_copyFrom 2 none, Cond.fieldLink RX1 9 "BuyersWeights$Ledger" "times" "[I", Cond.fieldLink RX1 15 "BuyersWeights$Ledger" "hands" "I", Cond.fieldLink RX1 19 "BuyersWeights$Ledger" "lost" "I"]
def wsX5_restore : List Cond := .code yX5_restore cX5_restore 1 (some .int) :: ((wsX5_restore_r1 ++ wsX5_restore_r2) ++ wsX50 ++ wsX20 ++ wsX10)
def wsX5_count : List Cond := .code yX5_count cX5_count 2 (some .int) :: ([.fieldLink RX5 19 "BuyersWeights" "market" "LBuyersWeights$Market;", .fieldLink RX5 86 "BuyersWeights$Market" "houses" "I", .fieldLink RX5 189 "BuyersWeights$Market" "tilt" "I", .fieldLink RX5 117 "BuyersWeights$Market" "hourNow" "I", .fieldLink RX5 124 "BuyersWeights$Market" "sales" "I", .fieldLink RX5 192 "BuyersWeights$Market" "got" "[I", .fieldLink RX5 195 "BuyersWeights$Market" "paid" "[I", .fieldLink RX5 114 "BuyersWeights$Market" "stones" "[I", .fieldLink RX5 26 "BuyersWeights" "ledger" "LBuyersWeights$Ledger;", .fieldLink RX5 146 "BuyersWeights$Ledger" "hands" "I", .fieldLink RX5 152 "BuyersWeights$Ledger" "lost" "I", .fieldLink RX5 10 "BuyersWeights" "page" "LBuyersWeights$Page;", .fieldLink RX5 61 "BuyersWeights$Page" "length" "I", .fieldLink RX5 54 "BuyersWeights" "marketsRead" "I", .fieldLink RX5 58 "BuyersWeights" "plansDone" "I", .methodLink RX5 174 yX2_sum, .instanceMethod yX2_sum, .selects RX2 yX2_sum yX2_sum, .initialized RX2, .code yX2_sum cX2_sum 4 (some .int), .fieldLink RX2 33 "BuyersWeights$Market" "houses" "I"] ++ wsX50 ++ wsX20 ++ wsX10 ++ wsX30)
def wsX5_fold : List Cond := .code yX5_fold cX5_fold 4 (some .long) :: ([.constantLong RX5 231 (31)])
def wsX5_foldHouse_r1 : List Cond := [Cond.fieldLink RX5 19 "BuyersWeights" "market" "LBuyersWeights$Market;", Cond.fieldLink RX5 86 "BuyersWeights$Market" "houses" "I", Cond.methodLink RX5 219 yX5_about, Cond.instanceMethod yX5_about, Cond.selects RX5 yX5_about yX5_about, Cond.initialized RX5, Cond.code yX5_about cX5_about 3 (some .int), Cond.methodLink RX5 89 yX2_has, Cond.instanceMethod yX2_has, Cond.selects RX2 yX2_has yX2_has, Cond.initialized RX2, Cond.code yX2_has cX2_has 2 (some .boolean), Cond.fieldLink RX2 33 "BuyersWeights$Market" "houses" "I", Cond.methodLink RX5 93 yX2_tell, Cond.instanceMethod yX2_tell, Cond.selects RX2 yX2_tell yX2_tell, Cond.code yX2_tell cX2_tell 3 (some .int), Cond.fieldLink RX2 9 "BuyersWeights$Market" "kinds" "[I", Cond.fieldLink RX2 15 "BuyersWeights$Market" "stones" "[I", Cond.fieldLink RX2 18 "BuyersWeights$Market" "coins" "[I", Cond.fieldLink RX2 21 "BuyersWeights$Market" "got" "[I", Cond.fieldLink RX2 24 "BuyersWeights$Market" "paid" "[I", Cond.fieldLink RX2 27 "BuyersWeights$Market" "dealt" "[I", Cond.fieldLink RX2 30 "BuyersWeights$Market" "used" "[I"]
def wsX5_foldHouse_r2 : List Cond := [Cond.methodLink RX5 212 yX5_fold, Cond.static yX5_fold, Cond.code yX5_fold cX5_fold 4 (some .long), Cond.constantLong RX5 231 (31), Cond.methodLink RX5 222 yX5_fair, Cond.instanceMethod yX5_fair, Cond.selects RX5 yX5_fair yX5_fair, Cond.code yX5_fair cX5_fair 3 (some .int), Cond.methodLink RX5 111 yX5_canTrade, Cond.instanceMethod yX5_canTrade, Cond.selects RX5 yX5_canTrade yX5_canTrade, Cond.code yX5_canTrade cX5_canTrade 3 (some .boolean), Cond.methodLink RX5 143 yX2_isFair, Cond.instanceMethod yX2_isFair, Cond.selects RX2 yX2_isFair yX2_isFair, Cond.code yX2_isFair cX2_isFair 5 (some .boolean), Cond.fieldLink RX2 40 "BuyersWeights$Market" "hourNow" "I", Cond.methodLink RX2 68 yX2_ounces, Cond.instanceMethod yX2_ounces, Cond.selects RX2 yX2_ounces yX2_ounces, Cond.code yX2_ounces cX2_ounces 6 (some .int), Cond.fieldLink RX2 37 "BuyersWeights$Market" "tilt" "I", Cond.methodLink RX2 62 Lib.Math.max.name, Cond.static Lib.Math.max.name]
def wsX5_foldHouse_r3 : List Cond := [Cond.initialized "java/lang/Math", Cond.code Lib.Math.max.name Lib.Math.max.code 2 (some .int)]
def wsX5_foldHouse : List Cond := .code yX5_foldHouse cX5_foldHouse 7 (some .long) :: ((wsX5_foldHouse_r1 ++ (wsX5_foldHouse_r2 ++ wsX5_foldHouse_r3)) ++ wsX50 ++ wsX20)
def wsX5_foldLedger_r1 : List Cond := [Cond.methodLink RX5 225 yX5_rubbed, Cond.instanceMethod yX5_rubbed, Cond.selects RX5 yX5_rubbed yX5_rubbed, Cond.initialized RX5, Cond.code yX5_rubbed cX5_rubbed 2 (some .int), Cond.fieldLink RX5 19 "BuyersWeights" "market" "LBuyersWeights$Market;", Cond.fieldLink RX5 26 "BuyersWeights" "ledger" "LBuyersWeights$Ledger;", Cond.fieldLink RX5 86 "BuyersWeights$Market" "houses" "I", Cond.methodLink RX5 130 yX2_isOpen, Cond.instanceMethod yX2_isOpen, Cond.selects RX2 yX2_isOpen yX2_isOpen, Cond.initialized RX2, Cond.code yX2_isOpen cX2_isOpen 1 (some .boolean), Cond.fieldLink RX2 33 "BuyersWeights$Market" "houses" "I", Cond.methodLink RX5 155 yX1_howManySets, Cond.instanceMethod yX1_howManySets, Cond.selects RX1 yX1_howManySets yX1_howManySets, Cond.initialized RX1, Cond.code yX1_howManySets cX1_howManySets 2 (some .int), Cond.methodLink RX1 26 yX1_howManySetsWith, Cond.instanceMethod yX1_howManySetsWith, Cond.selects RX1 yX1_howManySetsWith yX1_howManySetsWith, Cond.code yX1_howManySetsWith cX1_howManySetsWith 5 (some .int), Cond.methodLink RX1 30 yX1_explains]
def wsX5_foldLedger_r2 : List Cond := [Cond.instanceMethod yX1_explains, Cond.selects RX1 yX1_explains yX1_explains, Cond.code yX1_explains cX1_explains 5 (some .boolean), Cond.fieldLink RX1 9 "BuyersWeights$Ledger" "times" "[I", Cond.fieldLink RX1 19 "BuyersWeights$Ledger" "lost" "I", Cond.methodLink RX5 158 yX1_leastSet, Cond.instanceMethod yX1_leastSet, Cond.selects RX1 yX1_leastSet yX1_leastSet, Cond.code yX1_leastSet cX1_leastSet 3 (some .int), Cond.methodLink RX5 161 yX1_inAllSets, Cond.instanceMethod yX1_inAllSets, Cond.selects RX1 yX1_inAllSets yX1_inAllSets, Cond.code yX1_inAllSets cX1_inAllSets 4 (some .int), Cond.methodLink RX5 212 yX5_fold, Cond.static yX5_fold, Cond.code yX5_fold cX5_fold 4 (some .long), Cond.constantLong RX5 231 (31), Cond.methodLink RX5 228 yX5_watch, Cond.instanceMethod yX5_watch, Cond.selects RX5 yX5_watch yX5_watch, Cond.code yX5_watch cX5_watch 1 (some .int), Cond.methodLink RX5 164 yX1_houseToWatch, Cond.instanceMethod yX1_houseToWatch, Cond.selects RX1 yX1_houseToWatch yX1_houseToWatch]
def wsX5_foldLedger_r3 : List Cond := [Cond.code yX1_houseToWatch cX1_houseToWatch 8 (some .int), Cond.methodLink RX1 38 Lib.Math.max.name, Cond.static Lib.Math.max.name, Cond.initialized "java/lang/Math", Cond.code Lib.Math.max.name Lib.Math.max.code 2 (some .int), Cond.methodLink RX1 34 yX1_howManySets]
def wsX5_foldLedger : List Cond := .code yX5_foldLedger cX5_foldLedger 6 (some .long) :: ((wsX5_foldLedger_r1 ++ (wsX5_foldLedger_r2 ++ wsX5_foldLedger_r3)) ++ wsX50 ++ wsX20 ++ wsX10)
def wsX5_digest_r1 : List Cond := [Cond.constantLong RX5 198 (977), Cond.fieldLink RX5 19 "BuyersWeights" "market" "LBuyersWeights$Market;", Cond.fieldLink RX5 86 "BuyersWeights$Market" "houses" "I", Cond.fieldLink RX5 10 "BuyersWeights" "page" "LBuyersWeights$Page;", Cond.fieldLink RX5 61 "BuyersWeights$Page" "length" "I", Cond.fieldLink RX5 208 "BuyersWeights$Page" "letters" "[C", Cond.methodLink RX5 200 yX5_foldHouse, Cond.instanceMethod yX5_foldHouse, Cond.selects RX5 yX5_foldHouse yX5_foldHouse, Cond.initialized RX5, Cond.code yX5_foldHouse cX5_foldHouse 7 (some .long), Cond.methodLink RX5 219 yX5_about, Cond.instanceMethod yX5_about, Cond.selects RX5 yX5_about yX5_about, Cond.code yX5_about cX5_about 3 (some .int), Cond.methodLink RX5 89 yX2_has, Cond.instanceMethod yX2_has, Cond.selects RX2 yX2_has yX2_has, Cond.initialized RX2, Cond.code yX2_has cX2_has 2 (some .boolean), Cond.fieldLink RX2 33 "BuyersWeights$Market" "houses" "I", Cond.methodLink RX5 93 yX2_tell, Cond.instanceMethod yX2_tell, Cond.selects RX2 yX2_tell yX2_tell]
def wsX5_digest_r2 : List Cond := [Cond.code yX2_tell cX2_tell 3 (some .int), Cond.fieldLink RX2 9 "BuyersWeights$Market" "kinds" "[I", Cond.fieldLink RX2 15 "BuyersWeights$Market" "stones" "[I", Cond.fieldLink RX2 18 "BuyersWeights$Market" "coins" "[I", Cond.fieldLink RX2 21 "BuyersWeights$Market" "got" "[I", Cond.fieldLink RX2 24 "BuyersWeights$Market" "paid" "[I", Cond.fieldLink RX2 27 "BuyersWeights$Market" "dealt" "[I", Cond.fieldLink RX2 30 "BuyersWeights$Market" "used" "[I", Cond.methodLink RX5 212 yX5_fold, Cond.static yX5_fold, Cond.code yX5_fold cX5_fold 4 (some .long), Cond.constantLong RX5 231 (31), Cond.methodLink RX5 222 yX5_fair, Cond.instanceMethod yX5_fair, Cond.selects RX5 yX5_fair yX5_fair, Cond.code yX5_fair cX5_fair 3 (some .int), Cond.methodLink RX5 111 yX5_canTrade, Cond.instanceMethod yX5_canTrade, Cond.selects RX5 yX5_canTrade yX5_canTrade, Cond.code yX5_canTrade cX5_canTrade 3 (some .boolean), Cond.methodLink RX5 143 yX2_isFair, Cond.instanceMethod yX2_isFair, Cond.selects RX2 yX2_isFair yX2_isFair, Cond.code yX2_isFair cX2_isFair 5 (some .boolean)]
def wsX5_digest_r3 : List Cond := [Cond.fieldLink RX2 40 "BuyersWeights$Market" "hourNow" "I", Cond.methodLink RX2 68 yX2_ounces, Cond.instanceMethod yX2_ounces, Cond.selects RX2 yX2_ounces yX2_ounces, Cond.code yX2_ounces cX2_ounces 6 (some .int), Cond.fieldLink RX2 37 "BuyersWeights$Market" "tilt" "I", Cond.methodLink RX2 62 Lib.Math.max.name, Cond.static Lib.Math.max.name, Cond.initialized "java/lang/Math", Cond.code Lib.Math.max.name Lib.Math.max.code 2 (some .int), Cond.methodLink RX5 130 yX2_isOpen, Cond.instanceMethod yX2_isOpen, Cond.selects RX2 yX2_isOpen yX2_isOpen, Cond.code yX2_isOpen cX2_isOpen 1 (some .boolean), Cond.methodLink RX5 204 yX5_foldLedger, Cond.instanceMethod yX5_foldLedger, Cond.selects RX5 yX5_foldLedger yX5_foldLedger, Cond.code yX5_foldLedger cX5_foldLedger 6 (some .long), Cond.methodLink RX5 225 yX5_rubbed, Cond.instanceMethod yX5_rubbed, Cond.selects RX5 yX5_rubbed yX5_rubbed, Cond.code yX5_rubbed cX5_rubbed 2 (some .int), Cond.fieldLink RX5 26 "BuyersWeights" "ledger" "LBuyersWeights$Ledger;", Cond.methodLink RX5 155 yX1_howManySets]
def wsX5_digest_r4 : List Cond := [Cond.instanceMethod yX1_howManySets, Cond.selects RX1 yX1_howManySets yX1_howManySets, Cond.initialized RX1, Cond.code yX1_howManySets cX1_howManySets 2 (some .int), Cond.methodLink RX1 26 yX1_howManySetsWith, Cond.instanceMethod yX1_howManySetsWith, Cond.selects RX1 yX1_howManySetsWith yX1_howManySetsWith, Cond.code yX1_howManySetsWith cX1_howManySetsWith 5 (some .int), Cond.methodLink RX1 30 yX1_explains, Cond.instanceMethod yX1_explains, Cond.selects RX1 yX1_explains yX1_explains, Cond.code yX1_explains cX1_explains 5 (some .boolean), Cond.fieldLink RX1 9 "BuyersWeights$Ledger" "times" "[I", Cond.fieldLink RX1 19 "BuyersWeights$Ledger" "lost" "I", Cond.methodLink RX5 158 yX1_leastSet, Cond.instanceMethod yX1_leastSet, Cond.selects RX1 yX1_leastSet yX1_leastSet, Cond.code yX1_leastSet cX1_leastSet 3 (some .int), Cond.methodLink RX5 161 yX1_inAllSets, Cond.instanceMethod yX1_inAllSets, Cond.selects RX1 yX1_inAllSets yX1_inAllSets, Cond.code yX1_inAllSets cX1_inAllSets 4 (some .int), Cond.methodLink RX5 228 yX5_watch, Cond.instanceMethod yX5_watch]
def wsX5_digest_r5 : List Cond := [Cond.selects RX5 yX5_watch yX5_watch, Cond.code yX5_watch cX5_watch 1 (some .int), Cond.methodLink RX5 164 yX1_houseToWatch, Cond.instanceMethod yX1_houseToWatch, Cond.selects RX1 yX1_houseToWatch yX1_houseToWatch, Cond.code yX1_houseToWatch cX1_houseToWatch 8 (some .int), Cond.methodLink RX1 38 Lib.Math.max.name, Cond.methodLink RX1 34 yX1_howManySets, Cond.methodLink RX5 216 yX5_count, Cond.instanceMethod yX5_count, Cond.selects RX5 yX5_count yX5_count, Cond.code yX5_count cX5_count 2 (some .int), Cond.fieldLink RX5 189 "BuyersWeights$Market" "tilt" "I", Cond.fieldLink RX5 117 "BuyersWeights$Market" "hourNow" "I", Cond.fieldLink RX5 124 "BuyersWeights$Market" "sales" "I", Cond.fieldLink RX5 192 "BuyersWeights$Market" "got" "[I", Cond.fieldLink RX5 195 "BuyersWeights$Market" "paid" "[I", Cond.fieldLink RX5 114 "BuyersWeights$Market" "stones" "[I", Cond.fieldLink RX5 146 "BuyersWeights$Ledger" "hands" "I", Cond.fieldLink RX5 152 "BuyersWeights$Ledger" "lost" "I", Cond.fieldLink RX5 54 "BuyersWeights" "marketsRead" "I", Cond.fieldLink RX5 58 "BuyersWeights" "plansDone" "I", Cond.methodLink RX5 174 yX2_sum, Cond.instanceMethod yX2_sum]
def wsX5_digest_r6 : List Cond := [Cond.selects RX2 yX2_sum yX2_sum, Cond.code yX2_sum cX2_sum 4 (some .int)]
def wsX5_digest : List Cond := .code yX5_digest cX5_digest 4 (some .long) :: ((wsX5_digest_r1 ++ (wsX5_digest_r2 ++ (wsX5_digest_r3 ++ (wsX5_digest_r4 ++ (wsX5_digest_r5 ++ wsX5_digest_r6))))) ++ wsX50 ++ wsX20 ++ wsX30 ++ wsX10)
def wsX6_init : List Cond := .code yX6_init cX6_init 1 none :: ([.methodLink RX6 1 objectInit, .instanceMethod objectInit, .code objectInit ⟨#[0xb1]⟩ 1 none, .arrayClass .int, .fieldLink RX6 7 "BuyersWeightsModel" "kindOf" "[I", .fieldLink RX6 13 "BuyersWeightsModel" "weighsOf" "[I", .fieldLink RX6 16 "BuyersWeightsModel" "coinOf" "[I", .fieldLink RX6 19 "BuyersWeightsModel" "gotOf" "[I", .fieldLink RX6 22 "BuyersWeightsModel" "paidOf" "[I", .fieldLink RX6 25 "BuyersWeightsModel" "dealtOf" "[I", .fieldLink RX6 28 "BuyersWeightsModel" "usedOf" "[I", .fieldLink RX6 31 "BuyersWeightsModel" "handsOf" "[I", .arrayClass .byte, .fieldLink RX6 34 "BuyersWeightsModel" "page" "[B", .fieldLink RX6 38 "BuyersWeightsModel" "saved" "[I", .fieldLink RX6 41 "BuyersWeightsModel" "kept" "[I"] ++ wsX60)
def wsX6_within : List Cond := .code yX6_within cX6_within 3 (some .boolean) :: ([])
def wsX6_isIn : List Cond := .code yX6_isIn cX6_isIn 2 (some .boolean) :: ([])
def wsX6_letter : List Cond := .code yX6_letter cX6_letter 2 (some .int) :: ([.fieldLink RX6 48 "BuyersWeightsModel" "pageLength" "I", .fieldLink RX6 34 "BuyersWeightsModel" "page" "[B", .methodLink RX6 44 yX6_within, .static yX6_within, .initialized RX6, .code yX6_within cX6_within 3 (some .boolean)] ++ wsX60)
def wsX6_blank : List Cond := .code yX6_blank cX6_blank 2 (some .int) :: ([.fieldLink RX6 48 "BuyersWeightsModel" "pageLength" "I"] ++ wsX60)
def wsX6_kindBy : List Cond := .code yX6_kindBy cX6_kindBy 1 (some .int) :: ([])
def wsX6_isFigure : List Cond := .code yX6_isFigure cX6_isFigure 4 (some .boolean) :: ([.fieldLink RX6 48 "BuyersWeightsModel" "pageLength" "I", .fieldLink RX6 34 "BuyersWeightsModel" "page" "[B", .methodLink RX6 44 yX6_within, .static yX6_within, .initialized RX6, .code yX6_within cX6_within 3 (some .boolean)] ++ wsX60)
def wsX6_readOne : List Cond := .code yX6_readOne cX6_readOne 2 (some .int) :: ([.fieldLink RX6 48 "BuyersWeightsModel" "pageLength" "I", .fieldLink RX6 34 "BuyersWeightsModel" "page" "[B", .methodLink RX6 52 yX6_kindBy, .static yX6_kindBy, .initialized RX6, .code yX6_kindBy cX6_kindBy 1 (some .int), .methodLink RX6 56 yX6_isFigure, .instanceMethod yX6_isFigure, .selects RX6 yX6_isFigure yX6_isFigure, .code yX6_isFigure cX6_isFigure 4 (some .boolean), .methodLink RX6 44 yX6_within, .static yX6_within, .code yX6_within cX6_within 3 (some .boolean)] ++ wsX60)
def wsX6_read : List Cond := .code yX6_read cX6_read 3 (some .int) :: ([.fieldLink RX6 59 "BuyersWeightsModel" "isWhole" "Z", .fieldLink RX6 63 "BuyersWeightsModel" "newMany" "I", .fieldLink RX6 48 "BuyersWeightsModel" "pageLength" "I", .fieldLink RX6 34 "BuyersWeightsModel" "page" "[B", .methodLink RX6 66 yX6_readOne, .instanceMethod yX6_readOne, .selects RX6 yX6_readOne yX6_readOne, .initialized RX6, .code yX6_readOne cX6_readOne 2 (some .int), .methodLink RX6 52 yX6_kindBy, .static yX6_kindBy, .code yX6_kindBy cX6_kindBy 1 (some .int), .methodLink RX6 56 yX6_isFigure, .instanceMethod yX6_isFigure, .selects RX6 yX6_isFigure yX6_isFigure, .code yX6_isFigure cX6_isFigure 4 (some .boolean), .methodLink RX6 44 yX6_within, .static yX6_within, .code yX6_within cX6_within 3 (some .boolean)] ++ wsX60)
def wsX6_fault : List Cond := .code yX6_fault cX6_fault 1 (some .int) :: ([.methodLink RX6 69 yX6_read, .instanceMethod yX6_read, .selects RX6 yX6_read yX6_read, .initialized RX6, .code yX6_read cX6_read 3 (some .int), .fieldLink RX6 59 "BuyersWeightsModel" "isWhole" "Z", .fieldLink RX6 63 "BuyersWeightsModel" "newMany" "I", .fieldLink RX6 48 "BuyersWeightsModel" "pageLength" "I", .fieldLink RX6 34 "BuyersWeightsModel" "page" "[B", .methodLink RX6 66 yX6_readOne, .instanceMethod yX6_readOne, .selects RX6 yX6_readOne yX6_readOne, .code yX6_readOne cX6_readOne 2 (some .int), .methodLink RX6 52 yX6_kindBy, .static yX6_kindBy, .code yX6_kindBy cX6_kindBy 1 (some .int), .methodLink RX6 56 yX6_isFigure, .instanceMethod yX6_isFigure, .selects RX6 yX6_isFigure yX6_isFigure, .code yX6_isFigure cX6_isFigure 4 (some .boolean), .methodLink RX6 44 yX6_within, .static yX6_within, .code yX6_within cX6_within 3 (some .boolean)] ++ wsX60)
def wsX6_market_r1 : List Cond := [Cond.fieldLink RX6 59 "BuyersWeightsModel" "isWhole" "Z", Cond.fieldLink RX6 63 "BuyersWeightsModel" "newMany" "I", Cond.fieldLink RX6 73 "BuyersWeightsModel" "houses" "I", Cond.fieldLink RX6 34 "BuyersWeightsModel" "page" "[B", Cond.fieldLink RX6 76 "BuyersWeightsModel" "tilt" "I", Cond.fieldLink RX6 7 "BuyersWeightsModel" "kindOf" "[I", Cond.fieldLink RX6 13 "BuyersWeightsModel" "weighsOf" "[I", Cond.fieldLink RX6 16 "BuyersWeightsModel" "coinOf" "[I", Cond.fieldLink RX6 19 "BuyersWeightsModel" "gotOf" "[I", Cond.fieldLink RX6 22 "BuyersWeightsModel" "paidOf" "[I", Cond.fieldLink RX6 25 "BuyersWeightsModel" "dealtOf" "[I", Cond.fieldLink RX6 28 "BuyersWeightsModel" "usedOf" "[I", Cond.fieldLink RX6 31 "BuyersWeightsModel" "handsOf" "[I", Cond.fieldLink RX6 79 "BuyersWeightsModel" "marketMany" "I", Cond.fieldLink RX6 82 "BuyersWeightsModel" "hour" "I", Cond.fieldLink RX6 85 "BuyersWeightsModel" "sales" "I", Cond.fieldLink RX6 88 "BuyersWeightsModel" "hands" "I", Cond.fieldLink RX6 91 "BuyersWeightsModel" "lost" "I", Cond.fieldLink RX6 48 "BuyersWeightsModel" "pageLength" "I", Cond.methodLink RX6 69 yX6_read, Cond.instanceMethod yX6_read, Cond.selects RX6 yX6_read yX6_read, Cond.initialized RX6, Cond.code yX6_read cX6_read 3 (some .int)]
def wsX6_market_r2 : List Cond := [Cond.methodLink RX6 66 yX6_readOne, Cond.instanceMethod yX6_readOne, Cond.selects RX6 yX6_readOne yX6_readOne, Cond.code yX6_readOne cX6_readOne 2 (some .int), Cond.methodLink RX6 52 yX6_kindBy, Cond.static yX6_kindBy, Cond.code yX6_kindBy cX6_kindBy 1 (some .int), Cond.methodLink RX6 56 yX6_isFigure, Cond.instanceMethod yX6_isFigure, Cond.selects RX6 yX6_isFigure yX6_isFigure, Cond.code yX6_isFigure cX6_isFigure 4 (some .boolean), Cond.methodLink RX6 44 yX6_within, Cond.static yX6_within, Cond.code yX6_within cX6_within 3 (some .boolean)]
def wsX6_market : List Cond := .code yX6_market cX6_market 3 (some .int) :: ((wsX6_market_r1 ++ wsX6_market_r2) ++ wsX60)
def wsX6_isHouse : List Cond := .code yX6_isHouse cX6_isHouse 2 (some .boolean) :: ([.fieldLink RX6 73 "BuyersWeightsModel" "houses" "I", .methodLink RX6 44 yX6_within, .static yX6_within, .initialized RX6, .code yX6_within cX6_within 3 (some .boolean)] ++ wsX60)
def wsX6_houseNow : List Cond := .code yX6_houseNow cX6_houseNow 3 (some .int) :: ([.fieldLink RX6 7 "BuyersWeightsModel" "kindOf" "[I", .fieldLink RX6 13 "BuyersWeightsModel" "weighsOf" "[I", .fieldLink RX6 16 "BuyersWeightsModel" "coinOf" "[I", .fieldLink RX6 19 "BuyersWeightsModel" "gotOf" "[I", .fieldLink RX6 22 "BuyersWeightsModel" "paidOf" "[I", .fieldLink RX6 25 "BuyersWeightsModel" "dealtOf" "[I", .fieldLink RX6 28 "BuyersWeightsModel" "usedOf" "[I"] ++ wsX60)
def wsX6_about : List Cond := .code yX6_about cX6_about 3 (some .int) :: ([.methodLink RX6 94 yX6_isHouse, .instanceMethod yX6_isHouse, .selects RX6 yX6_isHouse yX6_isHouse, .initialized RX6, .code yX6_isHouse cX6_isHouse 2 (some .boolean), .fieldLink RX6 73 "BuyersWeightsModel" "houses" "I", .methodLink RX6 44 yX6_within, .static yX6_within, .code yX6_within cX6_within 3 (some .boolean), .methodLink RX6 98 yX6_houseNow, .instanceMethod yX6_houseNow, .selects RX6 yX6_houseNow yX6_houseNow, .code yX6_houseNow cX6_houseNow 3 (some .int), .fieldLink RX6 7 "BuyersWeightsModel" "kindOf" "[I", .fieldLink RX6 13 "BuyersWeightsModel" "weighsOf" "[I", .fieldLink RX6 16 "BuyersWeightsModel" "coinOf" "[I", .fieldLink RX6 19 "BuyersWeightsModel" "gotOf" "[I", .fieldLink RX6 22 "BuyersWeightsModel" "paidOf" "[I", .fieldLink RX6 25 "BuyersWeightsModel" "dealtOf" "[I", .fieldLink RX6 28 "BuyersWeightsModel" "usedOf" "[I"] ++ wsX60)
def wsX6_as : List Cond := .code yX6_as cX6_as 4 (some .int) :: ([.fieldLink RX6 7 "BuyersWeightsModel" "kindOf" "[I", .methodLink RX6 94 yX6_isHouse, .instanceMethod yX6_isHouse, .selects RX6 yX6_isHouse yX6_isHouse, .initialized RX6, .code yX6_isHouse cX6_isHouse 2 (some .boolean), .fieldLink RX6 73 "BuyersWeightsModel" "houses" "I", .methodLink RX6 44 yX6_within, .static yX6_within, .code yX6_within cX6_within 3 (some .boolean)] ++ wsX60)
def wsX6_ounces : List Cond := .code yX6_ounces cX6_ounces 5 (some .int) :: ([.fieldLink RX6 13 "BuyersWeightsModel" "weighsOf" "[I", .fieldLink RX6 76 "BuyersWeightsModel" "tilt" "I", .fieldLink RX6 7 "BuyersWeightsModel" "kindOf" "[I"] ++ wsX60)
def wsX6_wear : List Cond := .code yX6_wear cX6_wear 4 none :: ([.fieldLink RX6 7 "BuyersWeightsModel" "kindOf" "[I", .fieldLink RX6 13 "BuyersWeightsModel" "weighsOf" "[I"] ++ wsX60)
def wsX6_isSale : List Cond := .code yX6_isSale cX6_isSale 4 (some .boolean) :: ([.methodLink RX6 94 yX6_isHouse, .instanceMethod yX6_isHouse, .selects RX6 yX6_isHouse yX6_isHouse, .initialized RX6, .code yX6_isHouse cX6_isHouse 2 (some .boolean), .fieldLink RX6 73 "BuyersWeightsModel" "houses" "I", .methodLink RX6 44 yX6_within, .static yX6_within, .code yX6_within cX6_within 3 (some .boolean)] ++ wsX60)
def wsX6_measure : List Cond := .code yX6_measure cX6_measure 4 (some .int) :: ([.fieldLink RX6 82 "BuyersWeightsModel" "hour" "I", .methodLink RX6 102 yX6_isSale, .instanceMethod yX6_isSale, .selects RX6 yX6_isSale yX6_isSale, .initialized RX6, .code yX6_isSale cX6_isSale 4 (some .boolean), .methodLink RX6 94 yX6_isHouse, .instanceMethod yX6_isHouse, .selects RX6 yX6_isHouse yX6_isHouse, .code yX6_isHouse cX6_isHouse 2 (some .boolean), .fieldLink RX6 73 "BuyersWeightsModel" "houses" "I", .methodLink RX6 44 yX6_within, .static yX6_within, .code yX6_within cX6_within 3 (some .boolean), .methodLink RX6 105 yX6_ounces, .instanceMethod yX6_ounces, .selects RX6 yX6_ounces yX6_ounces, .code yX6_ounces cX6_ounces 5 (some .int), .fieldLink RX6 13 "BuyersWeightsModel" "weighsOf" "[I", .fieldLink RX6 76 "BuyersWeightsModel" "tilt" "I", .fieldLink RX6 7 "BuyersWeightsModel" "kindOf" "[I"] ++ wsX60)
def wsX6_buy_r1 : List Cond := [Cond.fieldLink RX6 85 "BuyersWeightsModel" "sales" "I", Cond.fieldLink RX6 82 "BuyersWeightsModel" "hour" "I", Cond.fieldLink RX6 19 "BuyersWeightsModel" "gotOf" "[I", Cond.fieldLink RX6 22 "BuyersWeightsModel" "paidOf" "[I", Cond.fieldLink RX6 16 "BuyersWeightsModel" "coinOf" "[I", Cond.fieldLink RX6 25 "BuyersWeightsModel" "dealtOf" "[I", Cond.fieldLink RX6 28 "BuyersWeightsModel" "usedOf" "[I", Cond.methodLink RX6 102 yX6_isSale, Cond.instanceMethod yX6_isSale, Cond.selects RX6 yX6_isSale yX6_isSale, Cond.initialized RX6, Cond.code yX6_isSale cX6_isSale 4 (some .boolean), Cond.methodLink RX6 94 yX6_isHouse, Cond.instanceMethod yX6_isHouse, Cond.selects RX6 yX6_isHouse yX6_isHouse, Cond.code yX6_isHouse cX6_isHouse 2 (some .boolean), Cond.fieldLink RX6 73 "BuyersWeightsModel" "houses" "I", Cond.methodLink RX6 44 yX6_within, Cond.static yX6_within, Cond.code yX6_within cX6_within 3 (some .boolean), Cond.methodLink RX6 105 yX6_ounces, Cond.instanceMethod yX6_ounces, Cond.selects RX6 yX6_ounces yX6_ounces, Cond.code yX6_ounces cX6_ounces 5 (some .int)]
def wsX6_buy_r2 : List Cond := [Cond.fieldLink RX6 13 "BuyersWeightsModel" "weighsOf" "[I", Cond.fieldLink RX6 76 "BuyersWeightsModel" "tilt" "I", Cond.fieldLink RX6 7 "BuyersWeightsModel" "kindOf" "[I", Cond.methodLink RX6 109 yX6_wear, Cond.instanceMethod yX6_wear, Cond.selects RX6 yX6_wear yX6_wear, Cond.code yX6_wear cX6_wear 4 none]
def wsX6_buy : List Cond := .code yX6_buy cX6_buy 5 (some .int) :: ((wsX6_buy_r1 ++ wsX6_buy_r2) ++ wsX60)
def wsX6_hour : List Cond := .code yX6_hour cX6_hour 1 (some .int) :: ([.fieldLink RX6 73 "BuyersWeightsModel" "houses" "I", .fieldLink RX6 82 "BuyersWeightsModel" "hour" "I"] ++ wsX60)
def wsX6_save : List Cond := .code yX6_save cX6_save 2 none :: ([.fieldLink RX6 38 "BuyersWeightsModel" "saved" "[I", .fieldLink RX6 13 "BuyersWeightsModel" "weighsOf" "[I"] ++ wsX60)
def wsX6_load : List Cond := .code yX6_load cX6_load 2 none :: ([.fieldLink RX6 13 "BuyersWeightsModel" "weighsOf" "[I", .fieldLink RX6 38 "BuyersWeightsModel" "saved" "[I"] ++ wsX60)
def wsX6_paidBy_r1 : List Cond := [Cond.fieldLink RX6 82 "BuyersWeightsModel" "hour" "I", Cond.fieldLink RX6 16 "BuyersWeightsModel" "coinOf" "[I", Cond.constant RX6 116 (268435456), Cond.methodLink RX6 102 yX6_isSale, Cond.instanceMethod yX6_isSale, Cond.selects RX6 yX6_isSale yX6_isSale, Cond.initialized RX6, Cond.code yX6_isSale cX6_isSale 4 (some .boolean), Cond.methodLink RX6 94 yX6_isHouse, Cond.instanceMethod yX6_isHouse, Cond.selects RX6 yX6_isHouse yX6_isHouse, Cond.code yX6_isHouse cX6_isHouse 2 (some .boolean), Cond.fieldLink RX6 73 "BuyersWeightsModel" "houses" "I", Cond.methodLink RX6 44 yX6_within, Cond.static yX6_within, Cond.code yX6_within cX6_within 3 (some .boolean), Cond.methodLink RX6 105 yX6_ounces, Cond.instanceMethod yX6_ounces, Cond.selects RX6 yX6_ounces yX6_ounces, Cond.code yX6_ounces cX6_ounces 5 (some .int), Cond.fieldLink RX6 13 "BuyersWeightsModel" "weighsOf" "[I", Cond.fieldLink RX6 76 "BuyersWeightsModel" "tilt" "I", Cond.fieldLink RX6 7 "BuyersWeightsModel" "kindOf" "[I", Cond.methodLink RX6 109 yX6_wear]
def wsX6_paidBy_r2 : List Cond := [Cond.instanceMethod yX6_wear, Cond.selects RX6 yX6_wear yX6_wear, Cond.code yX6_wear cX6_wear 4 none, Cond.methodLink RX6 113 yX6_load, Cond.instanceMethod yX6_load, Cond.selects RX6 yX6_load yX6_load, Cond.code yX6_load cX6_load 2 none, Cond.fieldLink RX6 38 "BuyersWeightsModel" "saved" "[I"]
def wsX6_paidBy : List Cond := .code yX6_paidBy cX6_paidBy 12 (some .int) :: ((wsX6_paidBy_r1 ++ wsX6_paidBy_r2) ++ wsX60)
def wsX6_planNow_r1 : List Cond := [Cond.constant RX6 116 (268435456), Cond.methodLink RX6 117 yX6_save, Cond.instanceMethod yX6_save, Cond.selects RX6 yX6_save yX6_save, Cond.initialized RX6, Cond.code yX6_save cX6_save 2 none, Cond.fieldLink RX6 38 "BuyersWeightsModel" "saved" "[I", Cond.fieldLink RX6 13 "BuyersWeightsModel" "weighsOf" "[I", Cond.methodLink RX6 120 yX6_paidBy, Cond.instanceMethod yX6_paidBy, Cond.selects RX6 yX6_paidBy yX6_paidBy, Cond.code yX6_paidBy cX6_paidBy 12 (some .int), Cond.fieldLink RX6 82 "BuyersWeightsModel" "hour" "I", Cond.fieldLink RX6 16 "BuyersWeightsModel" "coinOf" "[I", Cond.methodLink RX6 102 yX6_isSale, Cond.instanceMethod yX6_isSale, Cond.selects RX6 yX6_isSale yX6_isSale, Cond.code yX6_isSale cX6_isSale 4 (some .boolean), Cond.methodLink RX6 94 yX6_isHouse, Cond.instanceMethod yX6_isHouse, Cond.selects RX6 yX6_isHouse yX6_isHouse, Cond.code yX6_isHouse cX6_isHouse 2 (some .boolean), Cond.fieldLink RX6 73 "BuyersWeightsModel" "houses" "I", Cond.methodLink RX6 44 yX6_within]
def wsX6_planNow_r2 : List Cond := [Cond.static yX6_within, Cond.code yX6_within cX6_within 3 (some .boolean), Cond.methodLink RX6 105 yX6_ounces, Cond.instanceMethod yX6_ounces, Cond.selects RX6 yX6_ounces yX6_ounces, Cond.code yX6_ounces cX6_ounces 5 (some .int), Cond.fieldLink RX6 76 "BuyersWeightsModel" "tilt" "I", Cond.fieldLink RX6 7 "BuyersWeightsModel" "kindOf" "[I", Cond.methodLink RX6 109 yX6_wear, Cond.instanceMethod yX6_wear, Cond.selects RX6 yX6_wear yX6_wear, Cond.code yX6_wear cX6_wear 4 none, Cond.methodLink RX6 113 yX6_load, Cond.instanceMethod yX6_load, Cond.selects RX6 yX6_load yX6_load, Cond.code yX6_load cX6_load 2 none]
def wsX6_planNow : List Cond := .code yX6_planNow cX6_planNow 10 (some .int) :: ((wsX6_planNow_r1 ++ wsX6_planNow_r2) ++ wsX60)
def wsX6_plan_r1 : List Cond := [Cond.fieldLink RX6 124 "BuyersWeightsModel" "asks" "I", Cond.methodLink RX6 94 yX6_isHouse, Cond.instanceMethod yX6_isHouse, Cond.selects RX6 yX6_isHouse yX6_isHouse, Cond.initialized RX6, Cond.code yX6_isHouse cX6_isHouse 2 (some .boolean), Cond.fieldLink RX6 73 "BuyersWeightsModel" "houses" "I", Cond.methodLink RX6 44 yX6_within, Cond.static yX6_within, Cond.code yX6_within cX6_within 3 (some .boolean), Cond.methodLink RX6 127 yX6_planNow, Cond.instanceMethod yX6_planNow, Cond.selects RX6 yX6_planNow yX6_planNow, Cond.code yX6_planNow cX6_planNow 10 (some .int), Cond.constant RX6 116 (268435456), Cond.methodLink RX6 117 yX6_save, Cond.instanceMethod yX6_save, Cond.selects RX6 yX6_save yX6_save, Cond.code yX6_save cX6_save 2 none, Cond.fieldLink RX6 38 "BuyersWeightsModel" "saved" "[I", Cond.fieldLink RX6 13 "BuyersWeightsModel" "weighsOf" "[I", Cond.methodLink RX6 120 yX6_paidBy, Cond.instanceMethod yX6_paidBy, Cond.selects RX6 yX6_paidBy yX6_paidBy]
def wsX6_plan_r2 : List Cond := [Cond.code yX6_paidBy cX6_paidBy 12 (some .int), Cond.fieldLink RX6 82 "BuyersWeightsModel" "hour" "I", Cond.fieldLink RX6 16 "BuyersWeightsModel" "coinOf" "[I", Cond.methodLink RX6 102 yX6_isSale, Cond.instanceMethod yX6_isSale, Cond.selects RX6 yX6_isSale yX6_isSale, Cond.code yX6_isSale cX6_isSale 4 (some .boolean), Cond.methodLink RX6 105 yX6_ounces, Cond.instanceMethod yX6_ounces, Cond.selects RX6 yX6_ounces yX6_ounces, Cond.code yX6_ounces cX6_ounces 5 (some .int), Cond.fieldLink RX6 76 "BuyersWeightsModel" "tilt" "I", Cond.fieldLink RX6 7 "BuyersWeightsModel" "kindOf" "[I", Cond.methodLink RX6 109 yX6_wear, Cond.instanceMethod yX6_wear, Cond.selects RX6 yX6_wear yX6_wear, Cond.code yX6_wear cX6_wear 4 none, Cond.methodLink RX6 113 yX6_load, Cond.instanceMethod yX6_load, Cond.selects RX6 yX6_load yX6_load, Cond.code yX6_load cX6_load 2 none]
def wsX6_plan : List Cond := .code yX6_plan cX6_plan 4 (some .int) :: ((wsX6_plan_r1 ++ wsX6_plan_r2) ++ wsX60)
def wsX6_fairNow : List Cond := .code yX6_fairNow cX6_fairNow 6 (some .int) :: ([.fieldLink RX6 82 "BuyersWeightsModel" "hour" "I", .fieldLink RX6 73 "BuyersWeightsModel" "houses" "I", .fieldLink RX6 16 "BuyersWeightsModel" "coinOf" "[I", .methodLink RX6 105 yX6_ounces, .instanceMethod yX6_ounces, .selects RX6 yX6_ounces yX6_ounces, .initialized RX6, .code yX6_ounces cX6_ounces 5 (some .int), .fieldLink RX6 13 "BuyersWeightsModel" "weighsOf" "[I", .fieldLink RX6 76 "BuyersWeightsModel" "tilt" "I", .fieldLink RX6 7 "BuyersWeightsModel" "kindOf" "[I"] ++ wsX60)
def wsX6_fair : List Cond := .code yX6_fair cX6_fair 3 (some .int) :: ([.methodLink RX6 94 yX6_isHouse, .instanceMethod yX6_isHouse, .selects RX6 yX6_isHouse yX6_isHouse, .initialized RX6, .code yX6_isHouse cX6_isHouse 2 (some .boolean), .fieldLink RX6 73 "BuyersWeightsModel" "houses" "I", .methodLink RX6 44 yX6_within, .static yX6_within, .code yX6_within cX6_within 3 (some .boolean), .methodLink RX6 130 yX6_fairNow, .instanceMethod yX6_fairNow, .selects RX6 yX6_fairNow yX6_fairNow, .code yX6_fairNow cX6_fairNow 6 (some .int), .fieldLink RX6 82 "BuyersWeightsModel" "hour" "I", .fieldLink RX6 16 "BuyersWeightsModel" "coinOf" "[I", .methodLink RX6 105 yX6_ounces, .instanceMethod yX6_ounces, .selects RX6 yX6_ounces yX6_ounces, .code yX6_ounces cX6_ounces 5 (some .int), .fieldLink RX6 13 "BuyersWeightsModel" "weighsOf" "[I", .fieldLink RX6 76 "BuyersWeightsModel" "tilt" "I", .fieldLink RX6 7 "BuyersWeightsModel" "kindOf" "[I"] ++ wsX60)
def wsX6_pass : List Cond := .code yX6_pass cX6_pass 2 (some .int) :: ([.fieldLink RX6 88 "BuyersWeightsModel" "hands" "I", .fieldLink RX6 31 "BuyersWeightsModel" "handsOf" "[I", .methodLink RX6 94 yX6_isHouse, .instanceMethod yX6_isHouse, .selects RX6 yX6_isHouse yX6_isHouse, .initialized RX6, .code yX6_isHouse cX6_isHouse 2 (some .boolean), .fieldLink RX6 73 "BuyersWeightsModel" "houses" "I", .methodLink RX6 44 yX6_within, .static yX6_within, .code yX6_within cX6_within 3 (some .boolean)] ++ wsX60)
def wsX6_lose : List Cond := .code yX6_lose cX6_lose 3 (some .int) :: ([.fieldLink RX6 91 "BuyersWeightsModel" "lost" "I", .methodLink RX6 44 yX6_within, .static yX6_within, .initialized RX6, .code yX6_within cX6_within 3 (some .boolean)] ++ wsX60)
def wsX6_clear : List Cond := .code yX6_clear cX6_clear 3 (some .int) :: ([.fieldLink RX6 88 "BuyersWeightsModel" "hands" "I", .fieldLink RX6 91 "BuyersWeightsModel" "lost" "I", .fieldLink RX6 31 "BuyersWeightsModel" "handsOf" "[I"] ++ wsX60)
def wsX6_isRubbed : List Cond := .code yX6_isRubbed cX6_isRubbed 4 (some .boolean) :: ([.fieldLink RX6 73 "BuyersWeightsModel" "houses" "I", .fieldLink RX6 31 "BuyersWeightsModel" "handsOf" "[I", .fieldLink RX6 91 "BuyersWeightsModel" "lost" "I", .methodLink RX6 133 yX6_isIn, .static yX6_isIn, .initialized RX6, .code yX6_isIn cX6_isIn 2 (some .boolean)] ++ wsX60)
def wsX6_rubbedNow : List Cond := .code yX6_rubbedNow cX6_rubbedNow 7 (some .int) :: ([.fieldLink RX6 73 "BuyersWeightsModel" "houses" "I", .methodLink RX6 137 yX6_isRubbed, .instanceMethod yX6_isRubbed, .selects RX6 yX6_isRubbed yX6_isRubbed, .initialized RX6, .code yX6_isRubbed cX6_isRubbed 4 (some .boolean), .fieldLink RX6 31 "BuyersWeightsModel" "handsOf" "[I", .fieldLink RX6 91 "BuyersWeightsModel" "lost" "I", .methodLink RX6 133 yX6_isIn, .static yX6_isIn, .code yX6_isIn cX6_isIn 2 (some .boolean)] ++ wsX60)
def wsX6_rubbed : List Cond := .code yX6_rubbed cX6_rubbed 2 (some .int) :: ([.fieldLink RX6 73 "BuyersWeightsModel" "houses" "I", .methodLink RX6 44 yX6_within, .static yX6_within, .initialized RX6, .code yX6_within cX6_within 3 (some .boolean), .methodLink RX6 140 yX6_rubbedNow, .instanceMethod yX6_rubbedNow, .selects RX6 yX6_rubbedNow yX6_rubbedNow, .code yX6_rubbedNow cX6_rubbedNow 7 (some .int), .methodLink RX6 137 yX6_isRubbed, .instanceMethod yX6_isRubbed, .selects RX6 yX6_isRubbed yX6_isRubbed, .code yX6_isRubbed cX6_isRubbed 4 (some .boolean), .fieldLink RX6 31 "BuyersWeightsModel" "handsOf" "[I", .fieldLink RX6 91 "BuyersWeightsModel" "lost" "I", .methodLink RX6 133 yX6_isIn, .static yX6_isIn, .code yX6_isIn cX6_isIn 2 (some .boolean)] ++ wsX60)
def wsX6_watchNow : List Cond := .code yX6_watchNow cX6_watchNow 7 (some .int) :: ([.constant RX6 116 (268435456), .fieldLink RX6 73 "BuyersWeightsModel" "houses" "I", .methodLink RX6 140 yX6_rubbedNow, .instanceMethod yX6_rubbedNow, .selects RX6 yX6_rubbedNow yX6_rubbedNow, .initialized RX6, .code yX6_rubbedNow cX6_rubbedNow 7 (some .int), .methodLink RX6 137 yX6_isRubbed, .instanceMethod yX6_isRubbed, .selects RX6 yX6_isRubbed yX6_isRubbed, .code yX6_isRubbed cX6_isRubbed 4 (some .boolean), .fieldLink RX6 31 "BuyersWeightsModel" "handsOf" "[I", .fieldLink RX6 91 "BuyersWeightsModel" "lost" "I", .methodLink RX6 133 yX6_isIn, .static yX6_isIn, .code yX6_isIn cX6_isIn 2 (some .boolean)] ++ wsX60)
def wsX6_watch : List Cond := .code yX6_watch cX6_watch 1 (some .int) :: ([.fieldLink RX6 73 "BuyersWeightsModel" "houses" "I", .methodLink RX6 143 yX6_watchNow, .instanceMethod yX6_watchNow, .selects RX6 yX6_watchNow yX6_watchNow, .initialized RX6, .code yX6_watchNow cX6_watchNow 7 (some .int), .constant RX6 116 (268435456), .methodLink RX6 140 yX6_rubbedNow, .instanceMethod yX6_rubbedNow, .selects RX6 yX6_rubbedNow yX6_rubbedNow, .code yX6_rubbedNow cX6_rubbedNow 7 (some .int), .methodLink RX6 137 yX6_isRubbed, .instanceMethod yX6_isRubbed, .selects RX6 yX6_isRubbed yX6_isRubbed, .code yX6_isRubbed cX6_isRubbed 4 (some .boolean), .fieldLink RX6 31 "BuyersWeightsModel" "handsOf" "[I", .fieldLink RX6 91 "BuyersWeightsModel" "lost" "I", .methodLink RX6 133 yX6_isIn, .static yX6_isIn, .code yX6_isIn cX6_isIn 2 (some .boolean)] ++ wsX60)
def wsX6_draw : List Cond := .code yX6_draw cX6_draw 2 (some .int) :: ([.constantLong RX6 146 (1103515245), .fieldLink RX6 148 "BuyersWeightsModel" "seedNow" "J", .constantLong RX6 152 (12345), .constantLong RX6 154 (2147483647), .constantLong RX6 156 (65536)] ++ wsX60)
def wsX6_weighsAll : List Cond := .code yX6_weighsAll cX6_weighsAll 3 (some .int) :: ([.fieldLink RX6 73 "BuyersWeightsModel" "houses" "I", .fieldLink RX6 13 "BuyersWeightsModel" "weighsOf" "[I"] ++ wsX60)
def wsX6_marketsNow_r1 : List Cond := [Cond.fieldLink RX6 148 "BuyersWeightsModel" "seedNow" "J", Cond.fieldLink RX6 73 "BuyersWeightsModel" "houses" "I", Cond.fieldLink RX6 82 "BuyersWeightsModel" "hour" "I", Cond.methodLink RX6 117 yX6_save, Cond.instanceMethod yX6_save, Cond.selects RX6 yX6_save yX6_save, Cond.initialized RX6, Cond.code yX6_save cX6_save 2 none, Cond.fieldLink RX6 38 "BuyersWeightsModel" "saved" "[I", Cond.fieldLink RX6 13 "BuyersWeightsModel" "weighsOf" "[I", Cond.methodLink RX6 158 yX6_draw, Cond.instanceMethod yX6_draw, Cond.selects RX6 yX6_draw yX6_draw, Cond.code yX6_draw cX6_draw 2 (some .int), Cond.constantLong RX6 146 (1103515245), Cond.constantLong RX6 152 (12345), Cond.constantLong RX6 154 (2147483647), Cond.constantLong RX6 156 (65536), Cond.methodLink RX6 105 yX6_ounces, Cond.instanceMethod yX6_ounces, Cond.selects RX6 yX6_ounces yX6_ounces, Cond.code yX6_ounces cX6_ounces 5 (some .int), Cond.fieldLink RX6 76 "BuyersWeightsModel" "tilt" "I", Cond.fieldLink RX6 7 "BuyersWeightsModel" "kindOf" "[I"]
def wsX6_marketsNow_r2 : List Cond := [Cond.methodLink RX6 109 yX6_wear, Cond.instanceMethod yX6_wear, Cond.selects RX6 yX6_wear yX6_wear, Cond.code yX6_wear cX6_wear 4 none, Cond.methodLink RX6 161 yX6_weighsAll, Cond.instanceMethod yX6_weighsAll, Cond.selects RX6 yX6_weighsAll yX6_weighsAll, Cond.code yX6_weighsAll cX6_weighsAll 3 (some .int), Cond.methodLink RX6 113 yX6_load, Cond.instanceMethod yX6_load, Cond.selects RX6 yX6_load yX6_load, Cond.code yX6_load cX6_load 2 none]
def wsX6_marketsNow : List Cond := .code yX6_marketsNow cX6_marketsNow 9 (some .int) :: ((wsX6_marketsNow_r1 ++ wsX6_marketsNow_r2) ++ wsX60)
def wsX6_markets_r1 : List Cond := [Cond.fieldLink RX6 73 "BuyersWeightsModel" "houses" "I", Cond.methodLink RX6 44 yX6_within, Cond.static yX6_within, Cond.initialized RX6, Cond.code yX6_within cX6_within 3 (some .boolean), Cond.methodLink RX6 164 yX6_marketsNow, Cond.instanceMethod yX6_marketsNow, Cond.selects RX6 yX6_marketsNow yX6_marketsNow, Cond.code yX6_marketsNow cX6_marketsNow 9 (some .int), Cond.fieldLink RX6 148 "BuyersWeightsModel" "seedNow" "J", Cond.fieldLink RX6 82 "BuyersWeightsModel" "hour" "I", Cond.methodLink RX6 117 yX6_save, Cond.instanceMethod yX6_save, Cond.selects RX6 yX6_save yX6_save, Cond.code yX6_save cX6_save 2 none, Cond.fieldLink RX6 38 "BuyersWeightsModel" "saved" "[I", Cond.fieldLink RX6 13 "BuyersWeightsModel" "weighsOf" "[I", Cond.methodLink RX6 158 yX6_draw, Cond.instanceMethod yX6_draw, Cond.selects RX6 yX6_draw yX6_draw, Cond.code yX6_draw cX6_draw 2 (some .int), Cond.constantLong RX6 146 (1103515245), Cond.constantLong RX6 152 (12345), Cond.constantLong RX6 154 (2147483647)]
def wsX6_markets_r2 : List Cond := [Cond.constantLong RX6 156 (65536), Cond.methodLink RX6 105 yX6_ounces, Cond.instanceMethod yX6_ounces, Cond.selects RX6 yX6_ounces yX6_ounces, Cond.code yX6_ounces cX6_ounces 5 (some .int), Cond.fieldLink RX6 76 "BuyersWeightsModel" "tilt" "I", Cond.fieldLink RX6 7 "BuyersWeightsModel" "kindOf" "[I", Cond.methodLink RX6 109 yX6_wear, Cond.instanceMethod yX6_wear, Cond.selects RX6 yX6_wear yX6_wear, Cond.code yX6_wear cX6_wear 4 none, Cond.methodLink RX6 161 yX6_weighsAll, Cond.instanceMethod yX6_weighsAll, Cond.selects RX6 yX6_weighsAll yX6_weighsAll, Cond.code yX6_weighsAll cX6_weighsAll 3 (some .int), Cond.methodLink RX6 113 yX6_load, Cond.instanceMethod yX6_load, Cond.selects RX6 yX6_load yX6_load, Cond.code yX6_load cX6_load 2 none]
def wsX6_markets : List Cond := .code yX6_markets cX6_markets 4 (some .int) :: ((wsX6_markets_r1 ++ wsX6_markets_r2) ++ wsX60)
def wsX6_image : List Cond := .code yX6_image cX6_image 2 (some .int) :: ([.fieldLink RX6 73 "BuyersWeightsModel" "houses" "I", .fieldLink RX6 167 "BuyersWeightsModel" "isKept" "Z", .fieldLink RX6 79 "BuyersWeightsModel" "marketMany" "I", .fieldLink RX6 170 "BuyersWeightsModel" "keptMarket" "I", .fieldLink RX6 82 "BuyersWeightsModel" "hour" "I", .fieldLink RX6 173 "BuyersWeightsModel" "keptHour" "I", .fieldLink RX6 85 "BuyersWeightsModel" "sales" "I", .fieldLink RX6 176 "BuyersWeightsModel" "keptSales" "I", .fieldLink RX6 88 "BuyersWeightsModel" "hands" "I", .fieldLink RX6 179 "BuyersWeightsModel" "keptHands" "I", .fieldLink RX6 91 "BuyersWeightsModel" "lost" "I", .fieldLink RX6 182 "BuyersWeightsModel" "keptLost" "I", .fieldLink RX6 41 "BuyersWeightsModel" "kept" "[I", .fieldLink RX6 13 "BuyersWeightsModel" "weighsOf" "[I", .fieldLink RX6 19 "BuyersWeightsModel" "gotOf" "[I", .fieldLink RX6 22 "BuyersWeightsModel" "paidOf" "[I", .fieldLink RX6 25 "BuyersWeightsModel" "dealtOf" "[I", .fieldLink RX6 28 "BuyersWeightsModel" "usedOf" "[I", .fieldLink RX6 31 "BuyersWeightsModel" "handsOf" "[I"] ++ wsX60)
def wsX6_restore : List Cond := .code yX6_restore cX6_restore 2 (some .int) :: ([.fieldLink RX6 167 "BuyersWeightsModel" "isKept" "Z", .fieldLink RX6 170 "BuyersWeightsModel" "keptMarket" "I", .fieldLink RX6 79 "BuyersWeightsModel" "marketMany" "I", .fieldLink RX6 173 "BuyersWeightsModel" "keptHour" "I", .fieldLink RX6 82 "BuyersWeightsModel" "hour" "I", .fieldLink RX6 176 "BuyersWeightsModel" "keptSales" "I", .fieldLink RX6 85 "BuyersWeightsModel" "sales" "I", .fieldLink RX6 179 "BuyersWeightsModel" "keptHands" "I", .fieldLink RX6 88 "BuyersWeightsModel" "hands" "I", .fieldLink RX6 182 "BuyersWeightsModel" "keptLost" "I", .fieldLink RX6 91 "BuyersWeightsModel" "lost" "I", .fieldLink RX6 13 "BuyersWeightsModel" "weighsOf" "[I", .fieldLink RX6 41 "BuyersWeightsModel" "kept" "[I", .fieldLink RX6 19 "BuyersWeightsModel" "gotOf" "[I", .fieldLink RX6 22 "BuyersWeightsModel" "paidOf" "[I", .fieldLink RX6 25 "BuyersWeightsModel" "dealtOf" "[I", .fieldLink RX6 28 "BuyersWeightsModel" "usedOf" "[I", .fieldLink RX6 31 "BuyersWeightsModel" "handsOf" "[I"] ++ wsX60)
def wsX6_sum : List Cond := .code yX6_sum cX6_sum 4 (some .int) :: ([.fieldLink RX6 73 "BuyersWeightsModel" "houses" "I", .methodLink RX6 98 yX6_houseNow, .instanceMethod yX6_houseNow, .selects RX6 yX6_houseNow yX6_houseNow, .initialized RX6, .code yX6_houseNow cX6_houseNow 3 (some .int), .fieldLink RX6 7 "BuyersWeightsModel" "kindOf" "[I", .fieldLink RX6 13 "BuyersWeightsModel" "weighsOf" "[I", .fieldLink RX6 16 "BuyersWeightsModel" "coinOf" "[I", .fieldLink RX6 19 "BuyersWeightsModel" "gotOf" "[I", .fieldLink RX6 22 "BuyersWeightsModel" "paidOf" "[I", .fieldLink RX6 25 "BuyersWeightsModel" "dealtOf" "[I", .fieldLink RX6 28 "BuyersWeightsModel" "usedOf" "[I"] ++ wsX60)
def wsX6_howMany_r1 : List Cond := [Cond.fieldLink RX6 73 "BuyersWeightsModel" "houses" "I", Cond.fieldLink RX6 76 "BuyersWeightsModel" "tilt" "I", Cond.fieldLink RX6 82 "BuyersWeightsModel" "hour" "I", Cond.fieldLink RX6 85 "BuyersWeightsModel" "sales" "I", Cond.fieldLink RX6 88 "BuyersWeightsModel" "hands" "I", Cond.fieldLink RX6 91 "BuyersWeightsModel" "lost" "I", Cond.fieldLink RX6 48 "BuyersWeightsModel" "pageLength" "I", Cond.fieldLink RX6 79 "BuyersWeightsModel" "marketMany" "I", Cond.fieldLink RX6 124 "BuyersWeightsModel" "asks" "I", Cond.methodLink RX6 185 yX6_sum, Cond.instanceMethod yX6_sum, Cond.selects RX6 yX6_sum yX6_sum, Cond.initialized RX6, Cond.code yX6_sum cX6_sum 4 (some .int), Cond.methodLink RX6 98 yX6_houseNow, Cond.instanceMethod yX6_houseNow, Cond.selects RX6 yX6_houseNow yX6_houseNow, Cond.code yX6_houseNow cX6_houseNow 3 (some .int), Cond.fieldLink RX6 7 "BuyersWeightsModel" "kindOf" "[I", Cond.fieldLink RX6 13 "BuyersWeightsModel" "weighsOf" "[I", Cond.fieldLink RX6 16 "BuyersWeightsModel" "coinOf" "[I", Cond.fieldLink RX6 19 "BuyersWeightsModel" "gotOf" "[I", Cond.fieldLink RX6 22 "BuyersWeightsModel" "paidOf" "[I", Cond.fieldLink RX6 25 "BuyersWeightsModel" "dealtOf" "[I"]
def wsX6_howMany_r2 : List Cond := [Cond.fieldLink RX6 28 "BuyersWeightsModel" "usedOf" "[I", Cond.methodLink RX6 161 yX6_weighsAll, Cond.instanceMethod yX6_weighsAll, Cond.selects RX6 yX6_weighsAll yX6_weighsAll, Cond.code yX6_weighsAll cX6_weighsAll 3 (some .int)]
def wsX6_howMany : List Cond := .code yX6_howMany cX6_howMany 2 (some .int) :: ((wsX6_howMany_r1 ++ wsX6_howMany_r2) ++ wsX60)
def wsX6_count_r1 : List Cond := [Cond.methodLink RX6 188 yX6_howMany, Cond.instanceMethod yX6_howMany, Cond.selects RX6 yX6_howMany yX6_howMany, Cond.initialized RX6, Cond.code yX6_howMany cX6_howMany 2 (some .int), Cond.fieldLink RX6 73 "BuyersWeightsModel" "houses" "I", Cond.fieldLink RX6 76 "BuyersWeightsModel" "tilt" "I", Cond.fieldLink RX6 82 "BuyersWeightsModel" "hour" "I", Cond.fieldLink RX6 85 "BuyersWeightsModel" "sales" "I", Cond.fieldLink RX6 88 "BuyersWeightsModel" "hands" "I", Cond.fieldLink RX6 91 "BuyersWeightsModel" "lost" "I", Cond.fieldLink RX6 48 "BuyersWeightsModel" "pageLength" "I", Cond.fieldLink RX6 79 "BuyersWeightsModel" "marketMany" "I", Cond.fieldLink RX6 124 "BuyersWeightsModel" "asks" "I", Cond.methodLink RX6 185 yX6_sum, Cond.instanceMethod yX6_sum, Cond.selects RX6 yX6_sum yX6_sum, Cond.code yX6_sum cX6_sum 4 (some .int), Cond.methodLink RX6 98 yX6_houseNow, Cond.instanceMethod yX6_houseNow, Cond.selects RX6 yX6_houseNow yX6_houseNow, Cond.code yX6_houseNow cX6_houseNow 3 (some .int), Cond.fieldLink RX6 7 "BuyersWeightsModel" "kindOf" "[I", Cond.fieldLink RX6 13 "BuyersWeightsModel" "weighsOf" "[I"]
def wsX6_count_r2 : List Cond := [Cond.fieldLink RX6 16 "BuyersWeightsModel" "coinOf" "[I", Cond.fieldLink RX6 19 "BuyersWeightsModel" "gotOf" "[I", Cond.fieldLink RX6 22 "BuyersWeightsModel" "paidOf" "[I", Cond.fieldLink RX6 25 "BuyersWeightsModel" "dealtOf" "[I", Cond.fieldLink RX6 28 "BuyersWeightsModel" "usedOf" "[I", Cond.methodLink RX6 161 yX6_weighsAll, Cond.instanceMethod yX6_weighsAll, Cond.selects RX6 yX6_weighsAll yX6_weighsAll, Cond.code yX6_weighsAll cX6_weighsAll 3 (some .int)]
def wsX6_count : List Cond := .code yX6_count cX6_count 2 (some .int) :: ((wsX6_count_r1 ++ wsX6_count_r2) ++ wsX60)
def wsX6_mix : List Cond := .code yX6_mix cX6_mix 3 none :: ([.constantLong RX6 191 (31), .fieldLink RX6 193 "BuyersWeightsModel" "h" "J"] ++ wsX60)
def wsX6_digest_r1 : List Cond := [Cond.constantLong RX6 196 (977), Cond.fieldLink RX6 193 "BuyersWeightsModel" "h" "J", Cond.fieldLink RX6 73 "BuyersWeightsModel" "houses" "I", Cond.fieldLink RX6 48 "BuyersWeightsModel" "pageLength" "I", Cond.fieldLink RX6 34 "BuyersWeightsModel" "page" "[B", Cond.methodLink RX6 98 yX6_houseNow, Cond.instanceMethod yX6_houseNow, Cond.selects RX6 yX6_houseNow yX6_houseNow, Cond.initialized RX6, Cond.code yX6_houseNow cX6_houseNow 3 (some .int), Cond.fieldLink RX6 7 "BuyersWeightsModel" "kindOf" "[I", Cond.fieldLink RX6 13 "BuyersWeightsModel" "weighsOf" "[I", Cond.fieldLink RX6 16 "BuyersWeightsModel" "coinOf" "[I", Cond.fieldLink RX6 19 "BuyersWeightsModel" "gotOf" "[I", Cond.fieldLink RX6 22 "BuyersWeightsModel" "paidOf" "[I", Cond.fieldLink RX6 25 "BuyersWeightsModel" "dealtOf" "[I", Cond.fieldLink RX6 28 "BuyersWeightsModel" "usedOf" "[I", Cond.methodLink RX6 198 yX6_mix, Cond.instanceMethod yX6_mix, Cond.selects RX6 yX6_mix yX6_mix, Cond.code yX6_mix cX6_mix 3 none, Cond.constantLong RX6 191 (31), Cond.methodLink RX6 130 yX6_fairNow, Cond.instanceMethod yX6_fairNow]
def wsX6_digest_r2 : List Cond := [Cond.selects RX6 yX6_fairNow yX6_fairNow, Cond.code yX6_fairNow cX6_fairNow 6 (some .int), Cond.fieldLink RX6 82 "BuyersWeightsModel" "hour" "I", Cond.methodLink RX6 105 yX6_ounces, Cond.instanceMethod yX6_ounces, Cond.selects RX6 yX6_ounces yX6_ounces, Cond.code yX6_ounces cX6_ounces 5 (some .int), Cond.fieldLink RX6 76 "BuyersWeightsModel" "tilt" "I", Cond.methodLink RX6 140 yX6_rubbedNow, Cond.instanceMethod yX6_rubbedNow, Cond.selects RX6 yX6_rubbedNow yX6_rubbedNow, Cond.code yX6_rubbedNow cX6_rubbedNow 7 (some .int), Cond.methodLink RX6 137 yX6_isRubbed, Cond.instanceMethod yX6_isRubbed, Cond.selects RX6 yX6_isRubbed yX6_isRubbed, Cond.code yX6_isRubbed cX6_isRubbed 4 (some .boolean), Cond.fieldLink RX6 31 "BuyersWeightsModel" "handsOf" "[I", Cond.fieldLink RX6 91 "BuyersWeightsModel" "lost" "I", Cond.methodLink RX6 133 yX6_isIn, Cond.static yX6_isIn, Cond.code yX6_isIn cX6_isIn 2 (some .boolean), Cond.methodLink RX6 143 yX6_watchNow, Cond.instanceMethod yX6_watchNow, Cond.selects RX6 yX6_watchNow yX6_watchNow]
def wsX6_digest_r3 : List Cond := [Cond.code yX6_watchNow cX6_watchNow 7 (some .int), Cond.constant RX6 116 (268435456), Cond.methodLink RX6 188 yX6_howMany, Cond.instanceMethod yX6_howMany, Cond.selects RX6 yX6_howMany yX6_howMany, Cond.code yX6_howMany cX6_howMany 2 (some .int), Cond.fieldLink RX6 85 "BuyersWeightsModel" "sales" "I", Cond.fieldLink RX6 88 "BuyersWeightsModel" "hands" "I", Cond.fieldLink RX6 79 "BuyersWeightsModel" "marketMany" "I", Cond.fieldLink RX6 124 "BuyersWeightsModel" "asks" "I", Cond.methodLink RX6 185 yX6_sum, Cond.instanceMethod yX6_sum, Cond.selects RX6 yX6_sum yX6_sum, Cond.code yX6_sum cX6_sum 4 (some .int), Cond.methodLink RX6 161 yX6_weighsAll, Cond.instanceMethod yX6_weighsAll, Cond.selects RX6 yX6_weighsAll yX6_weighsAll, Cond.code yX6_weighsAll cX6_weighsAll 3 (some .int)]
def wsX6_digest : List Cond := .code yX6_digest cX6_digest 3 (some .long) :: ((wsX6_digest_r1 ++ (wsX6_digest_r2 ++ wsX6_digest_r3)) ++ wsX60)
def wsJ9_max_7cf53 : List Cond := .code yJ9_max_7cf53 cJ9_max_7cf53 2 (some .int) :: ([])
def wsJ9_min_7cf53 : List Cond := .code yJ9_min_7cf53 cJ9_min_7cf53 2 (some .int) :: ([])
def wsL_law_r1 : List Cond := [Cond.classLink RL 7 RX5, Cond.instantiable RX5 10, Cond.initialized RX5, Cond.classLink RL 10 RX6, Cond.instantiable RX6 30, Cond.initialized RX6, Cond.methodLink RL 9 yX5_init, Cond.instanceMethod yX5_init, Cond.code yX5_init cX5_init 1 none, Cond.methodLink RX5 1 objectInit, Cond.instanceMethod objectInit, Cond.code objectInit ⟨#[0xb1]⟩ 1 none, Cond.classLink RX5 7 RX3, Cond.instantiable RX3 2, Cond.initialized RX3, Cond.fieldLink RX5 10 "BuyersWeights" "page" "LBuyersWeights$Page;", Cond.classLink RX5 16 RX2, Cond.instantiable RX2 11, Cond.initialized RX2, Cond.fieldLink RX5 19 "BuyersWeights" "market" "LBuyersWeights$Market;", Cond.classLink RX5 23 RX1, Cond.instantiable RX1 3, Cond.initialized RX1, Cond.fieldLink RX5 26 "BuyersWeights" "ledger" "LBuyersWeights$Ledger;"]
def wsL_law_r2 : List Cond := [Cond.fieldLink RX5 30 "BuyersWeights" "keptMarket" "LBuyersWeights$Market;", Cond.fieldLink RX5 33 "BuyersWeights" "keptLedger" "LBuyersWeights$Ledger;", Cond.classLink RX5 36 RX4, Cond.instantiable RX4 7, Cond.initialized RX4, Cond.fieldLink RX5 39 "BuyersWeights" "planner" "LBuyersWeights$Planner;", Cond.classLink RX5 43 RX0, Cond.instantiable RX0 3, Cond.initialized RX0, Cond.fieldLink RX5 46 "BuyersWeights" "drawnSales" "LBuyersWeights$DrawnSales;", Cond.fieldLink RX5 50 "BuyersWeights" "imageKept" "Z", Cond.fieldLink RX5 54 "BuyersWeights" "marketsRead" "I", Cond.fieldLink RX5 58 "BuyersWeights" "plansDone" "I", Cond.instanceMethod yX3_init, Cond.code yX3_init cX3_init 1 none, Cond.methodLink RX3 3 objectInit, Cond.arrayClass .char, Cond.fieldLink RX3 9 "BuyersWeights$Page" "letters" "[C", Cond.fieldLink RX3 15 "BuyersWeights$Page" "length" "I", Cond.instanceMethod yX2_init, Cond.code yX2_init cX2_init 1 none, Cond.methodLink RX2 3 objectInit, Cond.arrayClass .int, Cond.fieldLink RX2 9 "BuyersWeights$Market" "kinds" "[I"]
def wsL_law_r3 : List Cond := [Cond.fieldLink RX2 15 "BuyersWeights$Market" "stones" "[I", Cond.fieldLink RX2 18 "BuyersWeights$Market" "coins" "[I", Cond.fieldLink RX2 21 "BuyersWeights$Market" "got" "[I", Cond.fieldLink RX2 24 "BuyersWeights$Market" "paid" "[I", Cond.fieldLink RX2 27 "BuyersWeights$Market" "dealt" "[I", Cond.fieldLink RX2 30 "BuyersWeights$Market" "used" "[I", Cond.fieldLink RX2 33 "BuyersWeights$Market" "houses" "I", Cond.fieldLink RX2 37 "BuyersWeights$Market" "tilt" "I", Cond.fieldLink RX2 40 "BuyersWeights$Market" "hourNow" "I", Cond.fieldLink RX2 43 "BuyersWeights$Market" "sales" "I", Cond.instanceMethod yX1_init, Cond.code yX1_init cX1_init 1 none, Cond.methodLink RX1 3 objectInit, Cond.fieldLink RX1 9 "BuyersWeights$Ledger" "times" "[I", Cond.fieldLink RX1 15 "BuyersWeights$Ledger" "hands" "I", Cond.fieldLink RX1 19 "BuyersWeights$Ledger" "lost" "I", Cond.instanceMethod yX4_init, Cond.code yX4_init cX4_init 1 none, Cond.methodLink RX4 3 objectInit, Cond.fieldLink RX4 9 "BuyersWeights$Planner" "stones" "[I", Cond.fieldLink RX4 15 "BuyersWeights$Planner" "tried" "[I", Cond.fieldLink RX4 18 "BuyersWeights$Planner" "best" "[I", Cond.fieldLink RX4 21 "BuyersWeights$Planner" "bestSales" "I", Cond.fieldLink RX4 25 "BuyersWeights$Planner" "bestPaid" "I"]
def wsL_law_r4 : List Cond := [Cond.fieldLink RX4 28 "BuyersWeights$Planner" "buyer" "I", Cond.fieldLink RX4 31 "BuyersWeights$Planner" "wanted" "I", Cond.instanceMethod yX0_init, Cond.code yX0_init cX0_init 1 none, Cond.methodLink RX0 3 objectInit, Cond.fieldLink RX0 9 "BuyersWeights$DrawnSales" "stones" "[I", Cond.fieldLink RX0 15 "BuyersWeights$DrawnSales" "seed" "I", Cond.fieldLink RX0 19 "BuyersWeights$DrawnSales" "ouncesGot" "I", Cond.methodLink RL 12 yX6_init, Cond.instanceMethod yX6_init, Cond.code yX6_init cX6_init 1 none, Cond.methodLink RX6 1 objectInit, Cond.fieldLink RX6 7 "BuyersWeightsModel" "kindOf" "[I", Cond.fieldLink RX6 13 "BuyersWeightsModel" "weighsOf" "[I", Cond.fieldLink RX6 16 "BuyersWeightsModel" "coinOf" "[I", Cond.fieldLink RX6 19 "BuyersWeightsModel" "gotOf" "[I", Cond.fieldLink RX6 22 "BuyersWeightsModel" "paidOf" "[I", Cond.fieldLink RX6 25 "BuyersWeightsModel" "dealtOf" "[I", Cond.fieldLink RX6 28 "BuyersWeightsModel" "usedOf" "[I", Cond.fieldLink RX6 31 "BuyersWeightsModel" "handsOf" "[I", Cond.arrayClass .byte, Cond.fieldLink RX6 34 "BuyersWeightsModel" "page" "[B", Cond.fieldLink RX6 38 "BuyersWeightsModel" "saved" "[I", Cond.fieldLink RX6 41 "BuyersWeightsModel" "kept" "[I"]
def wsL_law_r5 : List Cond := [Cond.methodLink RL 13 yX5_letter, Cond.instanceMethod yX5_letter, Cond.selects RX5 yX5_letter yX5_letter, Cond.code yX5_letter cX5_letter 2 (some .int), Cond.fieldLink RX5 61 "BuyersWeights$Page" "length" "I", Cond.methodLink RX5 64 yX3_add, Cond.instanceMethod yX3_add, Cond.selects RX3 yX3_add yX3_add, Cond.code yX3_add cX3_add 2 none, Cond.methodLink RL 17 yX6_letter, Cond.instanceMethod yX6_letter, Cond.selects RX6 yX6_letter yX6_letter, Cond.code yX6_letter cX6_letter 2 (some .int), Cond.fieldLink RX6 48 "BuyersWeightsModel" "pageLength" "I", Cond.methodLink RX6 44 yX6_within, Cond.static yX6_within, Cond.code yX6_within cX6_within 3 (some .boolean), Cond.methodLink RL 18 yX5_blank, Cond.instanceMethod yX5_blank, Cond.selects RX5 yX5_blank yX5_blank, Cond.code yX5_blank cX5_blank 2 (some .int), Cond.methodLink RX5 68 yX3_empty, Cond.instanceMethod yX3_empty, Cond.selects RX3 yX3_empty yX3_empty]
def wsL_law_r6 : List Cond := [Cond.code yX3_empty cX3_empty 1 none, Cond.methodLink RL 22 yX6_blank, Cond.instanceMethod yX6_blank, Cond.selects RX6 yX6_blank yX6_blank, Cond.code yX6_blank cX6_blank 2 (some .int), Cond.methodLink RL 23 yX5_fault, Cond.instanceMethod yX5_fault, Cond.selects RX5 yX5_fault yX5_fault, Cond.code yX5_fault cX5_fault 1 (some .int), Cond.methodLink RX5 71 yX3_firstFault, Cond.instanceMethod yX3_firstFault, Cond.selects RX3 yX3_firstFault yX3_firstFault, Cond.code yX3_firstFault cX3_firstFault 4 (some .int), Cond.methodLink RX3 19 yX3_fitsHouses, Cond.instanceMethod yX3_fitsHouses, Cond.selects RX3 yX3_fitsHouses yX3_fitsHouses, Cond.code yX3_fitsHouses cX3_fitsHouses 4 (some .boolean), Cond.methodLink RX3 33 yJ0_indexOf_0f7a4, Cond.instanceMethod yJ0_indexOf_0f7a4, Cond.selects RJ0 yJ0_indexOf_0f7a4 yJ0_indexOf_0f7a4, Cond.initialized RJ0, Cond.code yJ0_indexOf_0f7a4 cJ0_indexOf_0f7a4 2 (some .int), Cond.methodLink RJ0 633 yJ0_indexOf_7cf53, Cond.instanceMethod yJ0_indexOf_7cf53]
def wsL_law_r7 : List Cond := [Cond.selects RJ0 yJ0_indexOf_7cf53 yJ0_indexOf_7cf53, Cond.code yJ0_indexOf_7cf53 cJ0_indexOf_7cf53 3 (some .int), Cond.fieldLink RJ0 9 "java/lang/String" "value" "[B", Cond.methodLink RJ0 492 yJ0_isLatin1_aae02, Cond.instanceMethod yJ0_isLatin1_aae02, Cond.selects RJ0 yJ0_isLatin1_aae02 yJ0_isLatin1_aae02, Cond.code yJ0_isLatin1_aae02 cJ0_isLatin1_aae02 1 (some .boolean), Cond.fieldLink RJ0 38 "java/lang/String" "COMPACT_STRINGS" "Z", Cond.fieldLink RJ0 15 "java/lang/String" "coder" "B", Cond.methodLink RJ0 505 yJ0_length_8abf5, Cond.instanceMethod yJ0_length_8abf5, Cond.selects RJ0 yJ0_length_8abf5 yJ0_length_8abf5, Cond.code yJ0_length_8abf5 cJ0_length_8abf5 1 (some .int), Cond.methodLink RJ0 335 yJ0_coder_7d493, Cond.instanceMethod yJ0_coder_7d493, Cond.selects RJ0 yJ0_coder_7d493 yJ0_coder_7d493, Cond.code yJ0_coder_7d493 cJ0_coder_7d493 1 (some .byte), Cond.methodLink RJ0 637 yJ1_indexOf_4cfef, Cond.static yJ1_indexOf_4cfef, Cond.initialized RJ1, Cond.code yJ1_indexOf_4cfef cJ1_indexOf_4cfef 4 (some .int), Cond.methodLink RJ1 92 Lib.Math.max.name, Cond.static Lib.Math.max.name, Cond.initialized "java/lang/Math"]
def wsL_law_r8 : List Cond := [Cond.code Lib.Math.max.name Lib.Math.max.code 2 (some .int), Cond.methodLink RJ1 38 Lib.Math.min.name, Cond.static Lib.Math.min.name, Cond.code Lib.Math.min.name Lib.Math.min.code 2 (some .int), Cond.methodLink RJ1 88 yJ1_canEncode_9a6ad, Cond.static yJ1_canEncode_9a6ad, Cond.code yJ1_canEncode_9a6ad cJ1_canEncode_9a6ad 1 (some .boolean), Cond.methodLink RJ1 95 yJ1_indexOfChar_4cfef, Cond.static yJ1_indexOfChar_4cfef, Cond.code yJ1_indexOfChar_4cfef cJ1_indexOfChar_4cfef 6 (some .int), Cond.methodLink RJ0 640 yJ2_indexOf_4cfef, Cond.static yJ2_indexOf_4cfef, Cond.initialized RJ2, Cond.code yJ2_indexOf_4cfef cJ2_indexOf_4cfef 4 (some .int), Cond.methodLink RJ2 224 Lib.Math.max.name, Cond.methodLink RJ2 183 Lib.Math.min.name, Cond.constant RJ2 227 (65536), Cond.methodLink RJ2 228 yJ2_indexOfChar_4cfef, Cond.static yJ2_indexOfChar_4cfef, Cond.code yJ2_indexOfChar_4cfef cJ2_indexOfChar_4cfef 4 (some .int), Cond.methodLink RJ2 96 yJ2_checkBoundsBeginEnd_d044e, Cond.static yJ2_checkBoundsBeginEnd_d044e, Cond.code yJ2_checkBoundsBeginEnd_d044e cJ2_checkBoundsBeginEnd_d044e 3 none, Cond.methodLink RJ2 48 yJ2_length_9d52b]
def wsL_law_r9 : List Cond := [Cond.static yJ2_length_9d52b, Cond.code yJ2_length_9d52b cJ2_length_9d52b 1 (some .int), Cond.methodLink RJ2 241 yJ0_checkBoundsBeginEnd_23922, Cond.static yJ0_checkBoundsBeginEnd_23922, Cond.code yJ0_checkBoundsBeginEnd_23922 cJ0_checkBoundsBeginEnd_23922 3 none, Cond.fieldLink RJ0 1053 "jdk/internal/util/Preconditions" "SIOOBE_FORMATTER" "Ljava/util/function/BiFunction;", Cond.methodLink RJ0 1062 yJ3_checkFromToIndex_8c36e, Cond.static yJ3_checkFromToIndex_8c36e, Cond.initialized RJ3, Cond.code yJ3_checkFromToIndex_8c36e cJ3_checkFromToIndex_8c36e 4 (some .int), Cond.methodLink RJ2 244 yJ2_indexOfCharUnsafe_4cfef, Cond.static yJ2_indexOfCharUnsafe_4cfef, Cond.code yJ2_indexOfCharUnsafe_4cfef cJ2_indexOfCharUnsafe_4cfef 5 (some .int), Cond.methodLink RJ2 71 yJ2_getChar_3b067, Cond.static yJ2_getChar_3b067, Cond.code yJ2_getChar_3b067 cJ2_getChar_3b067 2 (some .char), Cond.fieldLink RJ2 44 "java/lang/StringUTF16" "$assertionsDisabled" "Z", Cond.fieldLink RJ2 59 "java/lang/StringUTF16" "HI_BYTE_SHIFT" "I", Cond.fieldLink RJ2 63 "java/lang/StringUTF16" "LO_BYTE_SHIFT" "I", Cond.methodLink RJ2 232 yJ2_indexOfSupplementary_4cfef, Cond.static yJ2_indexOfSupplementary_4cfef, Cond.code yJ2_indexOfSupplementary_4cfef cJ2_indexOfSupplementary_4cfef 7 (some .int), Cond.methodLink RJ2 164 yJ11_isValidCodePoint_9a6ad, Cond.static yJ11_isValidCodePoint_9a6ad]
def wsL_law_r10 : List Cond := [Cond.initialized RJ11, Cond.code yJ11_isValidCodePoint_9a6ad cJ11_isValidCodePoint_9a6ad 2 (some .boolean), Cond.methodLink RJ2 157 yJ11_highSurrogate_5068e, Cond.static yJ11_highSurrogate_5068e, Cond.code yJ11_highSurrogate_5068e cJ11_highSurrogate_5068e 1 (some .char), Cond.constant RJ11 110 (55232), Cond.methodLink RJ2 161 yJ11_lowSurrogate_5068e, Cond.static yJ11_lowSurrogate_5068e, Cond.code yJ11_lowSurrogate_5068e cJ11_lowSurrogate_5068e 1 (some .char), Cond.constant RJ11 76 (56320), Cond.methodLink RX3 23 yX3_isBetween, Cond.instanceMethod yX3_isBetween, Cond.selects RX3 yX3_isBetween yX3_isBetween, Cond.code yX3_isBetween cX3_isBetween 4 (some .boolean), Cond.methodLink RL 26 yX6_fault, Cond.instanceMethod yX6_fault, Cond.selects RX6 yX6_fault yX6_fault, Cond.code yX6_fault cX6_fault 1 (some .int), Cond.methodLink RX6 69 yX6_read, Cond.instanceMethod yX6_read, Cond.selects RX6 yX6_read yX6_read, Cond.code yX6_read cX6_read 3 (some .int), Cond.fieldLink RX6 59 "BuyersWeightsModel" "isWhole" "Z", Cond.fieldLink RX6 63 "BuyersWeightsModel" "newMany" "I"]
def wsL_law_r11 : List Cond := [Cond.methodLink RX6 66 yX6_readOne, Cond.instanceMethod yX6_readOne, Cond.selects RX6 yX6_readOne yX6_readOne, Cond.code yX6_readOne cX6_readOne 2 (some .int), Cond.methodLink RX6 52 yX6_kindBy, Cond.static yX6_kindBy, Cond.code yX6_kindBy cX6_kindBy 1 (some .int), Cond.methodLink RX6 56 yX6_isFigure, Cond.instanceMethod yX6_isFigure, Cond.selects RX6 yX6_isFigure yX6_isFigure, Cond.code yX6_isFigure cX6_isFigure 4 (some .boolean), Cond.methodLink RL 27 yX5_market, Cond.instanceMethod yX5_market, Cond.selects RX5 yX5_market yX5_market, Cond.code yX5_market cX5_market 1 (some .int), Cond.fieldLink RX5 86 "BuyersWeights$Market" "houses" "I", Cond.methodLink RX5 75 yX3_isMarket, Cond.instanceMethod yX3_isMarket, Cond.selects RX3 yX3_isMarket yX3_isMarket, Cond.code yX3_isMarket cX3_isMarket 1 (some .boolean), Cond.methodLink RX3 27 yX3_firstFault, Cond.methodLink RX5 79 yX2_open, Cond.instanceMethod yX2_open, Cond.selects RX2 yX2_open yX2_open]
def wsL_law_r12 : List Cond := [Cond.code yX2_open cX2_open 4 none, Cond.fieldLink RX2 52 "BuyersWeights$Page" "length" "I", Cond.methodLink RX2 46 yX3_howManyHouses, Cond.instanceMethod yX3_howManyHouses, Cond.selects RX3 yX3_howManyHouses yX3_howManyHouses, Cond.code yX3_howManyHouses cX3_howManyHouses 1 (some .int), Cond.methodLink RX2 55 yX3_digit, Cond.instanceMethod yX3_digit, Cond.selects RX3 yX3_digit yX3_digit, Cond.code yX3_digit cX3_digit 2 (some .int), Cond.methodLink RX2 59 yX3_kind, Cond.instanceMethod yX3_kind, Cond.selects RX3 yX3_kind yX3_kind, Cond.code yX3_kind cX3_kind 2 (some .int), Cond.methodLink RX5 83 yX1_forget, Cond.instanceMethod yX1_forget, Cond.selects RX1 yX1_forget yX1_forget, Cond.code yX1_forget cX1_forget 2 none, Cond.methodLink RL 30 yX6_market, Cond.instanceMethod yX6_market, Cond.selects RX6 yX6_market yX6_market, Cond.code yX6_market cX6_market 3 (some .int), Cond.fieldLink RX6 73 "BuyersWeightsModel" "houses" "I", Cond.fieldLink RX6 76 "BuyersWeightsModel" "tilt" "I"]
def wsL_law_r13 : List Cond := [Cond.fieldLink RX6 79 "BuyersWeightsModel" "marketMany" "I", Cond.fieldLink RX6 82 "BuyersWeightsModel" "hour" "I", Cond.fieldLink RX6 85 "BuyersWeightsModel" "sales" "I", Cond.fieldLink RX6 88 "BuyersWeightsModel" "hands" "I", Cond.fieldLink RX6 91 "BuyersWeightsModel" "lost" "I", Cond.methodLink RL 31 yX5_about, Cond.instanceMethod yX5_about, Cond.selects RX5 yX5_about yX5_about, Cond.code yX5_about cX5_about 3 (some .int), Cond.methodLink RX5 89 yX2_has, Cond.instanceMethod yX2_has, Cond.selects RX2 yX2_has yX2_has, Cond.code yX2_has cX2_has 2 (some .boolean), Cond.methodLink RX5 93 yX2_tell, Cond.instanceMethod yX2_tell, Cond.selects RX2 yX2_tell yX2_tell, Cond.code yX2_tell cX2_tell 3 (some .int), Cond.methodLink RL 35 yX6_about, Cond.instanceMethod yX6_about, Cond.selects RX6 yX6_about yX6_about, Cond.code yX6_about cX6_about 3 (some .int), Cond.methodLink RX6 94 yX6_isHouse, Cond.instanceMethod yX6_isHouse, Cond.selects RX6 yX6_isHouse yX6_isHouse]
def wsL_law_r14 : List Cond := [Cond.code yX6_isHouse cX6_isHouse 2 (some .boolean), Cond.methodLink RX6 98 yX6_houseNow, Cond.instanceMethod yX6_houseNow, Cond.selects RX6 yX6_houseNow yX6_houseNow, Cond.code yX6_houseNow cX6_houseNow 3 (some .int), Cond.methodLink RL 36 yX5_as, Cond.instanceMethod yX5_as, Cond.selects RX5 yX5_as yX5_as, Cond.code yX5_as cX5_as 3 (some .int), Cond.fieldLink RX5 103 "BuyersWeights$Market" "kinds" "[I", Cond.methodLink RX5 99 yJ0_length_8abf5, Cond.methodLink RX5 107 yX5_isOfKind, Cond.static yX5_isOfKind, Cond.code yX5_isOfKind cX5_isOfKind 2 (some .boolean), Cond.methodLink RL 39 yX6_as, Cond.instanceMethod yX6_as, Cond.selects RX6 yX6_as yX6_as, Cond.code yX6_as cX6_as 4 (some .int), Cond.methodLink RL 40 yX5_measure, Cond.instanceMethod yX5_measure, Cond.selects RX5 yX5_measure yX5_measure, Cond.code yX5_measure cX5_measure 4 (some .int), Cond.fieldLink RX5 114 "BuyersWeights$Market" "stones" "[I", Cond.fieldLink RX5 117 "BuyersWeights$Market" "hourNow" "I"]
def wsL_law_r15 : List Cond := [Cond.methodLink RX5 111 yX5_canTrade, Cond.instanceMethod yX5_canTrade, Cond.selects RX5 yX5_canTrade yX5_canTrade, Cond.code yX5_canTrade cX5_canTrade 3 (some .boolean), Cond.methodLink RX5 120 yX2_ounces, Cond.instanceMethod yX2_ounces, Cond.selects RX2 yX2_ounces yX2_ounces, Cond.code yX2_ounces cX2_ounces 6 (some .int), Cond.methodLink RX2 62 Lib.Math.max.name, Cond.methodLink RL 44 yX6_measure, Cond.instanceMethod yX6_measure, Cond.selects RX6 yX6_measure yX6_measure, Cond.code yX6_measure cX6_measure 4 (some .int), Cond.methodLink RX6 102 yX6_isSale, Cond.instanceMethod yX6_isSale, Cond.selects RX6 yX6_isSale yX6_isSale, Cond.code yX6_isSale cX6_isSale 4 (some .boolean), Cond.methodLink RX6 105 yX6_ounces, Cond.instanceMethod yX6_ounces, Cond.selects RX6 yX6_ounces yX6_ounces, Cond.code yX6_ounces cX6_ounces 5 (some .int), Cond.methodLink RL 45 yX5_buy, Cond.instanceMethod yX5_buy, Cond.selects RX5 yX5_buy yX5_buy]
def wsL_law_r16 : List Cond := [Cond.code yX5_buy cX5_buy 4 (some .int), Cond.fieldLink RX5 124 "BuyersWeights$Market" "sales" "I", Cond.methodLink RX5 127 yX2_sell, Cond.instanceMethod yX2_sell, Cond.selects RX2 yX2_sell yX2_sell, Cond.code yX2_sell cX2_sell 5 (some .int), Cond.methodLink RX2 68 yX2_ounces, Cond.methodLink RX2 72 yX2_weightAfter, Cond.instanceMethod yX2_weightAfter, Cond.selects RX2 yX2_weightAfter yX2_weightAfter, Cond.code yX2_weightAfter cX2_weightAfter 6 (some .int), Cond.methodLink RL 48 yX6_buy, Cond.instanceMethod yX6_buy, Cond.selects RX6 yX6_buy yX6_buy, Cond.code yX6_buy cX6_buy 5 (some .int), Cond.methodLink RX6 109 yX6_wear, Cond.instanceMethod yX6_wear, Cond.selects RX6 yX6_wear yX6_wear, Cond.code yX6_wear cX6_wear 4 none, Cond.methodLink RL 49 yX5_hour, Cond.instanceMethod yX5_hour, Cond.selects RX5 yX5_hour yX5_hour, Cond.code yX5_hour cX5_hour 1 (some .int), Cond.methodLink RX5 130 yX2_isOpen]
def wsL_law_r17 : List Cond := [Cond.instanceMethod yX2_isOpen, Cond.selects RX2 yX2_isOpen yX2_isOpen, Cond.code yX2_isOpen cX2_isOpen 1 (some .boolean), Cond.methodLink RL 52 yX6_hour, Cond.instanceMethod yX6_hour, Cond.selects RX6 yX6_hour yX6_hour, Cond.code yX6_hour cX6_hour 1 (some .int), Cond.methodLink RL 53 yX5_plan, Cond.instanceMethod yX5_plan, Cond.selects RX5 yX5_plan yX5_plan, Cond.code yX5_plan cX5_plan 4 (some .int), Cond.methodLink RX5 133 yX5_isPlanQuestion, Cond.static yX5_isPlanQuestion, Cond.code yX5_isPlanQuestion cX5_isPlanQuestion 1 (some .boolean), Cond.methodLink RX5 136 yX4_seek, Cond.instanceMethod yX4_seek, Cond.selects RX4 yX4_seek yX4_seek, Cond.code yX4_seek cX4_seek 4 none, Cond.fieldLink RX4 34 "BuyersWeights$Market" "stones" "[I", Cond.static yX5_copyRow, Cond.code yX5_copyRow cX5_copyRow 2 none, Cond.methodLink RX5 233 arraycopyName, Cond.native arraycopyName, Cond.static arraycopyName]
def wsL_law_r18 : List Cond := [Cond.initialized "java/lang/System", Cond.methodLink RX4 41 yX4_trySales, Cond.instanceMethod yX4_trySales, Cond.selects RX4 yX4_trySales yX4_trySales, Cond.code yX4_trySales cX4_trySales 7 none, Cond.fieldLink RX4 45 "BuyersWeights$Market" "houses" "I", Cond.methodLink RX4 48 yX4_trySale, Cond.instanceMethod yX4_trySale, Cond.selects RX4 yX4_trySale yX4_trySale, Cond.code yX4_trySale cX4_trySale 10 none, Cond.fieldLink RX4 52 "BuyersWeights$Market" "hourNow" "I", Cond.fieldLink RX4 59 "BuyersWeights$Market" "coins" "[I", Cond.methodLink RX4 55 yX2_ounces, Cond.methodLink RX4 62 yX4_keepIfBetter, Cond.instanceMethod yX4_keepIfBetter, Cond.selects RX4 yX4_keepIfBetter yX4_keepIfBetter, Cond.code yX4_keepIfBetter cX4_keepIfBetter 3 none, Cond.methodLink RX4 69 arraycopyName, Cond.methodLink RX4 66 yX2_weightAfter, Cond.methodLink RX5 140 yX4_tell, Cond.instanceMethod yX4_tell, Cond.selects RX4 yX4_tell yX4_tell, Cond.code yX4_tell cX4_tell 3 (some .int), Cond.methodLink RL 56 yX6_plan]
def wsL_law_r19 : List Cond := [Cond.instanceMethod yX6_plan, Cond.selects RX6 yX6_plan yX6_plan, Cond.code yX6_plan cX6_plan 4 (some .int), Cond.fieldLink RX6 124 "BuyersWeightsModel" "asks" "I", Cond.methodLink RX6 127 yX6_planNow, Cond.instanceMethod yX6_planNow, Cond.selects RX6 yX6_planNow yX6_planNow, Cond.code yX6_planNow cX6_planNow 10 (some .int), Cond.constant RX6 116 (268435456), Cond.methodLink RX6 117 yX6_save, Cond.instanceMethod yX6_save, Cond.selects RX6 yX6_save yX6_save, Cond.code yX6_save cX6_save 2 none, Cond.methodLink RX6 120 yX6_paidBy, Cond.instanceMethod yX6_paidBy, Cond.selects RX6 yX6_paidBy yX6_paidBy, Cond.code yX6_paidBy cX6_paidBy 12 (some .int), Cond.methodLink RX6 113 yX6_load, Cond.instanceMethod yX6_load, Cond.selects RX6 yX6_load yX6_load, Cond.code yX6_load cX6_load 2 none, Cond.methodLink RL 57 yX5_fair, Cond.instanceMethod yX5_fair, Cond.selects RX5 yX5_fair yX5_fair]
def wsL_law_r20 : List Cond := [Cond.code yX5_fair cX5_fair 3 (some .int), Cond.methodLink RX5 143 yX2_isFair, Cond.instanceMethod yX2_isFair, Cond.selects RX2 yX2_isFair yX2_isFair, Cond.code yX2_isFair cX2_isFair 5 (some .boolean), Cond.methodLink RL 60 yX6_fair, Cond.instanceMethod yX6_fair, Cond.selects RX6 yX6_fair yX6_fair, Cond.code yX6_fair cX6_fair 3 (some .int), Cond.methodLink RX6 130 yX6_fairNow, Cond.instanceMethod yX6_fairNow, Cond.selects RX6 yX6_fairNow yX6_fairNow, Cond.code yX6_fairNow cX6_fairNow 6 (some .int), Cond.methodLink RL 61 yX5_pass, Cond.instanceMethod yX5_pass, Cond.selects RX5 yX5_pass yX5_pass, Cond.code yX5_pass cX5_pass 2 (some .int), Cond.fieldLink RX5 146 "BuyersWeights$Ledger" "hands" "I", Cond.methodLink RX5 149 yX1_add, Cond.instanceMethod yX1_add, Cond.selects RX1 yX1_add yX1_add, Cond.code yX1_add cX1_add 2 none, Cond.methodLink RL 64 yX6_pass, Cond.instanceMethod yX6_pass]
def wsL_law_r21 : List Cond := [Cond.selects RX6 yX6_pass yX6_pass, Cond.code yX6_pass cX6_pass 2 (some .int), Cond.methodLink RL 65 yX5_lose, Cond.instanceMethod yX5_lose, Cond.selects RX5 yX5_lose yX5_lose, Cond.code yX5_lose cX5_lose 3 (some .int), Cond.fieldLink RX5 152 "BuyersWeights$Ledger" "lost" "I", Cond.methodLink RL 68 yX6_lose, Cond.instanceMethod yX6_lose, Cond.selects RX6 yX6_lose yX6_lose, Cond.code yX6_lose cX6_lose 3 (some .int), Cond.methodLink RL 69 yX5_clear, Cond.instanceMethod yX5_clear, Cond.selects RX5 yX5_clear yX5_clear, Cond.code yX5_clear cX5_clear 2 (some .int), Cond.methodLink RL 72 yX6_clear, Cond.instanceMethod yX6_clear, Cond.selects RX6 yX6_clear yX6_clear, Cond.code yX6_clear cX6_clear 3 (some .int), Cond.methodLink RL 73 yX5_rubbed, Cond.instanceMethod yX5_rubbed, Cond.selects RX5 yX5_rubbed yX5_rubbed, Cond.code yX5_rubbed cX5_rubbed 2 (some .int), Cond.methodLink RX5 155 yX1_howManySets]
def wsL_law_r22 : List Cond := [Cond.instanceMethod yX1_howManySets, Cond.selects RX1 yX1_howManySets yX1_howManySets, Cond.code yX1_howManySets cX1_howManySets 2 (some .int), Cond.methodLink RX1 26 yX1_howManySetsWith, Cond.instanceMethod yX1_howManySetsWith, Cond.selects RX1 yX1_howManySetsWith yX1_howManySetsWith, Cond.code yX1_howManySetsWith cX1_howManySetsWith 5 (some .int), Cond.methodLink RX1 30 yX1_explains, Cond.instanceMethod yX1_explains, Cond.selects RX1 yX1_explains yX1_explains, Cond.code yX1_explains cX1_explains 5 (some .boolean), Cond.methodLink RX5 158 yX1_leastSet, Cond.instanceMethod yX1_leastSet, Cond.selects RX1 yX1_leastSet yX1_leastSet, Cond.code yX1_leastSet cX1_leastSet 3 (some .int), Cond.methodLink RX5 161 yX1_inAllSets, Cond.instanceMethod yX1_inAllSets, Cond.selects RX1 yX1_inAllSets yX1_inAllSets, Cond.code yX1_inAllSets cX1_inAllSets 4 (some .int), Cond.methodLink RL 76 yX6_rubbed, Cond.instanceMethod yX6_rubbed, Cond.selects RX6 yX6_rubbed yX6_rubbed, Cond.code yX6_rubbed cX6_rubbed 2 (some .int), Cond.methodLink RX6 140 yX6_rubbedNow]
def wsL_law_r23 : List Cond := [Cond.instanceMethod yX6_rubbedNow, Cond.selects RX6 yX6_rubbedNow yX6_rubbedNow, Cond.code yX6_rubbedNow cX6_rubbedNow 7 (some .int), Cond.methodLink RX6 137 yX6_isRubbed, Cond.instanceMethod yX6_isRubbed, Cond.selects RX6 yX6_isRubbed yX6_isRubbed, Cond.code yX6_isRubbed cX6_isRubbed 4 (some .boolean), Cond.methodLink RX6 133 yX6_isIn, Cond.static yX6_isIn, Cond.code yX6_isIn cX6_isIn 2 (some .boolean), Cond.methodLink RL 77 yX5_watch, Cond.instanceMethod yX5_watch, Cond.selects RX5 yX5_watch yX5_watch, Cond.code yX5_watch cX5_watch 1 (some .int), Cond.methodLink RX5 164 yX1_houseToWatch, Cond.instanceMethod yX1_houseToWatch, Cond.selects RX1 yX1_houseToWatch yX1_houseToWatch, Cond.code yX1_houseToWatch cX1_houseToWatch 8 (some .int), Cond.methodLink RX1 38 Lib.Math.max.name, Cond.methodLink RX1 34 yX1_howManySets, Cond.methodLink RL 80 yX6_watch, Cond.instanceMethod yX6_watch, Cond.selects RX6 yX6_watch yX6_watch, Cond.code yX6_watch cX6_watch 1 (some .int)]
def wsL_law_r24 : List Cond := [Cond.methodLink RX6 143 yX6_watchNow, Cond.instanceMethod yX6_watchNow, Cond.selects RX6 yX6_watchNow yX6_watchNow, Cond.code yX6_watchNow cX6_watchNow 7 (some .int), Cond.methodLink RL 81 yX5_markets, Cond.instanceMethod yX5_markets, Cond.selects RX5 yX5_markets yX5_markets, Cond.code yX5_markets cX5_markets 4 (some .int), Cond.fieldLink RX5 170 "BuyersWeights$DrawnSales" "ouncesGot" "I", Cond.fieldLink RX5 173 "BuyersWeights$DrawnSales" "stones" "[I", Cond.fieldLink RX5 178 "BuyersWeights$DrawnSales" "seed" "I", Cond.methodLink RX5 167 yX0_run, Cond.instanceMethod yX0_run, Cond.selects RX0 yX0_run yX0_run, Cond.code yX0_run cX0_run 5 none, Cond.fieldLink RX0 22 "BuyersWeights$Market" "stones" "[I", Cond.fieldLink RX0 29 "BuyersWeights$Market" "hourNow" "I", Cond.methodLink RX0 32 yX0_drawSale, Cond.instanceMethod yX0_drawSale, Cond.selects RX0 yX0_drawSale yX0_drawSale, Cond.code yX0_drawSale cX0_drawSale 6 none, Cond.fieldLink RX0 36 "BuyersWeights$Market" "houses" "I", Cond.methodLink RX0 39 yX0_draw, Cond.instanceMethod yX0_draw]
def wsL_law_r25 : List Cond := [Cond.selects RX0 yX0_draw yX0_draw, Cond.code yX0_draw cX0_draw 2 (some .int), Cond.constantLong RX0 50 (1103515245), Cond.constantLong RX0 52 (12345), Cond.constantLong RX0 54 (2147483648), Cond.constant RX0 56 (65536), Cond.methodLink RX0 43 yX2_ounces, Cond.methodLink RX0 47 yX2_weightAfter, Cond.methodLink RX5 174 yX2_sum, Cond.instanceMethod yX2_sum, Cond.selects RX2 yX2_sum yX2_sum, Cond.code yX2_sum cX2_sum 4 (some .int), Cond.methodLink RL 84 yX6_markets, Cond.instanceMethod yX6_markets, Cond.selects RX6 yX6_markets yX6_markets, Cond.code yX6_markets cX6_markets 4 (some .int), Cond.methodLink RX6 164 yX6_marketsNow, Cond.instanceMethod yX6_marketsNow, Cond.selects RX6 yX6_marketsNow yX6_marketsNow, Cond.code yX6_marketsNow cX6_marketsNow 9 (some .int), Cond.fieldLink RX6 148 "BuyersWeightsModel" "seedNow" "J", Cond.methodLink RX6 158 yX6_draw, Cond.instanceMethod yX6_draw, Cond.selects RX6 yX6_draw yX6_draw]
def wsL_law_r26 : List Cond := [Cond.code yX6_draw cX6_draw 2 (some .int), Cond.constantLong RX6 146 (1103515245), Cond.constantLong RX6 152 (12345), Cond.constantLong RX6 154 (2147483647), Cond.constantLong RX6 156 (65536), Cond.methodLink RX6 161 yX6_weighsAll, Cond.instanceMethod yX6_weighsAll, Cond.selects RX6 yX6_weighsAll yX6_weighsAll, Cond.code yX6_weighsAll cX6_weighsAll 3 (some .int), Cond.methodLink RL 85 yX5_image, Cond.instanceMethod yX5_image, Cond.selects RX5 yX5_image yX5_image, Cond.code yX5_image cX5_image 1 (some .int), Cond.methodLink RX5 181 yX2_copyDoingsOf, Cond.instanceMethod yX2_copyDoingsOf, Cond.selects RX2 yX2_copyDoingsOf yX2_copyDoingsOf, Cond.code yX2_copyDoingsOf cX2_copyDoingsOf 2 none, Cond.methodLink RX5 185 yX1_copyFrom, Cond.instanceMethod yX1_copyFrom, Cond.selects RX1 yX1_copyFrom yX1_copyFrom, Cond.code yX1_copyFrom cX1_copyFrom 2 none, Cond.methodLink RL 88 yX6_image, Cond.instanceMethod yX6_image, Cond.selects RX6 yX6_image yX6_image]
def wsL_law_r27 : List Cond := [Cond.code yX6_image cX6_image 2 (some .int), Cond.fieldLink RX6 167 "BuyersWeightsModel" "isKept" "Z", Cond.fieldLink RX6 170 "BuyersWeightsModel" "keptMarket" "I", Cond.fieldLink RX6 173 "BuyersWeightsModel" "keptHour" "I", Cond.fieldLink RX6 176 "BuyersWeightsModel" "keptSales" "I", Cond.fieldLink RX6 179 "BuyersWeightsModel" "keptHands" "I", Cond.fieldLink RX6 182 "BuyersWeightsModel" "keptLost" "I", Cond.methodLink RL 89 yX5_restore, Cond.instanceMethod yX5_restore, Cond.selects RX5 yX5_restore yX5_restore, Cond.code yX5_restore cX5_restore 1 (some .int), Cond.methodLink RL 92 yX6_restore, Cond.instanceMethod yX6_restore, Cond.selects RX6 yX6_restore yX6_restore, Cond.code yX6_restore cX6_restore 2 (some .int), Cond.methodLink RL 93 yX5_count, Cond.instanceMethod yX5_count, Cond.selects RX5 yX5_count yX5_count, Cond.code yX5_count cX5_count 2 (some .int), Cond.fieldLink RX5 189 "BuyersWeights$Market" "tilt" "I", Cond.fieldLink RX5 192 "BuyersWeights$Market" "got" "[I", Cond.fieldLink RX5 195 "BuyersWeights$Market" "paid" "[I", Cond.methodLink RL 96 yX6_count, Cond.instanceMethod yX6_count]
def wsL_law_r28 : List Cond := [Cond.selects RX6 yX6_count yX6_count, Cond.code yX6_count cX6_count 2 (some .int), Cond.methodLink RX6 188 yX6_howMany, Cond.instanceMethod yX6_howMany, Cond.selects RX6 yX6_howMany yX6_howMany, Cond.code yX6_howMany cX6_howMany 2 (some .int), Cond.methodLink RX6 185 yX6_sum, Cond.instanceMethod yX6_sum, Cond.selects RX6 yX6_sum yX6_sum, Cond.code yX6_sum cX6_sum 4 (some .int), Cond.methodLink RL 97 yX5_digest, Cond.instanceMethod yX5_digest, Cond.selects RX5 yX5_digest yX5_digest, Cond.code yX5_digest cX5_digest 4 (some .long), Cond.constantLong RX5 198 (977), Cond.fieldLink RX5 208 "BuyersWeights$Page" "letters" "[C", Cond.methodLink RX5 200 yX5_foldHouse, Cond.instanceMethod yX5_foldHouse, Cond.selects RX5 yX5_foldHouse yX5_foldHouse, Cond.code yX5_foldHouse cX5_foldHouse 7 (some .long), Cond.methodLink RX5 219 yX5_about, Cond.methodLink RX5 212 yX5_fold, Cond.static yX5_fold, Cond.code yX5_fold cX5_fold 4 (some .long)]
def wsL_law_r29 : List Cond := [Cond.constantLong RX5 231 (31), Cond.methodLink RX5 222 yX5_fair, Cond.methodLink RX5 204 yX5_foldLedger, Cond.instanceMethod yX5_foldLedger, Cond.selects RX5 yX5_foldLedger yX5_foldLedger, Cond.code yX5_foldLedger cX5_foldLedger 6 (some .long), Cond.methodLink RX5 225 yX5_rubbed, Cond.methodLink RX5 228 yX5_watch, Cond.methodLink RX5 216 yX5_count, Cond.methodLink RL 101 yX6_digest, Cond.instanceMethod yX6_digest, Cond.selects RX6 yX6_digest yX6_digest, Cond.code yX6_digest cX6_digest 3 (some .long), Cond.constantLong RX6 196 (977), Cond.fieldLink RX6 193 "BuyersWeightsModel" "h" "J", Cond.methodLink RX6 198 yX6_mix, Cond.instanceMethod yX6_mix, Cond.selects RX6 yX6_mix yX6_mix, Cond.code yX6_mix cX6_mix 3 none, Cond.constantLong RX6 191 (31)]
def wsL_law : List Cond := (wsL_law_r1 ++ (wsL_law_r2 ++ (wsL_law_r3 ++ (wsL_law_r4 ++ (wsL_law_r5 ++ (wsL_law_r6 ++ (wsL_law_r7 ++ (wsL_law_r8 ++ (wsL_law_r9 ++ (wsL_law_r10 ++ (wsL_law_r11 ++ (wsL_law_r12 ++ (wsL_law_r13 ++ (wsL_law_r14 ++ (wsL_law_r15 ++ (wsL_law_r16 ++ (wsL_law_r17 ++ (wsL_law_r18 ++ (wsL_law_r19 ++ (wsL_law_r20 ++ (wsL_law_r21 ++ (wsL_law_r22 ++ (wsL_law_r23 ++ (wsL_law_r24 ++ (wsL_law_r25 ++ (wsL_law_r26 ++ (wsL_law_r27 ++ (wsL_law_r28 ++ wsL_law_r29)))))))))))))))))))))))))))) ++ wsX50 ++ wsX60 ++ wsX30 ++ wsX20 ++ wsX10 ++ wsX40 ++ wsX00 ++ ([] : List Cond)
end
section
theorem lw_inr {big : List Cond} (ws : List Cond) (ps : List Nat) (hp : ws = ps.filterMap (fun i => big[i]?)) : ∀ w ∈ ws, w ∈ big := by
  intro w hw
  rw [hp] at hw
  obtain ⟨i, -, hi⟩ := List.mem_filterMap.mp hw
  exact List.mem_of_getElem? hi
theorem lw_ina {big a b : List Cond} (ha : ∀ w ∈ a, w ∈ big) (hb : ∀ w ∈ b, w ∈ big) : ∀ w ∈ a ++ b, w ∈ big := fun w h => (List.mem_append.mp h).elim (ha w) (hb w)
set_option maxRecDepth 20000 in
theorem in_wsL_law_r1 : ∀ w ∈ wsL_law_r1, w ∈ lw_tbl := lw_inr _ [49, 50, 35, 595, 596, 41, 51, 52, 53, 54, 55, 56, 57, 58, 36, 195, 74, 75, 37, 196, 130, 131, 38, 197] (by decide +kernel)
set_option maxRecDepth 20000 in
theorem in_wsL_law_r2 : ∀ w ∈ wsL_law_r2, w ∈ lw_tbl := lw_inr _ [198, 199, 148, 149, 39, 200, 176, 177, 40, 201, 202, 203, 204, 60, 61, 62, 73, 63, 65, 77, 78, 79, 129, 80] (by decide +kernel)
set_option maxRecDepth 20000 in
theorem in_wsL_law_r3 : ∀ w ∈ wsL_law_r3, w ∈ lw_tbl := lw_inr _ [82, 86, 88, 90, 92, 93, 94, 98, 100, 104, 133, 134, 135, 136, 137, 139, 151, 152, 153, 154, 155, 156, 157, 158] (by decide +kernel)
set_option maxRecDepth 20000 in
theorem in_wsL_law_r4 : ∀ w ∈ wsL_law_r4, w ∈ lw_tbl := lw_inr _ [159, 160, 179, 180, 181, 182, 184, 186, 597, 598, 599, 600, 605, 606, 607, 608, 609, 610, 611, 614, 345, 618, 621, 629] (by decide +kernel)
set_option maxRecDepth 20000 in
theorem in_wsL_law_r5 : ∀ w ∈ wsL_law_r5, w ∈ lw_tbl := lw_inr _ [226, 227, 228, 229, 67, 230, 231, 232, 233, 692, 693, 694, 695, 617, 696, 697, 698, 234, 235, 236, 237, 238, 239, 240] (by decide +kernel)
set_option maxRecDepth 20000 in
theorem in_wsL_law_r6 : ∀ w ∈ wsL_law_r6, w ∈ lw_tbl := lw_inr _ [241, 699, 700, 701, 702, 242, 243, 244, 245, 246, 247, 248, 249, 250, 252, 0, 253, 255, 256, 257, 42, 258, 259, 260] (by decide +kernel)
set_option maxRecDepth 20000 in
theorem in_wsL_law_r7 : ∀ w ∈ wsL_law_r7, w ∈ lw_tbl := lw_inr _ [261, 262, 881, 263, 264, 265, 266, 267, 880, 269, 270, 271, 272, 273, 274, 275, 276, 277, 278, 43, 279, 283, 284, 44] (by decide +kernel)
set_option maxRecDepth 20000 in
theorem in_wsL_law_r8 : ∀ w ∈ wsL_law_r8, w ∈ lw_tbl := lw_inr _ [285, 286, 287, 288, 280, 281, 282, 289, 290, 291, 292, 293, 45, 294, 295, 296, 297, 298, 299, 300, 301, 302, 303, 304] (by decide +kernel)
set_option maxRecDepth 20000 in
theorem in_wsL_law_r9 : ∀ w ∈ wsL_law_r9, w ∈ lw_tbl := lw_inr _ [305, 306, 307, 308, 309, 310, 312, 313, 46, 314, 315, 316, 317, 318, 319, 320, 321, 323, 325, 327, 328, 329, 330, 331] (by decide +kernel)
set_option maxRecDepth 20000 in
theorem in_wsL_law_r10 : ∀ w ∈ wsL_law_r10, w ∈ lw_tbl := lw_inr _ [47, 332, 333, 334, 335, 336, 337, 338, 339, 340, 341, 343, 1, 344, 703, 704, 705, 706, 707, 709, 12, 710, 619, 620] (by decide +kernel)
set_option maxRecDepth 20000 in
theorem in_wsL_law_r11 : ∀ w ∈ wsL_law_r11, w ∈ lw_tbl := lw_inr _ [711, 713, 13, 714, 715, 716, 717, 718, 720, 14, 721, 346, 347, 348, 349, 97, 350, 351, 352, 353, 354, 355, 356, 357] (by decide +kernel)
set_option maxRecDepth 20000 in
theorem in_wsL_law_r12 : ∀ w ∈ wsL_law_r12, w ∈ lw_tbl := lw_inr _ [358, 66, 359, 360, 361, 362, 363, 364, 365, 366, 367, 368, 369, 370, 371, 372, 373, 374, 722, 723, 724, 725, 602, 603] (by decide +kernel)
set_option maxRecDepth 20000 in
theorem in_wsL_law_r13 : ∀ w ∈ wsL_law_r13, w ∈ lw_tbl := lw_inr _ [601, 604, 612, 613, 615, 375, 376, 377, 378, 379, 380, 381, 382, 383, 384, 385, 386, 726, 727, 728, 729, 730, 732, 15] (by decide +kernel)
set_option maxRecDepth 20000 in
theorem in_wsL_law_r14 : ∀ w ∈ wsL_law_r14, w ∈ lw_tbl := lw_inr _ [733, 734, 736, 16, 737, 387, 388, 389, 390, 81, 392, 393, 394, 395, 738, 739, 740, 741, 396, 397, 398, 399, 85, 103] (by decide +kernel)
set_option maxRecDepth 20000 in
theorem in_wsL_law_r15 : ∀ w ∈ wsL_law_r15, w ∈ lw_tbl := lw_inr _ [400, 402, 2, 403, 404, 405, 406, 407, 408, 742, 743, 744, 745, 746, 748, 17, 749, 750, 752, 18, 753, 409, 410, 411] (by decide +kernel)
set_option maxRecDepth 20000 in
theorem in_wsL_law_r16 : ∀ w ∈ wsL_law_r16, w ∈ lw_tbl := lw_inr _ [412, 105, 413, 414, 415, 416, 417, 418, 419, 420, 421, 754, 755, 756, 757, 758, 760, 19, 761, 422, 423, 424, 425, 426] (by decide +kernel)
set_option maxRecDepth 20000 in
theorem in_wsL_law_r17 : ∀ w ∈ wsL_law_r17, w ∈ lw_tbl := lw_inr _ [427, 428, 429, 762, 763, 764, 765, 430, 431, 432, 433, 434, 435, 436, 437, 438, 439, 440, 83, 442, 443, 444, 446, 445] (by decide +kernel)
set_option maxRecDepth 20000 in
theorem in_wsL_law_r18 : ∀ w ∈ wsL_law_r18, w ∈ lw_tbl := lw_inr _ [48, 447, 449, 3, 450, 96, 451, 453, 4, 454, 102, 87, 455, 456, 458, 5, 459, 460, 461, 462, 463, 464, 465, 766] (by decide +kernel)
set_option maxRecDepth 20000 in
theorem in_wsL_law_r19 : ∀ w ∈ wsL_law_r19, w ∈ lw_tbl := lw_inr _ [767, 768, 769, 616, 770, 772, 20, 773, 778, 774, 776, 21, 777, 779, 781, 22, 782, 783, 785, 23, 786, 466, 467, 468] (by decide +kernel)
set_option maxRecDepth 20000 in
theorem in_wsL_law_r20 : ∀ w ∈ wsL_law_r20, w ∈ lw_tbl := lw_inr _ [469, 470, 471, 472, 473, 787, 788, 789, 790, 791, 793, 24, 794, 474, 475, 476, 477, 138, 478, 479, 480, 481, 795, 796] (by decide +kernel)
set_option maxRecDepth 20000 in
theorem in_wsL_law_r21 : ∀ w ∈ wsL_law_r21, w ∈ lw_tbl := lw_inr _ [797, 798, 482, 483, 484, 485, 140, 799, 800, 801, 802, 486, 487, 488, 489, 803, 804, 805, 806, 490, 491, 492, 493, 494] (by decide +kernel)
set_option maxRecDepth 20000 in
theorem in_wsL_law_r22 : ∀ w ∈ wsL_law_r22, w ∈ lw_tbl := lw_inr _ [495, 496, 497, 498, 500, 6, 501, 502, 504, 7, 505, 506, 507, 508, 509, 510, 511, 512, 513, 807, 808, 809, 810, 811] (by decide +kernel)
set_option maxRecDepth 20000 in
theorem in_wsL_law_r23 : ∀ w ∈ wsL_law_r23, w ∈ lw_tbl := lw_inr _ [813, 25, 814, 815, 817, 26, 818, 819, 820, 821, 514, 515, 516, 517, 518, 519, 520, 521, 523, 522, 822, 823, 824, 825] (by decide +kernel)
set_option maxRecDepth 20000 in
theorem in_wsL_law_r24 : ∀ w ∈ wsL_law_r24, w ∈ lw_tbl := lw_inr _ [826, 828, 27, 829, 524, 525, 526, 527, 187, 183, 185, 528, 529, 530, 531, 84, 101, 533, 535, 8, 536, 95, 537, 539] (by decide +kernel)
set_option maxRecDepth 20000 in
theorem in_wsL_law_r25 : ∀ w ∈ wsL_law_r25, w ∈ lw_tbl := lw_inr _ [9, 540, 541, 542, 543, 544, 545, 546, 547, 548, 549, 550, 830, 831, 832, 833, 834, 836, 28, 837, 622, 838, 840, 29] (by decide +kernel)
set_option maxRecDepth 20000 in
theorem in_wsL_law_r26 : ∀ w ∈ wsL_law_r26, w ∈ lw_tbl := lw_inr _ [841, 842, 843, 844, 845, 846, 848, 30, 849, 551, 552, 553, 554, 555, 556, 557, 558, 560, 561, 562, 563, 850, 851, 852] (by decide +kernel)
set_option maxRecDepth 20000 in
theorem in_wsL_law_r27 : ∀ w ∈ wsL_law_r27, w ∈ lw_tbl := lw_inr _ [853, 623, 624, 625, 626, 627, 628, 565, 566, 567, 568, 854, 855, 856, 857, 569, 570, 571, 572, 99, 89, 91, 858, 859] (by decide +kernel)
set_option maxRecDepth 20000 in
theorem in_wsL_law_r28 : ∀ w ∈ wsL_law_r28, w ∈ lw_tbl := lw_inr _ [860, 861, 862, 864, 31, 865, 866, 868, 32, 869, 573, 574, 575, 576, 577, 64, 578, 580, 10, 581, 582, 583, 584, 585] (by decide +kernel)
set_option maxRecDepth 20000 in
theorem in_wsL_law_r29 : ∀ w ∈ wsL_law_r29, w ∈ lw_tbl := lw_inr _ [586, 587, 588, 590, 11, 591, 592, 593, 594, 870, 871, 872, 873, 874, 630, 875, 877, 33, 878, 879] (by decide +kernel)
set_option maxRecDepth 20000 in
theorem in_wsX50 : ∀ w ∈ wsX50, w ∈ lw_tbl := lw_inr _ [205, 207, 209, 211, 213, 215, 217, 219, 221, 223] (by decide +kernel)
set_option maxRecDepth 20000 in
theorem in_wsX60 : ∀ w ∈ wsX60, w ∈ lw_tbl := lw_inr _ [631, 633, 635, 637, 639, 641, 643, 645, 647, 649, 651, 653, 655, 657, 659, 661, 663, 665, 667, 669, 671, 673, 675, 677, 679, 681, 683, 685, 687, 689] (by decide +kernel)
set_option maxRecDepth 20000 in
theorem in_wsX30 : ∀ w ∈ wsX30, w ∈ lw_tbl := lw_inr _ [68, 70] (by decide +kernel)
set_option maxRecDepth 20000 in
theorem in_wsX20 : ∀ w ∈ wsX20, w ∈ lw_tbl := lw_inr _ [106, 108, 110, 112, 114, 116, 118, 120, 122, 124, 126] (by decide +kernel)
set_option maxRecDepth 20000 in
theorem in_wsX10 : ∀ w ∈ wsX10, w ∈ lw_tbl := lw_inr _ [141, 143, 145] (by decide +kernel)
set_option maxRecDepth 20000 in
theorem in_wsX40 : ∀ w ∈ wsX40, w ∈ lw_tbl := lw_inr _ [161, 163, 165, 167, 169, 171, 173] (by decide +kernel)
set_option maxRecDepth 20000 in
theorem in_wsX00 : ∀ w ∈ wsX00, w ∈ lw_tbl := lw_inr _ [188, 190, 192] (by decide +kernel)
theorem wsL_law_in : ∀ w ∈ wsL_law, w ∈ lw_tbl := (lw_ina (lw_ina (lw_ina (lw_ina (lw_ina (lw_ina (lw_ina (lw_ina (lw_ina in_wsL_law_r1 (lw_ina in_wsL_law_r2 (lw_ina in_wsL_law_r3 (lw_ina in_wsL_law_r4 (lw_ina in_wsL_law_r5 (lw_ina in_wsL_law_r6 (lw_ina in_wsL_law_r7 (lw_ina in_wsL_law_r8 (lw_ina in_wsL_law_r9 (lw_ina in_wsL_law_r10 (lw_ina in_wsL_law_r11 (lw_ina in_wsL_law_r12 (lw_ina in_wsL_law_r13 (lw_ina in_wsL_law_r14 (lw_ina in_wsL_law_r15 (lw_ina in_wsL_law_r16 (lw_ina in_wsL_law_r17 (lw_ina in_wsL_law_r18 (lw_ina in_wsL_law_r19 (lw_ina in_wsL_law_r20 (lw_ina in_wsL_law_r21 (lw_ina in_wsL_law_r22 (lw_ina in_wsL_law_r23 (lw_ina in_wsL_law_r24 (lw_ina in_wsL_law_r25 (lw_ina in_wsL_law_r26 (lw_ina in_wsL_law_r27 (lw_ina in_wsL_law_r28 in_wsL_law_r29)))))))))))))))))))))))))))) in_wsX50) in_wsX60) in_wsX30) in_wsX20) in_wsX10) in_wsX40) in_wsX00) (fun _ h => absurd h List.not_mem_nil))
end
section
theorem inlX0 : ∀ w ∈ wsX00, w ∈ wsL_law := fun _ h => List.mem_append_left _ (List.mem_append_right _ h)
theorem inX0 : ∀ w ∈ wsX00, w ∈ lw_tbl := fun w h => wsL_law_in w (inlX0 w h)
theorem inlX1 : ∀ w ∈ wsX10, w ∈ wsL_law := fun _ h => List.mem_append_left _ (List.mem_append_left _ (List.mem_append_left _ (List.mem_append_right _ h)))
theorem inX1 : ∀ w ∈ wsX10, w ∈ lw_tbl := fun w h => wsL_law_in w (inlX1 w h)
theorem inlX2 : ∀ w ∈ wsX20, w ∈ wsL_law := fun _ h => List.mem_append_left _ (List.mem_append_left _ (List.mem_append_left _ (List.mem_append_left _ (List.mem_append_right _ h))))
theorem inX2 : ∀ w ∈ wsX20, w ∈ lw_tbl := fun w h => wsL_law_in w (inlX2 w h)
theorem inlX3 : ∀ w ∈ wsX30, w ∈ wsL_law := fun _ h => List.mem_append_left _ (List.mem_append_left _ (List.mem_append_left _ (List.mem_append_left _ (List.mem_append_left _ (List.mem_append_right _ h)))))
theorem inX3 : ∀ w ∈ wsX30, w ∈ lw_tbl := fun w h => wsL_law_in w (inlX3 w h)
theorem inlX4 : ∀ w ∈ wsX40, w ∈ wsL_law := fun _ h => List.mem_append_left _ (List.mem_append_left _ (List.mem_append_right _ h))
theorem inX4 : ∀ w ∈ wsX40, w ∈ lw_tbl := fun w h => wsL_law_in w (inlX4 w h)
theorem inlX5 : ∀ w ∈ wsX50, w ∈ wsL_law := fun _ h => List.mem_append_left _ (List.mem_append_left _ (List.mem_append_left _ (List.mem_append_left _ (List.mem_append_left _ (List.mem_append_left _ (List.mem_append_left _ (List.mem_append_right _ h)))))))
theorem inX5 : ∀ w ∈ wsX50, w ∈ lw_tbl := fun w h => wsL_law_in w (inlX5 w h)
theorem inlX6 : ∀ w ∈ wsX60, w ∈ wsL_law := fun _ h => List.mem_append_left _ (List.mem_append_left _ (List.mem_append_left _ (List.mem_append_left _ (List.mem_append_left _ (List.mem_append_left _ (List.mem_append_right _ h))))))
theorem inX6 : ∀ w ∈ wsX60, w ∈ lw_tbl := fun w h => wsL_law_in w (inlX6 w h)
theorem inJ11 : ∀ w ∈ wsJ110, w ∈ lw_tbl := by decide +kernel
theorem inJ9 : ∀ w ∈ wsJ90, w ∈ lw_tbl := by decide +kernel
theorem inJ0 : ∀ w ∈ wsJ00, w ∈ lw_tbl := by decide +kernel
theorem inJ1 : ∀ w ∈ wsJ10, w ∈ lw_tbl := by decide +kernel
theorem inJ2 : ∀ w ∈ wsJ20, w ∈ lw_tbl := by decide +kernel
theorem inJ10 : ∀ w ∈ wsJ100, w ∈ lw_tbl := by decide +kernel
theorem inJ3 : ∀ w ∈ wsJ30, w ∈ lw_tbl := by decide +kernel
theorem dX0_init_0 : decode cX0_init 0 = .ok (.aload_n 0, 1) := by decide +kernel
theorem dX0_init_1 : decode cX0_init 1 = .ok (.invokespecial 3, 3) := by decide +kernel
theorem dX0_init_4 : decode cX0_init 4 = .ok (.aload_n 0, 1) := by decide +kernel
theorem dX0_init_5 : decode cX0_init 5 = .ok (.iconst 4, 1) := by decide +kernel
theorem dX0_init_6 : decode cX0_init 6 = .ok (.newarray .int, 2) := by decide +kernel
theorem dX0_init_8 : decode cX0_init 8 = .ok (.putfield 9, 3) := by decide +kernel
theorem dX0_init_11 : decode cX0_init 11 = .ok (.aload_n 0, 1) := by decide +kernel
theorem dX0_init_12 : decode cX0_init 12 = .ok (.iconst 0, 1) := by decide +kernel
theorem dX0_init_13 : decode cX0_init 13 = .ok (.putfield 15, 3) := by decide +kernel
theorem dX0_init_16 : decode cX0_init 16 = .ok (.aload_n 0, 1) := by decide +kernel
theorem dX0_init_17 : decode cX0_init 17 = .ok (.iconst 0, 1) := by decide +kernel
theorem dX0_init_18 : decode cX0_init 18 = .ok (.putfield 19, 3) := by decide +kernel
theorem dX0_init_21 : decode cX0_init 21 = .ok (.return_, 1) := by decide +kernel
set_option maxRecDepth 20000 in
theorem ggX0_run_X5_copyRow : GoodIn wsX0_run wsX5_copyRow := goodIn_r _ [8, 9, 10, 11, 12] (by decide +kernel) (by decide +kernel)
set_option maxRecDepth 20000 in
theorem gX0_run_X5_copyRow_n25 : GoodIn wsX0_run (wsX5_copyRow) := ggX0_run_X5_copyRow
set_option maxRecDepth 20000 in
theorem ggX0_run_X0_drawSale : GoodIn wsX0_run wsX0_drawSale := goodIn_r _ [17, 18, 4, 2, 19, 20, 21, 16, 22, 23, 3, 24, 25, 26, 27, 28, 29, 30, 31, 32, 33, 34, 35, 36, 37, 38, 39, 40, 41, 42, 43, 44, 45, 46, 47, 48, 49, 50, 51, 52, 53, 54, 55] (by decide +kernel) (by decide +kernel)
set_option maxRecDepth 20000 in
theorem gX0_run_X0_drawSale : GoodIn wsX0_run (wsV RX0 32 RX0 yX0_drawSale wsX0_drawSale) := goodIn_app (goodIn_of _ (by decide +kernel)) ggX0_run_X0_drawSale
theorem dX0_run_0 : decode cX0_run 0 = .ok (.aload_n 1, 1) := by decide +kernel
theorem dX0_run_1 : decode cX0_run 1 = .ok (.getfield 22, 3) := by decide +kernel
theorem dX0_run_4 : decode cX0_run 4 = .ok (.aload_n 0, 1) := by decide +kernel
theorem dX0_run_5 : decode cX0_run 5 = .ok (.getfield 9, 3) := by decide +kernel
theorem dX0_run_8 : decode cX0_run 8 = .ok (.invokestatic 25, 3) := by decide +kernel
theorem dX0_run_11 : decode cX0_run 11 = .ok (.aload_n 0, 1) := by decide +kernel
theorem dX0_run_12 : decode cX0_run 12 = .ok (.iload_n 3, 1) := by decide +kernel
theorem dX0_run_13 : decode cX0_run 13 = .ok (.putfield 15, 3) := by decide +kernel
theorem dX0_run_16 : decode cX0_run 16 = .ok (.aload_n 0, 1) := by decide +kernel
theorem dX0_run_17 : decode cX0_run 17 = .ok (.iconst 0, 1) := by decide +kernel
theorem dX0_run_18 : decode cX0_run 18 = .ok (.putfield 19, 3) := by decide +kernel
theorem dX0_run_21 : decode cX0_run 21 = .ok (.iconst 0, 1) := by decide +kernel
theorem dX0_run_22 : decode cX0_run 22 = .ok (.istore 4, 2) := by decide +kernel
theorem dX0_run_24 : decode cX0_run 24 = .ok (.iload 4, 2) := by decide +kernel
theorem dX0_run_26 : decode cX0_run 26 = .ok (.iload_n 2, 1) := by decide +kernel
theorem dX0_run_27 : decode cX0_run 27 = .ok (.if_icmp .ge 21, 3) := by decide +kernel
theorem dX0_run_30 : decode cX0_run 30 = .ok (.aload_n 0, 1) := by decide +kernel
theorem dX0_run_31 : decode cX0_run 31 = .ok (.aload_n 1, 1) := by decide +kernel
theorem dX0_run_32 : decode cX0_run 32 = .ok (.aload_n 1, 1) := by decide +kernel
theorem dX0_run_33 : decode cX0_run 33 = .ok (.getfield 29, 3) := by decide +kernel
theorem dX0_run_36 : decode cX0_run 36 = .ok (.iload 4, 2) := by decide +kernel
theorem dX0_run_38 : decode cX0_run 38 = .ok (.iadd, 1) := by decide +kernel
theorem dX0_run_39 : decode cX0_run 39 = .ok (.invokevirtual 32, 3) := by decide +kernel
theorem dX0_run_42 : decode cX0_run 42 = .ok (.iinc 4 1, 3) := by decide +kernel
theorem dX0_run_45 : decode cX0_run 45 = .ok (.goto (-21), 3) := by decide +kernel
theorem dX0_run_48 : decode cX0_run 48 = .ok (.return_, 1) := by decide +kernel
set_option maxRecDepth 20000 in
theorem ggX0_drawSale_X0_draw : GoodIn wsX0_drawSale wsX0_draw := goodIn_r _ [8, 9, 10, 11, 12, 13, 40, 41, 42] (by decide +kernel) (by decide +kernel)
set_option maxRecDepth 20000 in
theorem gX0_drawSale_X0_draw : GoodIn wsX0_drawSale (wsV RX0 39 RX0 yX0_draw wsX0_draw) := goodIn_app (goodIn_of _ (by decide +kernel)) ggX0_drawSale_X0_draw
set_option maxRecDepth 20000 in
theorem ggX0_drawSale_X2_ounces : GoodIn wsX0_drawSale wsX2_ounces := goodIn_r _ [18, 19, 20, 21, 22, 23, 24, 29, 30, 31, 32, 33, 34, 35, 36, 37, 38, 39] (by decide +kernel) (by decide +kernel)
set_option maxRecDepth 20000 in
theorem gX0_drawSale_X2_ounces : GoodIn wsX0_drawSale (wsV RX0 43 RX2 yX2_ounces wsX2_ounces) := goodIn_app (goodIn_of _ (by decide +kernel)) ggX0_drawSale_X2_ounces
set_option maxRecDepth 20000 in
theorem ggX0_drawSale_X2_weightAfter : GoodIn wsX0_drawSale wsX2_weightAfter := goodIn_r _ [28, 20, 21, 22, 23, 24, 29, 30, 31, 32, 33, 34, 35, 36, 37, 38, 39] (by decide +kernel) (by decide +kernel)
set_option maxRecDepth 20000 in
theorem gX0_drawSale_X2_weightAfter : GoodIn wsX0_drawSale (wsV RX0 47 RX2 yX2_weightAfter wsX2_weightAfter) := goodIn_app (goodIn_of _ (by decide +kernel)) ggX0_drawSale_X2_weightAfter
theorem dX0_drawSale_0 : decode cX0_drawSale 0 = .ok (.aload_n 0, 1) := by decide +kernel
theorem dX0_drawSale_1 : decode cX0_drawSale 1 = .ok (.aload_n 1, 1) := by decide +kernel
theorem dX0_drawSale_2 : decode cX0_drawSale 2 = .ok (.getfield 36, 3) := by decide +kernel
theorem dX0_drawSale_5 : decode cX0_drawSale 5 = .ok (.invokevirtual 39, 3) := by decide +kernel
theorem dX0_drawSale_8 : decode cX0_drawSale 8 = .ok (.istore_n 3, 1) := by decide +kernel
theorem dX0_drawSale_9 : decode cX0_drawSale 9 = .ok (.aload_n 0, 1) := by decide +kernel
theorem dX0_drawSale_10 : decode cX0_drawSale 10 = .ok (.aload_n 1, 1) := by decide +kernel
theorem dX0_drawSale_11 : decode cX0_drawSale 11 = .ok (.getfield 36, 3) := by decide +kernel
theorem dX0_drawSale_14 : decode cX0_drawSale 14 = .ok (.invokevirtual 39, 3) := by decide +kernel
theorem dX0_drawSale_17 : decode cX0_drawSale 17 = .ok (.istore 4, 2) := by decide +kernel
theorem dX0_drawSale_19 : decode cX0_drawSale 19 = .ok (.aload_n 0, 1) := by decide +kernel
theorem dX0_drawSale_20 : decode cX0_drawSale 20 = .ok (.aload_n 1, 1) := by decide +kernel
theorem dX0_drawSale_21 : decode cX0_drawSale 21 = .ok (.getfield 36, 3) := by decide +kernel
theorem dX0_drawSale_24 : decode cX0_drawSale 24 = .ok (.invokevirtual 39, 3) := by decide +kernel
theorem dX0_drawSale_27 : decode cX0_drawSale 27 = .ok (.istore 5, 2) := by decide +kernel
theorem dX0_drawSale_29 : decode cX0_drawSale 29 = .ok (.iload_n 3, 1) := by decide +kernel
theorem dX0_drawSale_30 : decode cX0_drawSale 30 = .ok (.iload 4, 2) := by decide +kernel
theorem dX0_drawSale_32 : decode cX0_drawSale 32 = .ok (.if_icmp .eq 47, 3) := by decide +kernel
theorem dX0_drawSale_35 : decode cX0_drawSale 35 = .ok (.aload_n 0, 1) := by decide +kernel
theorem dX0_drawSale_36 : decode cX0_drawSale 36 = .ok (.dup, 1) := by decide +kernel
theorem dX0_drawSale_37 : decode cX0_drawSale 37 = .ok (.getfield 19, 3) := by decide +kernel
theorem dX0_drawSale_40 : decode cX0_drawSale 40 = .ok (.aload_n 1, 1) := by decide +kernel
theorem dX0_drawSale_41 : decode cX0_drawSale 41 = .ok (.aload_n 0, 1) := by decide +kernel
theorem dX0_drawSale_42 : decode cX0_drawSale 42 = .ok (.getfield 9, 3) := by decide +kernel
theorem dX0_drawSale_45 : decode cX0_drawSale 45 = .ok (.iload 5, 2) := by decide +kernel
theorem dX0_drawSale_47 : decode cX0_drawSale 47 = .ok (.iaload, 1) := by decide +kernel
theorem dX0_drawSale_48 : decode cX0_drawSale 48 = .ok (.iload_n 3, 1) := by decide +kernel
theorem dX0_drawSale_49 : decode cX0_drawSale 49 = .ok (.iload_n 2, 1) := by decide +kernel
theorem dX0_drawSale_50 : decode cX0_drawSale 50 = .ok (.invokevirtual 43, 3) := by decide +kernel
theorem dX0_drawSale_53 : decode cX0_drawSale 53 = .ok (.iadd, 1) := by decide +kernel
theorem dX0_drawSale_54 : decode cX0_drawSale 54 = .ok (.putfield 19, 3) := by decide +kernel
theorem dX0_drawSale_57 : decode cX0_drawSale 57 = .ok (.aload_n 0, 1) := by decide +kernel
theorem dX0_drawSale_58 : decode cX0_drawSale 58 = .ok (.getfield 9, 3) := by decide +kernel
theorem dX0_drawSale_61 : decode cX0_drawSale 61 = .ok (.iload 5, 2) := by decide +kernel
theorem dX0_drawSale_63 : decode cX0_drawSale 63 = .ok (.aload_n 1, 1) := by decide +kernel
theorem dX0_drawSale_64 : decode cX0_drawSale 64 = .ok (.aload_n 0, 1) := by decide +kernel
theorem dX0_drawSale_65 : decode cX0_drawSale 65 = .ok (.getfield 9, 3) := by decide +kernel
theorem dX0_drawSale_68 : decode cX0_drawSale 68 = .ok (.iload 5, 2) := by decide +kernel
theorem dX0_drawSale_70 : decode cX0_drawSale 70 = .ok (.iaload, 1) := by decide +kernel
theorem dX0_drawSale_71 : decode cX0_drawSale 71 = .ok (.iload 5, 2) := by decide +kernel
theorem dX0_drawSale_73 : decode cX0_drawSale 73 = .ok (.iload 4, 2) := by decide +kernel
theorem dX0_drawSale_75 : decode cX0_drawSale 75 = .ok (.invokevirtual 47, 3) := by decide +kernel
theorem dX0_drawSale_78 : decode cX0_drawSale 78 = .ok (.iastore, 1) := by decide +kernel
theorem dX0_drawSale_79 : decode cX0_drawSale 79 = .ok (.return_, 1) := by decide +kernel
theorem dX0_draw_0 : decode cX0_draw 0 = .ok (.aload_n 0, 1) := by decide +kernel
theorem dX0_draw_1 : decode cX0_draw 1 = .ok (.ldc2_w 50, 3) := by decide +kernel
theorem dX0_draw_4 : decode cX0_draw 4 = .ok (.aload_n 0, 1) := by decide +kernel
theorem dX0_draw_5 : decode cX0_draw 5 = .ok (.getfield 15, 3) := by decide +kernel
theorem dX0_draw_8 : decode cX0_draw 8 = .ok (.i2l, 1) := by decide +kernel
theorem dX0_draw_9 : decode cX0_draw 9 = .ok (.lmul, 1) := by decide +kernel
theorem dX0_draw_10 : decode cX0_draw 10 = .ok (.ldc2_w 52, 3) := by decide +kernel
theorem dX0_draw_13 : decode cX0_draw 13 = .ok (.ladd, 1) := by decide +kernel
theorem dX0_draw_14 : decode cX0_draw 14 = .ok (.ldc2_w 54, 3) := by decide +kernel
theorem dX0_draw_17 : decode cX0_draw 17 = .ok (.lrem, 1) := by decide +kernel
theorem dX0_draw_18 : decode cX0_draw 18 = .ok (.l2i, 1) := by decide +kernel
theorem dX0_draw_19 : decode cX0_draw 19 = .ok (.putfield 15, 3) := by decide +kernel
theorem dX0_draw_22 : decode cX0_draw 22 = .ok (.iload_n 1, 1) := by decide +kernel
theorem dX0_draw_23 : decode cX0_draw 23 = .ok (.ifCond .le 15, 3) := by decide +kernel
theorem dX0_draw_26 : decode cX0_draw 26 = .ok (.aload_n 0, 1) := by decide +kernel
theorem dX0_draw_27 : decode cX0_draw 27 = .ok (.getfield 15, 3) := by decide +kernel
theorem dX0_draw_30 : decode cX0_draw 30 = .ok (.ldc 56, 2) := by decide +kernel
theorem dX0_draw_32 : decode cX0_draw 32 = .ok (.idiv, 1) := by decide +kernel
theorem dX0_draw_33 : decode cX0_draw 33 = .ok (.iload_n 1, 1) := by decide +kernel
theorem dX0_draw_34 : decode cX0_draw 34 = .ok (.irem, 1) := by decide +kernel
theorem dX0_draw_35 : decode cX0_draw 35 = .ok (.goto 4, 3) := by decide +kernel
theorem dX0_draw_38 : decode cX0_draw 38 = .ok (.iconst 0, 1) := by decide +kernel
theorem dX0_draw_39 : decode cX0_draw 39 = .ok (.ireturn, 1) := by decide +kernel
theorem dX1_init_0 : decode cX1_init 0 = .ok (.aload_n 0, 1) := by decide +kernel
theorem dX1_init_1 : decode cX1_init 1 = .ok (.invokespecial 3, 3) := by decide +kernel
theorem dX1_init_4 : decode cX1_init 4 = .ok (.aload_n 0, 1) := by decide +kernel
theorem dX1_init_5 : decode cX1_init 5 = .ok (.iconst 4, 1) := by decide +kernel
theorem dX1_init_6 : decode cX1_init 6 = .ok (.newarray .int, 2) := by decide +kernel
theorem dX1_init_8 : decode cX1_init 8 = .ok (.putfield 9, 3) := by decide +kernel
theorem dX1_init_11 : decode cX1_init 11 = .ok (.aload_n 0, 1) := by decide +kernel
theorem dX1_init_12 : decode cX1_init 12 = .ok (.iconst 0, 1) := by decide +kernel
theorem dX1_init_13 : decode cX1_init 13 = .ok (.putfield 15, 3) := by decide +kernel
theorem dX1_init_16 : decode cX1_init 16 = .ok (.aload_n 0, 1) := by decide +kernel
theorem dX1_init_17 : decode cX1_init 17 = .ok (.iconst 0, 1) := by decide +kernel
theorem dX1_init_18 : decode cX1_init 18 = .ok (.putfield 19, 3) := by decide +kernel
theorem dX1_init_21 : decode cX1_init 21 = .ok (.return_, 1) := by decide +kernel
theorem dX1_add_0 : decode cX1_add 0 = .ok (.aload_n 0, 1) := by decide +kernel
theorem dX1_add_1 : decode cX1_add 1 = .ok (.getfield 9, 3) := by decide +kernel
theorem dX1_add_4 : decode cX1_add 4 = .ok (.iload_n 1, 1) := by decide +kernel
theorem dX1_add_5 : decode cX1_add 5 = .ok (.dup2, 1) := by decide +kernel
theorem dX1_add_6 : decode cX1_add 6 = .ok (.iaload, 1) := by decide +kernel
theorem dX1_add_7 : decode cX1_add 7 = .ok (.iconst 1, 1) := by decide +kernel
theorem dX1_add_8 : decode cX1_add 8 = .ok (.iadd, 1) := by decide +kernel
theorem dX1_add_9 : decode cX1_add 9 = .ok (.iastore, 1) := by decide +kernel
theorem dX1_add_10 : decode cX1_add 10 = .ok (.aload_n 0, 1) := by decide +kernel
theorem dX1_add_11 : decode cX1_add 11 = .ok (.dup, 1) := by decide +kernel
theorem dX1_add_12 : decode cX1_add 12 = .ok (.getfield 15, 3) := by decide +kernel
theorem dX1_add_15 : decode cX1_add 15 = .ok (.iconst 1, 1) := by decide +kernel
theorem dX1_add_16 : decode cX1_add 16 = .ok (.iadd, 1) := by decide +kernel
theorem dX1_add_17 : decode cX1_add 17 = .ok (.putfield 15, 3) := by decide +kernel
theorem dX1_add_20 : decode cX1_add 20 = .ok (.return_, 1) := by decide +kernel
theorem dX1_forget_0 : decode cX1_forget 0 = .ok (.iconst 0, 1) := by decide +kernel
theorem dX1_forget_1 : decode cX1_forget 1 = .ok (.istore_n 1, 1) := by decide +kernel
theorem dX1_forget_2 : decode cX1_forget 2 = .ok (.iload_n 1, 1) := by decide +kernel
theorem dX1_forget_3 : decode cX1_forget 3 = .ok (.iconst 4, 1) := by decide +kernel
theorem dX1_forget_4 : decode cX1_forget 4 = .ok (.if_icmp .ge 16, 3) := by decide +kernel
theorem dX1_forget_7 : decode cX1_forget 7 = .ok (.aload_n 0, 1) := by decide +kernel
theorem dX1_forget_8 : decode cX1_forget 8 = .ok (.getfield 9, 3) := by decide +kernel
theorem dX1_forget_11 : decode cX1_forget 11 = .ok (.iload_n 1, 1) := by decide +kernel
theorem dX1_forget_12 : decode cX1_forget 12 = .ok (.iconst 0, 1) := by decide +kernel
theorem dX1_forget_13 : decode cX1_forget 13 = .ok (.iastore, 1) := by decide +kernel
theorem dX1_forget_14 : decode cX1_forget 14 = .ok (.iinc 1 1, 3) := by decide +kernel
theorem dX1_forget_17 : decode cX1_forget 17 = .ok (.goto (-15), 3) := by decide +kernel
theorem dX1_forget_20 : decode cX1_forget 20 = .ok (.aload_n 0, 1) := by decide +kernel
theorem dX1_forget_21 : decode cX1_forget 21 = .ok (.iconst 0, 1) := by decide +kernel
theorem dX1_forget_22 : decode cX1_forget 22 = .ok (.putfield 15, 3) := by decide +kernel
theorem dX1_forget_25 : decode cX1_forget 25 = .ok (.aload_n 0, 1) := by decide +kernel
theorem dX1_forget_26 : decode cX1_forget 26 = .ok (.iconst 0, 1) := by decide +kernel
theorem dX1_forget_27 : decode cX1_forget 27 = .ok (.putfield 19, 3) := by decide +kernel
theorem dX1_forget_30 : decode cX1_forget 30 = .ok (.return_, 1) := by decide +kernel
set_option maxRecDepth 20000 in
theorem ggX1_copyFrom_X5_copyRow : GoodIn wsX1_copyFrom wsX5_copyRow := goodIn_r _ [6, 7, 8, 9, 10] (by decide +kernel) (by decide +kernel)
set_option maxRecDepth 20000 in
theorem gX1_copyFrom_X5_copyRow_n22 : GoodIn wsX1_copyFrom (wsX5_copyRow) := ggX1_copyFrom_X5_copyRow
theorem dX1_copyFrom_0 : decode cX1_copyFrom 0 = .ok (.aload_n 1, 1) := by decide +kernel
theorem dX1_copyFrom_1 : decode cX1_copyFrom 1 = .ok (.getfield 9, 3) := by decide +kernel
theorem dX1_copyFrom_4 : decode cX1_copyFrom 4 = .ok (.aload_n 0, 1) := by decide +kernel
theorem dX1_copyFrom_5 : decode cX1_copyFrom 5 = .ok (.getfield 9, 3) := by decide +kernel
theorem dX1_copyFrom_8 : decode cX1_copyFrom 8 = .ok (.invokestatic 22, 3) := by decide +kernel
theorem dX1_copyFrom_11 : decode cX1_copyFrom 11 = .ok (.aload_n 0, 1) := by decide +kernel
theorem dX1_copyFrom_12 : decode cX1_copyFrom 12 = .ok (.aload_n 1, 1) := by decide +kernel
theorem dX1_copyFrom_13 : decode cX1_copyFrom 13 = .ok (.getfield 15, 3) := by decide +kernel
theorem dX1_copyFrom_16 : decode cX1_copyFrom 16 = .ok (.putfield 15, 3) := by decide +kernel
theorem dX1_copyFrom_19 : decode cX1_copyFrom 19 = .ok (.aload_n 0, 1) := by decide +kernel
theorem dX1_copyFrom_20 : decode cX1_copyFrom 20 = .ok (.aload_n 1, 1) := by decide +kernel
theorem dX1_copyFrom_21 : decode cX1_copyFrom 21 = .ok (.getfield 19, 3) := by decide +kernel
theorem dX1_copyFrom_24 : decode cX1_copyFrom 24 = .ok (.putfield 19, 3) := by decide +kernel
theorem dX1_copyFrom_27 : decode cX1_copyFrom 27 = .ok (.return_, 1) := by decide +kernel
set_option maxRecDepth 20000 in
theorem ggX1_howManySets_X1_howManySetsWith : GoodIn wsX1_howManySets wsX1_howManySetsWith := goodIn_r _ [5, 6, 7, 8, 4, 9, 10, 11, 12, 13, 14] (by decide +kernel) (by decide +kernel)
set_option maxRecDepth 20000 in
theorem gX1_howManySets_X1_howManySetsWith : GoodIn wsX1_howManySets (wsV RX1 26 RX1 yX1_howManySetsWith wsX1_howManySetsWith) := goodIn_app (goodIn_of _ (by decide +kernel)) ggX1_howManySets_X1_howManySetsWith
theorem dX1_howManySets_0 : decode cX1_howManySets 0 = .ok (.aload_n 0, 1) := by decide +kernel
theorem dX1_howManySets_1 : decode cX1_howManySets 1 = .ok (.iconst 0, 1) := by decide +kernel
theorem dX1_howManySets_2 : decode cX1_howManySets 2 = .ok (.iload_n 1, 1) := by decide +kernel
theorem dX1_howManySets_3 : decode cX1_howManySets 3 = .ok (.invokevirtual 26, 3) := by decide +kernel
theorem dX1_howManySets_6 : decode cX1_howManySets 6 = .ok (.ireturn, 1) := by decide +kernel
set_option maxRecDepth 20000 in
theorem ggX1_leastSet_X1_explains : GoodIn wsX1_leastSet wsX1_explains := goodIn_r _ [5, 6, 7, 8, 9, 10] (by decide +kernel) (by decide +kernel)
set_option maxRecDepth 20000 in
theorem gX1_leastSet_X1_explains : GoodIn wsX1_leastSet (wsV RX1 30 RX1 yX1_explains wsX1_explains) := goodIn_app (goodIn_of _ (by decide +kernel)) ggX1_leastSet_X1_explains
theorem dX1_leastSet_0 : decode cX1_leastSet 0 = .ok (.iconst 0, 1) := by decide +kernel
theorem dX1_leastSet_1 : decode cX1_leastSet 1 = .ok (.istore_n 2, 1) := by decide +kernel
theorem dX1_leastSet_2 : decode cX1_leastSet 2 = .ok (.iload_n 2, 1) := by decide +kernel
theorem dX1_leastSet_3 : decode cX1_leastSet 3 = .ok (.iconst 1, 1) := by decide +kernel
theorem dX1_leastSet_4 : decode cX1_leastSet 4 = .ok (.iload_n 1, 1) := by decide +kernel
theorem dX1_leastSet_5 : decode cX1_leastSet 5 = .ok (.ishl, 1) := by decide +kernel
theorem dX1_leastSet_6 : decode cX1_leastSet 6 = .ok (.if_icmp .ge 20, 3) := by decide +kernel
theorem dX1_leastSet_9 : decode cX1_leastSet 9 = .ok (.aload_n 0, 1) := by decide +kernel
theorem dX1_leastSet_10 : decode cX1_leastSet 10 = .ok (.iload_n 2, 1) := by decide +kernel
theorem dX1_leastSet_11 : decode cX1_leastSet 11 = .ok (.iload_n 1, 1) := by decide +kernel
theorem dX1_leastSet_12 : decode cX1_leastSet 12 = .ok (.invokevirtual 30, 3) := by decide +kernel
theorem dX1_leastSet_15 : decode cX1_leastSet 15 = .ok (.ifCond .eq 5, 3) := by decide +kernel
theorem dX1_leastSet_18 : decode cX1_leastSet 18 = .ok (.iload_n 2, 1) := by decide +kernel
theorem dX1_leastSet_19 : decode cX1_leastSet 19 = .ok (.ireturn, 1) := by decide +kernel
theorem dX1_leastSet_20 : decode cX1_leastSet 20 = .ok (.iinc 2 1, 3) := by decide +kernel
theorem dX1_leastSet_23 : decode cX1_leastSet 23 = .ok (.goto (-21), 3) := by decide +kernel
theorem dX1_leastSet_26 : decode cX1_leastSet 26 = .ok (.iconst (-1), 1) := by decide +kernel
theorem dX1_leastSet_27 : decode cX1_leastSet 27 = .ok (.ireturn, 1) := by decide +kernel
set_option maxRecDepth 20000 in
theorem ggX1_inAllSets_X1_explains : GoodIn wsX1_inAllSets wsX1_explains := goodIn_r _ [5, 6, 7, 8, 9, 10] (by decide +kernel) (by decide +kernel)
set_option maxRecDepth 20000 in
theorem gX1_inAllSets_X1_explains : GoodIn wsX1_inAllSets (wsV RX1 30 RX1 yX1_explains wsX1_explains) := goodIn_app (goodIn_of _ (by decide +kernel)) ggX1_inAllSets_X1_explains
theorem dX1_inAllSets_0 : decode cX1_inAllSets 0 = .ok (.iconst (-1), 1) := by decide +kernel
theorem dX1_inAllSets_1 : decode cX1_inAllSets 1 = .ok (.istore_n 2, 1) := by decide +kernel
theorem dX1_inAllSets_2 : decode cX1_inAllSets 2 = .ok (.iconst 0, 1) := by decide +kernel
theorem dX1_inAllSets_3 : decode cX1_inAllSets 3 = .ok (.istore_n 3, 1) := by decide +kernel
theorem dX1_inAllSets_4 : decode cX1_inAllSets 4 = .ok (.iload_n 3, 1) := by decide +kernel
theorem dX1_inAllSets_5 : decode cX1_inAllSets 5 = .ok (.iconst 1, 1) := by decide +kernel
theorem dX1_inAllSets_6 : decode cX1_inAllSets 6 = .ok (.iload_n 1, 1) := by decide +kernel
theorem dX1_inAllSets_7 : decode cX1_inAllSets 7 = .ok (.ishl, 1) := by decide +kernel
theorem dX1_inAllSets_8 : decode cX1_inAllSets 8 = .ok (.if_icmp .ge 22, 3) := by decide +kernel
theorem dX1_inAllSets_11 : decode cX1_inAllSets 11 = .ok (.aload_n 0, 1) := by decide +kernel
theorem dX1_inAllSets_12 : decode cX1_inAllSets 12 = .ok (.iload_n 3, 1) := by decide +kernel
theorem dX1_inAllSets_13 : decode cX1_inAllSets 13 = .ok (.iload_n 1, 1) := by decide +kernel
theorem dX1_inAllSets_14 : decode cX1_inAllSets 14 = .ok (.invokevirtual 30, 3) := by decide +kernel
theorem dX1_inAllSets_17 : decode cX1_inAllSets 17 = .ok (.ifCond .eq 7, 3) := by decide +kernel
theorem dX1_inAllSets_20 : decode cX1_inAllSets 20 = .ok (.iload_n 2, 1) := by decide +kernel
theorem dX1_inAllSets_21 : decode cX1_inAllSets 21 = .ok (.iload_n 3, 1) := by decide +kernel
theorem dX1_inAllSets_22 : decode cX1_inAllSets 22 = .ok (.iand, 1) := by decide +kernel
theorem dX1_inAllSets_23 : decode cX1_inAllSets 23 = .ok (.istore_n 2, 1) := by decide +kernel
theorem dX1_inAllSets_24 : decode cX1_inAllSets 24 = .ok (.iinc 3 1, 3) := by decide +kernel
theorem dX1_inAllSets_27 : decode cX1_inAllSets 27 = .ok (.goto (-23), 3) := by decide +kernel
theorem dX1_inAllSets_30 : decode cX1_inAllSets 30 = .ok (.iload_n 2, 1) := by decide +kernel
theorem dX1_inAllSets_31 : decode cX1_inAllSets 31 = .ok (.ireturn, 1) := by decide +kernel
set_option maxRecDepth 20000 in
theorem ggX1_houseToWatch_X1_howManySets : GoodIn wsX1_houseToWatch wsX1_howManySets := goodIn_r _ [9, 10, 11, 12, 8, 13, 14, 15, 16, 17, 18, 19, 20, 21, 22] (by decide +kernel) (by decide +kernel)
set_option maxRecDepth 20000 in
theorem gX1_houseToWatch_X1_howManySets : GoodIn wsX1_houseToWatch (wsV RX1 34 RX1 yX1_howManySets wsX1_howManySets) := goodIn_app (goodIn_of _ (by decide +kernel)) ggX1_houseToWatch_X1_howManySets
set_option maxRecDepth 20000 in
theorem ggX1_houseToWatch_X1_howManySetsWith : GoodIn wsX1_houseToWatch wsX1_howManySetsWith := goodIn_r _ [13, 14, 15, 16, 8, 17, 18, 19, 20, 21, 22] (by decide +kernel) (by decide +kernel)
set_option maxRecDepth 20000 in
theorem gX1_houseToWatch_X1_howManySetsWith : GoodIn wsX1_houseToWatch (wsV RX1 26 RX1 yX1_howManySetsWith wsX1_howManySetsWith) := goodIn_app (goodIn_of _ (by decide +kernel)) ggX1_houseToWatch_X1_howManySetsWith
theorem dX1_houseToWatch_0 : decode cX1_houseToWatch 0 = .ok (.aload_n 0, 1) := by decide +kernel
theorem dX1_houseToWatch_1 : decode cX1_houseToWatch 1 = .ok (.iload_n 1, 1) := by decide +kernel
theorem dX1_houseToWatch_2 : decode cX1_houseToWatch 2 = .ok (.invokevirtual 34, 3) := by decide +kernel
theorem dX1_houseToWatch_5 : decode cX1_houseToWatch 5 = .ok (.istore_n 2, 1) := by decide +kernel
theorem dX1_houseToWatch_6 : decode cX1_houseToWatch 6 = .ok (.iload_n 2, 1) := by decide +kernel
theorem dX1_houseToWatch_7 : decode cX1_houseToWatch 7 = .ok (.ifCond .ne 5, 3) := by decide +kernel
theorem dX1_houseToWatch_10 : decode cX1_houseToWatch 10 = .ok (.iconst (-1), 1) := by decide +kernel
theorem dX1_houseToWatch_11 : decode cX1_houseToWatch 11 = .ok (.ireturn, 1) := by decide +kernel
theorem dX1_houseToWatch_12 : decode cX1_houseToWatch 12 = .ok (.iconst (-1), 1) := by decide +kernel
theorem dX1_houseToWatch_13 : decode cX1_houseToWatch 13 = .ok (.istore_n 3, 1) := by decide +kernel
theorem dX1_houseToWatch_14 : decode cX1_houseToWatch 14 = .ok (.iload_n 2, 1) := by decide +kernel
theorem dX1_houseToWatch_15 : decode cX1_houseToWatch 15 = .ok (.iconst 1, 1) := by decide +kernel
theorem dX1_houseToWatch_16 : decode cX1_houseToWatch 16 = .ok (.iadd, 1) := by decide +kernel
theorem dX1_houseToWatch_17 : decode cX1_houseToWatch 17 = .ok (.istore 4, 2) := by decide +kernel
theorem dX1_houseToWatch_19 : decode cX1_houseToWatch 19 = .ok (.iconst 0, 1) := by decide +kernel
theorem dX1_houseToWatch_20 : decode cX1_houseToWatch 20 = .ok (.istore 5, 2) := by decide +kernel
theorem dX1_houseToWatch_22 : decode cX1_houseToWatch 22 = .ok (.iload 5, 2) := by decide +kernel
theorem dX1_houseToWatch_24 : decode cX1_houseToWatch 24 = .ok (.iload_n 1, 1) := by decide +kernel
theorem dX1_houseToWatch_25 : decode cX1_houseToWatch 25 = .ok (.if_icmp .ge 45, 3) := by decide +kernel
theorem dX1_houseToWatch_28 : decode cX1_houseToWatch 28 = .ok (.aload_n 0, 1) := by decide +kernel
theorem dX1_houseToWatch_29 : decode cX1_houseToWatch 29 = .ok (.iconst 1, 1) := by decide +kernel
theorem dX1_houseToWatch_30 : decode cX1_houseToWatch 30 = .ok (.iload 5, 2) := by decide +kernel
theorem dX1_houseToWatch_32 : decode cX1_houseToWatch 32 = .ok (.ishl, 1) := by decide +kernel
theorem dX1_houseToWatch_33 : decode cX1_houseToWatch 33 = .ok (.iload_n 1, 1) := by decide +kernel
theorem dX1_houseToWatch_34 : decode cX1_houseToWatch 34 = .ok (.invokevirtual 26, 3) := by decide +kernel
theorem dX1_houseToWatch_37 : decode cX1_houseToWatch 37 = .ok (.istore 6, 2) := by decide +kernel
theorem dX1_houseToWatch_39 : decode cX1_houseToWatch 39 = .ok (.iload 6, 2) := by decide +kernel
theorem dX1_houseToWatch_41 : decode cX1_houseToWatch 41 = .ok (.iload_n 2, 1) := by decide +kernel
theorem dX1_houseToWatch_42 : decode cX1_houseToWatch 42 = .ok (.iload 6, 2) := by decide +kernel
theorem dX1_houseToWatch_44 : decode cX1_houseToWatch 44 = .ok (.isub, 1) := by decide +kernel
theorem dX1_houseToWatch_45 : decode cX1_houseToWatch 45 = .ok (.invokestatic 38, 3) := by decide +kernel
theorem dX1_houseToWatch_48 : decode cX1_houseToWatch 48 = .ok (.istore 7, 2) := by decide +kernel
theorem dX1_houseToWatch_50 : decode cX1_houseToWatch 50 = .ok (.iload 7, 2) := by decide +kernel
theorem dX1_houseToWatch_52 : decode cX1_houseToWatch 52 = .ok (.iload 4, 2) := by decide +kernel
theorem dX1_houseToWatch_54 : decode cX1_houseToWatch 54 = .ok (.if_icmp .ge 10, 3) := by decide +kernel
theorem dX1_houseToWatch_57 : decode cX1_houseToWatch 57 = .ok (.iload 5, 2) := by decide +kernel
theorem dX1_houseToWatch_59 : decode cX1_houseToWatch 59 = .ok (.istore_n 3, 1) := by decide +kernel
theorem dX1_houseToWatch_60 : decode cX1_houseToWatch 60 = .ok (.iload 7, 2) := by decide +kernel
theorem dX1_houseToWatch_62 : decode cX1_houseToWatch 62 = .ok (.istore 4, 2) := by decide +kernel
theorem dX1_houseToWatch_64 : decode cX1_houseToWatch 64 = .ok (.iinc 5 1, 3) := by decide +kernel
theorem dX1_houseToWatch_67 : decode cX1_houseToWatch 67 = .ok (.goto (-45), 3) := by decide +kernel
theorem dX1_houseToWatch_70 : decode cX1_houseToWatch 70 = .ok (.iload_n 3, 1) := by decide +kernel
theorem dX1_houseToWatch_71 : decode cX1_houseToWatch 71 = .ok (.ireturn, 1) := by decide +kernel
set_option maxRecDepth 20000 in
theorem ggX1_howManySetsWith_X1_explains : GoodIn wsX1_howManySetsWith wsX1_explains := goodIn_r _ [5, 6, 7, 8, 9, 10] (by decide +kernel) (by decide +kernel)
set_option maxRecDepth 20000 in
theorem gX1_howManySetsWith_X1_explains : GoodIn wsX1_howManySetsWith (wsV RX1 30 RX1 yX1_explains wsX1_explains) := goodIn_app (goodIn_of _ (by decide +kernel)) ggX1_howManySetsWith_X1_explains
theorem dX1_howManySetsWith_0 : decode cX1_howManySetsWith 0 = .ok (.iconst 0, 1) := by decide +kernel
theorem dX1_howManySetsWith_1 : decode cX1_howManySetsWith 1 = .ok (.istore_n 3, 1) := by decide +kernel
theorem dX1_howManySetsWith_2 : decode cX1_howManySetsWith 2 = .ok (.iconst 0, 1) := by decide +kernel
theorem dX1_howManySetsWith_3 : decode cX1_howManySetsWith 3 = .ok (.istore 4, 2) := by decide +kernel
theorem dX1_howManySetsWith_5 : decode cX1_howManySetsWith 5 = .ok (.iload 4, 2) := by decide +kernel
theorem dX1_howManySetsWith_7 : decode cX1_howManySetsWith 7 = .ok (.iconst 1, 1) := by decide +kernel
theorem dX1_howManySetsWith_8 : decode cX1_howManySetsWith 8 = .ok (.iload_n 2, 1) := by decide +kernel
theorem dX1_howManySetsWith_9 : decode cX1_howManySetsWith 9 = .ok (.ishl, 1) := by decide +kernel
theorem dX1_howManySetsWith_10 : decode cX1_howManySetsWith 10 = .ok (.if_icmp .ge 30, 3) := by decide +kernel
theorem dX1_howManySetsWith_13 : decode cX1_howManySetsWith 13 = .ok (.iload 4, 2) := by decide +kernel
theorem dX1_howManySetsWith_15 : decode cX1_howManySetsWith 15 = .ok (.iload_n 1, 1) := by decide +kernel
theorem dX1_howManySetsWith_16 : decode cX1_howManySetsWith 16 = .ok (.iand, 1) := by decide +kernel
theorem dX1_howManySetsWith_17 : decode cX1_howManySetsWith 17 = .ok (.iload_n 1, 1) := by decide +kernel
theorem dX1_howManySetsWith_18 : decode cX1_howManySetsWith 18 = .ok (.if_icmp .ne 16, 3) := by decide +kernel
theorem dX1_howManySetsWith_21 : decode cX1_howManySetsWith 21 = .ok (.aload_n 0, 1) := by decide +kernel
theorem dX1_howManySetsWith_22 : decode cX1_howManySetsWith 22 = .ok (.iload 4, 2) := by decide +kernel
theorem dX1_howManySetsWith_24 : decode cX1_howManySetsWith 24 = .ok (.iload_n 2, 1) := by decide +kernel
theorem dX1_howManySetsWith_25 : decode cX1_howManySetsWith 25 = .ok (.invokevirtual 30, 3) := by decide +kernel
theorem dX1_howManySetsWith_28 : decode cX1_howManySetsWith 28 = .ok (.ifCond .eq 6, 3) := by decide +kernel
theorem dX1_howManySetsWith_31 : decode cX1_howManySetsWith 31 = .ok (.iinc 3 1, 3) := by decide +kernel
theorem dX1_howManySetsWith_34 : decode cX1_howManySetsWith 34 = .ok (.iinc 4 1, 3) := by decide +kernel
theorem dX1_howManySetsWith_37 : decode cX1_howManySetsWith 37 = .ok (.goto (-32), 3) := by decide +kernel
theorem dX1_howManySetsWith_40 : decode cX1_howManySetsWith 40 = .ok (.iload_n 3, 1) := by decide +kernel
theorem dX1_howManySetsWith_41 : decode cX1_howManySetsWith 41 = .ok (.ireturn, 1) := by decide +kernel
theorem dX1_explains_0 : decode cX1_explains 0 = .ok (.iconst 0, 1) := by decide +kernel
theorem dX1_explains_1 : decode cX1_explains 1 = .ok (.istore_n 3, 1) := by decide +kernel
theorem dX1_explains_2 : decode cX1_explains 2 = .ok (.iconst 0, 1) := by decide +kernel
theorem dX1_explains_3 : decode cX1_explains 3 = .ok (.istore 4, 2) := by decide +kernel
theorem dX1_explains_5 : decode cX1_explains 5 = .ok (.iload 4, 2) := by decide +kernel
theorem dX1_explains_7 : decode cX1_explains 7 = .ok (.iload_n 2, 1) := by decide +kernel
theorem dX1_explains_8 : decode cX1_explains 8 = .ok (.if_icmp .ge 29, 3) := by decide +kernel
theorem dX1_explains_11 : decode cX1_explains 11 = .ok (.iload_n 1, 1) := by decide +kernel
theorem dX1_explains_12 : decode cX1_explains 12 = .ok (.iload 4, 2) := by decide +kernel
theorem dX1_explains_14 : decode cX1_explains 14 = .ok (.ishr, 1) := by decide +kernel
theorem dX1_explains_15 : decode cX1_explains 15 = .ok (.iconst 1, 1) := by decide +kernel
theorem dX1_explains_16 : decode cX1_explains 16 = .ok (.iand, 1) := by decide +kernel
theorem dX1_explains_17 : decode cX1_explains 17 = .ok (.iconst 1, 1) := by decide +kernel
theorem dX1_explains_18 : decode cX1_explains 18 = .ok (.if_icmp .ne 13, 3) := by decide +kernel
theorem dX1_explains_21 : decode cX1_explains 21 = .ok (.iload_n 3, 1) := by decide +kernel
theorem dX1_explains_22 : decode cX1_explains 22 = .ok (.aload_n 0, 1) := by decide +kernel
theorem dX1_explains_23 : decode cX1_explains 23 = .ok (.getfield 9, 3) := by decide +kernel
theorem dX1_explains_26 : decode cX1_explains 26 = .ok (.iload 4, 2) := by decide +kernel
theorem dX1_explains_28 : decode cX1_explains 28 = .ok (.iaload, 1) := by decide +kernel
theorem dX1_explains_29 : decode cX1_explains 29 = .ok (.iadd, 1) := by decide +kernel
theorem dX1_explains_30 : decode cX1_explains 30 = .ok (.istore_n 3, 1) := by decide +kernel
theorem dX1_explains_31 : decode cX1_explains 31 = .ok (.iinc 4 1, 3) := by decide +kernel
theorem dX1_explains_34 : decode cX1_explains 34 = .ok (.goto (-29), 3) := by decide +kernel
theorem dX1_explains_37 : decode cX1_explains 37 = .ok (.iload_n 3, 1) := by decide +kernel
theorem dX1_explains_38 : decode cX1_explains 38 = .ok (.aload_n 0, 1) := by decide +kernel
theorem dX1_explains_39 : decode cX1_explains 39 = .ok (.getfield 19, 3) := by decide +kernel
theorem dX1_explains_42 : decode cX1_explains 42 = .ok (.if_icmp .ne 7, 3) := by decide +kernel
theorem dX1_explains_45 : decode cX1_explains 45 = .ok (.iconst 1, 1) := by decide +kernel
theorem dX1_explains_46 : decode cX1_explains 46 = .ok (.goto 4, 3) := by decide +kernel
theorem dX1_explains_49 : decode cX1_explains 49 = .ok (.iconst 0, 1) := by decide +kernel
theorem dX1_explains_50 : decode cX1_explains 50 = .ok (.ireturn, 1) := by decide +kernel
theorem dX2_init_0 : decode cX2_init 0 = .ok (.aload_n 0, 1) := by decide +kernel
theorem dX2_init_1 : decode cX2_init 1 = .ok (.invokespecial 3, 3) := by decide +kernel
theorem dX2_init_4 : decode cX2_init 4 = .ok (.aload_n 0, 1) := by decide +kernel
theorem dX2_init_5 : decode cX2_init 5 = .ok (.iconst 4, 1) := by decide +kernel
theorem dX2_init_6 : decode cX2_init 6 = .ok (.newarray .int, 2) := by decide +kernel
theorem dX2_init_8 : decode cX2_init 8 = .ok (.putfield 9, 3) := by decide +kernel
theorem dX2_init_11 : decode cX2_init 11 = .ok (.aload_n 0, 1) := by decide +kernel
theorem dX2_init_12 : decode cX2_init 12 = .ok (.iconst 4, 1) := by decide +kernel
theorem dX2_init_13 : decode cX2_init 13 = .ok (.newarray .int, 2) := by decide +kernel
theorem dX2_init_15 : decode cX2_init 15 = .ok (.putfield 15, 3) := by decide +kernel
theorem dX2_init_18 : decode cX2_init 18 = .ok (.aload_n 0, 1) := by decide +kernel
theorem dX2_init_19 : decode cX2_init 19 = .ok (.iconst 4, 1) := by decide +kernel
theorem dX2_init_20 : decode cX2_init 20 = .ok (.newarray .int, 2) := by decide +kernel
theorem dX2_init_22 : decode cX2_init 22 = .ok (.putfield 18, 3) := by decide +kernel
theorem dX2_init_25 : decode cX2_init 25 = .ok (.aload_n 0, 1) := by decide +kernel
theorem dX2_init_26 : decode cX2_init 26 = .ok (.iconst 4, 1) := by decide +kernel
theorem dX2_init_27 : decode cX2_init 27 = .ok (.newarray .int, 2) := by decide +kernel
theorem dX2_init_29 : decode cX2_init 29 = .ok (.putfield 21, 3) := by decide +kernel
theorem dX2_init_32 : decode cX2_init 32 = .ok (.aload_n 0, 1) := by decide +kernel
theorem dX2_init_33 : decode cX2_init 33 = .ok (.iconst 4, 1) := by decide +kernel
theorem dX2_init_34 : decode cX2_init 34 = .ok (.newarray .int, 2) := by decide +kernel
theorem dX2_init_36 : decode cX2_init 36 = .ok (.putfield 24, 3) := by decide +kernel
theorem dX2_init_39 : decode cX2_init 39 = .ok (.aload_n 0, 1) := by decide +kernel
theorem dX2_init_40 : decode cX2_init 40 = .ok (.iconst 4, 1) := by decide +kernel
theorem dX2_init_41 : decode cX2_init 41 = .ok (.newarray .int, 2) := by decide +kernel
theorem dX2_init_43 : decode cX2_init 43 = .ok (.putfield 27, 3) := by decide +kernel
theorem dX2_init_46 : decode cX2_init 46 = .ok (.aload_n 0, 1) := by decide +kernel
theorem dX2_init_47 : decode cX2_init 47 = .ok (.iconst 4, 1) := by decide +kernel
theorem dX2_init_48 : decode cX2_init 48 = .ok (.newarray .int, 2) := by decide +kernel
theorem dX2_init_50 : decode cX2_init 50 = .ok (.putfield 30, 3) := by decide +kernel
theorem dX2_init_53 : decode cX2_init 53 = .ok (.aload_n 0, 1) := by decide +kernel
theorem dX2_init_54 : decode cX2_init 54 = .ok (.iconst 0, 1) := by decide +kernel
theorem dX2_init_55 : decode cX2_init 55 = .ok (.putfield 33, 3) := by decide +kernel
theorem dX2_init_58 : decode cX2_init 58 = .ok (.aload_n 0, 1) := by decide +kernel
theorem dX2_init_59 : decode cX2_init 59 = .ok (.iconst 0, 1) := by decide +kernel
theorem dX2_init_60 : decode cX2_init 60 = .ok (.putfield 37, 3) := by decide +kernel
theorem dX2_init_63 : decode cX2_init 63 = .ok (.aload_n 0, 1) := by decide +kernel
theorem dX2_init_64 : decode cX2_init 64 = .ok (.iconst 0, 1) := by decide +kernel
theorem dX2_init_65 : decode cX2_init 65 = .ok (.putfield 40, 3) := by decide +kernel
theorem dX2_init_68 : decode cX2_init 68 = .ok (.aload_n 0, 1) := by decide +kernel
theorem dX2_init_69 : decode cX2_init 69 = .ok (.iconst 0, 1) := by decide +kernel
theorem dX2_init_70 : decode cX2_init 70 = .ok (.putfield 43, 3) := by decide +kernel
theorem dX2_init_73 : decode cX2_init 73 = .ok (.return_, 1) := by decide +kernel
set_option maxRecDepth 20000 in
theorem ggX2_open_X3_howManyHouses : GoodIn wsX2_open wsX3_howManyHouses := goodIn_r _ [17, 18, 128, 129] (by decide +kernel) (by decide +kernel)
set_option maxRecDepth 20000 in
theorem gX2_open_X3_howManyHouses : GoodIn wsX2_open (wsV RX2 46 RX3 yX3_howManyHouses wsX3_howManyHouses) := goodIn_app (goodIn_of _ (by decide +kernel)) ggX2_open_X3_howManyHouses
set_option maxRecDepth 20000 in
theorem ggX2_open_X3_digit : GoodIn wsX2_open wsX3_digit := goodIn_r _ [22, 23, 128, 129] (by decide +kernel) (by decide +kernel)
set_option maxRecDepth 20000 in
theorem gX2_open_X3_digit : GoodIn wsX2_open (wsV RX2 55 RX3 yX3_digit wsX3_digit) := goodIn_app (goodIn_of _ (by decide +kernel)) ggX2_open_X3_digit
set_option maxRecDepth 20000 in
theorem ggX2_open_X3_kind : GoodIn wsX2_open wsX3_kind := goodIn_r _ [27, 23, 28, 29, 30, 31, 32, 33, 34, 35, 36, 37, 38, 39, 40, 41, 42, 43, 44, 45, 46, 47, 48, 49, 50, 51, 52, 53, 54, 55, 56, 57, 58, 59, 60, 61, 62, 63, 64, 65, 66, 67, 68, 69, 70, 71, 72, 73, 74, 75, 76, 77, 78, 79, 80, 81, 82, 83, 84, 85, 86, 87, 88, 89, 90, 91, 92, 93, 94, 95, 96, 97, 98, 99, 100, 101, 102, 103, 104, 105, 106, 107, 108, 109, 110, 111, 112, 113, 114, 115, 116, 128, 129] (by decide +kernel) (by decide +kernel)
set_option maxRecDepth 20000 in
theorem gX2_open_X3_kind : GoodIn wsX2_open (wsV RX2 59 RX3 yX3_kind wsX3_kind) := goodIn_app (goodIn_of _ (by decide +kernel)) ggX2_open_X3_kind
theorem dX2_open_0 : decode cX2_open 0 = .ok (.aload_n 0, 1) := by decide +kernel
theorem dX2_open_1 : decode cX2_open 1 = .ok (.aload_n 1, 1) := by decide +kernel
theorem dX2_open_2 : decode cX2_open 2 = .ok (.invokevirtual 46, 3) := by decide +kernel
theorem dX2_open_5 : decode cX2_open 5 = .ok (.putfield 33, 3) := by decide +kernel
theorem dX2_open_8 : decode cX2_open 8 = .ok (.aload_n 0, 1) := by decide +kernel
theorem dX2_open_9 : decode cX2_open 9 = .ok (.aload_n 1, 1) := by decide +kernel
theorem dX2_open_10 : decode cX2_open 10 = .ok (.aload_n 1, 1) := by decide +kernel
theorem dX2_open_11 : decode cX2_open 11 = .ok (.getfield 52, 3) := by decide +kernel
theorem dX2_open_14 : decode cX2_open 14 = .ok (.iconst 1, 1) := by decide +kernel
theorem dX2_open_15 : decode cX2_open 15 = .ok (.isub, 1) := by decide +kernel
theorem dX2_open_16 : decode cX2_open 16 = .ok (.invokevirtual 55, 3) := by decide +kernel
theorem dX2_open_19 : decode cX2_open 19 = .ok (.putfield 37, 3) := by decide +kernel
theorem dX2_open_22 : decode cX2_open 22 = .ok (.aload_n 0, 1) := by decide +kernel
theorem dX2_open_23 : decode cX2_open 23 = .ok (.iconst 1, 1) := by decide +kernel
theorem dX2_open_24 : decode cX2_open 24 = .ok (.putfield 40, 3) := by decide +kernel
theorem dX2_open_27 : decode cX2_open 27 = .ok (.aload_n 0, 1) := by decide +kernel
theorem dX2_open_28 : decode cX2_open 28 = .ok (.iconst 0, 1) := by decide +kernel
theorem dX2_open_29 : decode cX2_open 29 = .ok (.putfield 43, 3) := by decide +kernel
theorem dX2_open_32 : decode cX2_open 32 = .ok (.iconst 0, 1) := by decide +kernel
theorem dX2_open_33 : decode cX2_open 33 = .ok (.istore_n 2, 1) := by decide +kernel
theorem dX2_open_34 : decode cX2_open 34 = .ok (.iload_n 2, 1) := by decide +kernel
theorem dX2_open_35 : decode cX2_open 35 = .ok (.aload_n 0, 1) := by decide +kernel
theorem dX2_open_36 : decode cX2_open 36 = .ok (.getfield 33, 3) := by decide +kernel
theorem dX2_open_39 : decode cX2_open 39 = .ok (.if_icmp .ge 81, 3) := by decide +kernel
theorem dX2_open_42 : decode cX2_open 42 = .ok (.iload_n 2, 1) := by decide +kernel
theorem dX2_open_43 : decode cX2_open 43 = .ok (.iconst 4, 1) := by decide +kernel
theorem dX2_open_44 : decode cX2_open 44 = .ok (.imul, 1) := by decide +kernel
theorem dX2_open_45 : decode cX2_open 45 = .ok (.istore_n 3, 1) := by decide +kernel
theorem dX2_open_46 : decode cX2_open 46 = .ok (.aload_n 0, 1) := by decide +kernel
theorem dX2_open_47 : decode cX2_open 47 = .ok (.getfield 9, 3) := by decide +kernel
theorem dX2_open_50 : decode cX2_open 50 = .ok (.iload_n 2, 1) := by decide +kernel
theorem dX2_open_51 : decode cX2_open 51 = .ok (.aload_n 1, 1) := by decide +kernel
theorem dX2_open_52 : decode cX2_open 52 = .ok (.iload_n 2, 1) := by decide +kernel
theorem dX2_open_53 : decode cX2_open 53 = .ok (.invokevirtual 59, 3) := by decide +kernel
theorem dX2_open_56 : decode cX2_open 56 = .ok (.iastore, 1) := by decide +kernel
theorem dX2_open_57 : decode cX2_open 57 = .ok (.aload_n 0, 1) := by decide +kernel
theorem dX2_open_58 : decode cX2_open 58 = .ok (.getfield 15, 3) := by decide +kernel
theorem dX2_open_61 : decode cX2_open 61 = .ok (.iload_n 2, 1) := by decide +kernel
theorem dX2_open_62 : decode cX2_open 62 = .ok (.bipush 10, 2) := by decide +kernel
theorem dX2_open_64 : decode cX2_open 64 = .ok (.aload_n 1, 1) := by decide +kernel
theorem dX2_open_65 : decode cX2_open 65 = .ok (.iload_n 3, 1) := by decide +kernel
theorem dX2_open_66 : decode cX2_open 66 = .ok (.iconst 1, 1) := by decide +kernel
theorem dX2_open_67 : decode cX2_open 67 = .ok (.iadd, 1) := by decide +kernel
theorem dX2_open_68 : decode cX2_open 68 = .ok (.invokevirtual 55, 3) := by decide +kernel
theorem dX2_open_71 : decode cX2_open 71 = .ok (.iadd, 1) := by decide +kernel
theorem dX2_open_72 : decode cX2_open 72 = .ok (.iastore, 1) := by decide +kernel
theorem dX2_open_73 : decode cX2_open 73 = .ok (.aload_n 0, 1) := by decide +kernel
theorem dX2_open_74 : decode cX2_open 74 = .ok (.getfield 18, 3) := by decide +kernel
theorem dX2_open_77 : decode cX2_open 77 = .ok (.iload_n 2, 1) := by decide +kernel
theorem dX2_open_78 : decode cX2_open 78 = .ok (.aload_n 1, 1) := by decide +kernel
theorem dX2_open_79 : decode cX2_open 79 = .ok (.iload_n 3, 1) := by decide +kernel
theorem dX2_open_80 : decode cX2_open 80 = .ok (.iconst 2, 1) := by decide +kernel
theorem dX2_open_81 : decode cX2_open 81 = .ok (.iadd, 1) := by decide +kernel
theorem dX2_open_82 : decode cX2_open 82 = .ok (.invokevirtual 55, 3) := by decide +kernel
theorem dX2_open_85 : decode cX2_open 85 = .ok (.iastore, 1) := by decide +kernel
theorem dX2_open_86 : decode cX2_open 86 = .ok (.aload_n 0, 1) := by decide +kernel
theorem dX2_open_87 : decode cX2_open 87 = .ok (.getfield 21, 3) := by decide +kernel
theorem dX2_open_90 : decode cX2_open 90 = .ok (.iload_n 2, 1) := by decide +kernel
theorem dX2_open_91 : decode cX2_open 91 = .ok (.iconst 0, 1) := by decide +kernel
theorem dX2_open_92 : decode cX2_open 92 = .ok (.iastore, 1) := by decide +kernel
theorem dX2_open_93 : decode cX2_open 93 = .ok (.aload_n 0, 1) := by decide +kernel
theorem dX2_open_94 : decode cX2_open 94 = .ok (.getfield 24, 3) := by decide +kernel
theorem dX2_open_97 : decode cX2_open 97 = .ok (.iload_n 2, 1) := by decide +kernel
theorem dX2_open_98 : decode cX2_open 98 = .ok (.iconst 0, 1) := by decide +kernel
theorem dX2_open_99 : decode cX2_open 99 = .ok (.iastore, 1) := by decide +kernel
theorem dX2_open_100 : decode cX2_open 100 = .ok (.aload_n 0, 1) := by decide +kernel
theorem dX2_open_101 : decode cX2_open 101 = .ok (.getfield 27, 3) := by decide +kernel
theorem dX2_open_104 : decode cX2_open 104 = .ok (.iload_n 2, 1) := by decide +kernel
theorem dX2_open_105 : decode cX2_open 105 = .ok (.iconst 0, 1) := by decide +kernel
theorem dX2_open_106 : decode cX2_open 106 = .ok (.iastore, 1) := by decide +kernel
theorem dX2_open_107 : decode cX2_open 107 = .ok (.aload_n 0, 1) := by decide +kernel
theorem dX2_open_108 : decode cX2_open 108 = .ok (.getfield 30, 3) := by decide +kernel
theorem dX2_open_111 : decode cX2_open 111 = .ok (.iload_n 2, 1) := by decide +kernel
theorem dX2_open_112 : decode cX2_open 112 = .ok (.iconst 0, 1) := by decide +kernel
theorem dX2_open_113 : decode cX2_open 113 = .ok (.iastore, 1) := by decide +kernel
theorem dX2_open_114 : decode cX2_open 114 = .ok (.iinc 2 1, 3) := by decide +kernel
theorem dX2_open_117 : decode cX2_open 117 = .ok (.goto (-83), 3) := by decide +kernel
theorem dX2_open_120 : decode cX2_open 120 = .ok (.return_, 1) := by decide +kernel
theorem dX2_isOpen_0 : decode cX2_isOpen 0 = .ok (.aload_n 0, 1) := by decide +kernel
theorem dX2_isOpen_1 : decode cX2_isOpen 1 = .ok (.getfield 33, 3) := by decide +kernel
theorem dX2_isOpen_4 : decode cX2_isOpen 4 = .ok (.ifCond .le 7, 3) := by decide +kernel
theorem dX2_isOpen_7 : decode cX2_isOpen 7 = .ok (.iconst 1, 1) := by decide +kernel
theorem dX2_isOpen_8 : decode cX2_isOpen 8 = .ok (.goto 4, 3) := by decide +kernel
theorem dX2_isOpen_11 : decode cX2_isOpen 11 = .ok (.iconst 0, 1) := by decide +kernel
theorem dX2_isOpen_12 : decode cX2_isOpen 12 = .ok (.ireturn, 1) := by decide +kernel
theorem dX2_has_0 : decode cX2_has 0 = .ok (.iload_n 1, 1) := by decide +kernel
theorem dX2_has_1 : decode cX2_has 1 = .ok (.ifCond .lt 15, 3) := by decide +kernel
theorem dX2_has_4 : decode cX2_has 4 = .ok (.iload_n 1, 1) := by decide +kernel
theorem dX2_has_5 : decode cX2_has 5 = .ok (.aload_n 0, 1) := by decide +kernel
theorem dX2_has_6 : decode cX2_has 6 = .ok (.getfield 33, 3) := by decide +kernel
theorem dX2_has_9 : decode cX2_has 9 = .ok (.if_icmp .ge 7, 3) := by decide +kernel
theorem dX2_has_12 : decode cX2_has 12 = .ok (.iconst 1, 1) := by decide +kernel
theorem dX2_has_13 : decode cX2_has 13 = .ok (.goto 4, 3) := by decide +kernel
theorem dX2_has_16 : decode cX2_has 16 = .ok (.iconst 0, 1) := by decide +kernel
theorem dX2_has_17 : decode cX2_has 17 = .ok (.ireturn, 1) := by decide +kernel
theorem dX2_tell_0 : decode cX2_tell 0 = .ok (.iload_n 2, 1) := by decide +kernel
theorem dX2_tell_1 : decode cX2_tell 1 = .ok (.tableswitch 81 0 5 #[39, 46, 53, 60, 67, 74], 39) := by decide +kernel
theorem dX2_tell_40 : decode cX2_tell 40 = .ok (.aload_n 0, 1) := by decide +kernel
theorem dX2_tell_41 : decode cX2_tell 41 = .ok (.getfield 9, 3) := by decide +kernel
theorem dX2_tell_44 : decode cX2_tell 44 = .ok (.iload_n 1, 1) := by decide +kernel
theorem dX2_tell_45 : decode cX2_tell 45 = .ok (.iaload, 1) := by decide +kernel
theorem dX2_tell_46 : decode cX2_tell 46 = .ok (.ireturn, 1) := by decide +kernel
theorem dX2_tell_47 : decode cX2_tell 47 = .ok (.aload_n 0, 1) := by decide +kernel
theorem dX2_tell_48 : decode cX2_tell 48 = .ok (.getfield 15, 3) := by decide +kernel
theorem dX2_tell_51 : decode cX2_tell 51 = .ok (.iload_n 1, 1) := by decide +kernel
theorem dX2_tell_52 : decode cX2_tell 52 = .ok (.iaload, 1) := by decide +kernel
theorem dX2_tell_53 : decode cX2_tell 53 = .ok (.ireturn, 1) := by decide +kernel
theorem dX2_tell_54 : decode cX2_tell 54 = .ok (.aload_n 0, 1) := by decide +kernel
theorem dX2_tell_55 : decode cX2_tell 55 = .ok (.getfield 18, 3) := by decide +kernel
theorem dX2_tell_58 : decode cX2_tell 58 = .ok (.iload_n 1, 1) := by decide +kernel
theorem dX2_tell_59 : decode cX2_tell 59 = .ok (.iaload, 1) := by decide +kernel
theorem dX2_tell_60 : decode cX2_tell 60 = .ok (.ireturn, 1) := by decide +kernel
theorem dX2_tell_61 : decode cX2_tell 61 = .ok (.aload_n 0, 1) := by decide +kernel
theorem dX2_tell_62 : decode cX2_tell 62 = .ok (.getfield 21, 3) := by decide +kernel
theorem dX2_tell_65 : decode cX2_tell 65 = .ok (.iload_n 1, 1) := by decide +kernel
theorem dX2_tell_66 : decode cX2_tell 66 = .ok (.iaload, 1) := by decide +kernel
theorem dX2_tell_67 : decode cX2_tell 67 = .ok (.ireturn, 1) := by decide +kernel
theorem dX2_tell_68 : decode cX2_tell 68 = .ok (.aload_n 0, 1) := by decide +kernel
theorem dX2_tell_69 : decode cX2_tell 69 = .ok (.getfield 24, 3) := by decide +kernel
theorem dX2_tell_72 : decode cX2_tell 72 = .ok (.iload_n 1, 1) := by decide +kernel
theorem dX2_tell_73 : decode cX2_tell 73 = .ok (.iaload, 1) := by decide +kernel
theorem dX2_tell_74 : decode cX2_tell 74 = .ok (.ireturn, 1) := by decide +kernel
theorem dX2_tell_75 : decode cX2_tell 75 = .ok (.aload_n 0, 1) := by decide +kernel
theorem dX2_tell_76 : decode cX2_tell 76 = .ok (.getfield 27, 3) := by decide +kernel
theorem dX2_tell_79 : decode cX2_tell 79 = .ok (.iload_n 1, 1) := by decide +kernel
theorem dX2_tell_80 : decode cX2_tell 80 = .ok (.iaload, 1) := by decide +kernel
theorem dX2_tell_81 : decode cX2_tell 81 = .ok (.ireturn, 1) := by decide +kernel
theorem dX2_tell_82 : decode cX2_tell 82 = .ok (.aload_n 0, 1) := by decide +kernel
theorem dX2_tell_83 : decode cX2_tell 83 = .ok (.getfield 30, 3) := by decide +kernel
theorem dX2_tell_86 : decode cX2_tell 86 = .ok (.iload_n 1, 1) := by decide +kernel
theorem dX2_tell_87 : decode cX2_tell 87 = .ok (.iaload, 1) := by decide +kernel
theorem dX2_tell_88 : decode cX2_tell 88 = .ok (.ireturn, 1) := by decide +kernel
theorem dX2_ounces_0 : decode cX2_ounces 0 = .ok (.iload_n 3, 1) := by decide +kernel
theorem dX2_ounces_1 : decode cX2_ounces 1 = .ok (.iconst 2, 1) := by decide +kernel
theorem dX2_ounces_2 : decode cX2_ounces 2 = .ok (.irem, 1) := by decide +kernel
theorem dX2_ounces_3 : decode cX2_ounces 3 = .ok (.ifCond .ne 12, 3) := by decide +kernel
theorem dX2_ounces_6 : decode cX2_ounces 6 = .ok (.iload_n 1, 1) := by decide +kernel
theorem dX2_ounces_7 : decode cX2_ounces 7 = .ok (.aload_n 0, 1) := by decide +kernel
theorem dX2_ounces_8 : decode cX2_ounces 8 = .ok (.getfield 37, 3) := by decide +kernel
theorem dX2_ounces_11 : decode cX2_ounces 11 = .ok (.isub, 1) := by decide +kernel
theorem dX2_ounces_12 : decode cX2_ounces 12 = .ok (.goto 9, 3) := by decide +kernel
theorem dX2_ounces_15 : decode cX2_ounces 15 = .ok (.iload_n 1, 1) := by decide +kernel
theorem dX2_ounces_16 : decode cX2_ounces 16 = .ok (.aload_n 0, 1) := by decide +kernel
theorem dX2_ounces_17 : decode cX2_ounces 17 = .ok (.getfield 37, 3) := by decide +kernel
theorem dX2_ounces_20 : decode cX2_ounces 20 = .ok (.iadd, 1) := by decide +kernel
theorem dX2_ounces_21 : decode cX2_ounces 21 = .ok (.istore 4, 2) := by decide +kernel
theorem dX2_ounces_23 : decode cX2_ounces 23 = .ok (.aload_n 0, 1) := by decide +kernel
theorem dX2_ounces_24 : decode cX2_ounces 24 = .ok (.getfield 9, 3) := by decide +kernel
theorem dX2_ounces_27 : decode cX2_ounces 27 = .ok (.iload_n 2, 1) := by decide +kernel
theorem dX2_ounces_28 : decode cX2_ounces 28 = .ok (.iaload, 1) := by decide +kernel
theorem dX2_ounces_29 : decode cX2_ounces 29 = .ok (.iconst 3, 1) := by decide +kernel
theorem dX2_ounces_30 : decode cX2_ounces 30 = .ok (.if_icmp .ne 10, 3) := by decide +kernel
theorem dX2_ounces_33 : decode cX2_ounces 33 = .ok (.iload 4, 2) := by decide +kernel
theorem dX2_ounces_35 : decode cX2_ounces 35 = .ok (.iconst 1, 1) := by decide +kernel
theorem dX2_ounces_36 : decode cX2_ounces 36 = .ok (.iadd, 1) := by decide +kernel
theorem dX2_ounces_37 : decode cX2_ounces 37 = .ok (.goto 5, 3) := by decide +kernel
theorem dX2_ounces_40 : decode cX2_ounces 40 = .ok (.iload 4, 2) := by decide +kernel
theorem dX2_ounces_42 : decode cX2_ounces 42 = .ok (.istore 5, 2) := by decide +kernel
theorem dX2_ounces_44 : decode cX2_ounces 44 = .ok (.iload 5, 2) := by decide +kernel
theorem dX2_ounces_46 : decode cX2_ounces 46 = .ok (.iconst 0, 1) := by decide +kernel
theorem dX2_ounces_47 : decode cX2_ounces 47 = .ok (.invokestatic 62, 3) := by decide +kernel
theorem dX2_ounces_50 : decode cX2_ounces 50 = .ok (.ireturn, 1) := by decide +kernel
theorem dX2_weightAfter_0 : decode cX2_weightAfter 0 = .ok (.aload_n 0, 1) := by decide +kernel
theorem dX2_weightAfter_1 : decode cX2_weightAfter 1 = .ok (.getfield 9, 3) := by decide +kernel
theorem dX2_weightAfter_4 : decode cX2_weightAfter 4 = .ok (.iload_n 2, 1) := by decide +kernel
theorem dX2_weightAfter_5 : decode cX2_weightAfter 5 = .ok (.iaload, 1) := by decide +kernel
theorem dX2_weightAfter_6 : decode cX2_weightAfter 6 = .ok (.iconst 2, 1) := by decide +kernel
theorem dX2_weightAfter_7 : decode cX2_weightAfter 7 = .ok (.if_icmp .ne 7, 3) := by decide +kernel
theorem dX2_weightAfter_10 : decode cX2_weightAfter 10 = .ok (.iconst 1, 1) := by decide +kernel
theorem dX2_weightAfter_11 : decode cX2_weightAfter 11 = .ok (.goto 4, 3) := by decide +kernel
theorem dX2_weightAfter_14 : decode cX2_weightAfter 14 = .ok (.iconst 0, 1) := by decide +kernel
theorem dX2_weightAfter_15 : decode cX2_weightAfter 15 = .ok (.istore 4, 2) := by decide +kernel
theorem dX2_weightAfter_17 : decode cX2_weightAfter 17 = .ok (.aload_n 0, 1) := by decide +kernel
theorem dX2_weightAfter_18 : decode cX2_weightAfter 18 = .ok (.getfield 9, 3) := by decide +kernel
theorem dX2_weightAfter_21 : decode cX2_weightAfter 21 = .ok (.iload_n 3, 1) := by decide +kernel
theorem dX2_weightAfter_22 : decode cX2_weightAfter 22 = .ok (.iaload, 1) := by decide +kernel
theorem dX2_weightAfter_23 : decode cX2_weightAfter 23 = .ok (.iconst 4, 1) := by decide +kernel
theorem dX2_weightAfter_24 : decode cX2_weightAfter 24 = .ok (.if_icmp .ne 7, 3) := by decide +kernel
theorem dX2_weightAfter_27 : decode cX2_weightAfter 27 = .ok (.iconst 2, 1) := by decide +kernel
theorem dX2_weightAfter_28 : decode cX2_weightAfter 28 = .ok (.goto 18, 3) := by decide +kernel
theorem dX2_weightAfter_31 : decode cX2_weightAfter 31 = .ok (.aload_n 0, 1) := by decide +kernel
theorem dX2_weightAfter_32 : decode cX2_weightAfter 32 = .ok (.getfield 9, 3) := by decide +kernel
theorem dX2_weightAfter_35 : decode cX2_weightAfter 35 = .ok (.iload_n 3, 1) := by decide +kernel
theorem dX2_weightAfter_36 : decode cX2_weightAfter 36 = .ok (.iaload, 1) := by decide +kernel
theorem dX2_weightAfter_37 : decode cX2_weightAfter 37 = .ok (.iconst 1, 1) := by decide +kernel
theorem dX2_weightAfter_38 : decode cX2_weightAfter 38 = .ok (.if_icmp .ne 7, 3) := by decide +kernel
theorem dX2_weightAfter_41 : decode cX2_weightAfter 41 = .ok (.iconst 1, 1) := by decide +kernel
theorem dX2_weightAfter_42 : decode cX2_weightAfter 42 = .ok (.goto 4, 3) := by decide +kernel
theorem dX2_weightAfter_45 : decode cX2_weightAfter 45 = .ok (.iconst 0, 1) := by decide +kernel
theorem dX2_weightAfter_46 : decode cX2_weightAfter 46 = .ok (.istore 5, 2) := by decide +kernel
theorem dX2_weightAfter_48 : decode cX2_weightAfter 48 = .ok (.iload_n 1, 1) := by decide +kernel
theorem dX2_weightAfter_49 : decode cX2_weightAfter 49 = .ok (.iload 4, 2) := by decide +kernel
theorem dX2_weightAfter_51 : decode cX2_weightAfter 51 = .ok (.isub, 1) := by decide +kernel
theorem dX2_weightAfter_52 : decode cX2_weightAfter 52 = .ok (.iload 5, 2) := by decide +kernel
theorem dX2_weightAfter_54 : decode cX2_weightAfter 54 = .ok (.isub, 1) := by decide +kernel
theorem dX2_weightAfter_55 : decode cX2_weightAfter 55 = .ok (.iconst 1, 1) := by decide +kernel
theorem dX2_weightAfter_56 : decode cX2_weightAfter 56 = .ok (.invokestatic 62, 3) := by decide +kernel
theorem dX2_weightAfter_59 : decode cX2_weightAfter 59 = .ok (.ireturn, 1) := by decide +kernel
set_option maxRecDepth 20000 in
theorem ggX2_sell_X2_ounces : GoodIn wsX2_sell wsX2_ounces := goodIn_r _ [13, 14, 15, 16, 17, 18, 19, 24, 25, 26, 27, 28, 29, 30, 31, 32, 33, 34] (by decide +kernel) (by decide +kernel)
set_option maxRecDepth 20000 in
theorem gX2_sell_X2_ounces : GoodIn wsX2_sell (wsV RX2 68 RX2 yX2_ounces wsX2_ounces) := goodIn_app (goodIn_of _ (by decide +kernel)) ggX2_sell_X2_ounces
set_option maxRecDepth 20000 in
theorem ggX2_sell_X2_weightAfter : GoodIn wsX2_sell wsX2_weightAfter := goodIn_r _ [23, 15, 16, 17, 18, 19, 24, 25, 26, 27, 28, 29, 30, 31, 32, 33, 34] (by decide +kernel) (by decide +kernel)
set_option maxRecDepth 20000 in
theorem gX2_sell_X2_weightAfter : GoodIn wsX2_sell (wsV RX2 72 RX2 yX2_weightAfter wsX2_weightAfter) := goodIn_app (goodIn_of _ (by decide +kernel)) ggX2_sell_X2_weightAfter
theorem dX2_sell_0 : decode cX2_sell 0 = .ok (.aload_n 0, 1) := by decide +kernel
theorem dX2_sell_1 : decode cX2_sell 1 = .ok (.aload_n 0, 1) := by decide +kernel
theorem dX2_sell_2 : decode cX2_sell 2 = .ok (.getfield 15, 3) := by decide +kernel
theorem dX2_sell_5 : decode cX2_sell 5 = .ok (.iload_n 3, 1) := by decide +kernel
theorem dX2_sell_6 : decode cX2_sell 6 = .ok (.iaload, 1) := by decide +kernel
theorem dX2_sell_7 : decode cX2_sell 7 = .ok (.iload_n 1, 1) := by decide +kernel
theorem dX2_sell_8 : decode cX2_sell 8 = .ok (.aload_n 0, 1) := by decide +kernel
theorem dX2_sell_9 : decode cX2_sell 9 = .ok (.getfield 40, 3) := by decide +kernel
theorem dX2_sell_12 : decode cX2_sell 12 = .ok (.invokevirtual 68, 3) := by decide +kernel
theorem dX2_sell_15 : decode cX2_sell 15 = .ok (.istore 4, 2) := by decide +kernel
theorem dX2_sell_17 : decode cX2_sell 17 = .ok (.aload_n 0, 1) := by decide +kernel
theorem dX2_sell_18 : decode cX2_sell 18 = .ok (.getfield 21, 3) := by decide +kernel
theorem dX2_sell_21 : decode cX2_sell 21 = .ok (.iload_n 1, 1) := by decide +kernel
theorem dX2_sell_22 : decode cX2_sell 22 = .ok (.dup2, 1) := by decide +kernel
theorem dX2_sell_23 : decode cX2_sell 23 = .ok (.iaload, 1) := by decide +kernel
theorem dX2_sell_24 : decode cX2_sell 24 = .ok (.iload 4, 2) := by decide +kernel
theorem dX2_sell_26 : decode cX2_sell 26 = .ok (.iadd, 1) := by decide +kernel
theorem dX2_sell_27 : decode cX2_sell 27 = .ok (.iastore, 1) := by decide +kernel
theorem dX2_sell_28 : decode cX2_sell 28 = .ok (.aload_n 0, 1) := by decide +kernel
theorem dX2_sell_29 : decode cX2_sell 29 = .ok (.getfield 24, 3) := by decide +kernel
theorem dX2_sell_32 : decode cX2_sell 32 = .ok (.iload_n 1, 1) := by decide +kernel
theorem dX2_sell_33 : decode cX2_sell 33 = .ok (.dup2, 1) := by decide +kernel
theorem dX2_sell_34 : decode cX2_sell 34 = .ok (.iaload, 1) := by decide +kernel
theorem dX2_sell_35 : decode cX2_sell 35 = .ok (.aload_n 0, 1) := by decide +kernel
theorem dX2_sell_36 : decode cX2_sell 36 = .ok (.getfield 18, 3) := by decide +kernel
theorem dX2_sell_39 : decode cX2_sell 39 = .ok (.iload_n 2, 1) := by decide +kernel
theorem dX2_sell_40 : decode cX2_sell 40 = .ok (.iaload, 1) := by decide +kernel
theorem dX2_sell_41 : decode cX2_sell 41 = .ok (.iadd, 1) := by decide +kernel
theorem dX2_sell_42 : decode cX2_sell 42 = .ok (.iastore, 1) := by decide +kernel
theorem dX2_sell_43 : decode cX2_sell 43 = .ok (.aload_n 0, 1) := by decide +kernel
theorem dX2_sell_44 : decode cX2_sell 44 = .ok (.getfield 27, 3) := by decide +kernel
theorem dX2_sell_47 : decode cX2_sell 47 = .ok (.iload_n 2, 1) := by decide +kernel
theorem dX2_sell_48 : decode cX2_sell 48 = .ok (.dup2, 1) := by decide +kernel
theorem dX2_sell_49 : decode cX2_sell 49 = .ok (.iaload, 1) := by decide +kernel
theorem dX2_sell_50 : decode cX2_sell 50 = .ok (.iconst 1, 1) := by decide +kernel
theorem dX2_sell_51 : decode cX2_sell 51 = .ok (.iadd, 1) := by decide +kernel
theorem dX2_sell_52 : decode cX2_sell 52 = .ok (.iastore, 1) := by decide +kernel
theorem dX2_sell_53 : decode cX2_sell 53 = .ok (.aload_n 0, 1) := by decide +kernel
theorem dX2_sell_54 : decode cX2_sell 54 = .ok (.getfield 30, 3) := by decide +kernel
theorem dX2_sell_57 : decode cX2_sell 57 = .ok (.iload_n 3, 1) := by decide +kernel
theorem dX2_sell_58 : decode cX2_sell 58 = .ok (.dup2, 1) := by decide +kernel
theorem dX2_sell_59 : decode cX2_sell 59 = .ok (.iaload, 1) := by decide +kernel
theorem dX2_sell_60 : decode cX2_sell 60 = .ok (.iconst 1, 1) := by decide +kernel
theorem dX2_sell_61 : decode cX2_sell 61 = .ok (.iadd, 1) := by decide +kernel
theorem dX2_sell_62 : decode cX2_sell 62 = .ok (.iastore, 1) := by decide +kernel
theorem dX2_sell_63 : decode cX2_sell 63 = .ok (.aload_n 0, 1) := by decide +kernel
theorem dX2_sell_64 : decode cX2_sell 64 = .ok (.dup, 1) := by decide +kernel
theorem dX2_sell_65 : decode cX2_sell 65 = .ok (.getfield 43, 3) := by decide +kernel
theorem dX2_sell_68 : decode cX2_sell 68 = .ok (.iconst 1, 1) := by decide +kernel
theorem dX2_sell_69 : decode cX2_sell 69 = .ok (.iadd, 1) := by decide +kernel
theorem dX2_sell_70 : decode cX2_sell 70 = .ok (.putfield 43, 3) := by decide +kernel
theorem dX2_sell_73 : decode cX2_sell 73 = .ok (.aload_n 0, 1) := by decide +kernel
theorem dX2_sell_74 : decode cX2_sell 74 = .ok (.getfield 15, 3) := by decide +kernel
theorem dX2_sell_77 : decode cX2_sell 77 = .ok (.iload_n 3, 1) := by decide +kernel
theorem dX2_sell_78 : decode cX2_sell 78 = .ok (.aload_n 0, 1) := by decide +kernel
theorem dX2_sell_79 : decode cX2_sell 79 = .ok (.aload_n 0, 1) := by decide +kernel
theorem dX2_sell_80 : decode cX2_sell 80 = .ok (.getfield 15, 3) := by decide +kernel
theorem dX2_sell_83 : decode cX2_sell 83 = .ok (.iload_n 3, 1) := by decide +kernel
theorem dX2_sell_84 : decode cX2_sell 84 = .ok (.iaload, 1) := by decide +kernel
theorem dX2_sell_85 : decode cX2_sell 85 = .ok (.iload_n 3, 1) := by decide +kernel
theorem dX2_sell_86 : decode cX2_sell 86 = .ok (.iload_n 2, 1) := by decide +kernel
theorem dX2_sell_87 : decode cX2_sell 87 = .ok (.invokevirtual 72, 3) := by decide +kernel
theorem dX2_sell_90 : decode cX2_sell 90 = .ok (.iastore, 1) := by decide +kernel
theorem dX2_sell_91 : decode cX2_sell 91 = .ok (.iload 4, 2) := by decide +kernel
theorem dX2_sell_93 : decode cX2_sell 93 = .ok (.ireturn, 1) := by decide +kernel
set_option maxRecDepth 20000 in
theorem ggX2_isFair_X2_ounces : GoodIn wsX2_isFair wsX2_ounces := goodIn_r _ [9, 10, 11, 12, 13, 14, 15, 16, 17, 18, 19, 20, 21, 22, 23, 24, 25, 26] (by decide +kernel) (by decide +kernel)
set_option maxRecDepth 20000 in
theorem gX2_isFair_X2_ounces : GoodIn wsX2_isFair (wsV RX2 68 RX2 yX2_ounces wsX2_ounces) := goodIn_app (goodIn_of _ (by decide +kernel)) ggX2_isFair_X2_ounces
theorem dX2_isFair_0 : decode cX2_isFair 0 = .ok (.aload_n 0, 1) := by decide +kernel
theorem dX2_isFair_1 : decode cX2_isFair 1 = .ok (.aload_n 0, 1) := by decide +kernel
theorem dX2_isFair_2 : decode cX2_isFair 2 = .ok (.getfield 15, 3) := by decide +kernel
theorem dX2_isFair_5 : decode cX2_isFair 5 = .ok (.iload_n 2, 1) := by decide +kernel
theorem dX2_isFair_6 : decode cX2_isFair 6 = .ok (.iaload, 1) := by decide +kernel
theorem dX2_isFair_7 : decode cX2_isFair 7 = .ok (.iload_n 2, 1) := by decide +kernel
theorem dX2_isFair_8 : decode cX2_isFair 8 = .ok (.aload_n 0, 1) := by decide +kernel
theorem dX2_isFair_9 : decode cX2_isFair 9 = .ok (.getfield 40, 3) := by decide +kernel
theorem dX2_isFair_12 : decode cX2_isFair 12 = .ok (.invokevirtual 68, 3) := by decide +kernel
theorem dX2_isFair_15 : decode cX2_isFair 15 = .ok (.istore_n 3, 1) := by decide +kernel
theorem dX2_isFair_16 : decode cX2_isFair 16 = .ok (.iconst 0, 1) := by decide +kernel
theorem dX2_isFair_17 : decode cX2_isFair 17 = .ok (.istore 4, 2) := by decide +kernel
theorem dX2_isFair_19 : decode cX2_isFair 19 = .ok (.iload 4, 2) := by decide +kernel
theorem dX2_isFair_21 : decode cX2_isFair 21 = .ok (.aload_n 0, 1) := by decide +kernel
theorem dX2_isFair_22 : decode cX2_isFair 22 = .ok (.getfield 33, 3) := by decide +kernel
theorem dX2_isFair_25 : decode cX2_isFair 25 = .ok (.if_icmp .ge 43, 3) := by decide +kernel
theorem dX2_isFair_28 : decode cX2_isFair 28 = .ok (.iload 4, 2) := by decide +kernel
theorem dX2_isFair_30 : decode cX2_isFair 30 = .ok (.iload_n 2, 1) := by decide +kernel
theorem dX2_isFair_31 : decode cX2_isFair 31 = .ok (.if_icmp .eq 31, 3) := by decide +kernel
theorem dX2_isFair_34 : decode cX2_isFair 34 = .ok (.iload 4, 2) := by decide +kernel
theorem dX2_isFair_36 : decode cX2_isFair 36 = .ok (.iload_n 1, 1) := by decide +kernel
theorem dX2_isFair_37 : decode cX2_isFair 37 = .ok (.if_icmp .eq 25, 3) := by decide +kernel
theorem dX2_isFair_40 : decode cX2_isFair 40 = .ok (.iload_n 3, 1) := by decide +kernel
theorem dX2_isFair_41 : decode cX2_isFair 41 = .ok (.aload_n 0, 1) := by decide +kernel
theorem dX2_isFair_42 : decode cX2_isFair 42 = .ok (.getfield 18, 3) := by decide +kernel
theorem dX2_isFair_45 : decode cX2_isFair 45 = .ok (.iload 4, 2) := by decide +kernel
theorem dX2_isFair_47 : decode cX2_isFair 47 = .ok (.iaload, 1) := by decide +kernel
theorem dX2_isFair_48 : decode cX2_isFair 48 = .ok (.imul, 1) := by decide +kernel
theorem dX2_isFair_49 : decode cX2_isFair 49 = .ok (.iload_n 3, 1) := by decide +kernel
theorem dX2_isFair_50 : decode cX2_isFair 50 = .ok (.aload_n 0, 1) := by decide +kernel
theorem dX2_isFair_51 : decode cX2_isFair 51 = .ok (.getfield 18, 3) := by decide +kernel
theorem dX2_isFair_54 : decode cX2_isFair 54 = .ok (.iload_n 1, 1) := by decide +kernel
theorem dX2_isFair_55 : decode cX2_isFair 55 = .ok (.iaload, 1) := by decide +kernel
theorem dX2_isFair_56 : decode cX2_isFair 56 = .ok (.imul, 1) := by decide +kernel
theorem dX2_isFair_57 : decode cX2_isFair 57 = .ok (.if_icmp .ge 5, 3) := by decide +kernel
theorem dX2_isFair_60 : decode cX2_isFair 60 = .ok (.iconst 0, 1) := by decide +kernel
theorem dX2_isFair_61 : decode cX2_isFair 61 = .ok (.ireturn, 1) := by decide +kernel
theorem dX2_isFair_62 : decode cX2_isFair 62 = .ok (.iinc 4 1, 3) := by decide +kernel
theorem dX2_isFair_65 : decode cX2_isFair 65 = .ok (.goto (-46), 3) := by decide +kernel
theorem dX2_isFair_68 : decode cX2_isFair 68 = .ok (.iconst 1, 1) := by decide +kernel
theorem dX2_isFair_69 : decode cX2_isFair 69 = .ok (.ireturn, 1) := by decide +kernel
theorem dX2_sum_0 : decode cX2_sum 0 = .ok (.iconst 0, 1) := by decide +kernel
theorem dX2_sum_1 : decode cX2_sum 1 = .ok (.istore_n 2, 1) := by decide +kernel
theorem dX2_sum_2 : decode cX2_sum 2 = .ok (.iconst 0, 1) := by decide +kernel
theorem dX2_sum_3 : decode cX2_sum 3 = .ok (.istore_n 3, 1) := by decide +kernel
theorem dX2_sum_4 : decode cX2_sum 4 = .ok (.iload_n 3, 1) := by decide +kernel
theorem dX2_sum_5 : decode cX2_sum 5 = .ok (.aload_n 0, 1) := by decide +kernel
theorem dX2_sum_6 : decode cX2_sum 6 = .ok (.getfield 33, 3) := by decide +kernel
theorem dX2_sum_9 : decode cX2_sum 9 = .ok (.if_icmp .ge 15, 3) := by decide +kernel
theorem dX2_sum_12 : decode cX2_sum 12 = .ok (.iload_n 2, 1) := by decide +kernel
theorem dX2_sum_13 : decode cX2_sum 13 = .ok (.aload_n 1, 1) := by decide +kernel
theorem dX2_sum_14 : decode cX2_sum 14 = .ok (.iload_n 3, 1) := by decide +kernel
theorem dX2_sum_15 : decode cX2_sum 15 = .ok (.iaload, 1) := by decide +kernel
theorem dX2_sum_16 : decode cX2_sum 16 = .ok (.iadd, 1) := by decide +kernel
theorem dX2_sum_17 : decode cX2_sum 17 = .ok (.istore_n 2, 1) := by decide +kernel
theorem dX2_sum_18 : decode cX2_sum 18 = .ok (.iinc 3 1, 3) := by decide +kernel
theorem dX2_sum_21 : decode cX2_sum 21 = .ok (.goto (-17), 3) := by decide +kernel
theorem dX2_sum_24 : decode cX2_sum 24 = .ok (.iload_n 2, 1) := by decide +kernel
theorem dX2_sum_25 : decode cX2_sum 25 = .ok (.ireturn, 1) := by decide +kernel
set_option maxRecDepth 20000 in
theorem ggX2_copyDoingsOf_X5_copyRow : GoodIn wsX2_copyDoingsOf wsX5_copyRow := goodIn_r _ [10, 11, 12, 13, 14] (by decide +kernel) (by decide +kernel)
set_option maxRecDepth 20000 in
theorem gX2_copyDoingsOf_X5_copyRow_n75 : GoodIn wsX2_copyDoingsOf (wsX5_copyRow) := ggX2_copyDoingsOf_X5_copyRow
theorem dX2_copyDoingsOf_0 : decode cX2_copyDoingsOf 0 = .ok (.aload_n 0, 1) := by decide +kernel
theorem dX2_copyDoingsOf_1 : decode cX2_copyDoingsOf 1 = .ok (.aload_n 1, 1) := by decide +kernel
theorem dX2_copyDoingsOf_2 : decode cX2_copyDoingsOf 2 = .ok (.getfield 40, 3) := by decide +kernel
theorem dX2_copyDoingsOf_5 : decode cX2_copyDoingsOf 5 = .ok (.putfield 40, 3) := by decide +kernel
theorem dX2_copyDoingsOf_8 : decode cX2_copyDoingsOf 8 = .ok (.aload_n 0, 1) := by decide +kernel
theorem dX2_copyDoingsOf_9 : decode cX2_copyDoingsOf 9 = .ok (.aload_n 1, 1) := by decide +kernel
theorem dX2_copyDoingsOf_10 : decode cX2_copyDoingsOf 10 = .ok (.getfield 43, 3) := by decide +kernel
theorem dX2_copyDoingsOf_13 : decode cX2_copyDoingsOf 13 = .ok (.putfield 43, 3) := by decide +kernel
theorem dX2_copyDoingsOf_16 : decode cX2_copyDoingsOf 16 = .ok (.aload_n 1, 1) := by decide +kernel
theorem dX2_copyDoingsOf_17 : decode cX2_copyDoingsOf 17 = .ok (.getfield 15, 3) := by decide +kernel
theorem dX2_copyDoingsOf_20 : decode cX2_copyDoingsOf 20 = .ok (.aload_n 0, 1) := by decide +kernel
theorem dX2_copyDoingsOf_21 : decode cX2_copyDoingsOf 21 = .ok (.getfield 15, 3) := by decide +kernel
theorem dX2_copyDoingsOf_24 : decode cX2_copyDoingsOf 24 = .ok (.invokestatic 75, 3) := by decide +kernel
theorem dX2_copyDoingsOf_27 : decode cX2_copyDoingsOf 27 = .ok (.aload_n 1, 1) := by decide +kernel
theorem dX2_copyDoingsOf_28 : decode cX2_copyDoingsOf 28 = .ok (.getfield 21, 3) := by decide +kernel
theorem dX2_copyDoingsOf_31 : decode cX2_copyDoingsOf 31 = .ok (.aload_n 0, 1) := by decide +kernel
theorem dX2_copyDoingsOf_32 : decode cX2_copyDoingsOf 32 = .ok (.getfield 21, 3) := by decide +kernel
theorem dX2_copyDoingsOf_35 : decode cX2_copyDoingsOf 35 = .ok (.invokestatic 75, 3) := by decide +kernel
theorem dX2_copyDoingsOf_38 : decode cX2_copyDoingsOf 38 = .ok (.aload_n 1, 1) := by decide +kernel
theorem dX2_copyDoingsOf_39 : decode cX2_copyDoingsOf 39 = .ok (.getfield 24, 3) := by decide +kernel
theorem dX2_copyDoingsOf_42 : decode cX2_copyDoingsOf 42 = .ok (.aload_n 0, 1) := by decide +kernel
theorem dX2_copyDoingsOf_43 : decode cX2_copyDoingsOf 43 = .ok (.getfield 24, 3) := by decide +kernel
theorem dX2_copyDoingsOf_46 : decode cX2_copyDoingsOf 46 = .ok (.invokestatic 75, 3) := by decide +kernel
theorem dX2_copyDoingsOf_49 : decode cX2_copyDoingsOf 49 = .ok (.aload_n 1, 1) := by decide +kernel
theorem dX2_copyDoingsOf_50 : decode cX2_copyDoingsOf 50 = .ok (.getfield 27, 3) := by decide +kernel
theorem dX2_copyDoingsOf_53 : decode cX2_copyDoingsOf 53 = .ok (.aload_n 0, 1) := by decide +kernel
theorem dX2_copyDoingsOf_54 : decode cX2_copyDoingsOf 54 = .ok (.getfield 27, 3) := by decide +kernel
theorem dX2_copyDoingsOf_57 : decode cX2_copyDoingsOf 57 = .ok (.invokestatic 75, 3) := by decide +kernel
theorem dX2_copyDoingsOf_60 : decode cX2_copyDoingsOf 60 = .ok (.aload_n 1, 1) := by decide +kernel
theorem dX2_copyDoingsOf_61 : decode cX2_copyDoingsOf 61 = .ok (.getfield 30, 3) := by decide +kernel
theorem dX2_copyDoingsOf_64 : decode cX2_copyDoingsOf 64 = .ok (.aload_n 0, 1) := by decide +kernel
theorem dX2_copyDoingsOf_65 : decode cX2_copyDoingsOf 65 = .ok (.getfield 30, 3) := by decide +kernel
theorem dX2_copyDoingsOf_68 : decode cX2_copyDoingsOf 68 = .ok (.invokestatic 75, 3) := by decide +kernel
theorem dX2_copyDoingsOf_71 : decode cX2_copyDoingsOf 71 = .ok (.return_, 1) := by decide +kernel
theorem dX3_init_0 : decode cX3_init 0 = .ok (.aload_n 0, 1) := by decide +kernel
theorem dX3_init_1 : decode cX3_init 1 = .ok (.invokespecial 3, 3) := by decide +kernel
theorem dX3_init_4 : decode cX3_init 4 = .ok (.aload_n 0, 1) := by decide +kernel
theorem dX3_init_5 : decode cX3_init 5 = .ok (.bipush 18, 2) := by decide +kernel
theorem dX3_init_7 : decode cX3_init 7 = .ok (.newarray .char, 2) := by decide +kernel
theorem dX3_init_9 : decode cX3_init 9 = .ok (.putfield 9, 3) := by decide +kernel
theorem dX3_init_12 : decode cX3_init 12 = .ok (.aload_n 0, 1) := by decide +kernel
theorem dX3_init_13 : decode cX3_init 13 = .ok (.iconst 0, 1) := by decide +kernel
theorem dX3_init_14 : decode cX3_init 14 = .ok (.putfield 15, 3) := by decide +kernel
theorem dX3_init_17 : decode cX3_init 17 = .ok (.return_, 1) := by decide +kernel
theorem dX3_add_0 : decode cX3_add 0 = .ok (.aload_n 0, 1) := by decide +kernel
theorem dX3_add_1 : decode cX3_add 1 = .ok (.getfield 15, 3) := by decide +kernel
theorem dX3_add_4 : decode cX3_add 4 = .ok (.bipush 18, 2) := by decide +kernel
theorem dX3_add_6 : decode cX3_add 6 = .ok (.if_icmp .ge 23, 3) := by decide +kernel
theorem dX3_add_9 : decode cX3_add 9 = .ok (.aload_n 0, 1) := by decide +kernel
theorem dX3_add_10 : decode cX3_add 10 = .ok (.getfield 9, 3) := by decide +kernel
theorem dX3_add_13 : decode cX3_add 13 = .ok (.aload_n 0, 1) := by decide +kernel
theorem dX3_add_14 : decode cX3_add 14 = .ok (.getfield 15, 3) := by decide +kernel
theorem dX3_add_17 : decode cX3_add 17 = .ok (.iload_n 1, 1) := by decide +kernel
theorem dX3_add_18 : decode cX3_add 18 = .ok (.castore, 1) := by decide +kernel
theorem dX3_add_19 : decode cX3_add 19 = .ok (.aload_n 0, 1) := by decide +kernel
theorem dX3_add_20 : decode cX3_add 20 = .ok (.dup, 1) := by decide +kernel
theorem dX3_add_21 : decode cX3_add 21 = .ok (.getfield 15, 3) := by decide +kernel
theorem dX3_add_24 : decode cX3_add 24 = .ok (.iconst 1, 1) := by decide +kernel
theorem dX3_add_25 : decode cX3_add 25 = .ok (.iadd, 1) := by decide +kernel
theorem dX3_add_26 : decode cX3_add 26 = .ok (.putfield 15, 3) := by decide +kernel
theorem dX3_add_29 : decode cX3_add 29 = .ok (.return_, 1) := by decide +kernel
theorem dX3_empty_0 : decode cX3_empty 0 = .ok (.aload_n 0, 1) := by decide +kernel
theorem dX3_empty_1 : decode cX3_empty 1 = .ok (.iconst 0, 1) := by decide +kernel
theorem dX3_empty_2 : decode cX3_empty 2 = .ok (.putfield 15, 3) := by decide +kernel
theorem dX3_empty_5 : decode cX3_empty 5 = .ok (.return_, 1) := by decide +kernel
set_option maxRecDepth 20000 in
theorem ggX3_firstFault_X3_fitsHouses : GoodIn wsX3_firstFault wsX3_fitsHouses := goodIn_r _ [7, 2, 8, 9, 10, 11, 12, 13, 14, 15, 16, 17, 18, 19, 20, 21, 22, 23, 24, 25, 26, 27, 28, 29, 30, 31, 32, 33, 34, 35, 36, 37, 38, 39, 40, 41, 42, 43, 44, 45, 46, 47, 48, 49, 50, 51, 52, 53, 54, 55, 56, 57, 58, 59, 60, 61, 62, 63, 64, 65, 66, 67, 68, 69, 70, 71, 72, 73, 74, 75, 76, 77, 78, 79, 80, 81, 82, 83, 84, 85, 86, 87, 88, 89, 90, 91, 92, 93, 94, 95, 96, 97, 98, 99, 6, 100, 101, 102] (by decide +kernel) (by decide +kernel)
set_option maxRecDepth 20000 in
theorem gX3_firstFault_X3_fitsHouses : GoodIn wsX3_firstFault (wsV RX3 19 RX3 yX3_fitsHouses wsX3_fitsHouses) := goodIn_app (goodIn_of _ (by decide +kernel)) ggX3_firstFault_X3_fitsHouses
set_option maxRecDepth 20000 in
theorem ggX3_firstFault_X3_isBetween : GoodIn wsX3_firstFault wsX3_isBetween := goodIn_r _ [100, 2, 101, 102] (by decide +kernel) (by decide +kernel)
set_option maxRecDepth 20000 in
theorem gX3_firstFault_X3_isBetween : GoodIn wsX3_firstFault (wsV RX3 23 RX3 yX3_isBetween wsX3_isBetween) := goodIn_app (goodIn_of _ (by decide +kernel)) ggX3_firstFault_X3_isBetween
theorem dX3_firstFault_0 : decode cX3_firstFault 0 = .ok (.iconst (-1), 1) := by decide +kernel
theorem dX3_firstFault_1 : decode cX3_firstFault 1 = .ok (.istore_n 1, 1) := by decide +kernel
theorem dX3_firstFault_2 : decode cX3_firstFault 2 = .ok (.iconst 0, 1) := by decide +kernel
theorem dX3_firstFault_3 : decode cX3_firstFault 3 = .ok (.istore_n 2, 1) := by decide +kernel
theorem dX3_firstFault_4 : decode cX3_firstFault 4 = .ok (.iload_n 2, 1) := by decide +kernel
theorem dX3_firstFault_5 : decode cX3_firstFault 5 = .ok (.aload_n 0, 1) := by decide +kernel
theorem dX3_firstFault_6 : decode cX3_firstFault 6 = .ok (.getfield 15, 3) := by decide +kernel
theorem dX3_firstFault_9 : decode cX3_firstFault 9 = .ok (.if_icmp .ge 66, 3) := by decide +kernel
theorem dX3_firstFault_12 : decode cX3_firstFault 12 = .ok (.iload_n 1, 1) := by decide +kernel
theorem dX3_firstFault_13 : decode cX3_firstFault 13 = .ok (.iconst (-1), 1) := by decide +kernel
theorem dX3_firstFault_14 : decode cX3_firstFault 14 = .ok (.if_icmp .ne 11, 3) := by decide +kernel
theorem dX3_firstFault_17 : decode cX3_firstFault 17 = .ok (.aload_n 0, 1) := by decide +kernel
theorem dX3_firstFault_18 : decode cX3_firstFault 18 = .ok (.iload_n 2, 1) := by decide +kernel
theorem dX3_firstFault_19 : decode cX3_firstFault 19 = .ok (.invokevirtual 19, 3) := by decide +kernel
theorem dX3_firstFault_22 : decode cX3_firstFault 22 = .ok (.goto 27, 3) := by decide +kernel
theorem dX3_firstFault_25 : decode cX3_firstFault 25 = .ok (.iload_n 2, 1) := by decide +kernel
theorem dX3_firstFault_26 : decode cX3_firstFault 26 = .ok (.iload_n 1, 1) := by decide +kernel
theorem dX3_firstFault_27 : decode cX3_firstFault 27 = .ok (.iconst 1, 1) := by decide +kernel
theorem dX3_firstFault_28 : decode cX3_firstFault 28 = .ok (.iadd, 1) := by decide +kernel
theorem dX3_firstFault_29 : decode cX3_firstFault 29 = .ok (.if_icmp .ne 19, 3) := by decide +kernel
theorem dX3_firstFault_32 : decode cX3_firstFault 32 = .ok (.aload_n 0, 1) := by decide +kernel
theorem dX3_firstFault_33 : decode cX3_firstFault 33 = .ok (.iload_n 2, 1) := by decide +kernel
theorem dX3_firstFault_34 : decode cX3_firstFault 34 = .ok (.bipush 48, 2) := by decide +kernel
theorem dX3_firstFault_36 : decode cX3_firstFault 36 = .ok (.bipush 51, 2) := by decide +kernel
theorem dX3_firstFault_38 : decode cX3_firstFault 38 = .ok (.invokevirtual 23, 3) := by decide +kernel
theorem dX3_firstFault_41 : decode cX3_firstFault 41 = .ok (.ifCond .eq 7, 3) := by decide +kernel
theorem dX3_firstFault_44 : decode cX3_firstFault 44 = .ok (.iconst 1, 1) := by decide +kernel
theorem dX3_firstFault_45 : decode cX3_firstFault 45 = .ok (.goto 4, 3) := by decide +kernel
theorem dX3_firstFault_48 : decode cX3_firstFault 48 = .ok (.iconst 0, 1) := by decide +kernel
theorem dX3_firstFault_49 : decode cX3_firstFault 49 = .ok (.istore_n 3, 1) := by decide +kernel
theorem dX3_firstFault_50 : decode cX3_firstFault 50 = .ok (.iload_n 3, 1) := by decide +kernel
theorem dX3_firstFault_51 : decode cX3_firstFault 51 = .ok (.ifCond .ne 5, 3) := by decide +kernel
theorem dX3_firstFault_54 : decode cX3_firstFault 54 = .ok (.iload_n 2, 1) := by decide +kernel
theorem dX3_firstFault_55 : decode cX3_firstFault 55 = .ok (.ireturn, 1) := by decide +kernel
theorem dX3_firstFault_56 : decode cX3_firstFault 56 = .ok (.aload_n 0, 1) := by decide +kernel
theorem dX3_firstFault_57 : decode cX3_firstFault 57 = .ok (.getfield 9, 3) := by decide +kernel
theorem dX3_firstFault_60 : decode cX3_firstFault 60 = .ok (.iload_n 2, 1) := by decide +kernel
theorem dX3_firstFault_61 : decode cX3_firstFault 61 = .ok (.caload, 1) := by decide +kernel
theorem dX3_firstFault_62 : decode cX3_firstFault 62 = .ok (.bipush 59, 2) := by decide +kernel
theorem dX3_firstFault_64 : decode cX3_firstFault 64 = .ok (.if_icmp .ne 5, 3) := by decide +kernel
theorem dX3_firstFault_67 : decode cX3_firstFault 67 = .ok (.iload_n 2, 1) := by decide +kernel
theorem dX3_firstFault_68 : decode cX3_firstFault 68 = .ok (.istore_n 1, 1) := by decide +kernel
theorem dX3_firstFault_69 : decode cX3_firstFault 69 = .ok (.iinc 2 1, 3) := by decide +kernel
theorem dX3_firstFault_72 : decode cX3_firstFault 72 = .ok (.goto (-68), 3) := by decide +kernel
theorem dX3_firstFault_75 : decode cX3_firstFault 75 = .ok (.aload_n 0, 1) := by decide +kernel
theorem dX3_firstFault_76 : decode cX3_firstFault 76 = .ok (.getfield 15, 3) := by decide +kernel
theorem dX3_firstFault_79 : decode cX3_firstFault 79 = .ok (.ireturn, 1) := by decide +kernel
set_option maxRecDepth 20000 in
theorem ggX3_isMarket_X3_firstFault : GoodIn wsX3_isMarket wsX3_firstFault := goodIn_r _ [7, 1, 2, 8, 9, 10, 6, 11, 12, 13, 14, 15, 16, 17, 18, 19, 20, 21, 22, 23, 24, 25, 26, 27, 28, 29, 30, 31, 32, 33, 34, 35, 36, 37, 38, 39, 40, 41, 42, 43, 44, 45, 46, 47, 48, 49, 50, 51, 52, 53, 54, 55, 56, 57, 58, 59, 60, 61, 62, 63, 64, 65, 66, 67, 68, 69, 70, 71, 72, 73, 74, 75, 76, 77, 78, 79, 80, 81, 82, 83, 84, 85, 86, 87, 88, 89, 90, 91, 92, 93, 94, 95, 96, 97, 98, 99, 100, 101, 102, 103, 104, 105, 106] (by decide +kernel) (by decide +kernel)
set_option maxRecDepth 20000 in
theorem gX3_isMarket_X3_firstFault : GoodIn wsX3_isMarket (wsV RX3 27 RX3 yX3_firstFault wsX3_firstFault) := goodIn_app (goodIn_of _ (by decide +kernel)) ggX3_isMarket_X3_firstFault
theorem dX3_isMarket_0 : decode cX3_isMarket 0 = .ok (.aload_n 0, 1) := by decide +kernel
theorem dX3_isMarket_1 : decode cX3_isMarket 1 = .ok (.getfield 15, 3) := by decide +kernel
theorem dX3_isMarket_4 : decode cX3_isMarket 4 = .ok (.iconst 2, 1) := by decide +kernel
theorem dX3_isMarket_5 : decode cX3_isMarket 5 = .ok (.if_icmp .lt 34, 3) := by decide +kernel
theorem dX3_isMarket_8 : decode cX3_isMarket 8 = .ok (.aload_n 0, 1) := by decide +kernel
theorem dX3_isMarket_9 : decode cX3_isMarket 9 = .ok (.getfield 9, 3) := by decide +kernel
theorem dX3_isMarket_12 : decode cX3_isMarket 12 = .ok (.aload_n 0, 1) := by decide +kernel
theorem dX3_isMarket_13 : decode cX3_isMarket 13 = .ok (.getfield 15, 3) := by decide +kernel
theorem dX3_isMarket_16 : decode cX3_isMarket 16 = .ok (.iconst 2, 1) := by decide +kernel
theorem dX3_isMarket_17 : decode cX3_isMarket 17 = .ok (.isub, 1) := by decide +kernel
theorem dX3_isMarket_18 : decode cX3_isMarket 18 = .ok (.caload, 1) := by decide +kernel
theorem dX3_isMarket_19 : decode cX3_isMarket 19 = .ok (.bipush 59, 2) := by decide +kernel
theorem dX3_isMarket_21 : decode cX3_isMarket 21 = .ok (.if_icmp .ne 18, 3) := by decide +kernel
theorem dX3_isMarket_24 : decode cX3_isMarket 24 = .ok (.aload_n 0, 1) := by decide +kernel
theorem dX3_isMarket_25 : decode cX3_isMarket 25 = .ok (.invokevirtual 27, 3) := by decide +kernel
theorem dX3_isMarket_28 : decode cX3_isMarket 28 = .ok (.aload_n 0, 1) := by decide +kernel
theorem dX3_isMarket_29 : decode cX3_isMarket 29 = .ok (.getfield 15, 3) := by decide +kernel
theorem dX3_isMarket_32 : decode cX3_isMarket 32 = .ok (.if_icmp .ne 7, 3) := by decide +kernel
theorem dX3_isMarket_35 : decode cX3_isMarket 35 = .ok (.iconst 1, 1) := by decide +kernel
theorem dX3_isMarket_36 : decode cX3_isMarket 36 = .ok (.goto 4, 3) := by decide +kernel
theorem dX3_isMarket_39 : decode cX3_isMarket 39 = .ok (.iconst 0, 1) := by decide +kernel
theorem dX3_isMarket_40 : decode cX3_isMarket 40 = .ok (.ireturn, 1) := by decide +kernel
theorem dX3_howManyHouses_0 : decode cX3_howManyHouses 0 = .ok (.aload_n 0, 1) := by decide +kernel
theorem dX3_howManyHouses_1 : decode cX3_howManyHouses 1 = .ok (.getfield 15, 3) := by decide +kernel
theorem dX3_howManyHouses_4 : decode cX3_howManyHouses 4 = .ok (.iconst 4, 1) := by decide +kernel
theorem dX3_howManyHouses_5 : decode cX3_howManyHouses 5 = .ok (.idiv, 1) := by decide +kernel
theorem dX3_howManyHouses_6 : decode cX3_howManyHouses 6 = .ok (.ireturn, 1) := by decide +kernel
set_option maxRecDepth 20000 in
theorem ggX3_kind_J0_indexOf_0f7a4 : GoodIn wsX3_kind wsJ0_indexOf_0f7a4 := goodIn_r _ [6, 7, 8, 9, 5, 10, 11, 12, 13, 14, 15, 16, 17, 18, 19, 20, 21, 22, 23, 24, 25, 26, 27, 28, 29, 30, 31, 32, 33, 34, 35, 36, 37, 38, 39, 40, 41, 42, 43, 44, 45, 46, 47, 48, 49, 50, 51, 52, 53, 54, 55, 56, 57, 58, 59, 60, 61, 62, 63, 64, 65, 66, 67, 68, 69, 70, 71, 72, 73, 74, 75, 76, 77, 78, 79, 80, 81, 82, 83, 84, 85, 86, 87, 88, 89, 90] (by decide +kernel) (by decide +kernel)
set_option maxRecDepth 20000 in
theorem gX3_kind_J0_indexOf_0f7a4 : GoodIn wsX3_kind (wsV RX3 33 RJ0 yJ0_indexOf_0f7a4 wsJ0_indexOf_0f7a4) := goodIn_app (goodIn_of _ (by decide +kernel)) ggX3_kind_J0_indexOf_0f7a4
theorem dX3_kind_0 : decode cX3_kind 0 = .ok (.ldc 31, 2) := by decide +kernel
theorem dX3_kind_2 : decode cX3_kind 2 = .ok (.aload_n 0, 1) := by decide +kernel
theorem dX3_kind_3 : decode cX3_kind 3 = .ok (.getfield 9, 3) := by decide +kernel
theorem dX3_kind_6 : decode cX3_kind 6 = .ok (.iload_n 1, 1) := by decide +kernel
theorem dX3_kind_7 : decode cX3_kind 7 = .ok (.iconst 4, 1) := by decide +kernel
theorem dX3_kind_8 : decode cX3_kind 8 = .ok (.imul, 1) := by decide +kernel
theorem dX3_kind_9 : decode cX3_kind 9 = .ok (.caload, 1) := by decide +kernel
theorem dX3_kind_10 : decode cX3_kind 10 = .ok (.invokevirtual 33, 3) := by decide +kernel
theorem dX3_kind_13 : decode cX3_kind 13 = .ok (.ireturn, 1) := by decide +kernel
theorem dX3_digit_0 : decode cX3_digit 0 = .ok (.aload_n 0, 1) := by decide +kernel
theorem dX3_digit_1 : decode cX3_digit 1 = .ok (.getfield 9, 3) := by decide +kernel
theorem dX3_digit_4 : decode cX3_digit 4 = .ok (.iload_n 1, 1) := by decide +kernel
theorem dX3_digit_5 : decode cX3_digit 5 = .ok (.caload, 1) := by decide +kernel
theorem dX3_digit_6 : decode cX3_digit 6 = .ok (.bipush 48, 2) := by decide +kernel
theorem dX3_digit_8 : decode cX3_digit 8 = .ok (.isub, 1) := by decide +kernel
theorem dX3_digit_9 : decode cX3_digit 9 = .ok (.ireturn, 1) := by decide +kernel
set_option maxRecDepth 20000 in
theorem ggX3_fitsHouses_J0_indexOf_0f7a4 : GoodIn wsX3_fitsHouses wsJ0_indexOf_0f7a4 := goodIn_r _ [6, 7, 8, 9, 5, 10, 11, 12, 13, 14, 15, 16, 17, 18, 19, 20, 21, 22, 23, 24, 25, 26, 27, 28, 29, 30, 31, 32, 33, 34, 35, 36, 37, 38, 39, 40, 41, 42, 43, 44, 45, 46, 47, 48, 49, 50, 51, 52, 53, 54, 55, 56, 57, 58, 59, 60, 61, 62, 63, 64, 65, 66, 67, 68, 69, 70, 71, 72, 73, 74, 75, 76, 77, 78, 79, 80, 81, 82, 83, 84, 85, 86, 87, 88, 89, 90] (by decide +kernel) (by decide +kernel)
set_option maxRecDepth 20000 in
theorem gX3_fitsHouses_J0_indexOf_0f7a4 : GoodIn wsX3_fitsHouses (wsV RX3 33 RJ0 yJ0_indexOf_0f7a4 wsJ0_indexOf_0f7a4) := goodIn_app (goodIn_of _ (by decide +kernel)) ggX3_fitsHouses_J0_indexOf_0f7a4
set_option maxRecDepth 20000 in
theorem ggX3_fitsHouses_X3_isBetween : GoodIn wsX3_fitsHouses wsX3_isBetween := goodIn_r _ [95, 1, 96, 97] (by decide +kernel) (by decide +kernel)
set_option maxRecDepth 20000 in
theorem gX3_fitsHouses_X3_isBetween : GoodIn wsX3_fitsHouses (wsV RX3 23 RX3 yX3_isBetween wsX3_isBetween) := goodIn_app (goodIn_of _ (by decide +kernel)) ggX3_fitsHouses_X3_isBetween
theorem dX3_fitsHouses_0 : decode cX3_fitsHouses 0 = .ok (.iload_n 1, 1) := by decide +kernel
theorem dX3_fitsHouses_1 : decode cX3_fitsHouses 1 = .ok (.iconst 4, 1) := by decide +kernel
theorem dX3_fitsHouses_2 : decode cX3_fitsHouses 2 = .ok (.irem, 1) := by decide +kernel
theorem dX3_fitsHouses_3 : decode cX3_fitsHouses 3 = .ok (.istore_n 2, 1) := by decide +kernel
theorem dX3_fitsHouses_4 : decode cX3_fitsHouses 4 = .ok (.iload_n 2, 1) := by decide +kernel
theorem dX3_fitsHouses_5 : decode cX3_fitsHouses 5 = .ok (.ifCond .ne 23, 3) := by decide +kernel
theorem dX3_fitsHouses_8 : decode cX3_fitsHouses 8 = .ok (.ldc 31, 2) := by decide +kernel
theorem dX3_fitsHouses_10 : decode cX3_fitsHouses 10 = .ok (.aload_n 0, 1) := by decide +kernel
theorem dX3_fitsHouses_11 : decode cX3_fitsHouses 11 = .ok (.getfield 9, 3) := by decide +kernel
theorem dX3_fitsHouses_14 : decode cX3_fitsHouses 14 = .ok (.iload_n 1, 1) := by decide +kernel
theorem dX3_fitsHouses_15 : decode cX3_fitsHouses 15 = .ok (.caload, 1) := by decide +kernel
theorem dX3_fitsHouses_16 : decode cX3_fitsHouses 16 = .ok (.invokevirtual 33, 3) := by decide +kernel
theorem dX3_fitsHouses_19 : decode cX3_fitsHouses 19 = .ok (.ifCond .lt 7, 3) := by decide +kernel
theorem dX3_fitsHouses_22 : decode cX3_fitsHouses 22 = .ok (.iconst 1, 1) := by decide +kernel
theorem dX3_fitsHouses_23 : decode cX3_fitsHouses 23 = .ok (.goto 4, 3) := by decide +kernel
theorem dX3_fitsHouses_26 : decode cX3_fitsHouses 26 = .ok (.iconst 0, 1) := by decide +kernel
theorem dX3_fitsHouses_27 : decode cX3_fitsHouses 27 = .ok (.ireturn, 1) := by decide +kernel
theorem dX3_fitsHouses_28 : decode cX3_fitsHouses 28 = .ok (.iload_n 2, 1) := by decide +kernel
theorem dX3_fitsHouses_29 : decode cX3_fitsHouses 29 = .ok (.iconst 1, 1) := by decide +kernel
theorem dX3_fitsHouses_30 : decode cX3_fitsHouses 30 = .ok (.if_icmp .ne 13, 3) := by decide +kernel
theorem dX3_fitsHouses_33 : decode cX3_fitsHouses 33 = .ok (.aload_n 0, 1) := by decide +kernel
theorem dX3_fitsHouses_34 : decode cX3_fitsHouses 34 = .ok (.iload_n 1, 1) := by decide +kernel
theorem dX3_fitsHouses_35 : decode cX3_fitsHouses 35 = .ok (.bipush 48, 2) := by decide +kernel
theorem dX3_fitsHouses_37 : decode cX3_fitsHouses 37 = .ok (.bipush 57, 2) := by decide +kernel
theorem dX3_fitsHouses_39 : decode cX3_fitsHouses 39 = .ok (.invokevirtual 23, 3) := by decide +kernel
theorem dX3_fitsHouses_42 : decode cX3_fitsHouses 42 = .ok (.ireturn, 1) := by decide +kernel
theorem dX3_fitsHouses_43 : decode cX3_fitsHouses 43 = .ok (.iload_n 2, 1) := by decide +kernel
theorem dX3_fitsHouses_44 : decode cX3_fitsHouses 44 = .ok (.iconst 2, 1) := by decide +kernel
theorem dX3_fitsHouses_45 : decode cX3_fitsHouses 45 = .ok (.if_icmp .ne 13, 3) := by decide +kernel
theorem dX3_fitsHouses_48 : decode cX3_fitsHouses 48 = .ok (.aload_n 0, 1) := by decide +kernel
theorem dX3_fitsHouses_49 : decode cX3_fitsHouses 49 = .ok (.iload_n 1, 1) := by decide +kernel
theorem dX3_fitsHouses_50 : decode cX3_fitsHouses 50 = .ok (.bipush 49, 2) := by decide +kernel
theorem dX3_fitsHouses_52 : decode cX3_fitsHouses 52 = .ok (.bipush 57, 2) := by decide +kernel
theorem dX3_fitsHouses_54 : decode cX3_fitsHouses 54 = .ok (.invokevirtual 23, 3) := by decide +kernel
theorem dX3_fitsHouses_57 : decode cX3_fitsHouses 57 = .ok (.ireturn, 1) := by decide +kernel
theorem dX3_fitsHouses_58 : decode cX3_fitsHouses 58 = .ok (.iload_n 1, 1) := by decide +kernel
theorem dX3_fitsHouses_59 : decode cX3_fitsHouses 59 = .ok (.iconst 4, 1) := by decide +kernel
theorem dX3_fitsHouses_60 : decode cX3_fitsHouses 60 = .ok (.idiv, 1) := by decide +kernel
theorem dX3_fitsHouses_61 : decode cX3_fitsHouses 61 = .ok (.iconst 1, 1) := by decide +kernel
theorem dX3_fitsHouses_62 : decode cX3_fitsHouses 62 = .ok (.iadd, 1) := by decide +kernel
theorem dX3_fitsHouses_63 : decode cX3_fitsHouses 63 = .ok (.istore_n 3, 1) := by decide +kernel
theorem dX3_fitsHouses_64 : decode cX3_fitsHouses 64 = .ok (.aload_n 0, 1) := by decide +kernel
theorem dX3_fitsHouses_65 : decode cX3_fitsHouses 65 = .ok (.getfield 9, 3) := by decide +kernel
theorem dX3_fitsHouses_68 : decode cX3_fitsHouses 68 = .ok (.iload_n 1, 1) := by decide +kernel
theorem dX3_fitsHouses_69 : decode cX3_fitsHouses 69 = .ok (.caload, 1) := by decide +kernel
theorem dX3_fitsHouses_70 : decode cX3_fitsHouses 70 = .ok (.bipush 44, 2) := by decide +kernel
theorem dX3_fitsHouses_72 : decode cX3_fitsHouses 72 = .ok (.if_icmp .ne 16, 3) := by decide +kernel
theorem dX3_fitsHouses_75 : decode cX3_fitsHouses 75 = .ok (.iload_n 3, 1) := by decide +kernel
theorem dX3_fitsHouses_76 : decode cX3_fitsHouses 76 = .ok (.iconst 4, 1) := by decide +kernel
theorem dX3_fitsHouses_77 : decode cX3_fitsHouses 77 = .ok (.if_icmp .ge 7, 3) := by decide +kernel
theorem dX3_fitsHouses_80 : decode cX3_fitsHouses 80 = .ok (.iconst 1, 1) := by decide +kernel
theorem dX3_fitsHouses_81 : decode cX3_fitsHouses 81 = .ok (.goto 28, 3) := by decide +kernel
theorem dX3_fitsHouses_84 : decode cX3_fitsHouses 84 = .ok (.iconst 0, 1) := by decide +kernel
theorem dX3_fitsHouses_85 : decode cX3_fitsHouses 85 = .ok (.goto 24, 3) := by decide +kernel
theorem dX3_fitsHouses_88 : decode cX3_fitsHouses 88 = .ok (.aload_n 0, 1) := by decide +kernel
theorem dX3_fitsHouses_89 : decode cX3_fitsHouses 89 = .ok (.getfield 9, 3) := by decide +kernel
theorem dX3_fitsHouses_92 : decode cX3_fitsHouses 92 = .ok (.iload_n 1, 1) := by decide +kernel
theorem dX3_fitsHouses_93 : decode cX3_fitsHouses 93 = .ok (.caload, 1) := by decide +kernel
theorem dX3_fitsHouses_94 : decode cX3_fitsHouses 94 = .ok (.bipush 59, 2) := by decide +kernel
theorem dX3_fitsHouses_96 : decode cX3_fitsHouses 96 = .ok (.if_icmp .ne 12, 3) := by decide +kernel
theorem dX3_fitsHouses_99 : decode cX3_fitsHouses 99 = .ok (.iload_n 3, 1) := by decide +kernel
theorem dX3_fitsHouses_100 : decode cX3_fitsHouses 100 = .ok (.iconst 2, 1) := by decide +kernel
theorem dX3_fitsHouses_101 : decode cX3_fitsHouses 101 = .ok (.if_icmp .lt 7, 3) := by decide +kernel
theorem dX3_fitsHouses_104 : decode cX3_fitsHouses 104 = .ok (.iconst 1, 1) := by decide +kernel
theorem dX3_fitsHouses_105 : decode cX3_fitsHouses 105 = .ok (.goto 4, 3) := by decide +kernel
theorem dX3_fitsHouses_108 : decode cX3_fitsHouses 108 = .ok (.iconst 0, 1) := by decide +kernel
theorem dX3_fitsHouses_109 : decode cX3_fitsHouses 109 = .ok (.ireturn, 1) := by decide +kernel
theorem dX3_isBetween_0 : decode cX3_isBetween 0 = .ok (.aload_n 0, 1) := by decide +kernel
theorem dX3_isBetween_1 : decode cX3_isBetween 1 = .ok (.getfield 9, 3) := by decide +kernel
theorem dX3_isBetween_4 : decode cX3_isBetween 4 = .ok (.iload_n 1, 1) := by decide +kernel
theorem dX3_isBetween_5 : decode cX3_isBetween 5 = .ok (.caload, 1) := by decide +kernel
theorem dX3_isBetween_6 : decode cX3_isBetween 6 = .ok (.iload_n 2, 1) := by decide +kernel
theorem dX3_isBetween_7 : decode cX3_isBetween 7 = .ok (.if_icmp .lt 17, 3) := by decide +kernel
theorem dX3_isBetween_10 : decode cX3_isBetween 10 = .ok (.aload_n 0, 1) := by decide +kernel
theorem dX3_isBetween_11 : decode cX3_isBetween 11 = .ok (.getfield 9, 3) := by decide +kernel
theorem dX3_isBetween_14 : decode cX3_isBetween 14 = .ok (.iload_n 1, 1) := by decide +kernel
theorem dX3_isBetween_15 : decode cX3_isBetween 15 = .ok (.caload, 1) := by decide +kernel
theorem dX3_isBetween_16 : decode cX3_isBetween 16 = .ok (.iload_n 3, 1) := by decide +kernel
theorem dX3_isBetween_17 : decode cX3_isBetween 17 = .ok (.if_icmp .gt 7, 3) := by decide +kernel
theorem dX3_isBetween_20 : decode cX3_isBetween 20 = .ok (.iconst 1, 1) := by decide +kernel
theorem dX3_isBetween_21 : decode cX3_isBetween 21 = .ok (.goto 4, 3) := by decide +kernel
theorem dX3_isBetween_24 : decode cX3_isBetween 24 = .ok (.iconst 0, 1) := by decide +kernel
theorem dX3_isBetween_25 : decode cX3_isBetween 25 = .ok (.ireturn, 1) := by decide +kernel
theorem dX4_init_0 : decode cX4_init 0 = .ok (.aload_n 0, 1) := by decide +kernel
theorem dX4_init_1 : decode cX4_init 1 = .ok (.invokespecial 3, 3) := by decide +kernel
theorem dX4_init_4 : decode cX4_init 4 = .ok (.aload_n 0, 1) := by decide +kernel
theorem dX4_init_5 : decode cX4_init 5 = .ok (.iconst 4, 1) := by decide +kernel
theorem dX4_init_6 : decode cX4_init 6 = .ok (.newarray .int, 2) := by decide +kernel
theorem dX4_init_8 : decode cX4_init 8 = .ok (.putfield 9, 3) := by decide +kernel
theorem dX4_init_11 : decode cX4_init 11 = .ok (.aload_n 0, 1) := by decide +kernel
theorem dX4_init_12 : decode cX4_init 12 = .ok (.iconst 3, 1) := by decide +kernel
theorem dX4_init_13 : decode cX4_init 13 = .ok (.newarray .int, 2) := by decide +kernel
theorem dX4_init_15 : decode cX4_init 15 = .ok (.putfield 15, 3) := by decide +kernel
theorem dX4_init_18 : decode cX4_init 18 = .ok (.aload_n 0, 1) := by decide +kernel
theorem dX4_init_19 : decode cX4_init 19 = .ok (.iconst 3, 1) := by decide +kernel
theorem dX4_init_20 : decode cX4_init 20 = .ok (.newarray .int, 2) := by decide +kernel
theorem dX4_init_22 : decode cX4_init 22 = .ok (.putfield 18, 3) := by decide +kernel
theorem dX4_init_25 : decode cX4_init 25 = .ok (.aload_n 0, 1) := by decide +kernel
theorem dX4_init_26 : decode cX4_init 26 = .ok (.iconst 0, 1) := by decide +kernel
theorem dX4_init_27 : decode cX4_init 27 = .ok (.putfield 21, 3) := by decide +kernel
theorem dX4_init_30 : decode cX4_init 30 = .ok (.aload_n 0, 1) := by decide +kernel
theorem dX4_init_31 : decode cX4_init 31 = .ok (.iconst 0, 1) := by decide +kernel
theorem dX4_init_32 : decode cX4_init 32 = .ok (.putfield 25, 3) := by decide +kernel
theorem dX4_init_35 : decode cX4_init 35 = .ok (.aload_n 0, 1) := by decide +kernel
theorem dX4_init_36 : decode cX4_init 36 = .ok (.iconst 0, 1) := by decide +kernel
theorem dX4_init_37 : decode cX4_init 37 = .ok (.putfield 28, 3) := by decide +kernel
theorem dX4_init_40 : decode cX4_init 40 = .ok (.aload_n 0, 1) := by decide +kernel
theorem dX4_init_41 : decode cX4_init 41 = .ok (.iconst 0, 1) := by decide +kernel
theorem dX4_init_42 : decode cX4_init 42 = .ok (.putfield 31, 3) := by decide +kernel
theorem dX4_init_45 : decode cX4_init 45 = .ok (.return_, 1) := by decide +kernel
set_option maxRecDepth 20000 in
theorem ggX4_seek_X5_copyRow : GoodIn wsX4_seek wsX5_copyRow := goodIn_r _ [9, 10, 11, 12, 13] (by decide +kernel) (by decide +kernel)
set_option maxRecDepth 20000 in
theorem gX4_seek_X5_copyRow_n37 : GoodIn wsX4_seek (wsX5_copyRow) := ggX4_seek_X5_copyRow
set_option maxRecDepth 20000 in
theorem ggX4_seek_X4_trySales : GoodIn wsX4_seek wsX4_trySales := goodIn_r _ [18, 19, 5, 20, 21, 22, 23, 17, 24, 2, 25, 26, 6, 4, 27, 28, 29, 30, 31, 32, 33, 34, 35, 36, 37, 38, 39, 40, 41, 3, 42, 43, 11, 12, 13, 44, 45, 46, 47, 14, 15, 16, 59, 60, 61, 62, 63, 64, 65, 48, 49, 50, 51, 52, 53, 54, 55, 56, 57, 58] (by decide +kernel) (by decide +kernel)
set_option maxRecDepth 20000 in
theorem gX4_seek_X4_trySales : GoodIn wsX4_seek (wsV RX4 41 RX4 yX4_trySales wsX4_trySales) := goodIn_app (goodIn_of _ (by decide +kernel)) ggX4_seek_X4_trySales
theorem dX4_seek_0 : decode cX4_seek 0 = .ok (.aload_n 1, 1) := by decide +kernel
theorem dX4_seek_1 : decode cX4_seek 1 = .ok (.getfield 34, 3) := by decide +kernel
theorem dX4_seek_4 : decode cX4_seek 4 = .ok (.aload_n 0, 1) := by decide +kernel
theorem dX4_seek_5 : decode cX4_seek 5 = .ok (.getfield 9, 3) := by decide +kernel
theorem dX4_seek_8 : decode cX4_seek 8 = .ok (.invokestatic 37, 3) := by decide +kernel
theorem dX4_seek_11 : decode cX4_seek 11 = .ok (.aload_n 0, 1) := by decide +kernel
theorem dX4_seek_12 : decode cX4_seek 12 = .ok (.iconst 0, 1) := by decide +kernel
theorem dX4_seek_13 : decode cX4_seek 13 = .ok (.putfield 21, 3) := by decide +kernel
theorem dX4_seek_16 : decode cX4_seek 16 = .ok (.aload_n 0, 1) := by decide +kernel
theorem dX4_seek_17 : decode cX4_seek 17 = .ok (.sipush 1000, 3) := by decide +kernel
theorem dX4_seek_20 : decode cX4_seek 20 = .ok (.putfield 25, 3) := by decide +kernel
theorem dX4_seek_23 : decode cX4_seek 23 = .ok (.aload_n 0, 1) := by decide +kernel
theorem dX4_seek_24 : decode cX4_seek 24 = .ok (.iload_n 2, 1) := by decide +kernel
theorem dX4_seek_25 : decode cX4_seek 25 = .ok (.putfield 28, 3) := by decide +kernel
theorem dX4_seek_28 : decode cX4_seek 28 = .ok (.aload_n 0, 1) := by decide +kernel
theorem dX4_seek_29 : decode cX4_seek 29 = .ok (.iload_n 3, 1) := by decide +kernel
theorem dX4_seek_30 : decode cX4_seek 30 = .ok (.putfield 31, 3) := by decide +kernel
theorem dX4_seek_33 : decode cX4_seek 33 = .ok (.aload_n 0, 1) := by decide +kernel
theorem dX4_seek_34 : decode cX4_seek 34 = .ok (.aload_n 1, 1) := by decide +kernel
theorem dX4_seek_35 : decode cX4_seek 35 = .ok (.iconst 0, 1) := by decide +kernel
theorem dX4_seek_36 : decode cX4_seek 36 = .ok (.iconst 0, 1) := by decide +kernel
theorem dX4_seek_37 : decode cX4_seek 37 = .ok (.iconst 0, 1) := by decide +kernel
theorem dX4_seek_38 : decode cX4_seek 38 = .ok (.invokevirtual 41, 3) := by decide +kernel
theorem dX4_seek_41 : decode cX4_seek 41 = .ok (.return_, 1) := by decide +kernel
theorem dX4_tell_0 : decode cX4_tell 0 = .ok (.aload_n 0, 1) := by decide +kernel
theorem dX4_tell_1 : decode cX4_tell 1 = .ok (.getfield 21, 3) := by decide +kernel
theorem dX4_tell_4 : decode cX4_tell 4 = .ok (.ifCond .ne 5, 3) := by decide +kernel
theorem dX4_tell_7 : decode cX4_tell 7 = .ok (.iconst (-1), 1) := by decide +kernel
theorem dX4_tell_8 : decode cX4_tell 8 = .ok (.ireturn, 1) := by decide +kernel
theorem dX4_tell_9 : decode cX4_tell 9 = .ok (.iload_n 1, 1) := by decide +kernel
theorem dX4_tell_10 : decode cX4_tell 10 = .ok (.ifCond .ne 8, 3) := by decide +kernel
theorem dX4_tell_13 : decode cX4_tell 13 = .ok (.aload_n 0, 1) := by decide +kernel
theorem dX4_tell_14 : decode cX4_tell 14 = .ok (.getfield 25, 3) := by decide +kernel
theorem dX4_tell_17 : decode cX4_tell 17 = .ok (.ireturn, 1) := by decide +kernel
theorem dX4_tell_18 : decode cX4_tell 18 = .ok (.iload_n 1, 1) := by decide +kernel
theorem dX4_tell_19 : decode cX4_tell 19 = .ok (.iconst 1, 1) := by decide +kernel
theorem dX4_tell_20 : decode cX4_tell 20 = .ok (.if_icmp .ne 8, 3) := by decide +kernel
theorem dX4_tell_23 : decode cX4_tell 23 = .ok (.aload_n 0, 1) := by decide +kernel
theorem dX4_tell_24 : decode cX4_tell 24 = .ok (.getfield 21, 3) := by decide +kernel
theorem dX4_tell_27 : decode cX4_tell 27 = .ok (.ireturn, 1) := by decide +kernel
theorem dX4_tell_28 : decode cX4_tell 28 = .ok (.iload_n 1, 1) := by decide +kernel
theorem dX4_tell_29 : decode cX4_tell 29 = .ok (.bipush 10, 2) := by decide +kernel
theorem dX4_tell_31 : decode cX4_tell 31 = .ok (.isub, 1) := by decide +kernel
theorem dX4_tell_32 : decode cX4_tell 32 = .ok (.istore_n 2, 1) := by decide +kernel
theorem dX4_tell_33 : decode cX4_tell 33 = .ok (.iload_n 2, 1) := by decide +kernel
theorem dX4_tell_34 : decode cX4_tell 34 = .ok (.ifCond .lt 20, 3) := by decide +kernel
theorem dX4_tell_37 : decode cX4_tell 37 = .ok (.iload_n 2, 1) := by decide +kernel
theorem dX4_tell_38 : decode cX4_tell 38 = .ok (.aload_n 0, 1) := by decide +kernel
theorem dX4_tell_39 : decode cX4_tell 39 = .ok (.getfield 21, 3) := by decide +kernel
theorem dX4_tell_42 : decode cX4_tell 42 = .ok (.if_icmp .ge 12, 3) := by decide +kernel
theorem dX4_tell_45 : decode cX4_tell 45 = .ok (.aload_n 0, 1) := by decide +kernel
theorem dX4_tell_46 : decode cX4_tell 46 = .ok (.getfield 18, 3) := by decide +kernel
theorem dX4_tell_49 : decode cX4_tell 49 = .ok (.iload_n 2, 1) := by decide +kernel
theorem dX4_tell_50 : decode cX4_tell 50 = .ok (.iaload, 1) := by decide +kernel
theorem dX4_tell_51 : decode cX4_tell 51 = .ok (.goto 4, 3) := by decide +kernel
theorem dX4_tell_54 : decode cX4_tell 54 = .ok (.iconst (-1), 1) := by decide +kernel
theorem dX4_tell_55 : decode cX4_tell 55 = .ok (.ireturn, 1) := by decide +kernel
set_option maxRecDepth 20000 in
theorem ggX4_trySales_X4_trySale : GoodIn wsX4_trySales wsX4_trySale := goodIn_r _ [8, 9, 2, 10, 11, 12, 13, 14, 15, 16, 17, 18, 19, 20, 21, 22, 23, 24, 25, 26, 27, 7, 28, 29, 3, 30, 31, 32, 33, 34, 35, 36, 37, 38, 39, 40, 41, 0, 1, 4, 5, 6, 42, 43, 44, 45, 46, 47, 48, 49, 50, 51, 52, 53, 54, 55, 56, 57, 58, 59] (by decide +kernel) (by decide +kernel)
set_option maxRecDepth 20000 in
theorem gX4_trySales_X4_trySale : GoodIn wsX4_trySales (wsV RX4 48 RX4 yX4_trySale wsX4_trySale) := goodIn_app (goodIn_of _ (by decide +kernel)) ggX4_trySales_X4_trySale
theorem dX4_trySales_0 : decode cX4_trySales 0 = .ok (.iload_n 2, 1) := by decide +kernel
theorem dX4_trySales_1 : decode cX4_trySales 1 = .ok (.iconst 3, 1) := by decide +kernel
theorem dX4_trySales_2 : decode cX4_trySales 2 = .ok (.if_icmp .lt 4, 3) := by decide +kernel
theorem dX4_trySales_5 : decode cX4_trySales 5 = .ok (.return_, 1) := by decide +kernel
theorem dX4_trySales_6 : decode cX4_trySales 6 = .ok (.iconst 0, 1) := by decide +kernel
theorem dX4_trySales_7 : decode cX4_trySales 7 = .ok (.istore 5, 2) := by decide +kernel
theorem dX4_trySales_9 : decode cX4_trySales 9 = .ok (.iload 5, 2) := by decide +kernel
theorem dX4_trySales_11 : decode cX4_trySales 11 = .ok (.aload_n 1, 1) := by decide +kernel
theorem dX4_trySales_12 : decode cX4_trySales 12 = .ok (.getfield 45, 3) := by decide +kernel
theorem dX4_trySales_15 : decode cX4_trySales 15 = .ok (.if_icmp .ge 66, 3) := by decide +kernel
theorem dX4_trySales_18 : decode cX4_trySales 18 = .ok (.iload 5, 2) := by decide +kernel
theorem dX4_trySales_20 : decode cX4_trySales 20 = .ok (.aload_n 0, 1) := by decide +kernel
theorem dX4_trySales_21 : decode cX4_trySales 21 = .ok (.getfield 28, 3) := by decide +kernel
theorem dX4_trySales_24 : decode cX4_trySales 24 = .ok (.if_icmp .ne 6, 3) := by decide +kernel
theorem dX4_trySales_27 : decode cX4_trySales 27 = .ok (.goto 48, 3) := by decide +kernel
theorem dX4_trySales_30 : decode cX4_trySales 30 = .ok (.iconst 0, 1) := by decide +kernel
theorem dX4_trySales_31 : decode cX4_trySales 31 = .ok (.istore 6, 2) := by decide +kernel
theorem dX4_trySales_33 : decode cX4_trySales 33 = .ok (.iload 6, 2) := by decide +kernel
theorem dX4_trySales_35 : decode cX4_trySales 35 = .ok (.aload_n 1, 1) := by decide +kernel
theorem dX4_trySales_36 : decode cX4_trySales 36 = .ok (.getfield 45, 3) := by decide +kernel
theorem dX4_trySales_39 : decode cX4_trySales 39 = .ok (.if_icmp .ge 36, 3) := by decide +kernel
theorem dX4_trySales_42 : decode cX4_trySales 42 = .ok (.aload_n 0, 1) := by decide +kernel
theorem dX4_trySales_43 : decode cX4_trySales 43 = .ok (.getfield 15, 3) := by decide +kernel
theorem dX4_trySales_46 : decode cX4_trySales 46 = .ok (.iload_n 2, 1) := by decide +kernel
theorem dX4_trySales_47 : decode cX4_trySales 47 = .ok (.bipush 10, 2) := by decide +kernel
theorem dX4_trySales_49 : decode cX4_trySales 49 = .ok (.iload 5, 2) := by decide +kernel
theorem dX4_trySales_51 : decode cX4_trySales 51 = .ok (.imul, 1) := by decide +kernel
theorem dX4_trySales_52 : decode cX4_trySales 52 = .ok (.iload 6, 2) := by decide +kernel
theorem dX4_trySales_54 : decode cX4_trySales 54 = .ok (.iadd, 1) := by decide +kernel
theorem dX4_trySales_55 : decode cX4_trySales 55 = .ok (.iastore, 1) := by decide +kernel
theorem dX4_trySales_56 : decode cX4_trySales 56 = .ok (.aload_n 0, 1) := by decide +kernel
theorem dX4_trySales_57 : decode cX4_trySales 57 = .ok (.aload_n 1, 1) := by decide +kernel
theorem dX4_trySales_58 : decode cX4_trySales 58 = .ok (.iload_n 2, 1) := by decide +kernel
theorem dX4_trySales_59 : decode cX4_trySales 59 = .ok (.iload 5, 2) := by decide +kernel
theorem dX4_trySales_61 : decode cX4_trySales 61 = .ok (.iload 6, 2) := by decide +kernel
theorem dX4_trySales_63 : decode cX4_trySales 63 = .ok (.iload_n 3, 1) := by decide +kernel
theorem dX4_trySales_64 : decode cX4_trySales 64 = .ok (.iload 4, 2) := by decide +kernel
theorem dX4_trySales_66 : decode cX4_trySales 66 = .ok (.invokevirtual 48, 3) := by decide +kernel
theorem dX4_trySales_69 : decode cX4_trySales 69 = .ok (.iinc 6 1, 3) := by decide +kernel
theorem dX4_trySales_72 : decode cX4_trySales 72 = .ok (.goto (-39), 3) := by decide +kernel
theorem dX4_trySales_75 : decode cX4_trySales 75 = .ok (.iinc 5 1, 3) := by decide +kernel
theorem dX4_trySales_78 : decode cX4_trySales 78 = .ok (.goto (-69), 3) := by decide +kernel
theorem dX4_trySales_81 : decode cX4_trySales 81 = .ok (.return_, 1) := by decide +kernel
set_option maxRecDepth 20000 in
theorem ggX4_trySale_X2_ounces : GoodIn wsX4_trySale wsX2_ounces := goodIn_r _ [11, 12, 13, 14, 15, 16, 17, 49, 50, 51, 52, 53, 54, 55, 56, 57, 58, 59] (by decide +kernel) (by decide +kernel)
set_option maxRecDepth 20000 in
theorem gX4_trySale_X2_ounces : GoodIn wsX4_trySale (wsV RX4 55 RX2 yX2_ounces wsX2_ounces) := goodIn_app (goodIn_of _ (by decide +kernel)) ggX4_trySale_X2_ounces
set_option maxRecDepth 20000 in
theorem ggX4_trySale_X4_keepIfBetter : GoodIn wsX4_trySale wsX4_keepIfBetter := goodIn_r _ [22, 6, 23, 24, 25, 26, 27, 28, 29, 42, 43, 44, 45, 46, 47, 48] (by decide +kernel) (by decide +kernel)
set_option maxRecDepth 20000 in
theorem gX4_trySale_X4_keepIfBetter : GoodIn wsX4_trySale (wsV RX4 62 RX4 yX4_keepIfBetter wsX4_keepIfBetter) := goodIn_app (goodIn_of _ (by decide +kernel)) ggX4_trySale_X4_keepIfBetter
set_option maxRecDepth 20000 in
theorem ggX4_trySale_X2_weightAfter : GoodIn wsX4_trySale wsX2_weightAfter := goodIn_r _ [33, 13, 14, 15, 16, 17, 49, 50, 51, 52, 53, 54, 55, 56, 57, 58, 59] (by decide +kernel) (by decide +kernel)
set_option maxRecDepth 20000 in
theorem gX4_trySale_X2_weightAfter : GoodIn wsX4_trySale (wsV RX4 66 RX2 yX2_weightAfter wsX2_weightAfter) := goodIn_app (goodIn_of _ (by decide +kernel)) ggX4_trySale_X2_weightAfter
set_option maxRecDepth 20000 in
theorem ggX4_trySale_X4_trySales : GoodIn wsX4_trySale wsX4_trySales := goodIn_r _ [37, 38, 2, 24, 39, 40, 41, 21, 0, 1, 3, 4, 5, 6, 7, 8, 9, 10, 11, 12, 13, 14, 15, 16, 17, 18, 19, 20, 22, 23, 25, 26, 27, 28, 29, 30, 31, 32, 33, 34, 35, 36, 42, 43, 44, 45, 46, 47, 48, 49, 50, 51, 52, 53, 54, 55, 56, 57, 58, 59] (by decide +kernel) (by decide +kernel)
set_option maxRecDepth 20000 in
theorem gX4_trySale_X4_trySales : GoodIn wsX4_trySale (wsV RX4 41 RX4 yX4_trySales wsX4_trySales) := goodIn_app (goodIn_of _ (by decide +kernel)) ggX4_trySale_X4_trySales
theorem dX4_trySale_0 : decode cX4_trySale 0 = .ok (.aload_n 0, 1) := by decide +kernel
theorem dX4_trySale_1 : decode cX4_trySale 1 = .ok (.getfield 9, 3) := by decide +kernel
theorem dX4_trySale_4 : decode cX4_trySale 4 = .ok (.iload 4, 2) := by decide +kernel
theorem dX4_trySale_6 : decode cX4_trySale 6 = .ok (.iaload, 1) := by decide +kernel
theorem dX4_trySale_7 : decode cX4_trySale 7 = .ok (.istore 7, 2) := by decide +kernel
theorem dX4_trySale_9 : decode cX4_trySale 9 = .ok (.iload 5, 2) := by decide +kernel
theorem dX4_trySale_11 : decode cX4_trySale 11 = .ok (.aload_n 1, 1) := by decide +kernel
theorem dX4_trySale_12 : decode cX4_trySale 12 = .ok (.iload 7, 2) := by decide +kernel
theorem dX4_trySale_14 : decode cX4_trySale 14 = .ok (.aload_n 0, 1) := by decide +kernel
theorem dX4_trySale_15 : decode cX4_trySale 15 = .ok (.getfield 28, 3) := by decide +kernel
theorem dX4_trySale_18 : decode cX4_trySale 18 = .ok (.aload_n 1, 1) := by decide +kernel
theorem dX4_trySale_19 : decode cX4_trySale 19 = .ok (.getfield 52, 3) := by decide +kernel
theorem dX4_trySale_22 : decode cX4_trySale 22 = .ok (.invokevirtual 55, 3) := by decide +kernel
theorem dX4_trySale_25 : decode cX4_trySale 25 = .ok (.iadd, 1) := by decide +kernel
theorem dX4_trySale_26 : decode cX4_trySale 26 = .ok (.istore 8, 2) := by decide +kernel
theorem dX4_trySale_28 : decode cX4_trySale 28 = .ok (.iload 6, 2) := by decide +kernel
theorem dX4_trySale_30 : decode cX4_trySale 30 = .ok (.aload_n 1, 1) := by decide +kernel
theorem dX4_trySale_31 : decode cX4_trySale 31 = .ok (.getfield 59, 3) := by decide +kernel
theorem dX4_trySale_34 : decode cX4_trySale 34 = .ok (.iload_n 3, 1) := by decide +kernel
theorem dX4_trySale_35 : decode cX4_trySale 35 = .ok (.iaload, 1) := by decide +kernel
theorem dX4_trySale_36 : decode cX4_trySale 36 = .ok (.iadd, 1) := by decide +kernel
theorem dX4_trySale_37 : decode cX4_trySale 37 = .ok (.istore 9, 2) := by decide +kernel
theorem dX4_trySale_39 : decode cX4_trySale 39 = .ok (.iload 8, 2) := by decide +kernel
theorem dX4_trySale_41 : decode cX4_trySale 41 = .ok (.aload_n 0, 1) := by decide +kernel
theorem dX4_trySale_42 : decode cX4_trySale 42 = .ok (.getfield 31, 3) := by decide +kernel
theorem dX4_trySale_45 : decode cX4_trySale 45 = .ok (.if_icmp .lt 15, 3) := by decide +kernel
theorem dX4_trySale_48 : decode cX4_trySale 48 = .ok (.aload_n 0, 1) := by decide +kernel
theorem dX4_trySale_49 : decode cX4_trySale 49 = .ok (.iload_n 2, 1) := by decide +kernel
theorem dX4_trySale_50 : decode cX4_trySale 50 = .ok (.iconst 1, 1) := by decide +kernel
theorem dX4_trySale_51 : decode cX4_trySale 51 = .ok (.iadd, 1) := by decide +kernel
theorem dX4_trySale_52 : decode cX4_trySale 52 = .ok (.iload 9, 2) := by decide +kernel
theorem dX4_trySale_54 : decode cX4_trySale 54 = .ok (.invokevirtual 62, 3) := by decide +kernel
theorem dX4_trySale_57 : decode cX4_trySale 57 = .ok (.goto 49, 3) := by decide +kernel
theorem dX4_trySale_60 : decode cX4_trySale 60 = .ok (.iload 9, 2) := by decide +kernel
theorem dX4_trySale_62 : decode cX4_trySale 62 = .ok (.aload_n 0, 1) := by decide +kernel
theorem dX4_trySale_63 : decode cX4_trySale 63 = .ok (.getfield 25, 3) := by decide +kernel
theorem dX4_trySale_66 : decode cX4_trySale 66 = .ok (.if_icmp .ge 40, 3) := by decide +kernel
theorem dX4_trySale_69 : decode cX4_trySale 69 = .ok (.aload_n 0, 1) := by decide +kernel
theorem dX4_trySale_70 : decode cX4_trySale 70 = .ok (.getfield 9, 3) := by decide +kernel
theorem dX4_trySale_73 : decode cX4_trySale 73 = .ok (.iload 4, 2) := by decide +kernel
theorem dX4_trySale_75 : decode cX4_trySale 75 = .ok (.aload_n 1, 1) := by decide +kernel
theorem dX4_trySale_76 : decode cX4_trySale 76 = .ok (.iload 7, 2) := by decide +kernel
theorem dX4_trySale_78 : decode cX4_trySale 78 = .ok (.iload 4, 2) := by decide +kernel
theorem dX4_trySale_80 : decode cX4_trySale 80 = .ok (.iload_n 3, 1) := by decide +kernel
theorem dX4_trySale_81 : decode cX4_trySale 81 = .ok (.invokevirtual 66, 3) := by decide +kernel
theorem dX4_trySale_84 : decode cX4_trySale 84 = .ok (.iastore, 1) := by decide +kernel
theorem dX4_trySale_85 : decode cX4_trySale 85 = .ok (.aload_n 0, 1) := by decide +kernel
theorem dX4_trySale_86 : decode cX4_trySale 86 = .ok (.aload_n 1, 1) := by decide +kernel
theorem dX4_trySale_87 : decode cX4_trySale 87 = .ok (.iload_n 2, 1) := by decide +kernel
theorem dX4_trySale_88 : decode cX4_trySale 88 = .ok (.iconst 1, 1) := by decide +kernel
theorem dX4_trySale_89 : decode cX4_trySale 89 = .ok (.iadd, 1) := by decide +kernel
theorem dX4_trySale_90 : decode cX4_trySale 90 = .ok (.iload 8, 2) := by decide +kernel
theorem dX4_trySale_92 : decode cX4_trySale 92 = .ok (.iload 9, 2) := by decide +kernel
theorem dX4_trySale_94 : decode cX4_trySale 94 = .ok (.invokevirtual 41, 3) := by decide +kernel
theorem dX4_trySale_97 : decode cX4_trySale 97 = .ok (.aload_n 0, 1) := by decide +kernel
theorem dX4_trySale_98 : decode cX4_trySale 98 = .ok (.getfield 9, 3) := by decide +kernel
theorem dX4_trySale_101 : decode cX4_trySale 101 = .ok (.iload 4, 2) := by decide +kernel
theorem dX4_trySale_103 : decode cX4_trySale 103 = .ok (.iload 7, 2) := by decide +kernel
theorem dX4_trySale_105 : decode cX4_trySale 105 = .ok (.iastore, 1) := by decide +kernel
theorem dX4_trySale_106 : decode cX4_trySale 106 = .ok (.return_, 1) := by decide +kernel
theorem dX4_keepIfBetter_0 : decode cX4_keepIfBetter 0 = .ok (.iload_n 2, 1) := by decide +kernel
theorem dX4_keepIfBetter_1 : decode cX4_keepIfBetter 1 = .ok (.aload_n 0, 1) := by decide +kernel
theorem dX4_keepIfBetter_2 : decode cX4_keepIfBetter 2 = .ok (.getfield 25, 3) := by decide +kernel
theorem dX4_keepIfBetter_5 : decode cX4_keepIfBetter 5 = .ok (.if_icmp .lt 19, 3) := by decide +kernel
theorem dX4_keepIfBetter_8 : decode cX4_keepIfBetter 8 = .ok (.iload_n 2, 1) := by decide +kernel
theorem dX4_keepIfBetter_9 : decode cX4_keepIfBetter 9 = .ok (.aload_n 0, 1) := by decide +kernel
theorem dX4_keepIfBetter_10 : decode cX4_keepIfBetter 10 = .ok (.getfield 25, 3) := by decide +kernel
theorem dX4_keepIfBetter_13 : decode cX4_keepIfBetter 13 = .ok (.if_icmp .ne 35, 3) := by decide +kernel
theorem dX4_keepIfBetter_16 : decode cX4_keepIfBetter 16 = .ok (.iload_n 1, 1) := by decide +kernel
theorem dX4_keepIfBetter_17 : decode cX4_keepIfBetter 17 = .ok (.aload_n 0, 1) := by decide +kernel
theorem dX4_keepIfBetter_18 : decode cX4_keepIfBetter 18 = .ok (.getfield 21, 3) := by decide +kernel
theorem dX4_keepIfBetter_21 : decode cX4_keepIfBetter 21 = .ok (.if_icmp .ge 27, 3) := by decide +kernel
theorem dX4_keepIfBetter_24 : decode cX4_keepIfBetter 24 = .ok (.aload_n 0, 1) := by decide +kernel
theorem dX4_keepIfBetter_25 : decode cX4_keepIfBetter 25 = .ok (.iload_n 2, 1) := by decide +kernel
theorem dX4_keepIfBetter_26 : decode cX4_keepIfBetter 26 = .ok (.putfield 25, 3) := by decide +kernel
theorem dX4_keepIfBetter_29 : decode cX4_keepIfBetter 29 = .ok (.aload_n 0, 1) := by decide +kernel
theorem dX4_keepIfBetter_30 : decode cX4_keepIfBetter 30 = .ok (.iload_n 1, 1) := by decide +kernel
theorem dX4_keepIfBetter_31 : decode cX4_keepIfBetter 31 = .ok (.putfield 21, 3) := by decide +kernel
theorem dX4_keepIfBetter_34 : decode cX4_keepIfBetter 34 = .ok (.aload_n 0, 1) := by decide +kernel
theorem dX4_keepIfBetter_35 : decode cX4_keepIfBetter 35 = .ok (.getfield 15, 3) := by decide +kernel
theorem dX4_keepIfBetter_38 : decode cX4_keepIfBetter 38 = .ok (.iconst 0, 1) := by decide +kernel
theorem dX4_keepIfBetter_39 : decode cX4_keepIfBetter 39 = .ok (.aload_n 0, 1) := by decide +kernel
theorem dX4_keepIfBetter_40 : decode cX4_keepIfBetter 40 = .ok (.getfield 18, 3) := by decide +kernel
theorem dX4_keepIfBetter_43 : decode cX4_keepIfBetter 43 = .ok (.iconst 0, 1) := by decide +kernel
theorem dX4_keepIfBetter_44 : decode cX4_keepIfBetter 44 = .ok (.iload_n 1, 1) := by decide +kernel
theorem dX4_keepIfBetter_45 : decode cX4_keepIfBetter 45 = .ok (.invokestatic 69, 3) := by decide +kernel
theorem dX4_keepIfBetter_48 : decode cX4_keepIfBetter 48 = .ok (.return_, 1) := by decide +kernel
set_option maxRecDepth 20000 in
theorem ggX5_init_X3_init : GoodIn wsX5_init wsX3_init := goodIn_r _ [30, 31, 2, 3, 32, 33, 34, 72, 73] (by decide +kernel) (by decide +kernel)
set_option maxRecDepth 20000 in
theorem gX5_init_X3_init_n9 : GoodIn wsX5_init (wsX3_init) := ggX5_init_X3_init
set_option maxRecDepth 20000 in
theorem ggX5_init_X2_init : GoodIn wsX5_init wsX2_init := goodIn_r _ [36, 37, 2, 3, 38, 39, 40, 41, 42, 43, 44, 45, 46, 47, 48, 49, 84, 85, 86, 87, 88, 89, 90, 91, 92, 93, 94] (by decide +kernel) (by decide +kernel)
set_option maxRecDepth 20000 in
theorem gX5_init_X2_init_n18 : GoodIn wsX5_init (wsX2_init) := ggX5_init_X2_init
set_option maxRecDepth 20000 in
theorem ggX5_init_X1_init : GoodIn wsX5_init wsX1_init := goodIn_r _ [51, 52, 2, 3, 38, 53, 54, 55, 95, 96, 97] (by decide +kernel) (by decide +kernel)
set_option maxRecDepth 20000 in
theorem gX5_init_X1_init_n25 : GoodIn wsX5_init (wsX1_init) := ggX5_init_X1_init
set_option maxRecDepth 20000 in
theorem ggX5_init_X4_init : GoodIn wsX5_init wsX4_init := goodIn_r _ [57, 58, 2, 3, 38, 59, 60, 61, 62, 63, 64, 65, 98, 99, 100, 101, 102, 103, 104] (by decide +kernel) (by decide +kernel)
set_option maxRecDepth 20000 in
theorem gX5_init_X4_init_n38 : GoodIn wsX5_init (wsX4_init) := ggX5_init_X4_init
set_option maxRecDepth 20000 in
theorem ggX5_init_X0_init : GoodIn wsX5_init wsX0_init := goodIn_r _ [67, 68, 2, 3, 38, 69, 70, 71, 105, 106, 107] (by decide +kernel) (by decide +kernel)
set_option maxRecDepth 20000 in
theorem gX5_init_X0_init_n45 : GoodIn wsX5_init (wsX0_init) := ggX5_init_X0_init
theorem dX5_init_0 : decode cX5_init 0 = .ok (.aload_n 0, 1) := by decide +kernel
theorem dX5_init_1 : decode cX5_init 1 = .ok (.invokespecial 1, 3) := by decide +kernel
theorem dX5_init_4 : decode cX5_init 4 = .ok (.aload_n 0, 1) := by decide +kernel
theorem dX5_init_5 : decode cX5_init 5 = .ok (.new 7, 3) := by decide +kernel
theorem dX5_init_8 : decode cX5_init 8 = .ok (.dup, 1) := by decide +kernel
theorem dX5_init_9 : decode cX5_init 9 = .ok (.invokespecial 9, 3) := by decide +kernel
theorem dX5_init_12 : decode cX5_init 12 = .ok (.putfield 10, 3) := by decide +kernel
theorem dX5_init_15 : decode cX5_init 15 = .ok (.aload_n 0, 1) := by decide +kernel
theorem dX5_init_16 : decode cX5_init 16 = .ok (.new 16, 3) := by decide +kernel
theorem dX5_init_19 : decode cX5_init 19 = .ok (.dup, 1) := by decide +kernel
theorem dX5_init_20 : decode cX5_init 20 = .ok (.invokespecial 18, 3) := by decide +kernel
theorem dX5_init_23 : decode cX5_init 23 = .ok (.putfield 19, 3) := by decide +kernel
theorem dX5_init_26 : decode cX5_init 26 = .ok (.aload_n 0, 1) := by decide +kernel
theorem dX5_init_27 : decode cX5_init 27 = .ok (.new 23, 3) := by decide +kernel
theorem dX5_init_30 : decode cX5_init 30 = .ok (.dup, 1) := by decide +kernel
theorem dX5_init_31 : decode cX5_init 31 = .ok (.invokespecial 25, 3) := by decide +kernel
theorem dX5_init_34 : decode cX5_init 34 = .ok (.putfield 26, 3) := by decide +kernel
theorem dX5_init_37 : decode cX5_init 37 = .ok (.aload_n 0, 1) := by decide +kernel
theorem dX5_init_38 : decode cX5_init 38 = .ok (.new 16, 3) := by decide +kernel
theorem dX5_init_41 : decode cX5_init 41 = .ok (.dup, 1) := by decide +kernel
theorem dX5_init_42 : decode cX5_init 42 = .ok (.invokespecial 18, 3) := by decide +kernel
theorem dX5_init_45 : decode cX5_init 45 = .ok (.putfield 30, 3) := by decide +kernel
theorem dX5_init_48 : decode cX5_init 48 = .ok (.aload_n 0, 1) := by decide +kernel
theorem dX5_init_49 : decode cX5_init 49 = .ok (.new 23, 3) := by decide +kernel
theorem dX5_init_52 : decode cX5_init 52 = .ok (.dup, 1) := by decide +kernel
theorem dX5_init_53 : decode cX5_init 53 = .ok (.invokespecial 25, 3) := by decide +kernel
theorem dX5_init_56 : decode cX5_init 56 = .ok (.putfield 33, 3) := by decide +kernel
theorem dX5_init_59 : decode cX5_init 59 = .ok (.aload_n 0, 1) := by decide +kernel
theorem dX5_init_60 : decode cX5_init 60 = .ok (.new 36, 3) := by decide +kernel
theorem dX5_init_63 : decode cX5_init 63 = .ok (.dup, 1) := by decide +kernel
theorem dX5_init_64 : decode cX5_init 64 = .ok (.invokespecial 38, 3) := by decide +kernel
theorem dX5_init_67 : decode cX5_init 67 = .ok (.putfield 39, 3) := by decide +kernel
theorem dX5_init_70 : decode cX5_init 70 = .ok (.aload_n 0, 1) := by decide +kernel
theorem dX5_init_71 : decode cX5_init 71 = .ok (.new 43, 3) := by decide +kernel
theorem dX5_init_74 : decode cX5_init 74 = .ok (.dup, 1) := by decide +kernel
theorem dX5_init_75 : decode cX5_init 75 = .ok (.invokespecial 45, 3) := by decide +kernel
theorem dX5_init_78 : decode cX5_init 78 = .ok (.putfield 46, 3) := by decide +kernel
theorem dX5_init_81 : decode cX5_init 81 = .ok (.aload_n 0, 1) := by decide +kernel
theorem dX5_init_82 : decode cX5_init 82 = .ok (.iconst 0, 1) := by decide +kernel
theorem dX5_init_83 : decode cX5_init 83 = .ok (.putfield 50, 3) := by decide +kernel
theorem dX5_init_86 : decode cX5_init 86 = .ok (.aload_n 0, 1) := by decide +kernel
theorem dX5_init_87 : decode cX5_init 87 = .ok (.iconst 0, 1) := by decide +kernel
theorem dX5_init_88 : decode cX5_init 88 = .ok (.putfield 54, 3) := by decide +kernel
theorem dX5_init_91 : decode cX5_init 91 = .ok (.aload_n 0, 1) := by decide +kernel
theorem dX5_init_92 : decode cX5_init 92 = .ok (.iconst 0, 1) := by decide +kernel
theorem dX5_init_93 : decode cX5_init 93 = .ok (.putfield 58, 3) := by decide +kernel
theorem dX5_init_96 : decode cX5_init 96 = .ok (.return_, 1) := by decide +kernel
set_option maxRecDepth 20000 in
theorem ggX5_letter_X3_add : GoodIn wsX5_letter wsX3_add := goodIn_r _ [7, 8, 9, 20, 21] (by decide +kernel) (by decide +kernel)
set_option maxRecDepth 20000 in
theorem gX5_letter_X3_add : GoodIn wsX5_letter (wsV RX5 64 RX3 yX3_add wsX3_add) := goodIn_app (goodIn_of _ (by decide +kernel)) ggX5_letter_X3_add
theorem dX5_letter_0 : decode cX5_letter 0 = .ok (.iload_n 1, 1) := by decide +kernel
theorem dX5_letter_1 : decode cX5_letter 1 = .ok (.bipush 32, 2) := by decide +kernel
theorem dX5_letter_3 : decode cX5_letter 3 = .ok (.if_icmp .lt 9, 3) := by decide +kernel
theorem dX5_letter_6 : decode cX5_letter 6 = .ok (.iload_n 1, 1) := by decide +kernel
theorem dX5_letter_7 : decode cX5_letter 7 = .ok (.bipush 126, 2) := by decide +kernel
theorem dX5_letter_9 : decode cX5_letter 9 = .ok (.if_icmp .le 6, 3) := by decide +kernel
theorem dX5_letter_12 : decode cX5_letter 12 = .ok (.bipush (-102), 2) := by decide +kernel
theorem dX5_letter_14 : decode cX5_letter 14 = .ok (.ireturn, 1) := by decide +kernel
theorem dX5_letter_15 : decode cX5_letter 15 = .ok (.aload_n 0, 1) := by decide +kernel
theorem dX5_letter_16 : decode cX5_letter 16 = .ok (.getfield 10, 3) := by decide +kernel
theorem dX5_letter_19 : decode cX5_letter 19 = .ok (.getfield 61, 3) := by decide +kernel
theorem dX5_letter_22 : decode cX5_letter 22 = .ok (.bipush 18, 2) := by decide +kernel
theorem dX5_letter_24 : decode cX5_letter 24 = .ok (.if_icmp .lt 6, 3) := by decide +kernel
theorem dX5_letter_27 : decode cX5_letter 27 = .ok (.bipush (-104), 2) := by decide +kernel
theorem dX5_letter_29 : decode cX5_letter 29 = .ok (.ireturn, 1) := by decide +kernel
theorem dX5_letter_30 : decode cX5_letter 30 = .ok (.aload_n 0, 1) := by decide +kernel
theorem dX5_letter_31 : decode cX5_letter 31 = .ok (.getfield 10, 3) := by decide +kernel
theorem dX5_letter_34 : decode cX5_letter 34 = .ok (.iload_n 1, 1) := by decide +kernel
theorem dX5_letter_35 : decode cX5_letter 35 = .ok (.i2c, 1) := by decide +kernel
theorem dX5_letter_36 : decode cX5_letter 36 = .ok (.invokevirtual 64, 3) := by decide +kernel
theorem dX5_letter_39 : decode cX5_letter 39 = .ok (.aload_n 0, 1) := by decide +kernel
theorem dX5_letter_40 : decode cX5_letter 40 = .ok (.getfield 10, 3) := by decide +kernel
theorem dX5_letter_43 : decode cX5_letter 43 = .ok (.getfield 61, 3) := by decide +kernel
theorem dX5_letter_46 : decode cX5_letter 46 = .ok (.ireturn, 1) := by decide +kernel
set_option maxRecDepth 20000 in
theorem ggX5_blank_X3_empty : GoodIn wsX5_blank wsX3_empty := goodIn_r _ [7, 8, 19, 20] (by decide +kernel) (by decide +kernel)
set_option maxRecDepth 20000 in
theorem gX5_blank_X3_empty : GoodIn wsX5_blank (wsV RX5 68 RX3 yX3_empty wsX3_empty) := goodIn_app (goodIn_of _ (by decide +kernel)) ggX5_blank_X3_empty
theorem dX5_blank_0 : decode cX5_blank 0 = .ok (.aload_n 0, 1) := by decide +kernel
theorem dX5_blank_1 : decode cX5_blank 1 = .ok (.getfield 10, 3) := by decide +kernel
theorem dX5_blank_4 : decode cX5_blank 4 = .ok (.getfield 61, 3) := by decide +kernel
theorem dX5_blank_7 : decode cX5_blank 7 = .ok (.istore_n 1, 1) := by decide +kernel
theorem dX5_blank_8 : decode cX5_blank 8 = .ok (.aload_n 0, 1) := by decide +kernel
theorem dX5_blank_9 : decode cX5_blank 9 = .ok (.getfield 10, 3) := by decide +kernel
theorem dX5_blank_12 : decode cX5_blank 12 = .ok (.invokevirtual 68, 3) := by decide +kernel
theorem dX5_blank_15 : decode cX5_blank 15 = .ok (.iload_n 1, 1) := by decide +kernel
theorem dX5_blank_16 : decode cX5_blank 16 = .ok (.ireturn, 1) := by decide +kernel
set_option maxRecDepth 20000 in
theorem ggX5_fault_X3_firstFault : GoodIn wsX5_fault wsX3_firstFault := goodIn_r _ [6, 7, 8, 9, 10, 11, 5, 12, 13, 14, 15, 16, 17, 18, 19, 20, 21, 22, 23, 24, 25, 26, 27, 28, 29, 30, 31, 32, 33, 34, 35, 36, 37, 38, 39, 40, 41, 42, 43, 44, 45, 46, 47, 48, 49, 50, 51, 52, 53, 54, 55, 56, 57, 58, 59, 60, 61, 62, 63, 64, 65, 66, 67, 68, 69, 70, 71, 72, 73, 74, 75, 76, 77, 78, 79, 80, 81, 82, 83, 84, 85, 86, 87, 88, 89, 90, 91, 92, 93, 94, 95, 96, 97, 98, 99, 100, 101, 102, 103, 104, 105, 116, 117] (by decide +kernel) (by decide +kernel)
set_option maxRecDepth 20000 in
theorem gX5_fault_X3_firstFault : GoodIn wsX5_fault (wsV RX5 71 RX3 yX3_firstFault wsX3_firstFault) := goodIn_app (goodIn_of _ (by decide +kernel)) ggX5_fault_X3_firstFault
theorem dX5_fault_0 : decode cX5_fault 0 = .ok (.aload_n 0, 1) := by decide +kernel
theorem dX5_fault_1 : decode cX5_fault 1 = .ok (.getfield 10, 3) := by decide +kernel
theorem dX5_fault_4 : decode cX5_fault 4 = .ok (.invokevirtual 71, 3) := by decide +kernel
theorem dX5_fault_7 : decode cX5_fault 7 = .ok (.ireturn, 1) := by decide +kernel
set_option maxRecDepth 20000 in
theorem ggX5_market_X3_isMarket : GoodIn wsX5_market wsX3_isMarket := goodIn_r _ [11, 12, 13, 14, 15, 16, 10, 17, 18, 19, 20, 21, 22, 23, 24, 25, 26, 27, 28, 29, 30, 31, 32, 33, 34, 35, 36, 37, 38, 39, 40, 41, 42, 43, 44, 45, 46, 47, 48, 49, 50, 51, 52, 53, 54, 55, 56, 57, 58, 59, 60, 61, 62, 63, 64, 65, 66, 67, 68, 69, 70, 71, 72, 73, 74, 75, 76, 77, 78, 79, 80, 81, 82, 83, 84, 85, 86, 87, 88, 89, 90, 91, 92, 93, 94, 95, 96, 97, 98, 99, 100, 101, 102, 103, 104, 105, 106, 107, 108, 109, 110, 111, 112, 113, 114, 177, 178] (by decide +kernel) (by decide +kernel)
set_option maxRecDepth 20000 in
theorem gX5_market_X3_isMarket : GoodIn wsX5_market (wsV RX5 75 RX3 yX3_isMarket wsX3_isMarket) := goodIn_app (goodIn_of _ (by decide +kernel)) ggX5_market_X3_isMarket
set_option maxRecDepth 20000 in
theorem ggX5_market_X2_open : GoodIn wsX5_market wsX2_open := goodIn_r _ [119, 120, 121, 122, 123, 124, 125, 126, 127, 128, 129, 130, 131, 132, 133, 134, 10, 135, 12, 136, 137, 138, 139, 13, 140, 141, 142, 143, 22, 23, 24, 25, 26, 27, 28, 29, 30, 31, 32, 33, 34, 35, 36, 37, 38, 39, 40, 41, 42, 43, 44, 45, 46, 47, 48, 49, 50, 51, 52, 53, 54, 55, 56, 57, 58, 59, 60, 61, 62, 63, 64, 65, 66, 67, 68, 69, 70, 71, 72, 73, 74, 75, 76, 77, 78, 79, 80, 81, 82, 83, 84, 85, 86, 87, 88, 89, 90, 91, 92, 93, 94, 95, 96, 97, 98, 99, 100, 101, 102, 103, 104, 105, 106, 107, 108, 109, 110, 166, 167, 168, 169, 170, 171, 172, 173, 174, 175, 176, 177, 178] (by decide +kernel) (by decide +kernel)
set_option maxRecDepth 20000 in
theorem gX5_market_X2_open : GoodIn wsX5_market (wsV RX5 79 RX2 yX2_open wsX2_open) := goodIn_app (goodIn_of _ (by decide +kernel)) ggX5_market_X2_open
set_option maxRecDepth 20000 in
theorem ggX5_market_X3_empty : GoodIn wsX5_market wsX3_empty := goodIn_r _ [147, 12, 177, 178] (by decide +kernel) (by decide +kernel)
set_option maxRecDepth 20000 in
theorem gX5_market_X3_empty : GoodIn wsX5_market (wsV RX5 68 RX3 yX3_empty wsX3_empty) := goodIn_app (goodIn_of _ (by decide +kernel)) ggX5_market_X3_empty
set_option maxRecDepth 20000 in
theorem ggX5_market_X1_forget : GoodIn wsX5_market wsX1_forget := goodIn_r _ [152, 153, 154, 155, 179, 180, 181] (by decide +kernel) (by decide +kernel)
set_option maxRecDepth 20000 in
theorem gX5_market_X1_forget : GoodIn wsX5_market (wsV RX5 83 RX1 yX1_forget wsX1_forget) := goodIn_app (goodIn_of _ (by decide +kernel)) ggX5_market_X1_forget
theorem dX5_market_0 : decode cX5_market 0 = .ok (.aload_n 0, 1) := by decide +kernel
theorem dX5_market_1 : decode cX5_market 1 = .ok (.getfield 10, 3) := by decide +kernel
theorem dX5_market_4 : decode cX5_market 4 = .ok (.invokevirtual 75, 3) := by decide +kernel
theorem dX5_market_7 : decode cX5_market 7 = .ok (.ifCond .ne 6, 3) := by decide +kernel
theorem dX5_market_10 : decode cX5_market 10 = .ok (.bipush (-103), 2) := by decide +kernel
theorem dX5_market_12 : decode cX5_market 12 = .ok (.ireturn, 1) := by decide +kernel
theorem dX5_market_13 : decode cX5_market 13 = .ok (.aload_n 0, 1) := by decide +kernel
theorem dX5_market_14 : decode cX5_market 14 = .ok (.getfield 19, 3) := by decide +kernel
theorem dX5_market_17 : decode cX5_market 17 = .ok (.aload_n 0, 1) := by decide +kernel
theorem dX5_market_18 : decode cX5_market 18 = .ok (.getfield 10, 3) := by decide +kernel
theorem dX5_market_21 : decode cX5_market 21 = .ok (.invokevirtual 79, 3) := by decide +kernel
theorem dX5_market_24 : decode cX5_market 24 = .ok (.aload_n 0, 1) := by decide +kernel
theorem dX5_market_25 : decode cX5_market 25 = .ok (.getfield 10, 3) := by decide +kernel
theorem dX5_market_28 : decode cX5_market 28 = .ok (.invokevirtual 68, 3) := by decide +kernel
theorem dX5_market_31 : decode cX5_market 31 = .ok (.aload_n 0, 1) := by decide +kernel
theorem dX5_market_32 : decode cX5_market 32 = .ok (.getfield 26, 3) := by decide +kernel
theorem dX5_market_35 : decode cX5_market 35 = .ok (.invokevirtual 83, 3) := by decide +kernel
theorem dX5_market_38 : decode cX5_market 38 = .ok (.aload_n 0, 1) := by decide +kernel
theorem dX5_market_39 : decode cX5_market 39 = .ok (.iconst 0, 1) := by decide +kernel
theorem dX5_market_40 : decode cX5_market 40 = .ok (.putfield 50, 3) := by decide +kernel
theorem dX5_market_43 : decode cX5_market 43 = .ok (.aload_n 0, 1) := by decide +kernel
theorem dX5_market_44 : decode cX5_market 44 = .ok (.dup, 1) := by decide +kernel
theorem dX5_market_45 : decode cX5_market 45 = .ok (.getfield 54, 3) := by decide +kernel
theorem dX5_market_48 : decode cX5_market 48 = .ok (.iconst 1, 1) := by decide +kernel
theorem dX5_market_49 : decode cX5_market 49 = .ok (.iadd, 1) := by decide +kernel
theorem dX5_market_50 : decode cX5_market 50 = .ok (.putfield 54, 3) := by decide +kernel
theorem dX5_market_53 : decode cX5_market 53 = .ok (.aload_n 0, 1) := by decide +kernel
theorem dX5_market_54 : decode cX5_market 54 = .ok (.getfield 19, 3) := by decide +kernel
theorem dX5_market_57 : decode cX5_market 57 = .ok (.getfield 86, 3) := by decide +kernel
theorem dX5_market_60 : decode cX5_market 60 = .ok (.ireturn, 1) := by decide +kernel
set_option maxRecDepth 20000 in
theorem ggX5_about_X2_has : GoodIn wsX5_about wsX2_has := goodIn_r _ [6, 7, 29, 30, 31, 32, 33, 34, 35, 36, 37, 38, 39] (by decide +kernel) (by decide +kernel)
set_option maxRecDepth 20000 in
theorem gX5_about_X2_has : GoodIn wsX5_about (wsV RX5 89 RX2 yX2_has wsX2_has) := goodIn_app (goodIn_of _ (by decide +kernel)) ggX5_about_X2_has
set_option maxRecDepth 20000 in
theorem ggX5_about_X2_tell : GoodIn wsX5_about wsX2_tell := goodIn_r _ [11, 12, 13, 14, 15, 16, 17, 18, 29, 30, 31, 32, 33, 34, 35, 36, 37, 38, 39] (by decide +kernel) (by decide +kernel)
set_option maxRecDepth 20000 in
theorem gX5_about_X2_tell : GoodIn wsX5_about (wsV RX5 93 RX2 yX2_tell wsX2_tell) := goodIn_app (goodIn_of _ (by decide +kernel)) ggX5_about_X2_tell
theorem dX5_about_0 : decode cX5_about 0 = .ok (.aload_n 0, 1) := by decide +kernel
theorem dX5_about_1 : decode cX5_about 1 = .ok (.getfield 19, 3) := by decide +kernel
theorem dX5_about_4 : decode cX5_about 4 = .ok (.iload_n 1, 1) := by decide +kernel
theorem dX5_about_5 : decode cX5_about 5 = .ok (.invokevirtual 89, 3) := by decide +kernel
theorem dX5_about_8 : decode cX5_about 8 = .ok (.ifCond .ne 6, 3) := by decide +kernel
theorem dX5_about_11 : decode cX5_about 11 = .ok (.bipush (-101), 2) := by decide +kernel
theorem dX5_about_13 : decode cX5_about 13 = .ok (.ireturn, 1) := by decide +kernel
theorem dX5_about_14 : decode cX5_about 14 = .ok (.iload_n 2, 1) := by decide +kernel
theorem dX5_about_15 : decode cX5_about 15 = .ok (.ifCond .lt 9, 3) := by decide +kernel
theorem dX5_about_18 : decode cX5_about 18 = .ok (.iload_n 2, 1) := by decide +kernel
theorem dX5_about_19 : decode cX5_about 19 = .ok (.bipush 6, 2) := by decide +kernel
theorem dX5_about_21 : decode cX5_about 21 = .ok (.if_icmp .le 6, 3) := by decide +kernel
theorem dX5_about_24 : decode cX5_about 24 = .ok (.bipush (-102), 2) := by decide +kernel
theorem dX5_about_26 : decode cX5_about 26 = .ok (.ireturn, 1) := by decide +kernel
theorem dX5_about_27 : decode cX5_about 27 = .ok (.aload_n 0, 1) := by decide +kernel
theorem dX5_about_28 : decode cX5_about 28 = .ok (.getfield 19, 3) := by decide +kernel
theorem dX5_about_31 : decode cX5_about 31 = .ok (.iload_n 1, 1) := by decide +kernel
theorem dX5_about_32 : decode cX5_about 32 = .ok (.iload_n 2, 1) := by decide +kernel
theorem dX5_about_33 : decode cX5_about 33 = .ok (.invokevirtual 93, 3) := by decide +kernel
theorem dX5_about_36 : decode cX5_about 36 = .ok (.ireturn, 1) := by decide +kernel
set_option maxRecDepth 20000 in
theorem ggX5_as_X2_has : GoodIn wsX5_as wsX2_has := goodIn_r _ [7, 8, 35, 36, 37, 38, 39, 40, 41, 42, 43, 44, 45] (by decide +kernel) (by decide +kernel)
set_option maxRecDepth 20000 in
theorem gX5_as_X2_has : GoodIn wsX5_as (wsV RX5 89 RX2 yX2_has wsX2_has) := goodIn_app (goodIn_of _ (by decide +kernel)) ggX5_as_X2_has
set_option maxRecDepth 20000 in
theorem ggX5_as_J0_length_8abf5 : GoodIn wsX5_as wsJ0_length_8abf5 := goodIn_r _ [13, 14, 15, 16, 17, 12, 18, 19, 20] (by decide +kernel) (by decide +kernel)
set_option maxRecDepth 20000 in
theorem gX5_as_J0_length_8abf5 : GoodIn wsX5_as (wsV RX5 99 RJ0 yJ0_length_8abf5 wsJ0_length_8abf5) := goodIn_app (goodIn_of _ (by decide +kernel)) ggX5_as_J0_length_8abf5
set_option maxRecDepth 20000 in
theorem ggX5_as_X5_isOfKind : GoodIn wsX5_as wsX5_isOfKind := goodIn_r _ [24] (by decide +kernel) (by decide +kernel)
set_option maxRecDepth 20000 in
theorem gX5_as_X5_isOfKind : GoodIn wsX5_as (va_wsS RX5 107 yX5_isOfKind wsX5_isOfKind) := goodIn_app (goodIn_of _ (by decide +kernel)) ggX5_as_X5_isOfKind
theorem dX5_as_0 : decode cX5_as 0 = .ok (.aload_n 0, 1) := by decide +kernel
theorem dX5_as_1 : decode cX5_as 1 = .ok (.getfield 19, 3) := by decide +kernel
theorem dX5_as_4 : decode cX5_as 4 = .ok (.iload_n 1, 1) := by decide +kernel
theorem dX5_as_5 : decode cX5_as 5 = .ok (.invokevirtual 89, 3) := by decide +kernel
theorem dX5_as_8 : decode cX5_as 8 = .ok (.ifCond .ne 6, 3) := by decide +kernel
theorem dX5_as_11 : decode cX5_as 11 = .ok (.bipush (-101), 2) := by decide +kernel
theorem dX5_as_13 : decode cX5_as 13 = .ok (.ireturn, 1) := by decide +kernel
theorem dX5_as_14 : decode cX5_as 14 = .ok (.iload_n 2, 1) := by decide +kernel
theorem dX5_as_15 : decode cX5_as 15 = .ok (.ifCond .lt 12, 3) := by decide +kernel
theorem dX5_as_18 : decode cX5_as 18 = .ok (.iload_n 2, 1) := by decide +kernel
theorem dX5_as_19 : decode cX5_as 19 = .ok (.ldc 97, 2) := by decide +kernel
theorem dX5_as_21 : decode cX5_as 21 = .ok (.invokevirtual 99, 3) := by decide +kernel
theorem dX5_as_24 : decode cX5_as 24 = .ok (.if_icmp .lt 6, 3) := by decide +kernel
theorem dX5_as_27 : decode cX5_as 27 = .ok (.bipush (-102), 2) := by decide +kernel
theorem dX5_as_29 : decode cX5_as 29 = .ok (.ireturn, 1) := by decide +kernel
theorem dX5_as_30 : decode cX5_as 30 = .ok (.aload_n 0, 1) := by decide +kernel
theorem dX5_as_31 : decode cX5_as 31 = .ok (.getfield 19, 3) := by decide +kernel
theorem dX5_as_34 : decode cX5_as 34 = .ok (.getfield 103, 3) := by decide +kernel
theorem dX5_as_37 : decode cX5_as 37 = .ok (.iload_n 1, 1) := by decide +kernel
theorem dX5_as_38 : decode cX5_as 38 = .ok (.iaload, 1) := by decide +kernel
theorem dX5_as_39 : decode cX5_as 39 = .ok (.iload_n 2, 1) := by decide +kernel
theorem dX5_as_40 : decode cX5_as 40 = .ok (.invokestatic 107, 3) := by decide +kernel
theorem dX5_as_43 : decode cX5_as 43 = .ok (.ifCond .eq 7, 3) := by decide +kernel
theorem dX5_as_46 : decode cX5_as 46 = .ok (.iload_n 1, 1) := by decide +kernel
theorem dX5_as_47 : decode cX5_as 47 = .ok (.goto 4, 3) := by decide +kernel
theorem dX5_as_50 : decode cX5_as 50 = .ok (.iconst (-1), 1) := by decide +kernel
theorem dX5_as_51 : decode cX5_as 51 = .ok (.ireturn, 1) := by decide +kernel
set_option maxRecDepth 20000 in
theorem ggX5_measure_X5_canTrade : GoodIn wsX5_measure wsX5_canTrade := goodIn_r _ [8, 1, 9, 10, 11, 12, 13, 14, 25, 26, 27, 28, 29, 30, 31, 32, 33, 34, 35, 36, 37, 38, 39, 40, 41, 42, 43, 44, 45] (by decide +kernel) (by decide +kernel)
set_option maxRecDepth 20000 in
theorem gX5_measure_X5_canTrade : GoodIn wsX5_measure (wsV RX5 111 RX5 yX5_canTrade wsX5_canTrade) := goodIn_app (goodIn_of _ (by decide +kernel)) ggX5_measure_X5_canTrade
set_option maxRecDepth 20000 in
theorem ggX5_measure_X2_has : GoodIn wsX5_measure wsX2_has := goodIn_r _ [13, 14, 35, 36, 37, 38, 39, 40, 41, 42, 43, 44, 45] (by decide +kernel) (by decide +kernel)
set_option maxRecDepth 20000 in
theorem gX5_measure_X2_has : GoodIn wsX5_measure (wsV RX5 89 RX2 yX2_has wsX2_has) := goodIn_app (goodIn_of _ (by decide +kernel)) ggX5_measure_X2_has
set_option maxRecDepth 20000 in
theorem ggX5_measure_X2_ounces : GoodIn wsX5_measure wsX2_ounces := goodIn_r _ [18, 19, 20, 21, 22, 23, 24, 35, 36, 37, 38, 39, 40, 41, 42, 43, 44, 45] (by decide +kernel) (by decide +kernel)
set_option maxRecDepth 20000 in
theorem gX5_measure_X2_ounces : GoodIn wsX5_measure (wsV RX5 120 RX2 yX2_ounces wsX2_ounces) := goodIn_app (goodIn_of _ (by decide +kernel)) ggX5_measure_X2_ounces
theorem dX5_measure_0 : decode cX5_measure 0 = .ok (.aload_n 0, 1) := by decide +kernel
theorem dX5_measure_1 : decode cX5_measure 1 = .ok (.iload_n 1, 1) := by decide +kernel
theorem dX5_measure_2 : decode cX5_measure 2 = .ok (.iload_n 2, 1) := by decide +kernel
theorem dX5_measure_3 : decode cX5_measure 3 = .ok (.invokevirtual 111, 3) := by decide +kernel
theorem dX5_measure_6 : decode cX5_measure 6 = .ok (.ifCond .eq 14, 3) := by decide +kernel
theorem dX5_measure_9 : decode cX5_measure 9 = .ok (.aload_n 0, 1) := by decide +kernel
theorem dX5_measure_10 : decode cX5_measure 10 = .ok (.getfield 19, 3) := by decide +kernel
theorem dX5_measure_13 : decode cX5_measure 13 = .ok (.iload_n 3, 1) := by decide +kernel
theorem dX5_measure_14 : decode cX5_measure 14 = .ok (.invokevirtual 89, 3) := by decide +kernel
theorem dX5_measure_17 : decode cX5_measure 17 = .ok (.ifCond .ne 6, 3) := by decide +kernel
theorem dX5_measure_20 : decode cX5_measure 20 = .ok (.bipush (-101), 2) := by decide +kernel
theorem dX5_measure_22 : decode cX5_measure 22 = .ok (.ireturn, 1) := by decide +kernel
theorem dX5_measure_23 : decode cX5_measure 23 = .ok (.aload_n 0, 1) := by decide +kernel
theorem dX5_measure_24 : decode cX5_measure 24 = .ok (.getfield 19, 3) := by decide +kernel
theorem dX5_measure_27 : decode cX5_measure 27 = .ok (.aload_n 0, 1) := by decide +kernel
theorem dX5_measure_28 : decode cX5_measure 28 = .ok (.getfield 19, 3) := by decide +kernel
theorem dX5_measure_31 : decode cX5_measure 31 = .ok (.getfield 114, 3) := by decide +kernel
theorem dX5_measure_34 : decode cX5_measure 34 = .ok (.iload_n 3, 1) := by decide +kernel
theorem dX5_measure_35 : decode cX5_measure 35 = .ok (.iaload, 1) := by decide +kernel
theorem dX5_measure_36 : decode cX5_measure 36 = .ok (.iload_n 1, 1) := by decide +kernel
theorem dX5_measure_37 : decode cX5_measure 37 = .ok (.aload_n 0, 1) := by decide +kernel
theorem dX5_measure_38 : decode cX5_measure 38 = .ok (.getfield 19, 3) := by decide +kernel
theorem dX5_measure_41 : decode cX5_measure 41 = .ok (.getfield 117, 3) := by decide +kernel
theorem dX5_measure_44 : decode cX5_measure 44 = .ok (.invokevirtual 120, 3) := by decide +kernel
theorem dX5_measure_47 : decode cX5_measure 47 = .ok (.ireturn, 1) := by decide +kernel
set_option maxRecDepth 20000 in
theorem ggX5_buy_X5_canTrade : GoodIn wsX5_buy wsX5_canTrade := goodIn_r _ [7, 1, 8, 9, 10, 11, 12, 13, 40, 41, 42, 43, 44, 45, 46, 47, 48, 49, 50, 51, 52, 53, 54, 55, 56, 57, 58, 59, 60] (by decide +kernel) (by decide +kernel)
set_option maxRecDepth 20000 in
theorem gX5_buy_X5_canTrade : GoodIn wsX5_buy (wsV RX5 111 RX5 yX5_canTrade wsX5_canTrade) := goodIn_app (goodIn_of _ (by decide +kernel)) ggX5_buy_X5_canTrade
set_option maxRecDepth 20000 in
theorem ggX5_buy_X2_has : GoodIn wsX5_buy wsX2_has := goodIn_r _ [12, 13, 50, 51, 52, 53, 54, 55, 56, 57, 58, 59, 60] (by decide +kernel) (by decide +kernel)
set_option maxRecDepth 20000 in
theorem gX5_buy_X2_has : GoodIn wsX5_buy (wsV RX5 89 RX2 yX2_has wsX2_has) := goodIn_app (goodIn_of _ (by decide +kernel)) ggX5_buy_X2_has
set_option maxRecDepth 20000 in
theorem ggX5_buy_X2_sell : GoodIn wsX5_buy wsX2_sell := goodIn_r _ [17, 18, 19, 20, 21, 22, 23, 24, 25, 26, 27, 28, 11, 29, 30, 31, 32, 33, 34, 35, 36, 37, 38, 39, 50, 51, 52, 53, 54, 55, 56, 57, 58, 59, 60] (by decide +kernel) (by decide +kernel)
set_option maxRecDepth 20000 in
theorem gX5_buy_X2_sell : GoodIn wsX5_buy (wsV RX5 127 RX2 yX2_sell wsX2_sell) := goodIn_app (goodIn_of _ (by decide +kernel)) ggX5_buy_X2_sell
theorem dX5_buy_0 : decode cX5_buy 0 = .ok (.aload_n 0, 1) := by decide +kernel
theorem dX5_buy_1 : decode cX5_buy 1 = .ok (.iload_n 1, 1) := by decide +kernel
theorem dX5_buy_2 : decode cX5_buy 2 = .ok (.iload_n 2, 1) := by decide +kernel
theorem dX5_buy_3 : decode cX5_buy 3 = .ok (.invokevirtual 111, 3) := by decide +kernel
theorem dX5_buy_6 : decode cX5_buy 6 = .ok (.ifCond .eq 14, 3) := by decide +kernel
theorem dX5_buy_9 : decode cX5_buy 9 = .ok (.aload_n 0, 1) := by decide +kernel
theorem dX5_buy_10 : decode cX5_buy 10 = .ok (.getfield 19, 3) := by decide +kernel
theorem dX5_buy_13 : decode cX5_buy 13 = .ok (.iload_n 3, 1) := by decide +kernel
theorem dX5_buy_14 : decode cX5_buy 14 = .ok (.invokevirtual 89, 3) := by decide +kernel
theorem dX5_buy_17 : decode cX5_buy 17 = .ok (.ifCond .ne 6, 3) := by decide +kernel
theorem dX5_buy_20 : decode cX5_buy 20 = .ok (.bipush (-101), 2) := by decide +kernel
theorem dX5_buy_22 : decode cX5_buy 22 = .ok (.ireturn, 1) := by decide +kernel
theorem dX5_buy_23 : decode cX5_buy 23 = .ok (.aload_n 0, 1) := by decide +kernel
theorem dX5_buy_24 : decode cX5_buy 24 = .ok (.getfield 19, 3) := by decide +kernel
theorem dX5_buy_27 : decode cX5_buy 27 = .ok (.getfield 124, 3) := by decide +kernel
theorem dX5_buy_30 : decode cX5_buy 30 = .ok (.bipush 100, 2) := by decide +kernel
theorem dX5_buy_32 : decode cX5_buy 32 = .ok (.if_icmp .lt 6, 3) := by decide +kernel
theorem dX5_buy_35 : decode cX5_buy 35 = .ok (.bipush (-104), 2) := by decide +kernel
theorem dX5_buy_37 : decode cX5_buy 37 = .ok (.ireturn, 1) := by decide +kernel
theorem dX5_buy_38 : decode cX5_buy 38 = .ok (.aload_n 0, 1) := by decide +kernel
theorem dX5_buy_39 : decode cX5_buy 39 = .ok (.getfield 19, 3) := by decide +kernel
theorem dX5_buy_42 : decode cX5_buy 42 = .ok (.iload_n 1, 1) := by decide +kernel
theorem dX5_buy_43 : decode cX5_buy 43 = .ok (.iload_n 2, 1) := by decide +kernel
theorem dX5_buy_44 : decode cX5_buy 44 = .ok (.iload_n 3, 1) := by decide +kernel
theorem dX5_buy_45 : decode cX5_buy 45 = .ok (.invokevirtual 127, 3) := by decide +kernel
theorem dX5_buy_48 : decode cX5_buy 48 = .ok (.ireturn, 1) := by decide +kernel
set_option maxRecDepth 20000 in
theorem ggX5_hour_X2_isOpen : GoodIn wsX5_hour wsX2_isOpen := goodIn_r _ [7, 8, 19, 20, 21, 22, 23, 24, 25, 26, 27, 28, 29] (by decide +kernel) (by decide +kernel)
set_option maxRecDepth 20000 in
theorem gX5_hour_X2_isOpen : GoodIn wsX5_hour (wsV RX5 130 RX2 yX2_isOpen wsX2_isOpen) := goodIn_app (goodIn_of _ (by decide +kernel)) ggX5_hour_X2_isOpen
theorem dX5_hour_0 : decode cX5_hour 0 = .ok (.aload_n 0, 1) := by decide +kernel
theorem dX5_hour_1 : decode cX5_hour 1 = .ok (.getfield 19, 3) := by decide +kernel
theorem dX5_hour_4 : decode cX5_hour 4 = .ok (.invokevirtual 130, 3) := by decide +kernel
theorem dX5_hour_7 : decode cX5_hour 7 = .ok (.ifCond .ne 6, 3) := by decide +kernel
theorem dX5_hour_10 : decode cX5_hour 10 = .ok (.bipush (-103), 2) := by decide +kernel
theorem dX5_hour_12 : decode cX5_hour 12 = .ok (.ireturn, 1) := by decide +kernel
theorem dX5_hour_13 : decode cX5_hour 13 = .ok (.aload_n 0, 1) := by decide +kernel
theorem dX5_hour_14 : decode cX5_hour 14 = .ok (.getfield 19, 3) := by decide +kernel
theorem dX5_hour_17 : decode cX5_hour 17 = .ok (.dup, 1) := by decide +kernel
theorem dX5_hour_18 : decode cX5_hour 18 = .ok (.getfield 117, 3) := by decide +kernel
theorem dX5_hour_21 : decode cX5_hour 21 = .ok (.iconst 1, 1) := by decide +kernel
theorem dX5_hour_22 : decode cX5_hour 22 = .ok (.iadd, 1) := by decide +kernel
theorem dX5_hour_23 : decode cX5_hour 23 = .ok (.putfield 117, 3) := by decide +kernel
theorem dX5_hour_26 : decode cX5_hour 26 = .ok (.aload_n 0, 1) := by decide +kernel
theorem dX5_hour_27 : decode cX5_hour 27 = .ok (.getfield 19, 3) := by decide +kernel
theorem dX5_hour_30 : decode cX5_hour 30 = .ok (.getfield 117, 3) := by decide +kernel
theorem dX5_hour_33 : decode cX5_hour 33 = .ok (.ireturn, 1) := by decide +kernel
set_option maxRecDepth 20000 in
theorem ggX5_plan_X2_has : GoodIn wsX5_plan wsX2_has := goodIn_r _ [8, 9, 77, 78, 79, 80, 81, 82, 83, 84, 85, 86, 87] (by decide +kernel) (by decide +kernel)
set_option maxRecDepth 20000 in
theorem gX5_plan_X2_has : GoodIn wsX5_plan (wsV RX5 89 RX2 yX2_has wsX2_has) := goodIn_app (goodIn_of _ (by decide +kernel)) ggX5_plan_X2_has
set_option maxRecDepth 20000 in
theorem ggX5_plan_X5_isPlanQuestion : GoodIn wsX5_plan wsX5_isPlanQuestion := goodIn_r _ [13] (by decide +kernel) (by decide +kernel)
set_option maxRecDepth 20000 in
theorem gX5_plan_X5_isPlanQuestion : GoodIn wsX5_plan (va_wsS RX5 133 yX5_isPlanQuestion wsX5_isPlanQuestion) := goodIn_app (goodIn_of _ (by decide +kernel)) ggX5_plan_X5_isPlanQuestion
set_option maxRecDepth 20000 in
theorem ggX5_plan_X4_seek : GoodIn wsX5_plan wsX4_seek := goodIn_r _ [18, 19, 20, 21, 22, 23, 24, 25, 12, 26, 27, 28, 29, 30, 31, 32, 33, 17, 34, 35, 36, 37, 38, 39, 40, 41, 42, 43, 44, 45, 7, 46, 47, 48, 49, 50, 51, 52, 53, 54, 55, 56, 57, 58, 59, 60, 61, 62, 77, 78, 79, 80, 81, 82, 83, 84, 85, 86, 87, 88, 89, 90, 91, 92, 93, 94] (by decide +kernel) (by decide +kernel)
set_option maxRecDepth 20000 in
theorem gX5_plan_X4_seek : GoodIn wsX5_plan (wsV RX5 136 RX4 yX4_seek wsX4_seek) := goodIn_app (goodIn_of _ (by decide +kernel)) ggX5_plan_X4_seek
set_option maxRecDepth 20000 in
theorem ggX5_plan_X4_tell : GoodIn wsX5_plan wsX4_tell := goodIn_r _ [66, 21, 22, 57, 88, 89, 90, 91, 92, 93, 94] (by decide +kernel) (by decide +kernel)
set_option maxRecDepth 20000 in
theorem gX5_plan_X4_tell : GoodIn wsX5_plan (wsV RX5 140 RX4 yX4_tell wsX4_tell) := goodIn_app (goodIn_of _ (by decide +kernel)) ggX5_plan_X4_tell
theorem dX5_plan_0 : decode cX5_plan 0 = .ok (.aload_n 0, 1) := by decide +kernel
theorem dX5_plan_1 : decode cX5_plan 1 = .ok (.getfield 19, 3) := by decide +kernel
theorem dX5_plan_4 : decode cX5_plan 4 = .ok (.iload_n 1, 1) := by decide +kernel
theorem dX5_plan_5 : decode cX5_plan 5 = .ok (.invokevirtual 89, 3) := by decide +kernel
theorem dX5_plan_8 : decode cX5_plan 8 = .ok (.ifCond .ne 6, 3) := by decide +kernel
theorem dX5_plan_11 : decode cX5_plan 11 = .ok (.bipush (-101), 2) := by decide +kernel
theorem dX5_plan_13 : decode cX5_plan 13 = .ok (.ireturn, 1) := by decide +kernel
theorem dX5_plan_14 : decode cX5_plan 14 = .ok (.iload_n 2, 1) := by decide +kernel
theorem dX5_plan_15 : decode cX5_plan 15 = .ok (.iconst 1, 1) := by decide +kernel
theorem dX5_plan_16 : decode cX5_plan 16 = .ok (.if_icmp .lt 16, 3) := by decide +kernel
theorem dX5_plan_19 : decode cX5_plan 19 = .ok (.iload_n 2, 1) := by decide +kernel
theorem dX5_plan_20 : decode cX5_plan 20 = .ok (.bipush 60, 2) := by decide +kernel
theorem dX5_plan_22 : decode cX5_plan 22 = .ok (.if_icmp .gt 10, 3) := by decide +kernel
theorem dX5_plan_25 : decode cX5_plan 25 = .ok (.iload_n 3, 1) := by decide +kernel
theorem dX5_plan_26 : decode cX5_plan 26 = .ok (.invokestatic 133, 3) := by decide +kernel
theorem dX5_plan_29 : decode cX5_plan 29 = .ok (.ifCond .ne 6, 3) := by decide +kernel
theorem dX5_plan_32 : decode cX5_plan 32 = .ok (.bipush (-102), 2) := by decide +kernel
theorem dX5_plan_34 : decode cX5_plan 34 = .ok (.ireturn, 1) := by decide +kernel
theorem dX5_plan_35 : decode cX5_plan 35 = .ok (.aload_n 0, 1) := by decide +kernel
theorem dX5_plan_36 : decode cX5_plan 36 = .ok (.getfield 58, 3) := by decide +kernel
theorem dX5_plan_39 : decode cX5_plan 39 = .ok (.bipush 40, 2) := by decide +kernel
theorem dX5_plan_41 : decode cX5_plan 41 = .ok (.if_icmp .lt 6, 3) := by decide +kernel
theorem dX5_plan_44 : decode cX5_plan 44 = .ok (.bipush (-103), 2) := by decide +kernel
theorem dX5_plan_46 : decode cX5_plan 46 = .ok (.ireturn, 1) := by decide +kernel
theorem dX5_plan_47 : decode cX5_plan 47 = .ok (.aload_n 0, 1) := by decide +kernel
theorem dX5_plan_48 : decode cX5_plan 48 = .ok (.dup, 1) := by decide +kernel
theorem dX5_plan_49 : decode cX5_plan 49 = .ok (.getfield 58, 3) := by decide +kernel
theorem dX5_plan_52 : decode cX5_plan 52 = .ok (.iconst 1, 1) := by decide +kernel
theorem dX5_plan_53 : decode cX5_plan 53 = .ok (.iadd, 1) := by decide +kernel
theorem dX5_plan_54 : decode cX5_plan 54 = .ok (.putfield 58, 3) := by decide +kernel
theorem dX5_plan_57 : decode cX5_plan 57 = .ok (.aload_n 0, 1) := by decide +kernel
theorem dX5_plan_58 : decode cX5_plan 58 = .ok (.getfield 39, 3) := by decide +kernel
theorem dX5_plan_61 : decode cX5_plan 61 = .ok (.aload_n 0, 1) := by decide +kernel
theorem dX5_plan_62 : decode cX5_plan 62 = .ok (.getfield 19, 3) := by decide +kernel
theorem dX5_plan_65 : decode cX5_plan 65 = .ok (.iload_n 1, 1) := by decide +kernel
theorem dX5_plan_66 : decode cX5_plan 66 = .ok (.iload_n 2, 1) := by decide +kernel
theorem dX5_plan_67 : decode cX5_plan 67 = .ok (.invokevirtual 136, 3) := by decide +kernel
theorem dX5_plan_70 : decode cX5_plan 70 = .ok (.aload_n 0, 1) := by decide +kernel
theorem dX5_plan_71 : decode cX5_plan 71 = .ok (.getfield 39, 3) := by decide +kernel
theorem dX5_plan_74 : decode cX5_plan 74 = .ok (.iload_n 3, 1) := by decide +kernel
theorem dX5_plan_75 : decode cX5_plan 75 = .ok (.invokevirtual 140, 3) := by decide +kernel
theorem dX5_plan_78 : decode cX5_plan 78 = .ok (.ireturn, 1) := by decide +kernel
set_option maxRecDepth 20000 in
theorem ggX5_fair_X5_canTrade : GoodIn wsX5_fair wsX5_canTrade := goodIn_r _ [6, 1, 7, 8, 9, 10, 11, 12, 30, 31, 32, 33, 34, 35, 36, 37, 38, 39, 40, 41, 42, 43, 44, 45, 46, 47, 48, 49, 50] (by decide +kernel) (by decide +kernel)
set_option maxRecDepth 20000 in
theorem gX5_fair_X5_canTrade : GoodIn wsX5_fair (wsV RX5 111 RX5 yX5_canTrade wsX5_canTrade) := goodIn_app (goodIn_of _ (by decide +kernel)) ggX5_fair_X5_canTrade
set_option maxRecDepth 20000 in
theorem ggX5_fair_X2_isFair : GoodIn wsX5_fair wsX2_isFair := goodIn_r _ [16, 17, 18, 12, 19, 20, 21, 22, 10, 23, 24, 25, 26, 27, 28, 29, 40, 41, 42, 43, 44, 45, 46, 47, 48, 49, 50] (by decide +kernel) (by decide +kernel)
set_option maxRecDepth 20000 in
theorem gX5_fair_X2_isFair : GoodIn wsX5_fair (wsV RX5 143 RX2 yX2_isFair wsX2_isFair) := goodIn_app (goodIn_of _ (by decide +kernel)) ggX5_fair_X2_isFair
theorem dX5_fair_0 : decode cX5_fair 0 = .ok (.aload_n 0, 1) := by decide +kernel
theorem dX5_fair_1 : decode cX5_fair 1 = .ok (.iload_n 2, 1) := by decide +kernel
theorem dX5_fair_2 : decode cX5_fair 2 = .ok (.iload_n 1, 1) := by decide +kernel
theorem dX5_fair_3 : decode cX5_fair 3 = .ok (.invokevirtual 111, 3) := by decide +kernel
theorem dX5_fair_6 : decode cX5_fair 6 = .ok (.ifCond .ne 6, 3) := by decide +kernel
theorem dX5_fair_9 : decode cX5_fair 9 = .ok (.bipush (-101), 2) := by decide +kernel
theorem dX5_fair_11 : decode cX5_fair 11 = .ok (.ireturn, 1) := by decide +kernel
theorem dX5_fair_12 : decode cX5_fair 12 = .ok (.aload_n 0, 1) := by decide +kernel
theorem dX5_fair_13 : decode cX5_fair 13 = .ok (.getfield 19, 3) := by decide +kernel
theorem dX5_fair_16 : decode cX5_fair 16 = .ok (.iload_n 1, 1) := by decide +kernel
theorem dX5_fair_17 : decode cX5_fair 17 = .ok (.iload_n 2, 1) := by decide +kernel
theorem dX5_fair_18 : decode cX5_fair 18 = .ok (.invokevirtual 143, 3) := by decide +kernel
theorem dX5_fair_21 : decode cX5_fair 21 = .ok (.ifCond .eq 7, 3) := by decide +kernel
theorem dX5_fair_24 : decode cX5_fair 24 = .ok (.iconst 1, 1) := by decide +kernel
theorem dX5_fair_25 : decode cX5_fair 25 = .ok (.goto 4, 3) := by decide +kernel
theorem dX5_fair_28 : decode cX5_fair 28 = .ok (.iconst 0, 1) := by decide +kernel
theorem dX5_fair_29 : decode cX5_fair 29 = .ok (.ireturn, 1) := by decide +kernel
set_option maxRecDepth 20000 in
theorem ggX5_pass_X2_has : GoodIn wsX5_pass wsX2_has := goodIn_r _ [8, 9, 30, 31, 32, 33, 34, 35, 36, 37, 38, 39, 40] (by decide +kernel) (by decide +kernel)
set_option maxRecDepth 20000 in
theorem gX5_pass_X2_has : GoodIn wsX5_pass (wsV RX5 89 RX2 yX2_has wsX2_has) := goodIn_app (goodIn_of _ (by decide +kernel)) ggX5_pass_X2_has
set_option maxRecDepth 20000 in
theorem ggX5_pass_X1_add : GoodIn wsX5_pass wsX1_add := goodIn_r _ [14, 15, 16, 27, 28, 29] (by decide +kernel) (by decide +kernel)
set_option maxRecDepth 20000 in
theorem gX5_pass_X1_add : GoodIn wsX5_pass (wsV RX5 149 RX1 yX1_add wsX1_add) := goodIn_app (goodIn_of _ (by decide +kernel)) ggX5_pass_X1_add
theorem dX5_pass_0 : decode cX5_pass 0 = .ok (.aload_n 0, 1) := by decide +kernel
theorem dX5_pass_1 : decode cX5_pass 1 = .ok (.getfield 19, 3) := by decide +kernel
theorem dX5_pass_4 : decode cX5_pass 4 = .ok (.iload_n 1, 1) := by decide +kernel
theorem dX5_pass_5 : decode cX5_pass 5 = .ok (.invokevirtual 89, 3) := by decide +kernel
theorem dX5_pass_8 : decode cX5_pass 8 = .ok (.ifCond .ne 6, 3) := by decide +kernel
theorem dX5_pass_11 : decode cX5_pass 11 = .ok (.bipush (-101), 2) := by decide +kernel
theorem dX5_pass_13 : decode cX5_pass 13 = .ok (.ireturn, 1) := by decide +kernel
theorem dX5_pass_14 : decode cX5_pass 14 = .ok (.aload_n 0, 1) := by decide +kernel
theorem dX5_pass_15 : decode cX5_pass 15 = .ok (.getfield 26, 3) := by decide +kernel
theorem dX5_pass_18 : decode cX5_pass 18 = .ok (.getfield 146, 3) := by decide +kernel
theorem dX5_pass_21 : decode cX5_pass 21 = .ok (.bipush 8, 2) := by decide +kernel
theorem dX5_pass_23 : decode cX5_pass 23 = .ok (.if_icmp .lt 6, 3) := by decide +kernel
theorem dX5_pass_26 : decode cX5_pass 26 = .ok (.bipush (-104), 2) := by decide +kernel
theorem dX5_pass_28 : decode cX5_pass 28 = .ok (.ireturn, 1) := by decide +kernel
theorem dX5_pass_29 : decode cX5_pass 29 = .ok (.aload_n 0, 1) := by decide +kernel
theorem dX5_pass_30 : decode cX5_pass 30 = .ok (.getfield 26, 3) := by decide +kernel
theorem dX5_pass_33 : decode cX5_pass 33 = .ok (.iload_n 1, 1) := by decide +kernel
theorem dX5_pass_34 : decode cX5_pass 34 = .ok (.invokevirtual 149, 3) := by decide +kernel
theorem dX5_pass_37 : decode cX5_pass 37 = .ok (.aload_n 0, 1) := by decide +kernel
theorem dX5_pass_38 : decode cX5_pass 38 = .ok (.getfield 26, 3) := by decide +kernel
theorem dX5_pass_41 : decode cX5_pass 41 = .ok (.getfield 146, 3) := by decide +kernel
theorem dX5_pass_44 : decode cX5_pass 44 = .ok (.ireturn, 1) := by decide +kernel
theorem dX5_lose_0 : decode cX5_lose 0 = .ok (.iload_n 1, 1) := by decide +kernel
theorem dX5_lose_1 : decode cX5_lose 1 = .ok (.ifCond .lt 9, 3) := by decide +kernel
theorem dX5_lose_4 : decode cX5_lose 4 = .ok (.iload_n 1, 1) := by decide +kernel
theorem dX5_lose_5 : decode cX5_lose 5 = .ok (.bipush 20, 2) := by decide +kernel
theorem dX5_lose_7 : decode cX5_lose 7 = .ok (.if_icmp .le 6, 3) := by decide +kernel
theorem dX5_lose_10 : decode cX5_lose 10 = .ok (.bipush (-102), 2) := by decide +kernel
theorem dX5_lose_12 : decode cX5_lose 12 = .ok (.ireturn, 1) := by decide +kernel
theorem dX5_lose_13 : decode cX5_lose 13 = .ok (.aload_n 0, 1) := by decide +kernel
theorem dX5_lose_14 : decode cX5_lose 14 = .ok (.getfield 26, 3) := by decide +kernel
theorem dX5_lose_17 : decode cX5_lose 17 = .ok (.getfield 152, 3) := by decide +kernel
theorem dX5_lose_20 : decode cX5_lose 20 = .ok (.istore_n 2, 1) := by decide +kernel
theorem dX5_lose_21 : decode cX5_lose 21 = .ok (.aload_n 0, 1) := by decide +kernel
theorem dX5_lose_22 : decode cX5_lose 22 = .ok (.getfield 26, 3) := by decide +kernel
theorem dX5_lose_25 : decode cX5_lose 25 = .ok (.iload_n 1, 1) := by decide +kernel
theorem dX5_lose_26 : decode cX5_lose 26 = .ok (.putfield 152, 3) := by decide +kernel
theorem dX5_lose_29 : decode cX5_lose 29 = .ok (.iload_n 2, 1) := by decide +kernel
theorem dX5_lose_30 : decode cX5_lose 30 = .ok (.ireturn, 1) := by decide +kernel
set_option maxRecDepth 20000 in
theorem ggX5_clear_X1_forget : GoodIn wsX5_clear wsX1_forget := goodIn_r _ [7, 8, 9, 10, 21, 22, 23] (by decide +kernel) (by decide +kernel)
set_option maxRecDepth 20000 in
theorem gX5_clear_X1_forget : GoodIn wsX5_clear (wsV RX5 83 RX1 yX1_forget wsX1_forget) := goodIn_app (goodIn_of _ (by decide +kernel)) ggX5_clear_X1_forget
theorem dX5_clear_0 : decode cX5_clear 0 = .ok (.aload_n 0, 1) := by decide +kernel
theorem dX5_clear_1 : decode cX5_clear 1 = .ok (.getfield 26, 3) := by decide +kernel
theorem dX5_clear_4 : decode cX5_clear 4 = .ok (.getfield 146, 3) := by decide +kernel
theorem dX5_clear_7 : decode cX5_clear 7 = .ok (.istore_n 1, 1) := by decide +kernel
theorem dX5_clear_8 : decode cX5_clear 8 = .ok (.aload_n 0, 1) := by decide +kernel
theorem dX5_clear_9 : decode cX5_clear 9 = .ok (.getfield 26, 3) := by decide +kernel
theorem dX5_clear_12 : decode cX5_clear 12 = .ok (.invokevirtual 83, 3) := by decide +kernel
theorem dX5_clear_15 : decode cX5_clear 15 = .ok (.iload_n 1, 1) := by decide +kernel
theorem dX5_clear_16 : decode cX5_clear 16 = .ok (.ireturn, 1) := by decide +kernel
set_option maxRecDepth 20000 in
theorem ggX5_rubbed_X2_isOpen : GoodIn wsX5_rubbed wsX2_isOpen := goodIn_r _ [8, 9, 43, 44, 45, 46, 47, 48, 49, 50, 51, 52, 53] (by decide +kernel) (by decide +kernel)
set_option maxRecDepth 20000 in
theorem gX5_rubbed_X2_isOpen : GoodIn wsX5_rubbed (wsV RX5 130 RX2 yX2_isOpen wsX2_isOpen) := goodIn_app (goodIn_of _ (by decide +kernel)) ggX5_rubbed_X2_isOpen
set_option maxRecDepth 20000 in
theorem ggX5_rubbed_X1_howManySets : GoodIn wsX5_rubbed wsX1_howManySets := goodIn_r _ [14, 15, 16, 17, 13, 18, 19, 20, 21, 22, 23, 24, 54, 55, 56] (by decide +kernel) (by decide +kernel)
set_option maxRecDepth 20000 in
theorem gX5_rubbed_X1_howManySets : GoodIn wsX5_rubbed (wsV RX5 155 RX1 yX1_howManySets wsX1_howManySets) := goodIn_app (goodIn_of _ (by decide +kernel)) ggX5_rubbed_X1_howManySets
set_option maxRecDepth 20000 in
theorem ggX5_rubbed_X1_leastSet : GoodIn wsX5_rubbed wsX1_leastSet := goodIn_r _ [28, 19, 20, 21, 13, 22, 23, 24, 54, 55, 56] (by decide +kernel) (by decide +kernel)
set_option maxRecDepth 20000 in
theorem gX5_rubbed_X1_leastSet : GoodIn wsX5_rubbed (wsV RX5 158 RX1 yX1_leastSet wsX1_leastSet) := goodIn_app (goodIn_of _ (by decide +kernel)) ggX5_rubbed_X1_leastSet
set_option maxRecDepth 20000 in
theorem ggX5_rubbed_X1_inAllSets : GoodIn wsX5_rubbed wsX1_inAllSets := goodIn_r _ [32, 19, 20, 21, 13, 22, 23, 24, 54, 55, 56] (by decide +kernel) (by decide +kernel)
set_option maxRecDepth 20000 in
theorem gX5_rubbed_X1_inAllSets : GoodIn wsX5_rubbed (wsV RX5 161 RX1 yX1_inAllSets wsX1_inAllSets) := goodIn_app (goodIn_of _ (by decide +kernel)) ggX5_rubbed_X1_inAllSets
theorem dX5_rubbed_0 : decode cX5_rubbed 0 = .ok (.iload_n 1, 1) := by decide +kernel
theorem dX5_rubbed_1 : decode cX5_rubbed 1 = .ok (.ifCond .lt 8, 3) := by decide +kernel
theorem dX5_rubbed_4 : decode cX5_rubbed 4 = .ok (.iload_n 1, 1) := by decide +kernel
theorem dX5_rubbed_5 : decode cX5_rubbed 5 = .ok (.iconst 2, 1) := by decide +kernel
theorem dX5_rubbed_6 : decode cX5_rubbed 6 = .ok (.if_icmp .le 6, 3) := by decide +kernel
theorem dX5_rubbed_9 : decode cX5_rubbed 9 = .ok (.bipush (-102), 2) := by decide +kernel
theorem dX5_rubbed_11 : decode cX5_rubbed 11 = .ok (.ireturn, 1) := by decide +kernel
theorem dX5_rubbed_12 : decode cX5_rubbed 12 = .ok (.aload_n 0, 1) := by decide +kernel
theorem dX5_rubbed_13 : decode cX5_rubbed 13 = .ok (.getfield 19, 3) := by decide +kernel
theorem dX5_rubbed_16 : decode cX5_rubbed 16 = .ok (.invokevirtual 130, 3) := by decide +kernel
theorem dX5_rubbed_19 : decode cX5_rubbed 19 = .ok (.ifCond .ne 6, 3) := by decide +kernel
theorem dX5_rubbed_22 : decode cX5_rubbed 22 = .ok (.bipush (-103), 2) := by decide +kernel
theorem dX5_rubbed_24 : decode cX5_rubbed 24 = .ok (.ireturn, 1) := by decide +kernel
theorem dX5_rubbed_25 : decode cX5_rubbed 25 = .ok (.iload_n 1, 1) := by decide +kernel
theorem dX5_rubbed_26 : decode cX5_rubbed 26 = .ok (.ifCond .ne 18, 3) := by decide +kernel
theorem dX5_rubbed_29 : decode cX5_rubbed 29 = .ok (.aload_n 0, 1) := by decide +kernel
theorem dX5_rubbed_30 : decode cX5_rubbed 30 = .ok (.getfield 26, 3) := by decide +kernel
theorem dX5_rubbed_33 : decode cX5_rubbed 33 = .ok (.aload_n 0, 1) := by decide +kernel
theorem dX5_rubbed_34 : decode cX5_rubbed 34 = .ok (.getfield 19, 3) := by decide +kernel
theorem dX5_rubbed_37 : decode cX5_rubbed 37 = .ok (.getfield 86, 3) := by decide +kernel
theorem dX5_rubbed_40 : decode cX5_rubbed 40 = .ok (.invokevirtual 155, 3) := by decide +kernel
theorem dX5_rubbed_43 : decode cX5_rubbed 43 = .ok (.ireturn, 1) := by decide +kernel
theorem dX5_rubbed_44 : decode cX5_rubbed 44 = .ok (.iload_n 1, 1) := by decide +kernel
theorem dX5_rubbed_45 : decode cX5_rubbed 45 = .ok (.iconst 1, 1) := by decide +kernel
theorem dX5_rubbed_46 : decode cX5_rubbed 46 = .ok (.if_icmp .ne 20, 3) := by decide +kernel
theorem dX5_rubbed_49 : decode cX5_rubbed 49 = .ok (.aload_n 0, 1) := by decide +kernel
theorem dX5_rubbed_50 : decode cX5_rubbed 50 = .ok (.getfield 26, 3) := by decide +kernel
theorem dX5_rubbed_53 : decode cX5_rubbed 53 = .ok (.aload_n 0, 1) := by decide +kernel
theorem dX5_rubbed_54 : decode cX5_rubbed 54 = .ok (.getfield 19, 3) := by decide +kernel
theorem dX5_rubbed_57 : decode cX5_rubbed 57 = .ok (.getfield 86, 3) := by decide +kernel
theorem dX5_rubbed_60 : decode cX5_rubbed 60 = .ok (.invokevirtual 158, 3) := by decide +kernel
theorem dX5_rubbed_63 : decode cX5_rubbed 63 = .ok (.goto 17, 3) := by decide +kernel
theorem dX5_rubbed_66 : decode cX5_rubbed 66 = .ok (.aload_n 0, 1) := by decide +kernel
theorem dX5_rubbed_67 : decode cX5_rubbed 67 = .ok (.getfield 26, 3) := by decide +kernel
theorem dX5_rubbed_70 : decode cX5_rubbed 70 = .ok (.aload_n 0, 1) := by decide +kernel
theorem dX5_rubbed_71 : decode cX5_rubbed 71 = .ok (.getfield 19, 3) := by decide +kernel
theorem dX5_rubbed_74 : decode cX5_rubbed 74 = .ok (.getfield 86, 3) := by decide +kernel
theorem dX5_rubbed_77 : decode cX5_rubbed 77 = .ok (.invokevirtual 161, 3) := by decide +kernel
theorem dX5_rubbed_80 : decode cX5_rubbed 80 = .ok (.ireturn, 1) := by decide +kernel
set_option maxRecDepth 20000 in
theorem ggX5_watch_X2_isOpen : GoodIn wsX5_watch wsX2_isOpen := goodIn_r _ [8, 9, 43, 44, 45, 46, 47, 48, 49, 50, 51, 52, 53] (by decide +kernel) (by decide +kernel)
set_option maxRecDepth 20000 in
theorem gX5_watch_X2_isOpen : GoodIn wsX5_watch (wsV RX5 130 RX2 yX2_isOpen wsX2_isOpen) := goodIn_app (goodIn_of _ (by decide +kernel)) ggX5_watch_X2_isOpen
set_option maxRecDepth 20000 in
theorem ggX5_watch_X1_houseToWatch : GoodIn wsX5_watch wsX1_houseToWatch := goodIn_r _ [14, 15, 16, 17, 18, 19, 20, 21, 13, 22, 23, 24, 25, 26, 27, 28, 29, 30, 31, 32, 54, 55, 56] (by decide +kernel) (by decide +kernel)
set_option maxRecDepth 20000 in
theorem gX5_watch_X1_houseToWatch : GoodIn wsX5_watch (wsV RX5 164 RX1 yX1_houseToWatch wsX1_houseToWatch) := goodIn_app (goodIn_of _ (by decide +kernel)) ggX5_watch_X1_houseToWatch
theorem dX5_watch_0 : decode cX5_watch 0 = .ok (.aload_n 0, 1) := by decide +kernel
theorem dX5_watch_1 : decode cX5_watch 1 = .ok (.getfield 19, 3) := by decide +kernel
theorem dX5_watch_4 : decode cX5_watch 4 = .ok (.invokevirtual 130, 3) := by decide +kernel
theorem dX5_watch_7 : decode cX5_watch 7 = .ok (.ifCond .ne 6, 3) := by decide +kernel
theorem dX5_watch_10 : decode cX5_watch 10 = .ok (.bipush (-103), 2) := by decide +kernel
theorem dX5_watch_12 : decode cX5_watch 12 = .ok (.ireturn, 1) := by decide +kernel
theorem dX5_watch_13 : decode cX5_watch 13 = .ok (.aload_n 0, 1) := by decide +kernel
theorem dX5_watch_14 : decode cX5_watch 14 = .ok (.getfield 26, 3) := by decide +kernel
theorem dX5_watch_17 : decode cX5_watch 17 = .ok (.aload_n 0, 1) := by decide +kernel
theorem dX5_watch_18 : decode cX5_watch 18 = .ok (.getfield 19, 3) := by decide +kernel
theorem dX5_watch_21 : decode cX5_watch 21 = .ok (.getfield 86, 3) := by decide +kernel
theorem dX5_watch_24 : decode cX5_watch 24 = .ok (.invokevirtual 164, 3) := by decide +kernel
theorem dX5_watch_27 : decode cX5_watch 27 = .ok (.ireturn, 1) := by decide +kernel
set_option maxRecDepth 20000 in
theorem ggX5_markets_X2_isOpen : GoodIn wsX5_markets wsX2_isOpen := goodIn_r _ [10, 11, 73, 74, 75, 76, 77, 78, 79, 80, 81, 82, 83] (by decide +kernel) (by decide +kernel)
set_option maxRecDepth 20000 in
theorem gX5_markets_X2_isOpen : GoodIn wsX5_markets (wsV RX5 130 RX2 yX2_isOpen wsX2_isOpen) := goodIn_app (goodIn_of _ (by decide +kernel)) ggX5_markets_X2_isOpen
set_option maxRecDepth 20000 in
theorem ggX5_markets_X0_run : GoodIn wsX5_markets wsX0_run := goodIn_r _ [16, 17, 18, 19, 20, 21, 22, 23, 24, 25, 26, 27, 28, 29, 30, 31, 15, 32, 33, 34, 35, 36, 37, 38, 39, 40, 41, 42, 43, 44, 9, 45, 46, 47, 48, 49, 50, 51, 52, 53, 54, 55, 73, 74, 75, 76, 77, 78, 79, 80, 81, 82, 83, 70, 71, 72] (by decide +kernel) (by decide +kernel)
set_option maxRecDepth 20000 in
theorem gX5_markets_X0_run : GoodIn wsX5_markets (wsV RX5 167 RX0 yX0_run wsX0_run) := goodIn_app (goodIn_of _ (by decide +kernel)) ggX5_markets_X0_run
set_option maxRecDepth 20000 in
theorem ggX5_markets_X2_sum : GoodIn wsX5_markets wsX2_sum := goodIn_r _ [59, 11, 73, 74, 75, 76, 77, 78, 79, 80, 81, 82, 83] (by decide +kernel) (by decide +kernel)
set_option maxRecDepth 20000 in
theorem gX5_markets_X2_sum : GoodIn wsX5_markets (wsV RX5 174 RX2 yX2_sum wsX2_sum) := goodIn_app (goodIn_of _ (by decide +kernel)) ggX5_markets_X2_sum
theorem dX5_markets_0 : decode cX5_markets 0 = .ok (.iload_n 1, 1) := by decide +kernel
theorem dX5_markets_1 : decode cX5_markets 1 = .ok (.iconst 1, 1) := by decide +kernel
theorem dX5_markets_2 : decode cX5_markets 2 = .ok (.if_icmp .lt 22, 3) := by decide +kernel
theorem dX5_markets_5 : decode cX5_markets 5 = .ok (.iload_n 1, 1) := by decide +kernel
theorem dX5_markets_6 : decode cX5_markets 6 = .ok (.bipush 60, 2) := by decide +kernel
theorem dX5_markets_8 : decode cX5_markets 8 = .ok (.if_icmp .gt 16, 3) := by decide +kernel
theorem dX5_markets_11 : decode cX5_markets 11 = .ok (.iload_n 2, 1) := by decide +kernel
theorem dX5_markets_12 : decode cX5_markets 12 = .ok (.ifCond .lt 12, 3) := by decide +kernel
theorem dX5_markets_15 : decode cX5_markets 15 = .ok (.iload_n 3, 1) := by decide +kernel
theorem dX5_markets_16 : decode cX5_markets 16 = .ok (.ifCond .lt 8, 3) := by decide +kernel
theorem dX5_markets_19 : decode cX5_markets 19 = .ok (.iload_n 3, 1) := by decide +kernel
theorem dX5_markets_20 : decode cX5_markets 20 = .ok (.iconst 2, 1) := by decide +kernel
theorem dX5_markets_21 : decode cX5_markets 21 = .ok (.if_icmp .le 6, 3) := by decide +kernel
theorem dX5_markets_24 : decode cX5_markets 24 = .ok (.bipush (-102), 2) := by decide +kernel
theorem dX5_markets_26 : decode cX5_markets 26 = .ok (.ireturn, 1) := by decide +kernel
theorem dX5_markets_27 : decode cX5_markets 27 = .ok (.aload_n 0, 1) := by decide +kernel
theorem dX5_markets_28 : decode cX5_markets 28 = .ok (.getfield 19, 3) := by decide +kernel
theorem dX5_markets_31 : decode cX5_markets 31 = .ok (.invokevirtual 130, 3) := by decide +kernel
theorem dX5_markets_34 : decode cX5_markets 34 = .ok (.ifCond .ne 6, 3) := by decide +kernel
theorem dX5_markets_37 : decode cX5_markets 37 = .ok (.bipush (-103), 2) := by decide +kernel
theorem dX5_markets_39 : decode cX5_markets 39 = .ok (.ireturn, 1) := by decide +kernel
theorem dX5_markets_40 : decode cX5_markets 40 = .ok (.aload_n 0, 1) := by decide +kernel
theorem dX5_markets_41 : decode cX5_markets 41 = .ok (.getfield 46, 3) := by decide +kernel
theorem dX5_markets_44 : decode cX5_markets 44 = .ok (.aload_n 0, 1) := by decide +kernel
theorem dX5_markets_45 : decode cX5_markets 45 = .ok (.getfield 19, 3) := by decide +kernel
theorem dX5_markets_48 : decode cX5_markets 48 = .ok (.iload_n 1, 1) := by decide +kernel
theorem dX5_markets_49 : decode cX5_markets 49 = .ok (.iload_n 2, 1) := by decide +kernel
theorem dX5_markets_50 : decode cX5_markets 50 = .ok (.invokevirtual 167, 3) := by decide +kernel
theorem dX5_markets_53 : decode cX5_markets 53 = .ok (.iload_n 3, 1) := by decide +kernel
theorem dX5_markets_54 : decode cX5_markets 54 = .ok (.ifCond .ne 13, 3) := by decide +kernel
theorem dX5_markets_57 : decode cX5_markets 57 = .ok (.aload_n 0, 1) := by decide +kernel
theorem dX5_markets_58 : decode cX5_markets 58 = .ok (.getfield 46, 3) := by decide +kernel
theorem dX5_markets_61 : decode cX5_markets 61 = .ok (.getfield 170, 3) := by decide +kernel
theorem dX5_markets_64 : decode cX5_markets 64 = .ok (.goto 32, 3) := by decide +kernel
theorem dX5_markets_67 : decode cX5_markets 67 = .ok (.iload_n 3, 1) := by decide +kernel
theorem dX5_markets_68 : decode cX5_markets 68 = .ok (.iconst 1, 1) := by decide +kernel
theorem dX5_markets_69 : decode cX5_markets 69 = .ok (.if_icmp .ne 20, 3) := by decide +kernel
theorem dX5_markets_72 : decode cX5_markets 72 = .ok (.aload_n 0, 1) := by decide +kernel
theorem dX5_markets_73 : decode cX5_markets 73 = .ok (.getfield 19, 3) := by decide +kernel
theorem dX5_markets_76 : decode cX5_markets 76 = .ok (.aload_n 0, 1) := by decide +kernel
theorem dX5_markets_77 : decode cX5_markets 77 = .ok (.getfield 46, 3) := by decide +kernel
theorem dX5_markets_80 : decode cX5_markets 80 = .ok (.getfield 173, 3) := by decide +kernel
theorem dX5_markets_83 : decode cX5_markets 83 = .ok (.invokevirtual 174, 3) := by decide +kernel
theorem dX5_markets_86 : decode cX5_markets 86 = .ok (.goto 10, 3) := by decide +kernel
theorem dX5_markets_89 : decode cX5_markets 89 = .ok (.aload_n 0, 1) := by decide +kernel
theorem dX5_markets_90 : decode cX5_markets 90 = .ok (.getfield 46, 3) := by decide +kernel
theorem dX5_markets_93 : decode cX5_markets 93 = .ok (.getfield 178, 3) := by decide +kernel
theorem dX5_markets_96 : decode cX5_markets 96 = .ok (.ireturn, 1) := by decide +kernel
set_option maxRecDepth 20000 in
theorem ggX5_image_X2_isOpen : GoodIn wsX5_image wsX2_isOpen := goodIn_r _ [11, 12, 49, 50, 51, 52, 53, 54, 55, 56, 57, 58, 59] (by decide +kernel) (by decide +kernel)
set_option maxRecDepth 20000 in
theorem gX5_image_X2_isOpen : GoodIn wsX5_image (wsV RX5 130 RX2 yX2_isOpen wsX2_isOpen) := goodIn_app (goodIn_of _ (by decide +kernel)) ggX5_image_X2_isOpen
set_option maxRecDepth 20000 in
theorem ggX5_image_X2_copyDoingsOf : GoodIn wsX5_image wsX2_copyDoingsOf := goodIn_r _ [16, 17, 18, 19, 20, 21, 22, 23, 24, 25, 26, 27, 28, 29, 30, 49, 50, 51, 52, 53, 54, 55, 56, 57, 58, 59] (by decide +kernel) (by decide +kernel)
set_option maxRecDepth 20000 in
theorem gX5_image_X2_copyDoingsOf : GoodIn wsX5_image (wsV RX5 181 RX2 yX2_copyDoingsOf wsX2_copyDoingsOf) := goodIn_app (goodIn_of _ (by decide +kernel)) ggX5_image_X2_copyDoingsOf
set_option maxRecDepth 20000 in
theorem ggX5_image_X1_copyFrom : GoodIn wsX5_image wsX1_copyFrom := goodIn_r _ [35, 36, 37, 38, 24, 25, 26, 27, 28, 29, 30, 60, 61, 62] (by decide +kernel) (by decide +kernel)
set_option maxRecDepth 20000 in
theorem gX5_image_X1_copyFrom : GoodIn wsX5_image (wsV RX5 185 RX1 yX1_copyFrom wsX1_copyFrom) := goodIn_app (goodIn_of _ (by decide +kernel)) ggX5_image_X1_copyFrom
theorem dX5_image_0 : decode cX5_image 0 = .ok (.aload_n 0, 1) := by decide +kernel
theorem dX5_image_1 : decode cX5_image 1 = .ok (.getfield 19, 3) := by decide +kernel
theorem dX5_image_4 : decode cX5_image 4 = .ok (.invokevirtual 130, 3) := by decide +kernel
theorem dX5_image_7 : decode cX5_image 7 = .ok (.ifCond .ne 6, 3) := by decide +kernel
theorem dX5_image_10 : decode cX5_image 10 = .ok (.bipush (-103), 2) := by decide +kernel
theorem dX5_image_12 : decode cX5_image 12 = .ok (.ireturn, 1) := by decide +kernel
theorem dX5_image_13 : decode cX5_image 13 = .ok (.aload_n 0, 1) := by decide +kernel
theorem dX5_image_14 : decode cX5_image 14 = .ok (.getfield 30, 3) := by decide +kernel
theorem dX5_image_17 : decode cX5_image 17 = .ok (.aload_n 0, 1) := by decide +kernel
theorem dX5_image_18 : decode cX5_image 18 = .ok (.getfield 19, 3) := by decide +kernel
theorem dX5_image_21 : decode cX5_image 21 = .ok (.invokevirtual 181, 3) := by decide +kernel
theorem dX5_image_24 : decode cX5_image 24 = .ok (.aload_n 0, 1) := by decide +kernel
theorem dX5_image_25 : decode cX5_image 25 = .ok (.getfield 33, 3) := by decide +kernel
theorem dX5_image_28 : decode cX5_image 28 = .ok (.aload_n 0, 1) := by decide +kernel
theorem dX5_image_29 : decode cX5_image 29 = .ok (.getfield 26, 3) := by decide +kernel
theorem dX5_image_32 : decode cX5_image 32 = .ok (.invokevirtual 185, 3) := by decide +kernel
theorem dX5_image_35 : decode cX5_image 35 = .ok (.aload_n 0, 1) := by decide +kernel
theorem dX5_image_36 : decode cX5_image 36 = .ok (.iconst 1, 1) := by decide +kernel
theorem dX5_image_37 : decode cX5_image 37 = .ok (.putfield 50, 3) := by decide +kernel
theorem dX5_image_40 : decode cX5_image 40 = .ok (.aload_n 0, 1) := by decide +kernel
theorem dX5_image_41 : decode cX5_image 41 = .ok (.getfield 19, 3) := by decide +kernel
theorem dX5_image_44 : decode cX5_image 44 = .ok (.getfield 117, 3) := by decide +kernel
theorem dX5_image_47 : decode cX5_image 47 = .ok (.ireturn, 1) := by decide +kernel
set_option maxRecDepth 20000 in
theorem ggX5_restore_X2_copyDoingsOf : GoodIn wsX5_restore wsX2_copyDoingsOf := goodIn_r _ [11, 12, 13, 14, 15, 16, 17, 18, 19, 20, 21, 22, 23, 24, 25, 44, 45, 46, 47, 48, 49, 50, 51, 52, 53, 54] (by decide +kernel) (by decide +kernel)
set_option maxRecDepth 20000 in
theorem gX5_restore_X2_copyDoingsOf : GoodIn wsX5_restore (wsV RX5 181 RX2 yX2_copyDoingsOf wsX2_copyDoingsOf) := goodIn_app (goodIn_of _ (by decide +kernel)) ggX5_restore_X2_copyDoingsOf
set_option maxRecDepth 20000 in
theorem ggX5_restore_X1_copyFrom : GoodIn wsX5_restore wsX1_copyFrom := goodIn_r _ [30, 31, 32, 33, 19, 20, 21, 22, 23, 24, 25, 55, 56, 57] (by decide +kernel) (by decide +kernel)
set_option maxRecDepth 20000 in
theorem gX5_restore_X1_copyFrom : GoodIn wsX5_restore (wsV RX5 185 RX1 yX1_copyFrom wsX1_copyFrom) := goodIn_app (goodIn_of _ (by decide +kernel)) ggX5_restore_X1_copyFrom
theorem dX5_restore_0 : decode cX5_restore 0 = .ok (.aload_n 0, 1) := by decide +kernel
theorem dX5_restore_1 : decode cX5_restore 1 = .ok (.getfield 50, 3) := by decide +kernel
theorem dX5_restore_4 : decode cX5_restore 4 = .ok (.ifCond .ne 6, 3) := by decide +kernel
theorem dX5_restore_7 : decode cX5_restore 7 = .ok (.bipush (-103), 2) := by decide +kernel
theorem dX5_restore_9 : decode cX5_restore 9 = .ok (.ireturn, 1) := by decide +kernel
theorem dX5_restore_10 : decode cX5_restore 10 = .ok (.aload_n 0, 1) := by decide +kernel
theorem dX5_restore_11 : decode cX5_restore 11 = .ok (.getfield 19, 3) := by decide +kernel
theorem dX5_restore_14 : decode cX5_restore 14 = .ok (.aload_n 0, 1) := by decide +kernel
theorem dX5_restore_15 : decode cX5_restore 15 = .ok (.getfield 30, 3) := by decide +kernel
theorem dX5_restore_18 : decode cX5_restore 18 = .ok (.invokevirtual 181, 3) := by decide +kernel
theorem dX5_restore_21 : decode cX5_restore 21 = .ok (.aload_n 0, 1) := by decide +kernel
theorem dX5_restore_22 : decode cX5_restore 22 = .ok (.getfield 26, 3) := by decide +kernel
theorem dX5_restore_25 : decode cX5_restore 25 = .ok (.aload_n 0, 1) := by decide +kernel
theorem dX5_restore_26 : decode cX5_restore 26 = .ok (.getfield 33, 3) := by decide +kernel
theorem dX5_restore_29 : decode cX5_restore 29 = .ok (.invokevirtual 185, 3) := by decide +kernel
theorem dX5_restore_32 : decode cX5_restore 32 = .ok (.aload_n 0, 1) := by decide +kernel
theorem dX5_restore_33 : decode cX5_restore 33 = .ok (.getfield 19, 3) := by decide +kernel
theorem dX5_restore_36 : decode cX5_restore 36 = .ok (.getfield 117, 3) := by decide +kernel
theorem dX5_restore_39 : decode cX5_restore 39 = .ok (.ireturn, 1) := by decide +kernel
set_option maxRecDepth 20000 in
theorem ggX5_count_X2_sum : GoodIn wsX5_count wsX2_sum := goodIn_r _ [20, 21, 32, 33, 34, 35, 36, 37, 38, 39, 40, 41, 42] (by decide +kernel) (by decide +kernel)
set_option maxRecDepth 20000 in
theorem gX5_count_X2_sum : GoodIn wsX5_count (wsV RX5 174 RX2 yX2_sum wsX2_sum) := goodIn_app (goodIn_of _ (by decide +kernel)) ggX5_count_X2_sum
theorem dX5_count_0 : decode cX5_count 0 = .ok (.iload_n 1, 1) := by decide +kernel
theorem dX5_count_1 : decode cX5_count 1 = .ok (.tableswitch 174 0 11 #[63, 71, 79, 87, 95, 110, 125, 140, 148, 156, 164, 169], 63) := by decide +kernel
theorem dX5_count_64 : decode cX5_count 64 = .ok (.aload_n 0, 1) := by decide +kernel
theorem dX5_count_65 : decode cX5_count 65 = .ok (.getfield 19, 3) := by decide +kernel
theorem dX5_count_68 : decode cX5_count 68 = .ok (.getfield 86, 3) := by decide +kernel
theorem dX5_count_71 : decode cX5_count 71 = .ok (.ireturn, 1) := by decide +kernel
theorem dX5_count_72 : decode cX5_count 72 = .ok (.aload_n 0, 1) := by decide +kernel
theorem dX5_count_73 : decode cX5_count 73 = .ok (.getfield 19, 3) := by decide +kernel
theorem dX5_count_76 : decode cX5_count 76 = .ok (.getfield 189, 3) := by decide +kernel
theorem dX5_count_79 : decode cX5_count 79 = .ok (.ireturn, 1) := by decide +kernel
theorem dX5_count_80 : decode cX5_count 80 = .ok (.aload_n 0, 1) := by decide +kernel
theorem dX5_count_81 : decode cX5_count 81 = .ok (.getfield 19, 3) := by decide +kernel
theorem dX5_count_84 : decode cX5_count 84 = .ok (.getfield 117, 3) := by decide +kernel
theorem dX5_count_87 : decode cX5_count 87 = .ok (.ireturn, 1) := by decide +kernel
theorem dX5_count_88 : decode cX5_count 88 = .ok (.aload_n 0, 1) := by decide +kernel
theorem dX5_count_89 : decode cX5_count 89 = .ok (.getfield 19, 3) := by decide +kernel
theorem dX5_count_92 : decode cX5_count 92 = .ok (.getfield 124, 3) := by decide +kernel
theorem dX5_count_95 : decode cX5_count 95 = .ok (.ireturn, 1) := by decide +kernel
theorem dX5_count_96 : decode cX5_count 96 = .ok (.aload_n 0, 1) := by decide +kernel
theorem dX5_count_97 : decode cX5_count 97 = .ok (.getfield 19, 3) := by decide +kernel
theorem dX5_count_100 : decode cX5_count 100 = .ok (.aload_n 0, 1) := by decide +kernel
theorem dX5_count_101 : decode cX5_count 101 = .ok (.getfield 19, 3) := by decide +kernel
theorem dX5_count_104 : decode cX5_count 104 = .ok (.getfield 192, 3) := by decide +kernel
theorem dX5_count_107 : decode cX5_count 107 = .ok (.invokevirtual 174, 3) := by decide +kernel
theorem dX5_count_110 : decode cX5_count 110 = .ok (.ireturn, 1) := by decide +kernel
theorem dX5_count_111 : decode cX5_count 111 = .ok (.aload_n 0, 1) := by decide +kernel
theorem dX5_count_112 : decode cX5_count 112 = .ok (.getfield 19, 3) := by decide +kernel
theorem dX5_count_115 : decode cX5_count 115 = .ok (.aload_n 0, 1) := by decide +kernel
theorem dX5_count_116 : decode cX5_count 116 = .ok (.getfield 19, 3) := by decide +kernel
theorem dX5_count_119 : decode cX5_count 119 = .ok (.getfield 195, 3) := by decide +kernel
theorem dX5_count_122 : decode cX5_count 122 = .ok (.invokevirtual 174, 3) := by decide +kernel
theorem dX5_count_125 : decode cX5_count 125 = .ok (.ireturn, 1) := by decide +kernel
theorem dX5_count_126 : decode cX5_count 126 = .ok (.aload_n 0, 1) := by decide +kernel
theorem dX5_count_127 : decode cX5_count 127 = .ok (.getfield 19, 3) := by decide +kernel
theorem dX5_count_130 : decode cX5_count 130 = .ok (.aload_n 0, 1) := by decide +kernel
theorem dX5_count_131 : decode cX5_count 131 = .ok (.getfield 19, 3) := by decide +kernel
theorem dX5_count_134 : decode cX5_count 134 = .ok (.getfield 114, 3) := by decide +kernel
theorem dX5_count_137 : decode cX5_count 137 = .ok (.invokevirtual 174, 3) := by decide +kernel
theorem dX5_count_140 : decode cX5_count 140 = .ok (.ireturn, 1) := by decide +kernel
theorem dX5_count_141 : decode cX5_count 141 = .ok (.aload_n 0, 1) := by decide +kernel
theorem dX5_count_142 : decode cX5_count 142 = .ok (.getfield 26, 3) := by decide +kernel
theorem dX5_count_145 : decode cX5_count 145 = .ok (.getfield 146, 3) := by decide +kernel
theorem dX5_count_148 : decode cX5_count 148 = .ok (.ireturn, 1) := by decide +kernel
theorem dX5_count_149 : decode cX5_count 149 = .ok (.aload_n 0, 1) := by decide +kernel
theorem dX5_count_150 : decode cX5_count 150 = .ok (.getfield 26, 3) := by decide +kernel
theorem dX5_count_153 : decode cX5_count 153 = .ok (.getfield 152, 3) := by decide +kernel
theorem dX5_count_156 : decode cX5_count 156 = .ok (.ireturn, 1) := by decide +kernel
theorem dX5_count_157 : decode cX5_count 157 = .ok (.aload_n 0, 1) := by decide +kernel
theorem dX5_count_158 : decode cX5_count 158 = .ok (.getfield 10, 3) := by decide +kernel
theorem dX5_count_161 : decode cX5_count 161 = .ok (.getfield 61, 3) := by decide +kernel
theorem dX5_count_164 : decode cX5_count 164 = .ok (.ireturn, 1) := by decide +kernel
theorem dX5_count_165 : decode cX5_count 165 = .ok (.aload_n 0, 1) := by decide +kernel
theorem dX5_count_166 : decode cX5_count 166 = .ok (.getfield 54, 3) := by decide +kernel
theorem dX5_count_169 : decode cX5_count 169 = .ok (.ireturn, 1) := by decide +kernel
theorem dX5_count_170 : decode cX5_count 170 = .ok (.aload_n 0, 1) := by decide +kernel
theorem dX5_count_171 : decode cX5_count 171 = .ok (.getfield 58, 3) := by decide +kernel
theorem dX5_count_174 : decode cX5_count 174 = .ok (.ireturn, 1) := by decide +kernel
theorem dX5_count_175 : decode cX5_count 175 = .ok (.bipush (-102), 2) := by decide +kernel
theorem dX5_count_177 : decode cX5_count 177 = .ok (.ireturn, 1) := by decide +kernel
set_option maxRecDepth 20000 in
theorem ggX5_digest_X5_foldHouse : GoodIn wsX5_digest wsX5_foldHouse := goodIn_r _ [11, 2, 3, 12, 13, 14, 10, 15, 16, 17, 18, 19, 20, 21, 22, 23, 24, 25, 26, 27, 28, 29, 30, 31, 32, 33, 34, 35, 36, 37, 38, 39, 40, 41, 42, 43, 44, 45, 46, 47, 48, 49, 50, 51, 52, 53, 54, 55, 56, 57, 58, 123, 124, 125, 126, 127, 128, 129, 130, 131, 132, 133, 134, 135, 136, 137, 138, 139, 140, 141, 142, 143] (by decide +kernel) (by decide +kernel)
set_option maxRecDepth 20000 in
theorem gX5_digest_X5_foldHouse : GoodIn wsX5_digest (wsV RX5 200 RX5 yX5_foldHouse wsX5_foldHouse) := goodIn_app (goodIn_of _ (by decide +kernel)) ggX5_digest_X5_foldHouse
set_option maxRecDepth 20000 in
theorem ggX5_digest_X2_isOpen : GoodIn wsX5_digest wsX2_isOpen := goodIn_r _ [62, 21, 133, 134, 135, 136, 137, 138, 139, 140, 141, 142, 143] (by decide +kernel) (by decide +kernel)
set_option maxRecDepth 20000 in
theorem gX5_digest_X2_isOpen : GoodIn wsX5_digest (wsV RX5 130 RX2 yX2_isOpen wsX2_isOpen) := goodIn_app (goodIn_of _ (by decide +kernel)) ggX5_digest_X2_isOpen
set_option maxRecDepth 20000 in
theorem ggX5_digest_X5_foldLedger : GoodIn wsX5_digest wsX5_foldLedger := goodIn_r _ [66, 67, 68, 69, 10, 70, 2, 71, 3, 59, 60, 61, 19, 62, 21, 72, 73, 74, 75, 76, 77, 78, 79, 80, 81, 82, 83, 84, 85, 86, 87, 88, 89, 90, 91, 92, 93, 94, 33, 34, 35, 36, 95, 96, 97, 98, 99, 100, 101, 102, 103, 56, 57, 58, 104, 123, 124, 125, 126, 127, 128, 129, 130, 131, 132, 133, 134, 135, 136, 137, 138, 139, 140, 141, 142, 143, 146, 147, 148] (by decide +kernel) (by decide +kernel)
set_option maxRecDepth 20000 in
theorem gX5_digest_X5_foldLedger : GoodIn wsX5_digest (wsV RX5 204 RX5 yX5_foldLedger wsX5_foldLedger) := goodIn_app (goodIn_of _ (by decide +kernel)) ggX5_digest_X5_foldLedger
set_option maxRecDepth 20000 in
theorem ggX5_digest_X5_fold : GoodIn wsX5_digest wsX5_fold := goodIn_r _ [35, 36] (by decide +kernel) (by decide +kernel)
set_option maxRecDepth 20000 in
theorem gX5_digest_X5_fold : GoodIn wsX5_digest (va_wsS RX5 212 yX5_fold wsX5_fold) := goodIn_app (goodIn_of _ (by decide +kernel)) ggX5_digest_X5_fold
set_option maxRecDepth 20000 in
theorem ggX5_digest_X5_count : GoodIn wsX5_digest wsX5_count := goodIn_r _ [108, 2, 3, 109, 110, 111, 112, 113, 114, 71, 115, 116, 4, 5, 117, 118, 119, 120, 121, 19, 122, 21, 123, 124, 125, 126, 127, 128, 129, 130, 131, 132, 133, 134, 135, 136, 137, 138, 139, 140, 141, 142, 143, 146, 147, 148, 144, 145] (by decide +kernel) (by decide +kernel)
set_option maxRecDepth 20000 in
theorem gX5_digest_X5_count : GoodIn wsX5_digest (wsV RX5 216 RX5 yX5_count wsX5_count) := goodIn_app (goodIn_of _ (by decide +kernel)) ggX5_digest_X5_count
theorem dX5_digest_0 : decode cX5_digest 0 = .ok (.ldc2_w 198, 3) := by decide +kernel
theorem dX5_digest_3 : decode cX5_digest 3 = .ok (.lstore_n 1, 1) := by decide +kernel
theorem dX5_digest_4 : decode cX5_digest 4 = .ok (.iconst 0, 1) := by decide +kernel
theorem dX5_digest_5 : decode cX5_digest 5 = .ok (.istore_n 3, 1) := by decide +kernel
theorem dX5_digest_6 : decode cX5_digest 6 = .ok (.iload_n 3, 1) := by decide +kernel
theorem dX5_digest_7 : decode cX5_digest 7 = .ok (.aload_n 0, 1) := by decide +kernel
theorem dX5_digest_8 : decode cX5_digest 8 = .ok (.getfield 19, 3) := by decide +kernel
theorem dX5_digest_11 : decode cX5_digest 11 = .ok (.getfield 86, 3) := by decide +kernel
theorem dX5_digest_14 : decode cX5_digest 14 = .ok (.if_icmp .ge 16, 3) := by decide +kernel
theorem dX5_digest_17 : decode cX5_digest 17 = .ok (.aload_n 0, 1) := by decide +kernel
theorem dX5_digest_18 : decode cX5_digest 18 = .ok (.lload_n 1, 1) := by decide +kernel
theorem dX5_digest_19 : decode cX5_digest 19 = .ok (.iload_n 3, 1) := by decide +kernel
theorem dX5_digest_20 : decode cX5_digest 20 = .ok (.invokevirtual 200, 3) := by decide +kernel
theorem dX5_digest_23 : decode cX5_digest 23 = .ok (.lstore_n 1, 1) := by decide +kernel
theorem dX5_digest_24 : decode cX5_digest 24 = .ok (.iinc 3 1, 3) := by decide +kernel
theorem dX5_digest_27 : decode cX5_digest 27 = .ok (.goto (-21), 3) := by decide +kernel
theorem dX5_digest_30 : decode cX5_digest 30 = .ok (.aload_n 0, 1) := by decide +kernel
theorem dX5_digest_31 : decode cX5_digest 31 = .ok (.getfield 19, 3) := by decide +kernel
theorem dX5_digest_34 : decode cX5_digest 34 = .ok (.invokevirtual 130, 3) := by decide +kernel
theorem dX5_digest_37 : decode cX5_digest 37 = .ok (.ifCond .eq 9, 3) := by decide +kernel
theorem dX5_digest_40 : decode cX5_digest 40 = .ok (.aload_n 0, 1) := by decide +kernel
theorem dX5_digest_41 : decode cX5_digest 41 = .ok (.lload_n 1, 1) := by decide +kernel
theorem dX5_digest_42 : decode cX5_digest 42 = .ok (.invokevirtual 204, 3) := by decide +kernel
theorem dX5_digest_45 : decode cX5_digest 45 = .ok (.lstore_n 1, 1) := by decide +kernel
theorem dX5_digest_46 : decode cX5_digest 46 = .ok (.iconst 0, 1) := by decide +kernel
theorem dX5_digest_47 : decode cX5_digest 47 = .ok (.istore_n 3, 1) := by decide +kernel
theorem dX5_digest_48 : decode cX5_digest 48 = .ok (.iload_n 3, 1) := by decide +kernel
theorem dX5_digest_49 : decode cX5_digest 49 = .ok (.aload_n 0, 1) := by decide +kernel
theorem dX5_digest_50 : decode cX5_digest 50 = .ok (.getfield 10, 3) := by decide +kernel
theorem dX5_digest_53 : decode cX5_digest 53 = .ok (.getfield 61, 3) := by decide +kernel
theorem dX5_digest_56 : decode cX5_digest 56 = .ok (.if_icmp .ge 24, 3) := by decide +kernel
theorem dX5_digest_59 : decode cX5_digest 59 = .ok (.lload_n 1, 1) := by decide +kernel
theorem dX5_digest_60 : decode cX5_digest 60 = .ok (.aload_n 0, 1) := by decide +kernel
theorem dX5_digest_61 : decode cX5_digest 61 = .ok (.getfield 10, 3) := by decide +kernel
theorem dX5_digest_64 : decode cX5_digest 64 = .ok (.getfield 208, 3) := by decide +kernel
theorem dX5_digest_67 : decode cX5_digest 67 = .ok (.iload_n 3, 1) := by decide +kernel
theorem dX5_digest_68 : decode cX5_digest 68 = .ok (.caload, 1) := by decide +kernel
theorem dX5_digest_69 : decode cX5_digest 69 = .ok (.i2l, 1) := by decide +kernel
theorem dX5_digest_70 : decode cX5_digest 70 = .ok (.invokestatic 212, 3) := by decide +kernel
theorem dX5_digest_73 : decode cX5_digest 73 = .ok (.lstore_n 1, 1) := by decide +kernel
theorem dX5_digest_74 : decode cX5_digest 74 = .ok (.iinc 3 1, 3) := by decide +kernel
theorem dX5_digest_77 : decode cX5_digest 77 = .ok (.goto (-29), 3) := by decide +kernel
theorem dX5_digest_80 : decode cX5_digest 80 = .ok (.iconst 0, 1) := by decide +kernel
theorem dX5_digest_81 : decode cX5_digest 81 = .ok (.istore_n 3, 1) := by decide +kernel
theorem dX5_digest_82 : decode cX5_digest 82 = .ok (.iload_n 3, 1) := by decide +kernel
theorem dX5_digest_83 : decode cX5_digest 83 = .ok (.bipush 11, 2) := by decide +kernel
theorem dX5_digest_85 : decode cX5_digest 85 = .ok (.if_icmp .gt 20, 3) := by decide +kernel
theorem dX5_digest_88 : decode cX5_digest 88 = .ok (.lload_n 1, 1) := by decide +kernel
theorem dX5_digest_89 : decode cX5_digest 89 = .ok (.aload_n 0, 1) := by decide +kernel
theorem dX5_digest_90 : decode cX5_digest 90 = .ok (.iload_n 3, 1) := by decide +kernel
theorem dX5_digest_91 : decode cX5_digest 91 = .ok (.invokevirtual 216, 3) := by decide +kernel
theorem dX5_digest_94 : decode cX5_digest 94 = .ok (.i2l, 1) := by decide +kernel
theorem dX5_digest_95 : decode cX5_digest 95 = .ok (.invokestatic 212, 3) := by decide +kernel
theorem dX5_digest_98 : decode cX5_digest 98 = .ok (.lstore_n 1, 1) := by decide +kernel
theorem dX5_digest_99 : decode cX5_digest 99 = .ok (.iinc 3 1, 3) := by decide +kernel
theorem dX5_digest_102 : decode cX5_digest 102 = .ok (.goto (-20), 3) := by decide +kernel
theorem dX5_digest_105 : decode cX5_digest 105 = .ok (.lload_n 1, 1) := by decide +kernel
theorem dX5_digest_106 : decode cX5_digest 106 = .ok (.lreturn, 1) := by decide +kernel
set_option maxRecDepth 20000 in
theorem ggX5_foldHouse_X5_about : GoodIn wsX5_foldHouse wsX5_about := goodIn_r _ [7, 1, 8, 9, 10, 11, 12, 13, 14, 15, 16, 17, 18, 19, 20, 21, 22, 23, 24, 51, 52, 53, 54, 55, 56, 57, 58, 59, 60, 61, 62, 63, 64, 65, 66, 67, 68, 69, 70, 71] (by decide +kernel) (by decide +kernel)
set_option maxRecDepth 20000 in
theorem gX5_foldHouse_X5_about : GoodIn wsX5_foldHouse (wsV RX5 219 RX5 yX5_about wsX5_about) := goodIn_app (goodIn_of _ (by decide +kernel)) ggX5_foldHouse_X5_about
set_option maxRecDepth 20000 in
theorem ggX5_foldHouse_X5_fold : GoodIn wsX5_foldHouse wsX5_fold := goodIn_r _ [27, 28] (by decide +kernel) (by decide +kernel)
set_option maxRecDepth 20000 in
theorem gX5_foldHouse_X5_fold : GoodIn wsX5_foldHouse (va_wsS RX5 212 yX5_fold wsX5_fold) := goodIn_app (goodIn_of _ (by decide +kernel)) ggX5_foldHouse_X5_fold
set_option maxRecDepth 20000 in
theorem ggX5_foldHouse_X5_fair : GoodIn wsX5_foldHouse wsX5_fair := goodIn_r _ [32, 1, 33, 34, 35, 6, 36, 8, 9, 10, 11, 12, 13, 37, 38, 39, 40, 19, 41, 20, 42, 43, 44, 45, 46, 18, 47, 48, 49, 50, 51, 52, 53, 54, 55, 56, 57, 58, 59, 60, 61, 62, 63, 64, 65, 66, 67, 68, 69, 70, 71] (by decide +kernel) (by decide +kernel)
set_option maxRecDepth 20000 in
theorem gX5_foldHouse_X5_fair : GoodIn wsX5_foldHouse (wsV RX5 222 RX5 yX5_fair wsX5_fair) := goodIn_app (goodIn_of _ (by decide +kernel)) ggX5_foldHouse_X5_fair
theorem dX5_foldHouse_0 : decode cX5_foldHouse 0 = .ok (.lload_n 1, 1) := by decide +kernel
theorem dX5_foldHouse_1 : decode cX5_foldHouse 1 = .ok (.lstore 4, 2) := by decide +kernel
theorem dX5_foldHouse_3 : decode cX5_foldHouse 3 = .ok (.iconst 0, 1) := by decide +kernel
theorem dX5_foldHouse_4 : decode cX5_foldHouse 4 = .ok (.istore 6, 2) := by decide +kernel
theorem dX5_foldHouse_6 : decode cX5_foldHouse 6 = .ok (.iload 6, 2) := by decide +kernel
theorem dX5_foldHouse_8 : decode cX5_foldHouse 8 = .ok (.bipush 6, 2) := by decide +kernel
theorem dX5_foldHouse_10 : decode cX5_foldHouse 10 = .ok (.if_icmp .gt 24, 3) := by decide +kernel
theorem dX5_foldHouse_13 : decode cX5_foldHouse 13 = .ok (.lload 4, 2) := by decide +kernel
theorem dX5_foldHouse_15 : decode cX5_foldHouse 15 = .ok (.aload_n 0, 1) := by decide +kernel
theorem dX5_foldHouse_16 : decode cX5_foldHouse 16 = .ok (.iload_n 3, 1) := by decide +kernel
theorem dX5_foldHouse_17 : decode cX5_foldHouse 17 = .ok (.iload 6, 2) := by decide +kernel
theorem dX5_foldHouse_19 : decode cX5_foldHouse 19 = .ok (.invokevirtual 219, 3) := by decide +kernel
theorem dX5_foldHouse_22 : decode cX5_foldHouse 22 = .ok (.i2l, 1) := by decide +kernel
theorem dX5_foldHouse_23 : decode cX5_foldHouse 23 = .ok (.invokestatic 212, 3) := by decide +kernel
theorem dX5_foldHouse_26 : decode cX5_foldHouse 26 = .ok (.lstore 4, 2) := by decide +kernel
theorem dX5_foldHouse_28 : decode cX5_foldHouse 28 = .ok (.iinc 6 1, 3) := by decide +kernel
theorem dX5_foldHouse_31 : decode cX5_foldHouse 31 = .ok (.goto (-25), 3) := by decide +kernel
theorem dX5_foldHouse_34 : decode cX5_foldHouse 34 = .ok (.iconst 0, 1) := by decide +kernel
theorem dX5_foldHouse_35 : decode cX5_foldHouse 35 = .ok (.istore 6, 2) := by decide +kernel
theorem dX5_foldHouse_37 : decode cX5_foldHouse 37 = .ok (.iload 6, 2) := by decide +kernel
theorem dX5_foldHouse_39 : decode cX5_foldHouse 39 = .ok (.aload_n 0, 1) := by decide +kernel
theorem dX5_foldHouse_40 : decode cX5_foldHouse 40 = .ok (.getfield 19, 3) := by decide +kernel
theorem dX5_foldHouse_43 : decode cX5_foldHouse 43 = .ok (.getfield 86, 3) := by decide +kernel
theorem dX5_foldHouse_46 : decode cX5_foldHouse 46 = .ok (.if_icmp .ge 30, 3) := by decide +kernel
theorem dX5_foldHouse_49 : decode cX5_foldHouse 49 = .ok (.iload 6, 2) := by decide +kernel
theorem dX5_foldHouse_51 : decode cX5_foldHouse 51 = .ok (.iload_n 3, 1) := by decide +kernel
theorem dX5_foldHouse_52 : decode cX5_foldHouse 52 = .ok (.if_icmp .eq 18, 3) := by decide +kernel
theorem dX5_foldHouse_55 : decode cX5_foldHouse 55 = .ok (.lload 4, 2) := by decide +kernel
theorem dX5_foldHouse_57 : decode cX5_foldHouse 57 = .ok (.aload_n 0, 1) := by decide +kernel
theorem dX5_foldHouse_58 : decode cX5_foldHouse 58 = .ok (.iload_n 3, 1) := by decide +kernel
theorem dX5_foldHouse_59 : decode cX5_foldHouse 59 = .ok (.iload 6, 2) := by decide +kernel
theorem dX5_foldHouse_61 : decode cX5_foldHouse 61 = .ok (.invokevirtual 222, 3) := by decide +kernel
theorem dX5_foldHouse_64 : decode cX5_foldHouse 64 = .ok (.i2l, 1) := by decide +kernel
theorem dX5_foldHouse_65 : decode cX5_foldHouse 65 = .ok (.invokestatic 212, 3) := by decide +kernel
theorem dX5_foldHouse_68 : decode cX5_foldHouse 68 = .ok (.lstore 4, 2) := by decide +kernel
theorem dX5_foldHouse_70 : decode cX5_foldHouse 70 = .ok (.iinc 6 1, 3) := by decide +kernel
theorem dX5_foldHouse_73 : decode cX5_foldHouse 73 = .ok (.goto (-36), 3) := by decide +kernel
theorem dX5_foldHouse_76 : decode cX5_foldHouse 76 = .ok (.lload 4, 2) := by decide +kernel
theorem dX5_foldHouse_78 : decode cX5_foldHouse 78 = .ok (.lreturn, 1) := by decide +kernel
set_option maxRecDepth 20000 in
theorem ggX5_foldLedger_X5_rubbed : GoodIn wsX5_foldLedger wsX5_rubbed := goodIn_r _ [5, 6, 7, 8, 9, 10, 11, 12, 13, 14, 15, 16, 17, 18, 19, 20, 21, 22, 23, 24, 25, 26, 27, 28, 29, 30, 31, 32, 33, 34, 35, 36, 37, 55, 56, 57, 58, 59, 60, 61, 62, 63, 64, 65, 66, 67, 68, 69, 70, 71, 72, 73, 74, 75, 76, 77, 78] (by decide +kernel) (by decide +kernel)
set_option maxRecDepth 20000 in
theorem gX5_foldLedger_X5_rubbed : GoodIn wsX5_foldLedger (wsV RX5 225 RX5 yX5_rubbed wsX5_rubbed) := goodIn_app (goodIn_of _ (by decide +kernel)) ggX5_foldLedger_X5_rubbed
set_option maxRecDepth 20000 in
theorem ggX5_foldLedger_X5_fold : GoodIn wsX5_foldLedger wsX5_fold := goodIn_r _ [40, 41] (by decide +kernel) (by decide +kernel)
set_option maxRecDepth 20000 in
theorem gX5_foldLedger_X5_fold : GoodIn wsX5_foldLedger (va_wsS RX5 212 yX5_fold wsX5_fold) := goodIn_app (goodIn_of _ (by decide +kernel)) ggX5_foldLedger_X5_fold
set_option maxRecDepth 20000 in
theorem ggX5_foldLedger_X5_watch : GoodIn wsX5_foldLedger wsX5_watch := goodIn_r _ [45, 6, 7, 8, 9, 10, 11, 12, 13, 14, 46, 47, 48, 18, 49, 50, 51, 52, 53, 54, 16, 17, 19, 20, 21, 22, 23, 24, 25, 26, 27, 28, 29, 55, 56, 57, 58, 59, 60, 61, 62, 63, 64, 65, 66, 67, 68, 69, 70, 71, 72, 73, 74, 75, 76, 77, 78] (by decide +kernel) (by decide +kernel)
set_option maxRecDepth 20000 in
theorem gX5_foldLedger_X5_watch : GoodIn wsX5_foldLedger (wsV RX5 228 RX5 yX5_watch wsX5_watch) := goodIn_app (goodIn_of _ (by decide +kernel)) ggX5_foldLedger_X5_watch
theorem dX5_foldLedger_0 : decode cX5_foldLedger 0 = .ok (.lload_n 1, 1) := by decide +kernel
theorem dX5_foldLedger_1 : decode cX5_foldLedger 1 = .ok (.lstore_n 3, 1) := by decide +kernel
theorem dX5_foldLedger_2 : decode cX5_foldLedger 2 = .ok (.iconst 0, 1) := by decide +kernel
theorem dX5_foldLedger_3 : decode cX5_foldLedger 3 = .ok (.istore 5, 2) := by decide +kernel
theorem dX5_foldLedger_5 : decode cX5_foldLedger 5 = .ok (.iload 5, 2) := by decide +kernel
theorem dX5_foldLedger_7 : decode cX5_foldLedger 7 = .ok (.iconst 2, 1) := by decide +kernel
theorem dX5_foldLedger_8 : decode cX5_foldLedger 8 = .ok (.if_icmp .gt 21, 3) := by decide +kernel
theorem dX5_foldLedger_11 : decode cX5_foldLedger 11 = .ok (.lload_n 3, 1) := by decide +kernel
theorem dX5_foldLedger_12 : decode cX5_foldLedger 12 = .ok (.aload_n 0, 1) := by decide +kernel
theorem dX5_foldLedger_13 : decode cX5_foldLedger 13 = .ok (.iload 5, 2) := by decide +kernel
theorem dX5_foldLedger_15 : decode cX5_foldLedger 15 = .ok (.invokevirtual 225, 3) := by decide +kernel
theorem dX5_foldLedger_18 : decode cX5_foldLedger 18 = .ok (.i2l, 1) := by decide +kernel
theorem dX5_foldLedger_19 : decode cX5_foldLedger 19 = .ok (.invokestatic 212, 3) := by decide +kernel
theorem dX5_foldLedger_22 : decode cX5_foldLedger 22 = .ok (.lstore_n 3, 1) := by decide +kernel
theorem dX5_foldLedger_23 : decode cX5_foldLedger 23 = .ok (.iinc 5 1, 3) := by decide +kernel
theorem dX5_foldLedger_26 : decode cX5_foldLedger 26 = .ok (.goto (-21), 3) := by decide +kernel
theorem dX5_foldLedger_29 : decode cX5_foldLedger 29 = .ok (.lload_n 3, 1) := by decide +kernel
theorem dX5_foldLedger_30 : decode cX5_foldLedger 30 = .ok (.aload_n 0, 1) := by decide +kernel
theorem dX5_foldLedger_31 : decode cX5_foldLedger 31 = .ok (.invokevirtual 228, 3) := by decide +kernel
theorem dX5_foldLedger_34 : decode cX5_foldLedger 34 = .ok (.i2l, 1) := by decide +kernel
theorem dX5_foldLedger_35 : decode cX5_foldLedger 35 = .ok (.invokestatic 212, 3) := by decide +kernel
theorem dX5_foldLedger_38 : decode cX5_foldLedger 38 = .ok (.lreturn, 1) := by decide +kernel
theorem dX5_fold_0 : decode cX5_fold 0 = .ok (.ldc2_w 231, 3) := by decide +kernel
theorem dX5_fold_3 : decode cX5_fold 3 = .ok (.lload_n 0, 1) := by decide +kernel
theorem dX5_fold_4 : decode cX5_fold 4 = .ok (.lmul, 1) := by decide +kernel
theorem dX5_fold_5 : decode cX5_fold 5 = .ok (.lload_n 2, 1) := by decide +kernel
theorem dX5_fold_6 : decode cX5_fold 6 = .ok (.ladd, 1) := by decide +kernel
theorem dX5_fold_7 : decode cX5_fold 7 = .ok (.lreturn, 1) := by decide +kernel
set_option maxRecDepth 20000 in
theorem ggX5_canTrade_X2_has : GoodIn wsX5_canTrade wsX2_has := goodIn_r _ [6, 7, 18, 19, 20, 21, 22, 23, 24, 25, 26, 27, 28] (by decide +kernel) (by decide +kernel)
set_option maxRecDepth 20000 in
theorem gX5_canTrade_X2_has : GoodIn wsX5_canTrade (wsV RX5 89 RX2 yX2_has wsX2_has) := goodIn_app (goodIn_of _ (by decide +kernel)) ggX5_canTrade_X2_has
theorem dX5_canTrade_0 : decode cX5_canTrade 0 = .ok (.aload_n 0, 1) := by decide +kernel
theorem dX5_canTrade_1 : decode cX5_canTrade 1 = .ok (.getfield 19, 3) := by decide +kernel
theorem dX5_canTrade_4 : decode cX5_canTrade 4 = .ok (.iload_n 1, 1) := by decide +kernel
theorem dX5_canTrade_5 : decode cX5_canTrade 5 = .ok (.invokevirtual 89, 3) := by decide +kernel
theorem dX5_canTrade_8 : decode cX5_canTrade 8 = .ok (.ifCond .eq 23, 3) := by decide +kernel
theorem dX5_canTrade_11 : decode cX5_canTrade 11 = .ok (.aload_n 0, 1) := by decide +kernel
theorem dX5_canTrade_12 : decode cX5_canTrade 12 = .ok (.getfield 19, 3) := by decide +kernel
theorem dX5_canTrade_15 : decode cX5_canTrade 15 = .ok (.iload_n 2, 1) := by decide +kernel
theorem dX5_canTrade_16 : decode cX5_canTrade 16 = .ok (.invokevirtual 89, 3) := by decide +kernel
theorem dX5_canTrade_19 : decode cX5_canTrade 19 = .ok (.ifCond .eq 12, 3) := by decide +kernel
theorem dX5_canTrade_22 : decode cX5_canTrade 22 = .ok (.iload_n 1, 1) := by decide +kernel
theorem dX5_canTrade_23 : decode cX5_canTrade 23 = .ok (.iload_n 2, 1) := by decide +kernel
theorem dX5_canTrade_24 : decode cX5_canTrade 24 = .ok (.if_icmp .eq 7, 3) := by decide +kernel
theorem dX5_canTrade_27 : decode cX5_canTrade 27 = .ok (.iconst 1, 1) := by decide +kernel
theorem dX5_canTrade_28 : decode cX5_canTrade 28 = .ok (.goto 4, 3) := by decide +kernel
theorem dX5_canTrade_31 : decode cX5_canTrade 31 = .ok (.iconst 0, 1) := by decide +kernel
theorem dX5_canTrade_32 : decode cX5_canTrade 32 = .ok (.ireturn, 1) := by decide +kernel
theorem dX5_isPlanQuestion_0 : decode cX5_isPlanQuestion 0 = .ok (.iload_n 0, 1) := by decide +kernel
theorem dX5_isPlanQuestion_1 : decode cX5_isPlanQuestion 1 = .ok (.ifCond .eq 20, 3) := by decide +kernel
theorem dX5_isPlanQuestion_4 : decode cX5_isPlanQuestion 4 = .ok (.iload_n 0, 1) := by decide +kernel
theorem dX5_isPlanQuestion_5 : decode cX5_isPlanQuestion 5 = .ok (.iconst 1, 1) := by decide +kernel
theorem dX5_isPlanQuestion_6 : decode cX5_isPlanQuestion 6 = .ok (.if_icmp .eq 15, 3) := by decide +kernel
theorem dX5_isPlanQuestion_9 : decode cX5_isPlanQuestion 9 = .ok (.iload_n 0, 1) := by decide +kernel
theorem dX5_isPlanQuestion_10 : decode cX5_isPlanQuestion 10 = .ok (.bipush 10, 2) := by decide +kernel
theorem dX5_isPlanQuestion_12 : decode cX5_isPlanQuestion 12 = .ok (.if_icmp .lt 13, 3) := by decide +kernel
theorem dX5_isPlanQuestion_15 : decode cX5_isPlanQuestion 15 = .ok (.iload_n 0, 1) := by decide +kernel
theorem dX5_isPlanQuestion_16 : decode cX5_isPlanQuestion 16 = .ok (.bipush 13, 2) := by decide +kernel
theorem dX5_isPlanQuestion_18 : decode cX5_isPlanQuestion 18 = .ok (.if_icmp .ge 7, 3) := by decide +kernel
theorem dX5_isPlanQuestion_21 : decode cX5_isPlanQuestion 21 = .ok (.iconst 1, 1) := by decide +kernel
theorem dX5_isPlanQuestion_22 : decode cX5_isPlanQuestion 22 = .ok (.goto 4, 3) := by decide +kernel
theorem dX5_isPlanQuestion_25 : decode cX5_isPlanQuestion 25 = .ok (.iconst 0, 1) := by decide +kernel
theorem dX5_isPlanQuestion_26 : decode cX5_isPlanQuestion 26 = .ok (.ireturn, 1) := by decide +kernel
theorem dX5_isOfKind_0 : decode cX5_isOfKind 0 = .ok (.iload_n 1, 1) := by decide +kernel
theorem dX5_isOfKind_1 : decode cX5_isOfKind 1 = .ok (.ifCond .eq 18, 3) := by decide +kernel
theorem dX5_isOfKind_4 : decode cX5_isOfKind 4 = .ok (.iload_n 0, 1) := by decide +kernel
theorem dX5_isOfKind_5 : decode cX5_isOfKind 5 = .ok (.iload_n 1, 1) := by decide +kernel
theorem dX5_isOfKind_6 : decode cX5_isOfKind 6 = .ok (.if_icmp .eq 13, 3) := by decide +kernel
theorem dX5_isOfKind_9 : decode cX5_isOfKind 9 = .ok (.iload_n 0, 1) := by decide +kernel
theorem dX5_isOfKind_10 : decode cX5_isOfKind 10 = .ok (.iconst 4, 1) := by decide +kernel
theorem dX5_isOfKind_11 : decode cX5_isOfKind 11 = .ok (.if_icmp .ne 12, 3) := by decide +kernel
theorem dX5_isOfKind_14 : decode cX5_isOfKind 14 = .ok (.iload_n 1, 1) := by decide +kernel
theorem dX5_isOfKind_15 : decode cX5_isOfKind 15 = .ok (.iconst 1, 1) := by decide +kernel
theorem dX5_isOfKind_16 : decode cX5_isOfKind 16 = .ok (.if_icmp .ne 7, 3) := by decide +kernel
theorem dX5_isOfKind_19 : decode cX5_isOfKind 19 = .ok (.iconst 1, 1) := by decide +kernel
theorem dX5_isOfKind_20 : decode cX5_isOfKind 20 = .ok (.goto 4, 3) := by decide +kernel
theorem dX5_isOfKind_23 : decode cX5_isOfKind 23 = .ok (.iconst 0, 1) := by decide +kernel
theorem dX5_isOfKind_24 : decode cX5_isOfKind 24 = .ok (.ireturn, 1) := by decide +kernel
theorem dX5_copyRow_0 : decode cX5_copyRow 0 = .ok (.aload_n 0, 1) := by decide +kernel
theorem dX5_copyRow_1 : decode cX5_copyRow 1 = .ok (.iconst 0, 1) := by decide +kernel
theorem dX5_copyRow_2 : decode cX5_copyRow 2 = .ok (.aload_n 1, 1) := by decide +kernel
theorem dX5_copyRow_3 : decode cX5_copyRow 3 = .ok (.iconst 0, 1) := by decide +kernel
theorem dX5_copyRow_4 : decode cX5_copyRow 4 = .ok (.iconst 4, 1) := by decide +kernel
end
section
theorem dX5_copyRow_5 : decode cX5_copyRow 5 = .ok (.invokestatic 233, 3) := by decide +kernel
theorem dX5_copyRow_8 : decode cX5_copyRow 8 = .ok (.return_, 1) := by decide +kernel
theorem dX6_init_0 : decode cX6_init 0 = .ok (.aload_n 0, 1) := by decide +kernel
theorem dX6_init_1 : decode cX6_init 1 = .ok (.invokespecial 1, 3) := by decide +kernel
theorem dX6_init_4 : decode cX6_init 4 = .ok (.aload_n 0, 1) := by decide +kernel
theorem dX6_init_5 : decode cX6_init 5 = .ok (.iconst 4, 1) := by decide +kernel
theorem dX6_init_6 : decode cX6_init 6 = .ok (.newarray .int, 2) := by decide +kernel
theorem dX6_init_8 : decode cX6_init 8 = .ok (.putfield 7, 3) := by decide +kernel
theorem dX6_init_11 : decode cX6_init 11 = .ok (.aload_n 0, 1) := by decide +kernel
theorem dX6_init_12 : decode cX6_init 12 = .ok (.iconst 4, 1) := by decide +kernel
theorem dX6_init_13 : decode cX6_init 13 = .ok (.newarray .int, 2) := by decide +kernel
theorem dX6_init_15 : decode cX6_init 15 = .ok (.putfield 13, 3) := by decide +kernel
theorem dX6_init_18 : decode cX6_init 18 = .ok (.aload_n 0, 1) := by decide +kernel
theorem dX6_init_19 : decode cX6_init 19 = .ok (.iconst 4, 1) := by decide +kernel
theorem dX6_init_20 : decode cX6_init 20 = .ok (.newarray .int, 2) := by decide +kernel
theorem dX6_init_22 : decode cX6_init 22 = .ok (.putfield 16, 3) := by decide +kernel
theorem dX6_init_25 : decode cX6_init 25 = .ok (.aload_n 0, 1) := by decide +kernel
theorem dX6_init_26 : decode cX6_init 26 = .ok (.iconst 4, 1) := by decide +kernel
theorem dX6_init_27 : decode cX6_init 27 = .ok (.newarray .int, 2) := by decide +kernel
theorem dX6_init_29 : decode cX6_init 29 = .ok (.putfield 19, 3) := by decide +kernel
theorem dX6_init_32 : decode cX6_init 32 = .ok (.aload_n 0, 1) := by decide +kernel
theorem dX6_init_33 : decode cX6_init 33 = .ok (.iconst 4, 1) := by decide +kernel
theorem dX6_init_34 : decode cX6_init 34 = .ok (.newarray .int, 2) := by decide +kernel
theorem dX6_init_36 : decode cX6_init 36 = .ok (.putfield 22, 3) := by decide +kernel
theorem dX6_init_39 : decode cX6_init 39 = .ok (.aload_n 0, 1) := by decide +kernel
theorem dX6_init_40 : decode cX6_init 40 = .ok (.iconst 4, 1) := by decide +kernel
theorem dX6_init_41 : decode cX6_init 41 = .ok (.newarray .int, 2) := by decide +kernel
theorem dX6_init_43 : decode cX6_init 43 = .ok (.putfield 25, 3) := by decide +kernel
theorem dX6_init_46 : decode cX6_init 46 = .ok (.aload_n 0, 1) := by decide +kernel
theorem dX6_init_47 : decode cX6_init 47 = .ok (.iconst 4, 1) := by decide +kernel
theorem dX6_init_48 : decode cX6_init 48 = .ok (.newarray .int, 2) := by decide +kernel
theorem dX6_init_50 : decode cX6_init 50 = .ok (.putfield 28, 3) := by decide +kernel
theorem dX6_init_53 : decode cX6_init 53 = .ok (.aload_n 0, 1) := by decide +kernel
theorem dX6_init_54 : decode cX6_init 54 = .ok (.iconst 4, 1) := by decide +kernel
theorem dX6_init_55 : decode cX6_init 55 = .ok (.newarray .int, 2) := by decide +kernel
theorem dX6_init_57 : decode cX6_init 57 = .ok (.putfield 31, 3) := by decide +kernel
theorem dX6_init_60 : decode cX6_init 60 = .ok (.aload_n 0, 1) := by decide +kernel
theorem dX6_init_61 : decode cX6_init 61 = .ok (.bipush 18, 2) := by decide +kernel
theorem dX6_init_63 : decode cX6_init 63 = .ok (.newarray .byte, 2) := by decide +kernel
theorem dX6_init_65 : decode cX6_init 65 = .ok (.putfield 34, 3) := by decide +kernel
theorem dX6_init_68 : decode cX6_init 68 = .ok (.aload_n 0, 1) := by decide +kernel
theorem dX6_init_69 : decode cX6_init 69 = .ok (.iconst 4, 1) := by decide +kernel
theorem dX6_init_70 : decode cX6_init 70 = .ok (.newarray .int, 2) := by decide +kernel
theorem dX6_init_72 : decode cX6_init 72 = .ok (.putfield 38, 3) := by decide +kernel
theorem dX6_init_75 : decode cX6_init 75 = .ok (.aload_n 0, 1) := by decide +kernel
theorem dX6_init_76 : decode cX6_init 76 = .ok (.bipush 24, 2) := by decide +kernel
theorem dX6_init_78 : decode cX6_init 78 = .ok (.newarray .int, 2) := by decide +kernel
theorem dX6_init_80 : decode cX6_init 80 = .ok (.putfield 41, 3) := by decide +kernel
theorem dX6_init_83 : decode cX6_init 83 = .ok (.return_, 1) := by decide +kernel
theorem dX6_within_0 : decode cX6_within 0 = .ok (.iload_n 0, 1) := by decide +kernel
theorem dX6_within_1 : decode cX6_within 1 = .ok (.iload_n 1, 1) := by decide +kernel
theorem dX6_within_2 : decode cX6_within 2 = .ok (.if_icmp .lt 12, 3) := by decide +kernel
theorem dX6_within_5 : decode cX6_within 5 = .ok (.iload_n 0, 1) := by decide +kernel
theorem dX6_within_6 : decode cX6_within 6 = .ok (.iload_n 2, 1) := by decide +kernel
theorem dX6_within_7 : decode cX6_within 7 = .ok (.if_icmp .gt 7, 3) := by decide +kernel
theorem dX6_within_10 : decode cX6_within 10 = .ok (.iconst 1, 1) := by decide +kernel
theorem dX6_within_11 : decode cX6_within 11 = .ok (.goto 4, 3) := by decide +kernel
theorem dX6_within_14 : decode cX6_within 14 = .ok (.iconst 0, 1) := by decide +kernel
theorem dX6_within_15 : decode cX6_within 15 = .ok (.ireturn, 1) := by decide +kernel
theorem dX6_isIn_0 : decode cX6_isIn 0 = .ok (.iload_n 0, 1) := by decide +kernel
theorem dX6_isIn_1 : decode cX6_isIn 1 = .ok (.iload_n 1, 1) := by decide +kernel
theorem dX6_isIn_2 : decode cX6_isIn 2 = .ok (.ishr, 1) := by decide +kernel
theorem dX6_isIn_3 : decode cX6_isIn 3 = .ok (.iconst 1, 1) := by decide +kernel
theorem dX6_isIn_4 : decode cX6_isIn 4 = .ok (.iand, 1) := by decide +kernel
theorem dX6_isIn_5 : decode cX6_isIn 5 = .ok (.iconst 1, 1) := by decide +kernel
theorem dX6_isIn_6 : decode cX6_isIn 6 = .ok (.if_icmp .ne 7, 3) := by decide +kernel
theorem dX6_isIn_9 : decode cX6_isIn 9 = .ok (.iconst 1, 1) := by decide +kernel
theorem dX6_isIn_10 : decode cX6_isIn 10 = .ok (.goto 4, 3) := by decide +kernel
theorem dX6_isIn_13 : decode cX6_isIn 13 = .ok (.iconst 0, 1) := by decide +kernel
theorem dX6_isIn_14 : decode cX6_isIn 14 = .ok (.ireturn, 1) := by decide +kernel
set_option maxRecDepth 20000 in
theorem ggX6_letter_X6_within : GoodIn wsX6_letter wsX6_within := goodIn_r _ [6] (by decide +kernel) (by decide +kernel)
set_option maxRecDepth 20000 in
theorem gX6_letter_X6_within : GoodIn wsX6_letter (va_wsS RX6 44 yX6_within wsX6_within) := goodIn_app (goodIn_of _ (by decide +kernel)) ggX6_letter_X6_within
theorem dX6_letter_0 : decode cX6_letter 0 = .ok (.iload_n 1, 1) := by decide +kernel
theorem dX6_letter_1 : decode cX6_letter 1 = .ok (.bipush 32, 2) := by decide +kernel
theorem dX6_letter_3 : decode cX6_letter 3 = .ok (.bipush 126, 2) := by decide +kernel
theorem dX6_letter_5 : decode cX6_letter 5 = .ok (.invokestatic 44, 3) := by decide +kernel
theorem dX6_letter_8 : decode cX6_letter 8 = .ok (.ifCond .ne 6, 3) := by decide +kernel
theorem dX6_letter_11 : decode cX6_letter 11 = .ok (.bipush (-102), 2) := by decide +kernel
theorem dX6_letter_13 : decode cX6_letter 13 = .ok (.ireturn, 1) := by decide +kernel
theorem dX6_letter_14 : decode cX6_letter 14 = .ok (.aload_n 0, 1) := by decide +kernel
theorem dX6_letter_15 : decode cX6_letter 15 = .ok (.getfield 48, 3) := by decide +kernel
theorem dX6_letter_18 : decode cX6_letter 18 = .ok (.bipush 18, 2) := by decide +kernel
theorem dX6_letter_20 : decode cX6_letter 20 = .ok (.if_icmp .ne 6, 3) := by decide +kernel
theorem dX6_letter_23 : decode cX6_letter 23 = .ok (.bipush (-104), 2) := by decide +kernel
theorem dX6_letter_25 : decode cX6_letter 25 = .ok (.ireturn, 1) := by decide +kernel
theorem dX6_letter_26 : decode cX6_letter 26 = .ok (.aload_n 0, 1) := by decide +kernel
theorem dX6_letter_27 : decode cX6_letter 27 = .ok (.getfield 34, 3) := by decide +kernel
theorem dX6_letter_30 : decode cX6_letter 30 = .ok (.aload_n 0, 1) := by decide +kernel
theorem dX6_letter_31 : decode cX6_letter 31 = .ok (.getfield 48, 3) := by decide +kernel
theorem dX6_letter_34 : decode cX6_letter 34 = .ok (.iload_n 1, 1) := by decide +kernel
theorem dX6_letter_35 : decode cX6_letter 35 = .ok (.i2b, 1) := by decide +kernel
theorem dX6_letter_36 : decode cX6_letter 36 = .ok (.bastore, 1) := by decide +kernel
theorem dX6_letter_37 : decode cX6_letter 37 = .ok (.aload_n 0, 1) := by decide +kernel
theorem dX6_letter_38 : decode cX6_letter 38 = .ok (.dup, 1) := by decide +kernel
theorem dX6_letter_39 : decode cX6_letter 39 = .ok (.getfield 48, 3) := by decide +kernel
theorem dX6_letter_42 : decode cX6_letter 42 = .ok (.iconst 1, 1) := by decide +kernel
theorem dX6_letter_43 : decode cX6_letter 43 = .ok (.iadd, 1) := by decide +kernel
theorem dX6_letter_44 : decode cX6_letter 44 = .ok (.putfield 48, 3) := by decide +kernel
theorem dX6_letter_47 : decode cX6_letter 47 = .ok (.aload_n 0, 1) := by decide +kernel
theorem dX6_letter_48 : decode cX6_letter 48 = .ok (.getfield 48, 3) := by decide +kernel
theorem dX6_letter_51 : decode cX6_letter 51 = .ok (.ireturn, 1) := by decide +kernel
theorem dX6_blank_0 : decode cX6_blank 0 = .ok (.aload_n 0, 1) := by decide +kernel
theorem dX6_blank_1 : decode cX6_blank 1 = .ok (.getfield 48, 3) := by decide +kernel
theorem dX6_blank_4 : decode cX6_blank 4 = .ok (.istore_n 1, 1) := by decide +kernel
theorem dX6_blank_5 : decode cX6_blank 5 = .ok (.aload_n 0, 1) := by decide +kernel
theorem dX6_blank_6 : decode cX6_blank 6 = .ok (.iconst 0, 1) := by decide +kernel
theorem dX6_blank_7 : decode cX6_blank 7 = .ok (.putfield 48, 3) := by decide +kernel
theorem dX6_blank_10 : decode cX6_blank 10 = .ok (.iload_n 1, 1) := by decide +kernel
theorem dX6_blank_11 : decode cX6_blank 11 = .ok (.ireturn, 1) := by decide +kernel
theorem dX6_kindBy_0 : decode cX6_kindBy 0 = .ok (.iload_n 0, 1) := by decide +kernel
theorem dX6_kindBy_1 : decode cX6_kindBy 1 = .ok (.lookupswitch 61 #[(104, 51), (109, 59), (111, 55), (114, 53), (119, 57)], 51) := by decide +kernel
theorem dX6_kindBy_52 : decode cX6_kindBy 52 = .ok (.iconst 0, 1) := by decide +kernel
theorem dX6_kindBy_53 : decode cX6_kindBy 53 = .ok (.ireturn, 1) := by decide +kernel
theorem dX6_kindBy_54 : decode cX6_kindBy 54 = .ok (.iconst 1, 1) := by decide +kernel
theorem dX6_kindBy_55 : decode cX6_kindBy 55 = .ok (.ireturn, 1) := by decide +kernel
theorem dX6_kindBy_56 : decode cX6_kindBy 56 = .ok (.iconst 2, 1) := by decide +kernel
theorem dX6_kindBy_57 : decode cX6_kindBy 57 = .ok (.ireturn, 1) := by decide +kernel
theorem dX6_kindBy_58 : decode cX6_kindBy 58 = .ok (.iconst 3, 1) := by decide +kernel
theorem dX6_kindBy_59 : decode cX6_kindBy 59 = .ok (.ireturn, 1) := by decide +kernel
theorem dX6_kindBy_60 : decode cX6_kindBy 60 = .ok (.iconst 4, 1) := by decide +kernel
theorem dX6_kindBy_61 : decode cX6_kindBy 61 = .ok (.ireturn, 1) := by decide +kernel
theorem dX6_kindBy_62 : decode cX6_kindBy 62 = .ok (.iconst (-1), 1) := by decide +kernel
theorem dX6_kindBy_63 : decode cX6_kindBy 63 = .ok (.ireturn, 1) := by decide +kernel
set_option maxRecDepth 20000 in
theorem ggX6_isFigure_X6_within : GoodIn wsX6_isFigure wsX6_within := goodIn_r _ [6] (by decide +kernel) (by decide +kernel)
set_option maxRecDepth 20000 in
theorem gX6_isFigure_X6_within : GoodIn wsX6_isFigure (va_wsS RX6 44 yX6_within wsX6_within) := goodIn_app (goodIn_of _ (by decide +kernel)) ggX6_isFigure_X6_within
theorem dX6_isFigure_0 : decode cX6_isFigure 0 = .ok (.iload_n 1, 1) := by decide +kernel
theorem dX6_isFigure_1 : decode cX6_isFigure 1 = .ok (.aload_n 0, 1) := by decide +kernel
theorem dX6_isFigure_2 : decode cX6_isFigure 2 = .ok (.getfield 48, 3) := by decide +kernel
theorem dX6_isFigure_5 : decode cX6_isFigure 5 = .ok (.if_icmp .ge 24, 3) := by decide +kernel
theorem dX6_isFigure_8 : decode cX6_isFigure 8 = .ok (.aload_n 0, 1) := by decide +kernel
theorem dX6_isFigure_9 : decode cX6_isFigure 9 = .ok (.getfield 34, 3) := by decide +kernel
theorem dX6_isFigure_12 : decode cX6_isFigure 12 = .ok (.iload_n 1, 1) := by decide +kernel
theorem dX6_isFigure_13 : decode cX6_isFigure 13 = .ok (.baload, 1) := by decide +kernel
theorem dX6_isFigure_14 : decode cX6_isFigure 14 = .ok (.bipush 48, 2) := by decide +kernel
theorem dX6_isFigure_16 : decode cX6_isFigure 16 = .ok (.isub, 1) := by decide +kernel
theorem dX6_isFigure_17 : decode cX6_isFigure 17 = .ok (.iload_n 2, 1) := by decide +kernel
theorem dX6_isFigure_18 : decode cX6_isFigure 18 = .ok (.iload_n 3, 1) := by decide +kernel
theorem dX6_isFigure_19 : decode cX6_isFigure 19 = .ok (.invokestatic 44, 3) := by decide +kernel
theorem dX6_isFigure_22 : decode cX6_isFigure 22 = .ok (.ifCond .eq 7, 3) := by decide +kernel
theorem dX6_isFigure_25 : decode cX6_isFigure 25 = .ok (.iconst 1, 1) := by decide +kernel
theorem dX6_isFigure_26 : decode cX6_isFigure 26 = .ok (.goto 4, 3) := by decide +kernel
theorem dX6_isFigure_29 : decode cX6_isFigure 29 = .ok (.iconst 0, 1) := by decide +kernel
theorem dX6_isFigure_30 : decode cX6_isFigure 30 = .ok (.ireturn, 1) := by decide +kernel
set_option maxRecDepth 20000 in
theorem ggX6_readOne_X6_kindBy : GoodIn wsX6_readOne wsX6_kindBy := goodIn_r _ [6] (by decide +kernel) (by decide +kernel)
set_option maxRecDepth 20000 in
theorem gX6_readOne_X6_kindBy : GoodIn wsX6_readOne (va_wsS RX6 52 yX6_kindBy wsX6_kindBy) := goodIn_app (goodIn_of _ (by decide +kernel)) ggX6_readOne_X6_kindBy
set_option maxRecDepth 20000 in
theorem ggX6_readOne_X6_isFigure : GoodIn wsX6_readOne wsX6_isFigure := goodIn_r _ [10, 1, 2, 11, 12, 5, 13, 14, 15, 16, 17, 18, 19, 20, 21, 22, 23, 24, 25, 26, 27, 28, 29, 30, 31, 32, 33, 34, 35, 36, 37, 38, 39, 40, 41, 42, 43] (by decide +kernel) (by decide +kernel)
set_option maxRecDepth 20000 in
theorem gX6_readOne_X6_isFigure : GoodIn wsX6_readOne (wsV RX6 56 RX6 yX6_isFigure wsX6_isFigure) := goodIn_app (goodIn_of _ (by decide +kernel)) ggX6_readOne_X6_isFigure
theorem dX6_readOne_0 : decode cX6_readOne 0 = .ok (.iload_n 1, 1) := by decide +kernel
theorem dX6_readOne_1 : decode cX6_readOne 1 = .ok (.aload_n 0, 1) := by decide +kernel
theorem dX6_readOne_2 : decode cX6_readOne 2 = .ok (.getfield 48, 3) := by decide +kernel
theorem dX6_readOne_5 : decode cX6_readOne 5 = .ok (.if_icmp .eq 16, 3) := by decide +kernel
theorem dX6_readOne_8 : decode cX6_readOne 8 = .ok (.aload_n 0, 1) := by decide +kernel
theorem dX6_readOne_9 : decode cX6_readOne 9 = .ok (.getfield 34, 3) := by decide +kernel
theorem dX6_readOne_12 : decode cX6_readOne 12 = .ok (.iload_n 1, 1) := by decide +kernel
theorem dX6_readOne_13 : decode cX6_readOne 13 = .ok (.baload, 1) := by decide +kernel
theorem dX6_readOne_14 : decode cX6_readOne 14 = .ok (.invokestatic 52, 3) := by decide +kernel
theorem dX6_readOne_17 : decode cX6_readOne 17 = .ok (.iconst (-1), 1) := by decide +kernel
theorem dX6_readOne_18 : decode cX6_readOne 18 = .ok (.if_icmp .ne 5, 3) := by decide +kernel
theorem dX6_readOne_21 : decode cX6_readOne 21 = .ok (.iload_n 1, 1) := by decide +kernel
theorem dX6_readOne_22 : decode cX6_readOne 22 = .ok (.ireturn, 1) := by decide +kernel
theorem dX6_readOne_23 : decode cX6_readOne 23 = .ok (.aload_n 0, 1) := by decide +kernel
theorem dX6_readOne_24 : decode cX6_readOne 24 = .ok (.iload_n 1, 1) := by decide +kernel
theorem dX6_readOne_25 : decode cX6_readOne 25 = .ok (.iconst 1, 1) := by decide +kernel
theorem dX6_readOne_26 : decode cX6_readOne 26 = .ok (.iadd, 1) := by decide +kernel
theorem dX6_readOne_27 : decode cX6_readOne 27 = .ok (.iconst 0, 1) := by decide +kernel
theorem dX6_readOne_28 : decode cX6_readOne 28 = .ok (.bipush 9, 2) := by decide +kernel
theorem dX6_readOne_30 : decode cX6_readOne 30 = .ok (.invokevirtual 56, 3) := by decide +kernel
theorem dX6_readOne_33 : decode cX6_readOne 33 = .ok (.ifCond .ne 9, 3) := by decide +kernel
theorem dX6_readOne_36 : decode cX6_readOne 36 = .ok (.iload_n 1, 1) := by decide +kernel
theorem dX6_readOne_37 : decode cX6_readOne 37 = .ok (.iconst 1, 1) := by decide +kernel
theorem dX6_readOne_38 : decode cX6_readOne 38 = .ok (.iadd, 1) := by decide +kernel
theorem dX6_readOne_39 : decode cX6_readOne 39 = .ok (.goto 25, 3) := by decide +kernel
theorem dX6_readOne_42 : decode cX6_readOne 42 = .ok (.aload_n 0, 1) := by decide +kernel
theorem dX6_readOne_43 : decode cX6_readOne 43 = .ok (.iload_n 1, 1) := by decide +kernel
theorem dX6_readOne_44 : decode cX6_readOne 44 = .ok (.iconst 2, 1) := by decide +kernel
theorem dX6_readOne_45 : decode cX6_readOne 45 = .ok (.iadd, 1) := by decide +kernel
theorem dX6_readOne_46 : decode cX6_readOne 46 = .ok (.iconst 1, 1) := by decide +kernel
theorem dX6_readOne_47 : decode cX6_readOne 47 = .ok (.bipush 9, 2) := by decide +kernel
theorem dX6_readOne_49 : decode cX6_readOne 49 = .ok (.invokevirtual 56, 3) := by decide +kernel
theorem dX6_readOne_52 : decode cX6_readOne 52 = .ok (.ifCond .ne 9, 3) := by decide +kernel
theorem dX6_readOne_55 : decode cX6_readOne 55 = .ok (.iload_n 1, 1) := by decide +kernel
theorem dX6_readOne_56 : decode cX6_readOne 56 = .ok (.iconst 2, 1) := by decide +kernel
theorem dX6_readOne_57 : decode cX6_readOne 57 = .ok (.iadd, 1) := by decide +kernel
theorem dX6_readOne_58 : decode cX6_readOne 58 = .ok (.goto 6, 3) := by decide +kernel
theorem dX6_readOne_61 : decode cX6_readOne 61 = .ok (.iload_n 1, 1) := by decide +kernel
theorem dX6_readOne_62 : decode cX6_readOne 62 = .ok (.iconst 3, 1) := by decide +kernel
theorem dX6_readOne_63 : decode cX6_readOne 63 = .ok (.iadd, 1) := by decide +kernel
theorem dX6_readOne_64 : decode cX6_readOne 64 = .ok (.ireturn, 1) := by decide +kernel
set_option maxRecDepth 20000 in
theorem ggX6_read_X6_readOne : GoodIn wsX6_read wsX6_readOne := goodIn_r _ [9, 3, 4, 10, 11, 8, 12, 13, 14, 15, 16, 17, 18, 19, 20, 21, 22, 23, 24, 25, 26, 27, 28, 29, 30, 31, 32, 33, 34, 35, 36, 37, 38, 39, 40, 41, 42, 43, 44, 45, 46, 47, 48, 49] (by decide +kernel) (by decide +kernel)
set_option maxRecDepth 20000 in
theorem gX6_read_X6_readOne : GoodIn wsX6_read (wsV RX6 66 RX6 yX6_readOne wsX6_readOne) := goodIn_app (goodIn_of _ (by decide +kernel)) ggX6_read_X6_readOne
set_option maxRecDepth 20000 in
theorem ggX6_read_X6_isFigure : GoodIn wsX6_read wsX6_isFigure := goodIn_r _ [16, 3, 4, 17, 18, 8, 19, 20, 21, 22, 23, 24, 25, 26, 27, 28, 29, 30, 31, 32, 33, 34, 35, 36, 37, 38, 39, 40, 41, 42, 43, 44, 45, 46, 47, 48, 49] (by decide +kernel) (by decide +kernel)
set_option maxRecDepth 20000 in
theorem gX6_read_X6_isFigure : GoodIn wsX6_read (wsV RX6 56 RX6 yX6_isFigure wsX6_isFigure) := goodIn_app (goodIn_of _ (by decide +kernel)) ggX6_read_X6_isFigure
theorem dX6_read_0 : decode cX6_read 0 = .ok (.aload_n 0, 1) := by decide +kernel
theorem dX6_read_1 : decode cX6_read 1 = .ok (.iconst 0, 1) := by decide +kernel
theorem dX6_read_2 : decode cX6_read 2 = .ok (.putfield 59, 3) := by decide +kernel
theorem dX6_read_5 : decode cX6_read 5 = .ok (.aload_n 0, 1) := by decide +kernel
theorem dX6_read_6 : decode cX6_read 6 = .ok (.iconst 0, 1) := by decide +kernel
theorem dX6_read_7 : decode cX6_read 7 = .ok (.putfield 63, 3) := by decide +kernel
theorem dX6_read_10 : decode cX6_read 10 = .ok (.iconst 0, 1) := by decide +kernel
theorem dX6_read_11 : decode cX6_read 11 = .ok (.istore_n 1, 1) := by decide +kernel
theorem dX6_read_12 : decode cX6_read 12 = .ok (.aload_n 0, 1) := by decide +kernel
theorem dX6_read_13 : decode cX6_read 13 = .ok (.getfield 63, 3) := by decide +kernel
theorem dX6_read_16 : decode cX6_read 16 = .ok (.iconst 4, 1) := by decide +kernel
theorem dX6_read_17 : decode cX6_read 17 = .ok (.if_icmp .ge 145, 3) := by decide +kernel
theorem dX6_read_20 : decode cX6_read 20 = .ok (.aload_n 0, 1) := by decide +kernel
theorem dX6_read_21 : decode cX6_read 21 = .ok (.iload_n 1, 1) := by decide +kernel
theorem dX6_read_22 : decode cX6_read 22 = .ok (.invokevirtual 66, 3) := by decide +kernel
theorem dX6_read_25 : decode cX6_read 25 = .ok (.istore_n 2, 1) := by decide +kernel
theorem dX6_read_26 : decode cX6_read 26 = .ok (.iload_n 2, 1) := by decide +kernel
theorem dX6_read_27 : decode cX6_read 27 = .ok (.iload_n 1, 1) := by decide +kernel
theorem dX6_read_28 : decode cX6_read 28 = .ok (.iconst 3, 1) := by decide +kernel
theorem dX6_read_29 : decode cX6_read 29 = .ok (.iadd, 1) := by decide +kernel
theorem dX6_read_30 : decode cX6_read 30 = .ok (.if_icmp .eq 5, 3) := by decide +kernel
theorem dX6_read_33 : decode cX6_read 33 = .ok (.iload_n 2, 1) := by decide +kernel
theorem dX6_read_34 : decode cX6_read 34 = .ok (.ireturn, 1) := by decide +kernel
theorem dX6_read_35 : decode cX6_read 35 = .ok (.aload_n 0, 1) := by decide +kernel
theorem dX6_read_36 : decode cX6_read 36 = .ok (.dup, 1) := by decide +kernel
theorem dX6_read_37 : decode cX6_read 37 = .ok (.getfield 63, 3) := by decide +kernel
theorem dX6_read_40 : decode cX6_read 40 = .ok (.iconst 1, 1) := by decide +kernel
theorem dX6_read_41 : decode cX6_read 41 = .ok (.iadd, 1) := by decide +kernel
theorem dX6_read_42 : decode cX6_read 42 = .ok (.putfield 63, 3) := by decide +kernel
theorem dX6_read_45 : decode cX6_read 45 = .ok (.iload_n 2, 1) := by decide +kernel
theorem dX6_read_46 : decode cX6_read 46 = .ok (.istore_n 1, 1) := by decide +kernel
theorem dX6_read_47 : decode cX6_read 47 = .ok (.iload_n 1, 1) := by decide +kernel
theorem dX6_read_48 : decode cX6_read 48 = .ok (.aload_n 0, 1) := by decide +kernel
theorem dX6_read_49 : decode cX6_read 49 = .ok (.getfield 48, 3) := by decide +kernel
theorem dX6_read_52 : decode cX6_read 52 = .ok (.if_icmp .ge 75, 3) := by decide +kernel
theorem dX6_read_55 : decode cX6_read 55 = .ok (.aload_n 0, 1) := by decide +kernel
theorem dX6_read_56 : decode cX6_read 56 = .ok (.getfield 34, 3) := by decide +kernel
theorem dX6_read_59 : decode cX6_read 59 = .ok (.iload_n 1, 1) := by decide +kernel
theorem dX6_read_60 : decode cX6_read 60 = .ok (.baload, 1) := by decide +kernel
theorem dX6_read_61 : decode cX6_read 61 = .ok (.bipush 59, 2) := by decide +kernel
theorem dX6_read_63 : decode cX6_read 63 = .ok (.if_icmp .ne 64, 3) := by decide +kernel
theorem dX6_read_66 : decode cX6_read 66 = .ok (.aload_n 0, 1) := by decide +kernel
theorem dX6_read_67 : decode cX6_read 67 = .ok (.getfield 63, 3) := by decide +kernel
theorem dX6_read_70 : decode cX6_read 70 = .ok (.iconst 1, 1) := by decide +kernel
theorem dX6_read_71 : decode cX6_read 71 = .ok (.if_icmp .le 56, 3) := by decide +kernel
theorem dX6_read_74 : decode cX6_read 74 = .ok (.aload_n 0, 1) := by decide +kernel
theorem dX6_read_75 : decode cX6_read 75 = .ok (.aload_n 0, 1) := by decide +kernel
theorem dX6_read_76 : decode cX6_read 76 = .ok (.iload_n 1, 1) := by decide +kernel
theorem dX6_read_77 : decode cX6_read 77 = .ok (.iconst 1, 1) := by decide +kernel
theorem dX6_read_78 : decode cX6_read 78 = .ok (.iadd, 1) := by decide +kernel
theorem dX6_read_79 : decode cX6_read 79 = .ok (.iconst 0, 1) := by decide +kernel
theorem dX6_read_80 : decode cX6_read 80 = .ok (.iconst 3, 1) := by decide +kernel
theorem dX6_read_81 : decode cX6_read 81 = .ok (.invokevirtual 56, 3) := by decide +kernel
theorem dX6_read_84 : decode cX6_read 84 = .ok (.ifCond .eq 17, 3) := by decide +kernel
theorem dX6_read_87 : decode cX6_read 87 = .ok (.iload_n 1, 1) := by decide +kernel
theorem dX6_read_88 : decode cX6_read 88 = .ok (.iconst 2, 1) := by decide +kernel
theorem dX6_read_89 : decode cX6_read 89 = .ok (.iadd, 1) := by decide +kernel
theorem dX6_read_90 : decode cX6_read 90 = .ok (.aload_n 0, 1) := by decide +kernel
theorem dX6_read_91 : decode cX6_read 91 = .ok (.getfield 48, 3) := by decide +kernel
theorem dX6_read_94 : decode cX6_read 94 = .ok (.if_icmp .ne 7, 3) := by decide +kernel
theorem dX6_read_97 : decode cX6_read 97 = .ok (.iconst 1, 1) := by decide +kernel
theorem dX6_read_98 : decode cX6_read 98 = .ok (.goto 4, 3) := by decide +kernel
theorem dX6_read_101 : decode cX6_read 101 = .ok (.iconst 0, 1) := by decide +kernel
theorem dX6_read_102 : decode cX6_read 102 = .ok (.putfield 59, 3) := by decide +kernel
theorem dX6_read_105 : decode cX6_read 105 = .ok (.aload_n 0, 1) := by decide +kernel
theorem dX6_read_106 : decode cX6_read 106 = .ok (.iload_n 1, 1) := by decide +kernel
theorem dX6_read_107 : decode cX6_read 107 = .ok (.iconst 1, 1) := by decide +kernel
theorem dX6_read_108 : decode cX6_read 108 = .ok (.iadd, 1) := by decide +kernel
theorem dX6_read_109 : decode cX6_read 109 = .ok (.iconst 0, 1) := by decide +kernel
theorem dX6_read_110 : decode cX6_read 110 = .ok (.iconst 3, 1) := by decide +kernel
theorem dX6_read_111 : decode cX6_read 111 = .ok (.invokevirtual 56, 3) := by decide +kernel
theorem dX6_read_114 : decode cX6_read 114 = .ok (.ifCond .eq 9, 3) := by decide +kernel
theorem dX6_read_117 : decode cX6_read 117 = .ok (.iload_n 1, 1) := by decide +kernel
theorem dX6_read_118 : decode cX6_read 118 = .ok (.iconst 2, 1) := by decide +kernel
theorem dX6_read_119 : decode cX6_read 119 = .ok (.iadd, 1) := by decide +kernel
theorem dX6_read_120 : decode cX6_read 120 = .ok (.goto 6, 3) := by decide +kernel
theorem dX6_read_123 : decode cX6_read 123 = .ok (.iload_n 1, 1) := by decide +kernel
theorem dX6_read_124 : decode cX6_read 124 = .ok (.iconst 1, 1) := by decide +kernel
theorem dX6_read_125 : decode cX6_read 125 = .ok (.iadd, 1) := by decide +kernel
theorem dX6_read_126 : decode cX6_read 126 = .ok (.ireturn, 1) := by decide +kernel
theorem dX6_read_127 : decode cX6_read 127 = .ok (.iload_n 1, 1) := by decide +kernel
theorem dX6_read_128 : decode cX6_read 128 = .ok (.aload_n 0, 1) := by decide +kernel
theorem dX6_read_129 : decode cX6_read 129 = .ok (.getfield 48, 3) := by decide +kernel
theorem dX6_read_132 : decode cX6_read 132 = .ok (.if_icmp .eq 22, 3) := by decide +kernel
theorem dX6_read_135 : decode cX6_read 135 = .ok (.aload_n 0, 1) := by decide +kernel
theorem dX6_read_136 : decode cX6_read 136 = .ok (.getfield 63, 3) := by decide +kernel
theorem dX6_read_139 : decode cX6_read 139 = .ok (.iconst 4, 1) := by decide +kernel
theorem dX6_read_140 : decode cX6_read 140 = .ok (.if_icmp .eq 14, 3) := by decide +kernel
theorem dX6_read_143 : decode cX6_read 143 = .ok (.aload_n 0, 1) := by decide +kernel
theorem dX6_read_144 : decode cX6_read 144 = .ok (.getfield 34, 3) := by decide +kernel
theorem dX6_read_147 : decode cX6_read 147 = .ok (.iload_n 1, 1) := by decide +kernel
theorem dX6_read_148 : decode cX6_read 148 = .ok (.baload, 1) := by decide +kernel
theorem dX6_read_149 : decode cX6_read 149 = .ok (.bipush 44, 2) := by decide +kernel
theorem dX6_read_151 : decode cX6_read 151 = .ok (.if_icmp .eq 5, 3) := by decide +kernel
theorem dX6_read_154 : decode cX6_read 154 = .ok (.iload_n 1, 1) := by decide +kernel
theorem dX6_read_155 : decode cX6_read 155 = .ok (.ireturn, 1) := by decide +kernel
theorem dX6_read_156 : decode cX6_read 156 = .ok (.iinc 1 1, 3) := by decide +kernel
theorem dX6_read_159 : decode cX6_read 159 = .ok (.goto (-147), 3) := by decide +kernel
theorem dX6_read_162 : decode cX6_read 162 = .ok (.iload_n 1, 1) := by decide +kernel
theorem dX6_read_163 : decode cX6_read 163 = .ok (.ireturn, 1) := by decide +kernel
set_option maxRecDepth 20000 in
theorem ggX6_fault_X6_read : GoodIn wsX6_fault wsX6_read := goodIn_r _ [5, 6, 7, 8, 9, 10, 11, 12, 4, 13, 14, 15, 16, 17, 18, 19, 20, 21, 22, 23, 24, 25, 26, 27, 28, 29, 30, 31, 32, 33, 34, 35, 36, 37, 38, 39, 40, 41, 42, 43, 44, 45, 46, 47, 48, 49, 50, 51, 52, 53] (by decide +kernel) (by decide +kernel)
set_option maxRecDepth 20000 in
theorem gX6_fault_X6_read : GoodIn wsX6_fault (wsV RX6 69 RX6 yX6_read wsX6_read) := goodIn_app (goodIn_of _ (by decide +kernel)) ggX6_fault_X6_read
theorem dX6_fault_0 : decode cX6_fault 0 = .ok (.aload_n 0, 1) := by decide +kernel
theorem dX6_fault_1 : decode cX6_fault 1 = .ok (.invokevirtual 69, 3) := by decide +kernel
theorem dX6_fault_4 : decode cX6_fault 4 = .ok (.ireturn, 1) := by decide +kernel
set_option maxRecDepth 20000 in
theorem ggX6_market_X6_read : GoodIn wsX6_market wsX6_read := goodIn_r _ [24, 1, 2, 19, 4, 25, 26, 27, 23, 28, 29, 30, 31, 32, 33, 34, 35, 36, 37, 38, 39, 40, 41, 42, 43, 44, 45, 46, 47, 48, 49, 50, 51, 52, 53, 54, 55, 56, 57, 58, 59, 60, 61, 62, 63, 64, 65, 66, 67, 68] (by decide +kernel) (by decide +kernel)
set_option maxRecDepth 20000 in
theorem gX6_market_X6_read : GoodIn wsX6_market (wsV RX6 69 RX6 yX6_read wsX6_read) := goodIn_app (goodIn_of _ (by decide +kernel)) ggX6_market_X6_read
set_option maxRecDepth 20000 in
theorem ggX6_market_X6_kindBy : GoodIn wsX6_market wsX6_kindBy := goodIn_r _ [31] (by decide +kernel) (by decide +kernel)
set_option maxRecDepth 20000 in
theorem gX6_market_X6_kindBy : GoodIn wsX6_market (va_wsS RX6 52 yX6_kindBy wsX6_kindBy) := goodIn_app (goodIn_of _ (by decide +kernel)) ggX6_market_X6_kindBy
theorem dX6_market_0 : decode cX6_market 0 = .ok (.aload_n 0, 1) := by decide +kernel
theorem dX6_market_1 : decode cX6_market 1 = .ok (.invokevirtual 69, 3) := by decide +kernel
theorem dX6_market_4 : decode cX6_market 4 = .ok (.istore_n 1, 1) := by decide +kernel
theorem dX6_market_5 : decode cX6_market 5 = .ok (.aload_n 0, 1) := by decide +kernel
theorem dX6_market_6 : decode cX6_market 6 = .ok (.getfield 59, 3) := by decide +kernel
theorem dX6_market_9 : decode cX6_market 9 = .ok (.ifCond .ne 6, 3) := by decide +kernel
theorem dX6_market_12 : decode cX6_market 12 = .ok (.bipush (-103), 2) := by decide +kernel
theorem dX6_market_14 : decode cX6_market 14 = .ok (.ireturn, 1) := by decide +kernel
theorem dX6_market_15 : decode cX6_market 15 = .ok (.aload_n 0, 1) := by decide +kernel
theorem dX6_market_16 : decode cX6_market 16 = .ok (.aload_n 0, 1) := by decide +kernel
theorem dX6_market_17 : decode cX6_market 17 = .ok (.getfield 63, 3) := by decide +kernel
theorem dX6_market_20 : decode cX6_market 20 = .ok (.putfield 73, 3) := by decide +kernel
theorem dX6_market_23 : decode cX6_market 23 = .ok (.aload_n 0, 1) := by decide +kernel
theorem dX6_market_24 : decode cX6_market 24 = .ok (.aload_n 0, 1) := by decide +kernel
theorem dX6_market_25 : decode cX6_market 25 = .ok (.getfield 34, 3) := by decide +kernel
theorem dX6_market_28 : decode cX6_market 28 = .ok (.iload_n 1, 1) := by decide +kernel
theorem dX6_market_29 : decode cX6_market 29 = .ok (.iconst 1, 1) := by decide +kernel
theorem dX6_market_30 : decode cX6_market 30 = .ok (.isub, 1) := by decide +kernel
theorem dX6_market_31 : decode cX6_market 31 = .ok (.baload, 1) := by decide +kernel
theorem dX6_market_32 : decode cX6_market 32 = .ok (.bipush 48, 2) := by decide +kernel
theorem dX6_market_34 : decode cX6_market 34 = .ok (.isub, 1) := by decide +kernel
theorem dX6_market_35 : decode cX6_market 35 = .ok (.putfield 76, 3) := by decide +kernel
theorem dX6_market_38 : decode cX6_market 38 = .ok (.iconst 0, 1) := by decide +kernel
theorem dX6_market_39 : decode cX6_market 39 = .ok (.istore_n 2, 1) := by decide +kernel
theorem dX6_market_40 : decode cX6_market 40 = .ok (.iload_n 2, 1) := by decide +kernel
theorem dX6_market_41 : decode cX6_market 41 = .ok (.aload_n 0, 1) := by decide +kernel
theorem dX6_market_42 : decode cX6_market 42 = .ok (.getfield 73, 3) := by decide +kernel
theorem dX6_market_45 : decode cX6_market 45 = .ok (.if_icmp .ge 102, 3) := by decide +kernel
theorem dX6_market_48 : decode cX6_market 48 = .ok (.aload_n 0, 1) := by decide +kernel
theorem dX6_market_49 : decode cX6_market 49 = .ok (.getfield 7, 3) := by decide +kernel
theorem dX6_market_52 : decode cX6_market 52 = .ok (.iload_n 2, 1) := by decide +kernel
theorem dX6_market_53 : decode cX6_market 53 = .ok (.aload_n 0, 1) := by decide +kernel
theorem dX6_market_54 : decode cX6_market 54 = .ok (.getfield 34, 3) := by decide +kernel
theorem dX6_market_57 : decode cX6_market 57 = .ok (.iconst 4, 1) := by decide +kernel
theorem dX6_market_58 : decode cX6_market 58 = .ok (.iload_n 2, 1) := by decide +kernel
theorem dX6_market_59 : decode cX6_market 59 = .ok (.imul, 1) := by decide +kernel
theorem dX6_market_60 : decode cX6_market 60 = .ok (.baload, 1) := by decide +kernel
theorem dX6_market_61 : decode cX6_market 61 = .ok (.invokestatic 52, 3) := by decide +kernel
theorem dX6_market_64 : decode cX6_market 64 = .ok (.iastore, 1) := by decide +kernel
theorem dX6_market_65 : decode cX6_market 65 = .ok (.aload_n 0, 1) := by decide +kernel
theorem dX6_market_66 : decode cX6_market 66 = .ok (.getfield 13, 3) := by decide +kernel
theorem dX6_market_69 : decode cX6_market 69 = .ok (.iload_n 2, 1) := by decide +kernel
theorem dX6_market_70 : decode cX6_market 70 = .ok (.bipush 10, 2) := by decide +kernel
theorem dX6_market_72 : decode cX6_market 72 = .ok (.aload_n 0, 1) := by decide +kernel
theorem dX6_market_73 : decode cX6_market 73 = .ok (.getfield 34, 3) := by decide +kernel
theorem dX6_market_76 : decode cX6_market 76 = .ok (.iconst 4, 1) := by decide +kernel
theorem dX6_market_77 : decode cX6_market 77 = .ok (.iload_n 2, 1) := by decide +kernel
theorem dX6_market_78 : decode cX6_market 78 = .ok (.imul, 1) := by decide +kernel
theorem dX6_market_79 : decode cX6_market 79 = .ok (.iconst 1, 1) := by decide +kernel
theorem dX6_market_80 : decode cX6_market 80 = .ok (.iadd, 1) := by decide +kernel
theorem dX6_market_81 : decode cX6_market 81 = .ok (.baload, 1) := by decide +kernel
theorem dX6_market_82 : decode cX6_market 82 = .ok (.iadd, 1) := by decide +kernel
theorem dX6_market_83 : decode cX6_market 83 = .ok (.bipush 48, 2) := by decide +kernel
theorem dX6_market_85 : decode cX6_market 85 = .ok (.isub, 1) := by decide +kernel
theorem dX6_market_86 : decode cX6_market 86 = .ok (.iastore, 1) := by decide +kernel
theorem dX6_market_87 : decode cX6_market 87 = .ok (.aload_n 0, 1) := by decide +kernel
theorem dX6_market_88 : decode cX6_market 88 = .ok (.getfield 16, 3) := by decide +kernel
theorem dX6_market_91 : decode cX6_market 91 = .ok (.iload_n 2, 1) := by decide +kernel
theorem dX6_market_92 : decode cX6_market 92 = .ok (.aload_n 0, 1) := by decide +kernel
theorem dX6_market_93 : decode cX6_market 93 = .ok (.getfield 34, 3) := by decide +kernel
theorem dX6_market_96 : decode cX6_market 96 = .ok (.iconst 4, 1) := by decide +kernel
theorem dX6_market_97 : decode cX6_market 97 = .ok (.iload_n 2, 1) := by decide +kernel
theorem dX6_market_98 : decode cX6_market 98 = .ok (.imul, 1) := by decide +kernel
theorem dX6_market_99 : decode cX6_market 99 = .ok (.iconst 2, 1) := by decide +kernel
theorem dX6_market_100 : decode cX6_market 100 = .ok (.iadd, 1) := by decide +kernel
theorem dX6_market_101 : decode cX6_market 101 = .ok (.baload, 1) := by decide +kernel
theorem dX6_market_102 : decode cX6_market 102 = .ok (.bipush 48, 2) := by decide +kernel
theorem dX6_market_104 : decode cX6_market 104 = .ok (.isub, 1) := by decide +kernel
theorem dX6_market_105 : decode cX6_market 105 = .ok (.iastore, 1) := by decide +kernel
theorem dX6_market_106 : decode cX6_market 106 = .ok (.aload_n 0, 1) := by decide +kernel
theorem dX6_market_107 : decode cX6_market 107 = .ok (.getfield 19, 3) := by decide +kernel
theorem dX6_market_110 : decode cX6_market 110 = .ok (.iload_n 2, 1) := by decide +kernel
theorem dX6_market_111 : decode cX6_market 111 = .ok (.iconst 0, 1) := by decide +kernel
theorem dX6_market_112 : decode cX6_market 112 = .ok (.iastore, 1) := by decide +kernel
theorem dX6_market_113 : decode cX6_market 113 = .ok (.aload_n 0, 1) := by decide +kernel
theorem dX6_market_114 : decode cX6_market 114 = .ok (.getfield 22, 3) := by decide +kernel
theorem dX6_market_117 : decode cX6_market 117 = .ok (.iload_n 2, 1) := by decide +kernel
theorem dX6_market_118 : decode cX6_market 118 = .ok (.iconst 0, 1) := by decide +kernel
theorem dX6_market_119 : decode cX6_market 119 = .ok (.iastore, 1) := by decide +kernel
theorem dX6_market_120 : decode cX6_market 120 = .ok (.aload_n 0, 1) := by decide +kernel
theorem dX6_market_121 : decode cX6_market 121 = .ok (.getfield 25, 3) := by decide +kernel
theorem dX6_market_124 : decode cX6_market 124 = .ok (.iload_n 2, 1) := by decide +kernel
theorem dX6_market_125 : decode cX6_market 125 = .ok (.iconst 0, 1) := by decide +kernel
theorem dX6_market_126 : decode cX6_market 126 = .ok (.iastore, 1) := by decide +kernel
theorem dX6_market_127 : decode cX6_market 127 = .ok (.aload_n 0, 1) := by decide +kernel
theorem dX6_market_128 : decode cX6_market 128 = .ok (.getfield 28, 3) := by decide +kernel
theorem dX6_market_131 : decode cX6_market 131 = .ok (.iload_n 2, 1) := by decide +kernel
theorem dX6_market_132 : decode cX6_market 132 = .ok (.iconst 0, 1) := by decide +kernel
theorem dX6_market_133 : decode cX6_market 133 = .ok (.iastore, 1) := by decide +kernel
theorem dX6_market_134 : decode cX6_market 134 = .ok (.aload_n 0, 1) := by decide +kernel
theorem dX6_market_135 : decode cX6_market 135 = .ok (.getfield 31, 3) := by decide +kernel
theorem dX6_market_138 : decode cX6_market 138 = .ok (.iload_n 2, 1) := by decide +kernel
theorem dX6_market_139 : decode cX6_market 139 = .ok (.iconst 0, 1) := by decide +kernel
theorem dX6_market_140 : decode cX6_market 140 = .ok (.iastore, 1) := by decide +kernel
theorem dX6_market_141 : decode cX6_market 141 = .ok (.iinc 2 1, 3) := by decide +kernel
theorem dX6_market_144 : decode cX6_market 144 = .ok (.goto (-104), 3) := by decide +kernel
theorem dX6_market_147 : decode cX6_market 147 = .ok (.aload_n 0, 1) := by decide +kernel
theorem dX6_market_148 : decode cX6_market 148 = .ok (.dup, 1) := by decide +kernel
theorem dX6_market_149 : decode cX6_market 149 = .ok (.getfield 79, 3) := by decide +kernel
theorem dX6_market_152 : decode cX6_market 152 = .ok (.iconst 1, 1) := by decide +kernel
theorem dX6_market_153 : decode cX6_market 153 = .ok (.iadd, 1) := by decide +kernel
theorem dX6_market_154 : decode cX6_market 154 = .ok (.putfield 79, 3) := by decide +kernel
theorem dX6_market_157 : decode cX6_market 157 = .ok (.aload_n 0, 1) := by decide +kernel
theorem dX6_market_158 : decode cX6_market 158 = .ok (.iconst 1, 1) := by decide +kernel
theorem dX6_market_159 : decode cX6_market 159 = .ok (.putfield 82, 3) := by decide +kernel
theorem dX6_market_162 : decode cX6_market 162 = .ok (.aload_n 0, 1) := by decide +kernel
theorem dX6_market_163 : decode cX6_market 163 = .ok (.iconst 0, 1) := by decide +kernel
theorem dX6_market_164 : decode cX6_market 164 = .ok (.putfield 85, 3) := by decide +kernel
theorem dX6_market_167 : decode cX6_market 167 = .ok (.aload_n 0, 1) := by decide +kernel
theorem dX6_market_168 : decode cX6_market 168 = .ok (.iconst 0, 1) := by decide +kernel
theorem dX6_market_169 : decode cX6_market 169 = .ok (.putfield 88, 3) := by decide +kernel
theorem dX6_market_172 : decode cX6_market 172 = .ok (.aload_n 0, 1) := by decide +kernel
theorem dX6_market_173 : decode cX6_market 173 = .ok (.iconst 0, 1) := by decide +kernel
theorem dX6_market_174 : decode cX6_market 174 = .ok (.putfield 91, 3) := by decide +kernel
theorem dX6_market_177 : decode cX6_market 177 = .ok (.aload_n 0, 1) := by decide +kernel
theorem dX6_market_178 : decode cX6_market 178 = .ok (.iconst 0, 1) := by decide +kernel
theorem dX6_market_179 : decode cX6_market 179 = .ok (.putfield 48, 3) := by decide +kernel
theorem dX6_market_182 : decode cX6_market 182 = .ok (.aload_n 0, 1) := by decide +kernel
theorem dX6_market_183 : decode cX6_market 183 = .ok (.getfield 73, 3) := by decide +kernel
theorem dX6_market_186 : decode cX6_market 186 = .ok (.ireturn, 1) := by decide +kernel
set_option maxRecDepth 20000 in
theorem ggX6_isHouse_X6_within : GoodIn wsX6_isHouse wsX6_within := goodIn_r _ [5] (by decide +kernel) (by decide +kernel)
set_option maxRecDepth 20000 in
theorem gX6_isHouse_X6_within : GoodIn wsX6_isHouse (va_wsS RX6 44 yX6_within wsX6_within) := goodIn_app (goodIn_of _ (by decide +kernel)) ggX6_isHouse_X6_within
theorem dX6_isHouse_0 : decode cX6_isHouse 0 = .ok (.iload_n 1, 1) := by decide +kernel
theorem dX6_isHouse_1 : decode cX6_isHouse 1 = .ok (.iconst 0, 1) := by decide +kernel
theorem dX6_isHouse_2 : decode cX6_isHouse 2 = .ok (.aload_n 0, 1) := by decide +kernel
theorem dX6_isHouse_3 : decode cX6_isHouse 3 = .ok (.getfield 73, 3) := by decide +kernel
theorem dX6_isHouse_6 : decode cX6_isHouse 6 = .ok (.iconst 1, 1) := by decide +kernel
theorem dX6_isHouse_7 : decode cX6_isHouse 7 = .ok (.isub, 1) := by decide +kernel
theorem dX6_isHouse_8 : decode cX6_isHouse 8 = .ok (.invokestatic 44, 3) := by decide +kernel
theorem dX6_isHouse_11 : decode cX6_isHouse 11 = .ok (.ireturn, 1) := by decide +kernel
theorem dX6_houseNow_0 : decode cX6_houseNow 0 = .ok (.iload_n 2, 1) := by decide +kernel
theorem dX6_houseNow_1 : decode cX6_houseNow 1 = .ok (.tableswitch 81 0 5 #[39, 46, 53, 60, 67, 74], 39) := by decide +kernel
theorem dX6_houseNow_40 : decode cX6_houseNow 40 = .ok (.aload_n 0, 1) := by decide +kernel
theorem dX6_houseNow_41 : decode cX6_houseNow 41 = .ok (.getfield 7, 3) := by decide +kernel
theorem dX6_houseNow_44 : decode cX6_houseNow 44 = .ok (.iload_n 1, 1) := by decide +kernel
theorem dX6_houseNow_45 : decode cX6_houseNow 45 = .ok (.iaload, 1) := by decide +kernel
theorem dX6_houseNow_46 : decode cX6_houseNow 46 = .ok (.ireturn, 1) := by decide +kernel
theorem dX6_houseNow_47 : decode cX6_houseNow 47 = .ok (.aload_n 0, 1) := by decide +kernel
theorem dX6_houseNow_48 : decode cX6_houseNow 48 = .ok (.getfield 13, 3) := by decide +kernel
theorem dX6_houseNow_51 : decode cX6_houseNow 51 = .ok (.iload_n 1, 1) := by decide +kernel
theorem dX6_houseNow_52 : decode cX6_houseNow 52 = .ok (.iaload, 1) := by decide +kernel
theorem dX6_houseNow_53 : decode cX6_houseNow 53 = .ok (.ireturn, 1) := by decide +kernel
theorem dX6_houseNow_54 : decode cX6_houseNow 54 = .ok (.aload_n 0, 1) := by decide +kernel
theorem dX6_houseNow_55 : decode cX6_houseNow 55 = .ok (.getfield 16, 3) := by decide +kernel
theorem dX6_houseNow_58 : decode cX6_houseNow 58 = .ok (.iload_n 1, 1) := by decide +kernel
theorem dX6_houseNow_59 : decode cX6_houseNow 59 = .ok (.iaload, 1) := by decide +kernel
theorem dX6_houseNow_60 : decode cX6_houseNow 60 = .ok (.ireturn, 1) := by decide +kernel
theorem dX6_houseNow_61 : decode cX6_houseNow 61 = .ok (.aload_n 0, 1) := by decide +kernel
theorem dX6_houseNow_62 : decode cX6_houseNow 62 = .ok (.getfield 19, 3) := by decide +kernel
theorem dX6_houseNow_65 : decode cX6_houseNow 65 = .ok (.iload_n 1, 1) := by decide +kernel
theorem dX6_houseNow_66 : decode cX6_houseNow 66 = .ok (.iaload, 1) := by decide +kernel
theorem dX6_houseNow_67 : decode cX6_houseNow 67 = .ok (.ireturn, 1) := by decide +kernel
theorem dX6_houseNow_68 : decode cX6_houseNow 68 = .ok (.aload_n 0, 1) := by decide +kernel
theorem dX6_houseNow_69 : decode cX6_houseNow 69 = .ok (.getfield 22, 3) := by decide +kernel
theorem dX6_houseNow_72 : decode cX6_houseNow 72 = .ok (.iload_n 1, 1) := by decide +kernel
theorem dX6_houseNow_73 : decode cX6_houseNow 73 = .ok (.iaload, 1) := by decide +kernel
theorem dX6_houseNow_74 : decode cX6_houseNow 74 = .ok (.ireturn, 1) := by decide +kernel
theorem dX6_houseNow_75 : decode cX6_houseNow 75 = .ok (.aload_n 0, 1) := by decide +kernel
theorem dX6_houseNow_76 : decode cX6_houseNow 76 = .ok (.getfield 25, 3) := by decide +kernel
theorem dX6_houseNow_79 : decode cX6_houseNow 79 = .ok (.iload_n 1, 1) := by decide +kernel
theorem dX6_houseNow_80 : decode cX6_houseNow 80 = .ok (.iaload, 1) := by decide +kernel
theorem dX6_houseNow_81 : decode cX6_houseNow 81 = .ok (.ireturn, 1) := by decide +kernel
theorem dX6_houseNow_82 : decode cX6_houseNow 82 = .ok (.aload_n 0, 1) := by decide +kernel
theorem dX6_houseNow_83 : decode cX6_houseNow 83 = .ok (.getfield 28, 3) := by decide +kernel
theorem dX6_houseNow_86 : decode cX6_houseNow 86 = .ok (.iload_n 1, 1) := by decide +kernel
theorem dX6_houseNow_87 : decode cX6_houseNow 87 = .ok (.iaload, 1) := by decide +kernel
theorem dX6_houseNow_88 : decode cX6_houseNow 88 = .ok (.ireturn, 1) := by decide +kernel
set_option maxRecDepth 20000 in
theorem ggX6_about_X6_isHouse : GoodIn wsX6_about wsX6_isHouse := goodIn_r _ [5, 6, 7, 8, 4, 9, 21, 22, 23, 24, 25, 26, 27, 28, 29, 30, 31, 32, 33, 34, 35, 36, 37, 38, 39, 40, 41, 42, 43, 44, 45, 46, 47, 48, 49, 50] (by decide +kernel) (by decide +kernel)
set_option maxRecDepth 20000 in
theorem gX6_about_X6_isHouse : GoodIn wsX6_about (wsV RX6 94 RX6 yX6_isHouse wsX6_isHouse) := goodIn_app (goodIn_of _ (by decide +kernel)) ggX6_about_X6_isHouse
set_option maxRecDepth 20000 in
theorem ggX6_about_X6_within : GoodIn wsX6_about wsX6_within := goodIn_r _ [9] (by decide +kernel) (by decide +kernel)
set_option maxRecDepth 20000 in
theorem gX6_about_X6_within : GoodIn wsX6_about (va_wsS RX6 44 yX6_within wsX6_within) := goodIn_app (goodIn_of _ (by decide +kernel)) ggX6_about_X6_within
set_option maxRecDepth 20000 in
theorem ggX6_about_X6_houseNow : GoodIn wsX6_about wsX6_houseNow := goodIn_r _ [13, 14, 15, 16, 17, 18, 19, 20, 21, 22, 23, 24, 25, 26, 27, 28, 29, 30, 31, 32, 33, 34, 35, 36, 37, 38, 39, 40, 41, 42, 43, 44, 45, 46, 47, 48, 49, 50] (by decide +kernel) (by decide +kernel)
set_option maxRecDepth 20000 in
theorem gX6_about_X6_houseNow : GoodIn wsX6_about (wsV RX6 98 RX6 yX6_houseNow wsX6_houseNow) := goodIn_app (goodIn_of _ (by decide +kernel)) ggX6_about_X6_houseNow
theorem dX6_about_0 : decode cX6_about 0 = .ok (.aload_n 0, 1) := by decide +kernel
theorem dX6_about_1 : decode cX6_about 1 = .ok (.iload_n 1, 1) := by decide +kernel
theorem dX6_about_2 : decode cX6_about 2 = .ok (.invokevirtual 94, 3) := by decide +kernel
theorem dX6_about_5 : decode cX6_about 5 = .ok (.ifCond .ne 8, 3) := by decide +kernel
theorem dX6_about_8 : decode cX6_about 8 = .ok (.bipush (-101), 2) := by decide +kernel
theorem dX6_about_10 : decode cX6_about 10 = .ok (.goto 24, 3) := by decide +kernel
theorem dX6_about_13 : decode cX6_about 13 = .ok (.iload_n 2, 1) := by decide +kernel
theorem dX6_about_14 : decode cX6_about 14 = .ok (.iconst 0, 1) := by decide +kernel
theorem dX6_about_15 : decode cX6_about 15 = .ok (.bipush 6, 2) := by decide +kernel
theorem dX6_about_17 : decode cX6_about 17 = .ok (.invokestatic 44, 3) := by decide +kernel
theorem dX6_about_20 : decode cX6_about 20 = .ok (.ifCond .eq 12, 3) := by decide +kernel
theorem dX6_about_23 : decode cX6_about 23 = .ok (.aload_n 0, 1) := by decide +kernel
theorem dX6_about_24 : decode cX6_about 24 = .ok (.iload_n 1, 1) := by decide +kernel
theorem dX6_about_25 : decode cX6_about 25 = .ok (.iload_n 2, 1) := by decide +kernel
theorem dX6_about_26 : decode cX6_about 26 = .ok (.invokevirtual 98, 3) := by decide +kernel
theorem dX6_about_29 : decode cX6_about 29 = .ok (.goto 5, 3) := by decide +kernel
theorem dX6_about_32 : decode cX6_about 32 = .ok (.bipush (-102), 2) := by decide +kernel
theorem dX6_about_34 : decode cX6_about 34 = .ok (.ireturn, 1) := by decide +kernel
set_option maxRecDepth 20000 in
theorem ggX6_as_X6_isHouse : GoodIn wsX6_as wsX6_isHouse := goodIn_r _ [6, 7, 8, 9, 5, 10, 11, 12, 13, 14, 15, 16, 17, 18, 19, 20, 21, 22, 23, 24, 25, 26, 27, 28, 29, 30, 31, 32, 33, 34, 35, 36, 37, 38, 39, 40] (by decide +kernel) (by decide +kernel)
set_option maxRecDepth 20000 in
theorem gX6_as_X6_isHouse : GoodIn wsX6_as (wsV RX6 94 RX6 yX6_isHouse wsX6_isHouse) := goodIn_app (goodIn_of _ (by decide +kernel)) ggX6_as_X6_isHouse
set_option maxRecDepth 20000 in
theorem ggX6_as_X6_within : GoodIn wsX6_as wsX6_within := goodIn_r _ [10] (by decide +kernel) (by decide +kernel)
set_option maxRecDepth 20000 in
theorem gX6_as_X6_within : GoodIn wsX6_as (va_wsS RX6 44 yX6_within wsX6_within) := goodIn_app (goodIn_of _ (by decide +kernel)) ggX6_as_X6_within
theorem dX6_as_0 : decode cX6_as 0 = .ok (.aload_n 0, 1) := by decide +kernel
theorem dX6_as_1 : decode cX6_as 1 = .ok (.iload_n 1, 1) := by decide +kernel
theorem dX6_as_2 : decode cX6_as 2 = .ok (.invokevirtual 94, 3) := by decide +kernel
theorem dX6_as_5 : decode cX6_as 5 = .ok (.ifCond .ne 6, 3) := by decide +kernel
theorem dX6_as_8 : decode cX6_as 8 = .ok (.bipush (-101), 2) := by decide +kernel
theorem dX6_as_10 : decode cX6_as 10 = .ok (.ireturn, 1) := by decide +kernel
theorem dX6_as_11 : decode cX6_as 11 = .ok (.iload_n 2, 1) := by decide +kernel
theorem dX6_as_12 : decode cX6_as 12 = .ok (.iconst 0, 1) := by decide +kernel
theorem dX6_as_13 : decode cX6_as 13 = .ok (.iconst 4, 1) := by decide +kernel
theorem dX6_as_14 : decode cX6_as 14 = .ok (.invokestatic 44, 3) := by decide +kernel
theorem dX6_as_17 : decode cX6_as 17 = .ok (.ifCond .ne 6, 3) := by decide +kernel
theorem dX6_as_20 : decode cX6_as 20 = .ok (.bipush (-102), 2) := by decide +kernel
theorem dX6_as_22 : decode cX6_as 22 = .ok (.ireturn, 1) := by decide +kernel
theorem dX6_as_23 : decode cX6_as 23 = .ok (.aload_n 0, 1) := by decide +kernel
theorem dX6_as_24 : decode cX6_as 24 = .ok (.getfield 7, 3) := by decide +kernel
theorem dX6_as_27 : decode cX6_as 27 = .ok (.iload_n 1, 1) := by decide +kernel
theorem dX6_as_28 : decode cX6_as 28 = .ok (.iaload, 1) := by decide +kernel
theorem dX6_as_29 : decode cX6_as 29 = .ok (.istore_n 3, 1) := by decide +kernel
theorem dX6_as_30 : decode cX6_as 30 = .ok (.iload_n 2, 1) := by decide +kernel
theorem dX6_as_31 : decode cX6_as 31 = .ok (.ifCond .eq 18, 3) := by decide +kernel
theorem dX6_as_34 : decode cX6_as 34 = .ok (.iload_n 3, 1) := by decide +kernel
theorem dX6_as_35 : decode cX6_as 35 = .ok (.iload_n 2, 1) := by decide +kernel
theorem dX6_as_36 : decode cX6_as 36 = .ok (.if_icmp .eq 13, 3) := by decide +kernel
theorem dX6_as_39 : decode cX6_as 39 = .ok (.iload_n 2, 1) := by decide +kernel
theorem dX6_as_40 : decode cX6_as 40 = .ok (.iconst 1, 1) := by decide +kernel
theorem dX6_as_41 : decode cX6_as 41 = .ok (.if_icmp .ne 12, 3) := by decide +kernel
theorem dX6_as_44 : decode cX6_as 44 = .ok (.iload_n 3, 1) := by decide +kernel
theorem dX6_as_45 : decode cX6_as 45 = .ok (.iconst 4, 1) := by decide +kernel
theorem dX6_as_46 : decode cX6_as 46 = .ok (.if_icmp .ne 7, 3) := by decide +kernel
theorem dX6_as_49 : decode cX6_as 49 = .ok (.iload_n 1, 1) := by decide +kernel
theorem dX6_as_50 : decode cX6_as 50 = .ok (.goto 4, 3) := by decide +kernel
theorem dX6_as_53 : decode cX6_as 53 = .ok (.iconst (-1), 1) := by decide +kernel
theorem dX6_as_54 : decode cX6_as 54 = .ok (.ireturn, 1) := by decide +kernel
theorem dX6_ounces_0 : decode cX6_ounces 0 = .ok (.aload_n 0, 1) := by decide +kernel
theorem dX6_ounces_1 : decode cX6_ounces 1 = .ok (.getfield 13, 3) := by decide +kernel
theorem dX6_ounces_4 : decode cX6_ounces 4 = .ok (.iload_n 2, 1) := by decide +kernel
theorem dX6_ounces_5 : decode cX6_ounces 5 = .ok (.iaload, 1) := by decide +kernel
theorem dX6_ounces_6 : decode cX6_ounces 6 = .ok (.iload_n 3, 1) := by decide +kernel
theorem dX6_ounces_7 : decode cX6_ounces 7 = .ok (.iconst 2, 1) := by decide +kernel
theorem dX6_ounces_8 : decode cX6_ounces 8 = .ok (.irem, 1) := by decide +kernel
theorem dX6_ounces_9 : decode cX6_ounces 9 = .ok (.iconst 1, 1) := by decide +kernel
theorem dX6_ounces_10 : decode cX6_ounces 10 = .ok (.if_icmp .ne 10, 3) := by decide +kernel
theorem dX6_ounces_13 : decode cX6_ounces 13 = .ok (.aload_n 0, 1) := by decide +kernel
theorem dX6_ounces_14 : decode cX6_ounces 14 = .ok (.getfield 76, 3) := by decide +kernel
theorem dX6_ounces_17 : decode cX6_ounces 17 = .ok (.goto 8, 3) := by decide +kernel
theorem dX6_ounces_20 : decode cX6_ounces 20 = .ok (.aload_n 0, 1) := by decide +kernel
theorem dX6_ounces_21 : decode cX6_ounces 21 = .ok (.getfield 76, 3) := by decide +kernel
theorem dX6_ounces_24 : decode cX6_ounces 24 = .ok (.ineg, 1) := by decide +kernel
theorem dX6_ounces_25 : decode cX6_ounces 25 = .ok (.iadd, 1) := by decide +kernel
theorem dX6_ounces_26 : decode cX6_ounces 26 = .ok (.aload_n 0, 1) := by decide +kernel
theorem dX6_ounces_27 : decode cX6_ounces 27 = .ok (.getfield 7, 3) := by decide +kernel
theorem dX6_ounces_30 : decode cX6_ounces 30 = .ok (.iload_n 1, 1) := by decide +kernel
theorem dX6_ounces_31 : decode cX6_ounces 31 = .ok (.iaload, 1) := by decide +kernel
theorem dX6_ounces_32 : decode cX6_ounces 32 = .ok (.iconst 3, 1) := by decide +kernel
theorem dX6_ounces_33 : decode cX6_ounces 33 = .ok (.if_icmp .ne 7, 3) := by decide +kernel
theorem dX6_ounces_36 : decode cX6_ounces 36 = .ok (.iconst 1, 1) := by decide +kernel
theorem dX6_ounces_37 : decode cX6_ounces 37 = .ok (.goto 4, 3) := by decide +kernel
theorem dX6_ounces_40 : decode cX6_ounces 40 = .ok (.iconst 0, 1) := by decide +kernel
theorem dX6_ounces_41 : decode cX6_ounces 41 = .ok (.iadd, 1) := by decide +kernel
theorem dX6_ounces_42 : decode cX6_ounces 42 = .ok (.istore 4, 2) := by decide +kernel
theorem dX6_ounces_44 : decode cX6_ounces 44 = .ok (.iload 4, 2) := by decide +kernel
theorem dX6_ounces_46 : decode cX6_ounces 46 = .ok (.ifCond .ge 7, 3) := by decide +kernel
theorem dX6_ounces_49 : decode cX6_ounces 49 = .ok (.iconst 0, 1) := by decide +kernel
theorem dX6_ounces_50 : decode cX6_ounces 50 = .ok (.goto 5, 3) := by decide +kernel
theorem dX6_ounces_53 : decode cX6_ounces 53 = .ok (.iload 4, 2) := by decide +kernel
theorem dX6_ounces_55 : decode cX6_ounces 55 = .ok (.ireturn, 1) := by decide +kernel
theorem dX6_wear_0 : decode cX6_wear 0 = .ok (.aload_n 0, 1) := by decide +kernel
theorem dX6_wear_1 : decode cX6_wear 1 = .ok (.getfield 7, 3) := by decide +kernel
theorem dX6_wear_4 : decode cX6_wear 4 = .ok (.iload_n 2, 1) := by decide +kernel
theorem dX6_wear_5 : decode cX6_wear 5 = .ok (.iaload, 1) := by decide +kernel
theorem dX6_wear_6 : decode cX6_wear 6 = .ok (.iconst 2, 1) := by decide +kernel
theorem dX6_wear_7 : decode cX6_wear 7 = .ok (.if_icmp .ne 7, 3) := by decide +kernel
theorem dX6_wear_10 : decode cX6_wear 10 = .ok (.iconst 1, 1) := by decide +kernel
theorem dX6_wear_11 : decode cX6_wear 11 = .ok (.goto 4, 3) := by decide +kernel
theorem dX6_wear_14 : decode cX6_wear 14 = .ok (.iconst 0, 1) := by decide +kernel
theorem dX6_wear_15 : decode cX6_wear 15 = .ok (.aload_n 0, 1) := by decide +kernel
theorem dX6_wear_16 : decode cX6_wear 16 = .ok (.getfield 7, 3) := by decide +kernel
theorem dX6_wear_19 : decode cX6_wear 19 = .ok (.iload_n 1, 1) := by decide +kernel
theorem dX6_wear_20 : decode cX6_wear 20 = .ok (.iaload, 1) := by decide +kernel
theorem dX6_wear_21 : decode cX6_wear 21 = .ok (.iconst 1, 1) := by decide +kernel
theorem dX6_wear_22 : decode cX6_wear 22 = .ok (.if_icmp .ne 7, 3) := by decide +kernel
theorem dX6_wear_25 : decode cX6_wear 25 = .ok (.iconst 1, 1) := by decide +kernel
theorem dX6_wear_26 : decode cX6_wear 26 = .ok (.goto 18, 3) := by decide +kernel
theorem dX6_wear_29 : decode cX6_wear 29 = .ok (.aload_n 0, 1) := by decide +kernel
theorem dX6_wear_30 : decode cX6_wear 30 = .ok (.getfield 7, 3) := by decide +kernel
theorem dX6_wear_33 : decode cX6_wear 33 = .ok (.iload_n 1, 1) := by decide +kernel
theorem dX6_wear_34 : decode cX6_wear 34 = .ok (.iaload, 1) := by decide +kernel
theorem dX6_wear_35 : decode cX6_wear 35 = .ok (.iconst 4, 1) := by decide +kernel
theorem dX6_wear_36 : decode cX6_wear 36 = .ok (.if_icmp .ne 7, 3) := by decide +kernel
theorem dX6_wear_39 : decode cX6_wear 39 = .ok (.iconst 2, 1) := by decide +kernel
theorem dX6_wear_40 : decode cX6_wear 40 = .ok (.goto 4, 3) := by decide +kernel
theorem dX6_wear_43 : decode cX6_wear 43 = .ok (.iconst 0, 1) := by decide +kernel
theorem dX6_wear_44 : decode cX6_wear 44 = .ok (.iadd, 1) := by decide +kernel
theorem dX6_wear_45 : decode cX6_wear 45 = .ok (.istore_n 3, 1) := by decide +kernel
theorem dX6_wear_46 : decode cX6_wear 46 = .ok (.aload_n 0, 1) := by decide +kernel
theorem dX6_wear_47 : decode cX6_wear 47 = .ok (.getfield 13, 3) := by decide +kernel
theorem dX6_wear_50 : decode cX6_wear 50 = .ok (.iload_n 2, 1) := by decide +kernel
theorem dX6_wear_51 : decode cX6_wear 51 = .ok (.aload_n 0, 1) := by decide +kernel
theorem dX6_wear_52 : decode cX6_wear 52 = .ok (.getfield 13, 3) := by decide +kernel
theorem dX6_wear_55 : decode cX6_wear 55 = .ok (.iload_n 2, 1) := by decide +kernel
theorem dX6_wear_56 : decode cX6_wear 56 = .ok (.iaload, 1) := by decide +kernel
theorem dX6_wear_57 : decode cX6_wear 57 = .ok (.iload_n 3, 1) := by decide +kernel
theorem dX6_wear_58 : decode cX6_wear 58 = .ok (.isub, 1) := by decide +kernel
theorem dX6_wear_59 : decode cX6_wear 59 = .ok (.iconst 1, 1) := by decide +kernel
theorem dX6_wear_60 : decode cX6_wear 60 = .ok (.if_icmp .ge 7, 3) := by decide +kernel
theorem dX6_wear_63 : decode cX6_wear 63 = .ok (.iconst 1, 1) := by decide +kernel
theorem dX6_wear_64 : decode cX6_wear 64 = .ok (.goto 11, 3) := by decide +kernel
theorem dX6_wear_67 : decode cX6_wear 67 = .ok (.aload_n 0, 1) := by decide +kernel
theorem dX6_wear_68 : decode cX6_wear 68 = .ok (.getfield 13, 3) := by decide +kernel
theorem dX6_wear_71 : decode cX6_wear 71 = .ok (.iload_n 2, 1) := by decide +kernel
theorem dX6_wear_72 : decode cX6_wear 72 = .ok (.iaload, 1) := by decide +kernel
theorem dX6_wear_73 : decode cX6_wear 73 = .ok (.iload_n 3, 1) := by decide +kernel
theorem dX6_wear_74 : decode cX6_wear 74 = .ok (.isub, 1) := by decide +kernel
theorem dX6_wear_75 : decode cX6_wear 75 = .ok (.iastore, 1) := by decide +kernel
theorem dX6_wear_76 : decode cX6_wear 76 = .ok (.return_, 1) := by decide +kernel
set_option maxRecDepth 20000 in
theorem ggX6_isSale_X6_isHouse : GoodIn wsX6_isSale wsX6_isHouse := goodIn_r _ [5, 6, 7, 8, 4, 9, 10, 11, 12, 13, 14, 15, 16, 17, 18, 19, 20, 21, 22, 23, 24, 25, 26, 27, 28, 29, 30, 31, 32, 33, 34, 35, 36, 37, 38, 39] (by decide +kernel) (by decide +kernel)
set_option maxRecDepth 20000 in
theorem gX6_isSale_X6_isHouse : GoodIn wsX6_isSale (wsV RX6 94 RX6 yX6_isHouse wsX6_isHouse) := goodIn_app (goodIn_of _ (by decide +kernel)) ggX6_isSale_X6_isHouse
theorem dX6_isSale_0 : decode cX6_isSale 0 = .ok (.aload_n 0, 1) := by decide +kernel
theorem dX6_isSale_1 : decode cX6_isSale 1 = .ok (.iload_n 1, 1) := by decide +kernel
theorem dX6_isSale_2 : decode cX6_isSale 2 = .ok (.invokevirtual 94, 3) := by decide +kernel
theorem dX6_isSale_5 : decode cX6_isSale 5 = .ok (.ifCond .eq 28, 3) := by decide +kernel
theorem dX6_isSale_8 : decode cX6_isSale 8 = .ok (.aload_n 0, 1) := by decide +kernel
theorem dX6_isSale_9 : decode cX6_isSale 9 = .ok (.iload_n 2, 1) := by decide +kernel
theorem dX6_isSale_10 : decode cX6_isSale 10 = .ok (.invokevirtual 94, 3) := by decide +kernel
theorem dX6_isSale_13 : decode cX6_isSale 13 = .ok (.ifCond .eq 20, 3) := by decide +kernel
theorem dX6_isSale_16 : decode cX6_isSale 16 = .ok (.aload_n 0, 1) := by decide +kernel
theorem dX6_isSale_17 : decode cX6_isSale 17 = .ok (.iload_n 3, 1) := by decide +kernel
theorem dX6_isSale_18 : decode cX6_isSale 18 = .ok (.invokevirtual 94, 3) := by decide +kernel
theorem dX6_isSale_21 : decode cX6_isSale 21 = .ok (.ifCond .eq 12, 3) := by decide +kernel
theorem dX6_isSale_24 : decode cX6_isSale 24 = .ok (.iload_n 1, 1) := by decide +kernel
theorem dX6_isSale_25 : decode cX6_isSale 25 = .ok (.iload_n 2, 1) := by decide +kernel
theorem dX6_isSale_26 : decode cX6_isSale 26 = .ok (.if_icmp .eq 7, 3) := by decide +kernel
theorem dX6_isSale_29 : decode cX6_isSale 29 = .ok (.iconst 1, 1) := by decide +kernel
theorem dX6_isSale_30 : decode cX6_isSale 30 = .ok (.goto 4, 3) := by decide +kernel
theorem dX6_isSale_33 : decode cX6_isSale 33 = .ok (.iconst 0, 1) := by decide +kernel
theorem dX6_isSale_34 : decode cX6_isSale 34 = .ok (.ireturn, 1) := by decide +kernel
set_option maxRecDepth 20000 in
theorem ggX6_measure_X6_isSale : GoodIn wsX6_measure wsX6_isSale := goodIn_r _ [6, 7, 8, 9, 5, 10, 11, 12, 13, 14, 22, 23, 24, 25, 26, 27, 28, 29, 30, 31, 32, 33, 34, 35, 36, 37, 38, 39, 40, 41, 42, 43, 44, 45, 46, 47, 48, 49, 50, 51] (by decide +kernel) (by decide +kernel)
set_option maxRecDepth 20000 in
theorem gX6_measure_X6_isSale : GoodIn wsX6_measure (wsV RX6 102 RX6 yX6_isSale wsX6_isSale) := goodIn_app (goodIn_of _ (by decide +kernel)) ggX6_measure_X6_isSale
set_option maxRecDepth 20000 in
theorem ggX6_measure_X6_ounces : GoodIn wsX6_measure wsX6_ounces := goodIn_r _ [18, 19, 20, 21, 22, 23, 24, 25, 26, 27, 28, 29, 30, 31, 32, 33, 34, 35, 36, 37, 38, 39, 40, 41, 42, 43, 44, 45, 46, 47, 48, 49, 50, 51] (by decide +kernel) (by decide +kernel)
set_option maxRecDepth 20000 in
theorem gX6_measure_X6_ounces : GoodIn wsX6_measure (wsV RX6 105 RX6 yX6_ounces wsX6_ounces) := goodIn_app (goodIn_of _ (by decide +kernel)) ggX6_measure_X6_ounces
theorem dX6_measure_0 : decode cX6_measure 0 = .ok (.aload_n 0, 1) := by decide +kernel
theorem dX6_measure_1 : decode cX6_measure 1 = .ok (.iload_n 1, 1) := by decide +kernel
theorem dX6_measure_2 : decode cX6_measure 2 = .ok (.iload_n 2, 1) := by decide +kernel
theorem dX6_measure_3 : decode cX6_measure 3 = .ok (.iload_n 3, 1) := by decide +kernel
theorem dX6_measure_4 : decode cX6_measure 4 = .ok (.invokevirtual 102, 3) := by decide +kernel
theorem dX6_measure_7 : decode cX6_measure 7 = .ok (.ifCond .eq 16, 3) := by decide +kernel
theorem dX6_measure_10 : decode cX6_measure 10 = .ok (.aload_n 0, 1) := by decide +kernel
theorem dX6_measure_11 : decode cX6_measure 11 = .ok (.iload_n 1, 1) := by decide +kernel
theorem dX6_measure_12 : decode cX6_measure 12 = .ok (.iload_n 3, 1) := by decide +kernel
theorem dX6_measure_13 : decode cX6_measure 13 = .ok (.aload_n 0, 1) := by decide +kernel
theorem dX6_measure_14 : decode cX6_measure 14 = .ok (.getfield 82, 3) := by decide +kernel
theorem dX6_measure_17 : decode cX6_measure 17 = .ok (.invokevirtual 105, 3) := by decide +kernel
theorem dX6_measure_20 : decode cX6_measure 20 = .ok (.goto 5, 3) := by decide +kernel
theorem dX6_measure_23 : decode cX6_measure 23 = .ok (.bipush (-101), 2) := by decide +kernel
theorem dX6_measure_25 : decode cX6_measure 25 = .ok (.ireturn, 1) := by decide +kernel
set_option maxRecDepth 20000 in
theorem ggX6_buy_X6_isSale : GoodIn wsX6_buy wsX6_isSale := goodIn_r _ [12, 13, 14, 15, 11, 16, 17, 18, 19, 20, 32, 33, 34, 35, 36, 37, 38, 39, 40, 41, 42, 43, 44, 45, 46, 47, 48, 49, 50, 51, 52, 53, 54, 55, 56, 57, 58, 59, 60, 61] (by decide +kernel) (by decide +kernel)
set_option maxRecDepth 20000 in
theorem gX6_buy_X6_isSale : GoodIn wsX6_buy (wsV RX6 102 RX6 yX6_isSale wsX6_isSale) := goodIn_app (goodIn_of _ (by decide +kernel)) ggX6_buy_X6_isSale
set_option maxRecDepth 20000 in
theorem ggX6_buy_X6_ounces : GoodIn wsX6_buy wsX6_ounces := goodIn_r _ [24, 25, 26, 27, 32, 33, 34, 35, 36, 37, 38, 39, 40, 41, 42, 43, 44, 45, 46, 47, 48, 49, 50, 51, 52, 53, 54, 55, 56, 57, 58, 59, 60, 61] (by decide +kernel) (by decide +kernel)
set_option maxRecDepth 20000 in
theorem gX6_buy_X6_ounces : GoodIn wsX6_buy (wsV RX6 105 RX6 yX6_ounces wsX6_ounces) := goodIn_app (goodIn_of _ (by decide +kernel)) ggX6_buy_X6_ounces
set_option maxRecDepth 20000 in
theorem ggX6_buy_X6_wear : GoodIn wsX6_buy wsX6_wear := goodIn_r _ [31, 27, 25, 32, 33, 34, 35, 36, 37, 38, 39, 40, 41, 42, 43, 44, 45, 46, 47, 48, 49, 50, 51, 52, 53, 54, 55, 56, 57, 58, 59, 60, 61] (by decide +kernel) (by decide +kernel)
set_option maxRecDepth 20000 in
theorem gX6_buy_X6_wear : GoodIn wsX6_buy (wsV RX6 109 RX6 yX6_wear wsX6_wear) := goodIn_app (goodIn_of _ (by decide +kernel)) ggX6_buy_X6_wear
theorem dX6_buy_0 : decode cX6_buy 0 = .ok (.aload_n 0, 1) := by decide +kernel
theorem dX6_buy_1 : decode cX6_buy 1 = .ok (.iload_n 1, 1) := by decide +kernel
theorem dX6_buy_2 : decode cX6_buy 2 = .ok (.iload_n 2, 1) := by decide +kernel
theorem dX6_buy_3 : decode cX6_buy 3 = .ok (.iload_n 3, 1) := by decide +kernel
theorem dX6_buy_4 : decode cX6_buy 4 = .ok (.invokevirtual 102, 3) := by decide +kernel
theorem dX6_buy_7 : decode cX6_buy 7 = .ok (.ifCond .ne 6, 3) := by decide +kernel
theorem dX6_buy_10 : decode cX6_buy 10 = .ok (.bipush (-101), 2) := by decide +kernel
theorem dX6_buy_12 : decode cX6_buy 12 = .ok (.ireturn, 1) := by decide +kernel
theorem dX6_buy_13 : decode cX6_buy 13 = .ok (.aload_n 0, 1) := by decide +kernel
theorem dX6_buy_14 : decode cX6_buy 14 = .ok (.getfield 85, 3) := by decide +kernel
theorem dX6_buy_17 : decode cX6_buy 17 = .ok (.bipush 100, 2) := by decide +kernel
theorem dX6_buy_19 : decode cX6_buy 19 = .ok (.if_icmp .ne 6, 3) := by decide +kernel
theorem dX6_buy_22 : decode cX6_buy 22 = .ok (.bipush (-104), 2) := by decide +kernel
theorem dX6_buy_24 : decode cX6_buy 24 = .ok (.ireturn, 1) := by decide +kernel
theorem dX6_buy_25 : decode cX6_buy 25 = .ok (.aload_n 0, 1) := by decide +kernel
theorem dX6_buy_26 : decode cX6_buy 26 = .ok (.iload_n 1, 1) := by decide +kernel
theorem dX6_buy_27 : decode cX6_buy 27 = .ok (.iload_n 3, 1) := by decide +kernel
theorem dX6_buy_28 : decode cX6_buy 28 = .ok (.aload_n 0, 1) := by decide +kernel
theorem dX6_buy_29 : decode cX6_buy 29 = .ok (.getfield 82, 3) := by decide +kernel
theorem dX6_buy_32 : decode cX6_buy 32 = .ok (.invokevirtual 105, 3) := by decide +kernel
theorem dX6_buy_35 : decode cX6_buy 35 = .ok (.istore 4, 2) := by decide +kernel
theorem dX6_buy_37 : decode cX6_buy 37 = .ok (.aload_n 0, 1) := by decide +kernel
theorem dX6_buy_38 : decode cX6_buy 38 = .ok (.getfield 19, 3) := by decide +kernel
theorem dX6_buy_41 : decode cX6_buy 41 = .ok (.iload_n 1, 1) := by decide +kernel
theorem dX6_buy_42 : decode cX6_buy 42 = .ok (.dup2, 1) := by decide +kernel
theorem dX6_buy_43 : decode cX6_buy 43 = .ok (.iaload, 1) := by decide +kernel
theorem dX6_buy_44 : decode cX6_buy 44 = .ok (.iload 4, 2) := by decide +kernel
theorem dX6_buy_46 : decode cX6_buy 46 = .ok (.iadd, 1) := by decide +kernel
theorem dX6_buy_47 : decode cX6_buy 47 = .ok (.iastore, 1) := by decide +kernel
theorem dX6_buy_48 : decode cX6_buy 48 = .ok (.aload_n 0, 1) := by decide +kernel
theorem dX6_buy_49 : decode cX6_buy 49 = .ok (.getfield 22, 3) := by decide +kernel
theorem dX6_buy_52 : decode cX6_buy 52 = .ok (.iload_n 1, 1) := by decide +kernel
theorem dX6_buy_53 : decode cX6_buy 53 = .ok (.dup2, 1) := by decide +kernel
theorem dX6_buy_54 : decode cX6_buy 54 = .ok (.iaload, 1) := by decide +kernel
theorem dX6_buy_55 : decode cX6_buy 55 = .ok (.aload_n 0, 1) := by decide +kernel
theorem dX6_buy_56 : decode cX6_buy 56 = .ok (.getfield 16, 3) := by decide +kernel
theorem dX6_buy_59 : decode cX6_buy 59 = .ok (.iload_n 2, 1) := by decide +kernel
theorem dX6_buy_60 : decode cX6_buy 60 = .ok (.iaload, 1) := by decide +kernel
theorem dX6_buy_61 : decode cX6_buy 61 = .ok (.iadd, 1) := by decide +kernel
theorem dX6_buy_62 : decode cX6_buy 62 = .ok (.iastore, 1) := by decide +kernel
theorem dX6_buy_63 : decode cX6_buy 63 = .ok (.aload_n 0, 1) := by decide +kernel
theorem dX6_buy_64 : decode cX6_buy 64 = .ok (.getfield 25, 3) := by decide +kernel
theorem dX6_buy_67 : decode cX6_buy 67 = .ok (.iload_n 2, 1) := by decide +kernel
theorem dX6_buy_68 : decode cX6_buy 68 = .ok (.dup2, 1) := by decide +kernel
theorem dX6_buy_69 : decode cX6_buy 69 = .ok (.iaload, 1) := by decide +kernel
theorem dX6_buy_70 : decode cX6_buy 70 = .ok (.iconst 1, 1) := by decide +kernel
theorem dX6_buy_71 : decode cX6_buy 71 = .ok (.iadd, 1) := by decide +kernel
theorem dX6_buy_72 : decode cX6_buy 72 = .ok (.iastore, 1) := by decide +kernel
theorem dX6_buy_73 : decode cX6_buy 73 = .ok (.aload_n 0, 1) := by decide +kernel
theorem dX6_buy_74 : decode cX6_buy 74 = .ok (.getfield 28, 3) := by decide +kernel
theorem dX6_buy_77 : decode cX6_buy 77 = .ok (.iload_n 3, 1) := by decide +kernel
theorem dX6_buy_78 : decode cX6_buy 78 = .ok (.dup2, 1) := by decide +kernel
theorem dX6_buy_79 : decode cX6_buy 79 = .ok (.iaload, 1) := by decide +kernel
theorem dX6_buy_80 : decode cX6_buy 80 = .ok (.iconst 1, 1) := by decide +kernel
theorem dX6_buy_81 : decode cX6_buy 81 = .ok (.iadd, 1) := by decide +kernel
theorem dX6_buy_82 : decode cX6_buy 82 = .ok (.iastore, 1) := by decide +kernel
theorem dX6_buy_83 : decode cX6_buy 83 = .ok (.aload_n 0, 1) := by decide +kernel
theorem dX6_buy_84 : decode cX6_buy 84 = .ok (.iload_n 2, 1) := by decide +kernel
theorem dX6_buy_85 : decode cX6_buy 85 = .ok (.iload_n 3, 1) := by decide +kernel
theorem dX6_buy_86 : decode cX6_buy 86 = .ok (.invokevirtual 109, 3) := by decide +kernel
theorem dX6_buy_89 : decode cX6_buy 89 = .ok (.aload_n 0, 1) := by decide +kernel
theorem dX6_buy_90 : decode cX6_buy 90 = .ok (.dup, 1) := by decide +kernel
theorem dX6_buy_91 : decode cX6_buy 91 = .ok (.getfield 85, 3) := by decide +kernel
theorem dX6_buy_94 : decode cX6_buy 94 = .ok (.iconst 1, 1) := by decide +kernel
theorem dX6_buy_95 : decode cX6_buy 95 = .ok (.iadd, 1) := by decide +kernel
theorem dX6_buy_96 : decode cX6_buy 96 = .ok (.putfield 85, 3) := by decide +kernel
theorem dX6_buy_99 : decode cX6_buy 99 = .ok (.iload 4, 2) := by decide +kernel
theorem dX6_buy_101 : decode cX6_buy 101 = .ok (.ireturn, 1) := by decide +kernel
theorem dX6_hour_0 : decode cX6_hour 0 = .ok (.aload_n 0, 1) := by decide +kernel
theorem dX6_hour_1 : decode cX6_hour 1 = .ok (.getfield 73, 3) := by decide +kernel
theorem dX6_hour_4 : decode cX6_hour 4 = .ok (.ifCond .ne 6, 3) := by decide +kernel
theorem dX6_hour_7 : decode cX6_hour 7 = .ok (.bipush (-103), 2) := by decide +kernel
theorem dX6_hour_9 : decode cX6_hour 9 = .ok (.ireturn, 1) := by decide +kernel
theorem dX6_hour_10 : decode cX6_hour 10 = .ok (.aload_n 0, 1) := by decide +kernel
theorem dX6_hour_11 : decode cX6_hour 11 = .ok (.dup, 1) := by decide +kernel
theorem dX6_hour_12 : decode cX6_hour 12 = .ok (.getfield 82, 3) := by decide +kernel
theorem dX6_hour_15 : decode cX6_hour 15 = .ok (.iconst 1, 1) := by decide +kernel
theorem dX6_hour_16 : decode cX6_hour 16 = .ok (.iadd, 1) := by decide +kernel
theorem dX6_hour_17 : decode cX6_hour 17 = .ok (.putfield 82, 3) := by decide +kernel
theorem dX6_hour_20 : decode cX6_hour 20 = .ok (.aload_n 0, 1) := by decide +kernel
theorem dX6_hour_21 : decode cX6_hour 21 = .ok (.getfield 82, 3) := by decide +kernel
theorem dX6_hour_24 : decode cX6_hour 24 = .ok (.ireturn, 1) := by decide +kernel
theorem dX6_save_0 : decode cX6_save 0 = .ok (.iconst 0, 1) := by decide +kernel
theorem dX6_save_1 : decode cX6_save 1 = .ok (.istore_n 1, 1) := by decide +kernel
theorem dX6_save_2 : decode cX6_save 2 = .ok (.iload_n 1, 1) := by decide +kernel
theorem dX6_save_3 : decode cX6_save 3 = .ok (.iconst 4, 1) := by decide +kernel
theorem dX6_save_4 : decode cX6_save 4 = .ok (.if_icmp .ge 21, 3) := by decide +kernel
theorem dX6_save_7 : decode cX6_save 7 = .ok (.aload_n 0, 1) := by decide +kernel
theorem dX6_save_8 : decode cX6_save 8 = .ok (.getfield 38, 3) := by decide +kernel
theorem dX6_save_11 : decode cX6_save 11 = .ok (.iload_n 1, 1) := by decide +kernel
theorem dX6_save_12 : decode cX6_save 12 = .ok (.aload_n 0, 1) := by decide +kernel
theorem dX6_save_13 : decode cX6_save 13 = .ok (.getfield 13, 3) := by decide +kernel
theorem dX6_save_16 : decode cX6_save 16 = .ok (.iload_n 1, 1) := by decide +kernel
theorem dX6_save_17 : decode cX6_save 17 = .ok (.iaload, 1) := by decide +kernel
theorem dX6_save_18 : decode cX6_save 18 = .ok (.iastore, 1) := by decide +kernel
theorem dX6_save_19 : decode cX6_save 19 = .ok (.iinc 1 1, 3) := by decide +kernel
theorem dX6_save_22 : decode cX6_save 22 = .ok (.goto (-20), 3) := by decide +kernel
theorem dX6_save_25 : decode cX6_save 25 = .ok (.return_, 1) := by decide +kernel
theorem dX6_load_0 : decode cX6_load 0 = .ok (.iconst 0, 1) := by decide +kernel
theorem dX6_load_1 : decode cX6_load 1 = .ok (.istore_n 1, 1) := by decide +kernel
theorem dX6_load_2 : decode cX6_load 2 = .ok (.iload_n 1, 1) := by decide +kernel
theorem dX6_load_3 : decode cX6_load 3 = .ok (.iconst 4, 1) := by decide +kernel
theorem dX6_load_4 : decode cX6_load 4 = .ok (.if_icmp .ge 21, 3) := by decide +kernel
theorem dX6_load_7 : decode cX6_load 7 = .ok (.aload_n 0, 1) := by decide +kernel
theorem dX6_load_8 : decode cX6_load 8 = .ok (.getfield 13, 3) := by decide +kernel
theorem dX6_load_11 : decode cX6_load 11 = .ok (.iload_n 1, 1) := by decide +kernel
theorem dX6_load_12 : decode cX6_load 12 = .ok (.aload_n 0, 1) := by decide +kernel
theorem dX6_load_13 : decode cX6_load 13 = .ok (.getfield 38, 3) := by decide +kernel
theorem dX6_load_16 : decode cX6_load 16 = .ok (.iload_n 1, 1) := by decide +kernel
theorem dX6_load_17 : decode cX6_load 17 = .ok (.iaload, 1) := by decide +kernel
theorem dX6_load_18 : decode cX6_load 18 = .ok (.iastore, 1) := by decide +kernel
theorem dX6_load_19 : decode cX6_load 19 = .ok (.iinc 1 1, 3) := by decide +kernel
theorem dX6_load_22 : decode cX6_load 22 = .ok (.goto (-20), 3) := by decide +kernel
theorem dX6_load_25 : decode cX6_load 25 = .ok (.return_, 1) := by decide +kernel
set_option maxRecDepth 20000 in
theorem ggX6_paidBy_X6_isSale : GoodIn wsX6_paidBy wsX6_isSale := goodIn_r _ [8, 9, 10, 11, 7, 12, 13, 14, 15, 16, 33, 34, 35, 36, 37, 38, 39, 40, 41, 42, 43, 44, 45, 46, 47, 48, 49, 50, 51, 52, 53, 54, 55, 56, 57, 58, 59, 60, 61, 62] (by decide +kernel) (by decide +kernel)
set_option maxRecDepth 20000 in
theorem gX6_paidBy_X6_isSale : GoodIn wsX6_paidBy (wsV RX6 102 RX6 yX6_isSale wsX6_isSale) := goodIn_app (goodIn_of _ (by decide +kernel)) ggX6_paidBy_X6_isSale
set_option maxRecDepth 20000 in
theorem ggX6_paidBy_X6_ounces : GoodIn wsX6_paidBy wsX6_ounces := goodIn_r _ [20, 21, 22, 23, 33, 34, 35, 36, 37, 38, 39, 40, 41, 42, 43, 44, 45, 46, 47, 48, 49, 50, 51, 52, 53, 54, 55, 56, 57, 58, 59, 60, 61, 62] (by decide +kernel) (by decide +kernel)
set_option maxRecDepth 20000 in
theorem gX6_paidBy_X6_ounces : GoodIn wsX6_paidBy (wsV RX6 105 RX6 yX6_ounces wsX6_ounces) := goodIn_app (goodIn_of _ (by decide +kernel)) ggX6_paidBy_X6_ounces
set_option maxRecDepth 20000 in
theorem ggX6_paidBy_X6_wear : GoodIn wsX6_paidBy wsX6_wear := goodIn_r _ [27, 23, 21, 33, 34, 35, 36, 37, 38, 39, 40, 41, 42, 43, 44, 45, 46, 47, 48, 49, 50, 51, 52, 53, 54, 55, 56, 57, 58, 59, 60, 61, 62] (by decide +kernel) (by decide +kernel)
set_option maxRecDepth 20000 in
theorem gX6_paidBy_X6_wear : GoodIn wsX6_paidBy (wsV RX6 109 RX6 yX6_wear wsX6_wear) := goodIn_app (goodIn_of _ (by decide +kernel)) ggX6_paidBy_X6_wear
set_option maxRecDepth 20000 in
theorem ggX6_paidBy_X6_load : GoodIn wsX6_paidBy wsX6_load := goodIn_r _ [31, 21, 32, 33, 34, 35, 36, 37, 38, 39, 40, 41, 42, 43, 44, 45, 46, 47, 48, 49, 50, 51, 52, 53, 54, 55, 56, 57, 58, 59, 60, 61, 62] (by decide +kernel) (by decide +kernel)
set_option maxRecDepth 20000 in
theorem gX6_paidBy_X6_load : GoodIn wsX6_paidBy (wsV RX6 113 RX6 yX6_load wsX6_load) := goodIn_app (goodIn_of _ (by decide +kernel)) ggX6_paidBy_X6_load
theorem dX6_paidBy_0 : decode cX6_paidBy 0 = .ok (.iconst 0, 1) := by decide +kernel
theorem dX6_paidBy_1 : decode cX6_paidBy 1 = .ok (.istore 5, 2) := by decide +kernel
theorem dX6_paidBy_3 : decode cX6_paidBy 3 = .ok (.iconst 0, 1) := by decide +kernel
theorem dX6_paidBy_4 : decode cX6_paidBy 4 = .ok (.istore 6, 2) := by decide +kernel
theorem dX6_paidBy_6 : decode cX6_paidBy 6 = .ok (.iconst 1, 1) := by decide +kernel
theorem dX6_paidBy_7 : decode cX6_paidBy 7 = .ok (.istore 7, 2) := by decide +kernel
theorem dX6_paidBy_9 : decode cX6_paidBy 9 = .ok (.iload_n 3, 1) := by decide +kernel
theorem dX6_paidBy_10 : decode cX6_paidBy 10 = .ok (.iconst 1, 1) := by decide +kernel
theorem dX6_paidBy_11 : decode cX6_paidBy 11 = .ok (.isub, 1) := by decide +kernel
theorem dX6_paidBy_12 : decode cX6_paidBy 12 = .ok (.istore 8, 2) := by decide +kernel
theorem dX6_paidBy_14 : decode cX6_paidBy 14 = .ok (.iload 8, 2) := by decide +kernel
theorem dX6_paidBy_16 : decode cX6_paidBy 16 = .ok (.ifCond .lt 98, 3) := by decide +kernel
theorem dX6_paidBy_19 : decode cX6_paidBy 19 = .ok (.iload 4, 2) := by decide +kernel
theorem dX6_paidBy_21 : decode cX6_paidBy 21 = .ok (.iconst 4, 1) := by decide +kernel
theorem dX6_paidBy_22 : decode cX6_paidBy 22 = .ok (.iload 8, 2) := by decide +kernel
theorem dX6_paidBy_24 : decode cX6_paidBy 24 = .ok (.imul, 1) := by decide +kernel
theorem dX6_paidBy_25 : decode cX6_paidBy 25 = .ok (.ishr, 1) := by decide +kernel
theorem dX6_paidBy_26 : decode cX6_paidBy 26 = .ok (.bipush 15, 2) := by decide +kernel
theorem dX6_paidBy_28 : decode cX6_paidBy 28 = .ok (.iand, 1) := by decide +kernel
theorem dX6_paidBy_29 : decode cX6_paidBy 29 = .ok (.istore 9, 2) := by decide +kernel
theorem dX6_paidBy_31 : decode cX6_paidBy 31 = .ok (.iload 9, 2) := by decide +kernel
theorem dX6_paidBy_33 : decode cX6_paidBy 33 = .ok (.iconst 4, 1) := by decide +kernel
theorem dX6_paidBy_34 : decode cX6_paidBy 34 = .ok (.idiv, 1) := by decide +kernel
theorem dX6_paidBy_35 : decode cX6_paidBy 35 = .ok (.istore 10, 2) := by decide +kernel
theorem dX6_paidBy_37 : decode cX6_paidBy 37 = .ok (.iload 9, 2) := by decide +kernel
theorem dX6_paidBy_39 : decode cX6_paidBy 39 = .ok (.iconst 4, 1) := by decide +kernel
theorem dX6_paidBy_40 : decode cX6_paidBy 40 = .ok (.irem, 1) := by decide +kernel
theorem dX6_paidBy_41 : decode cX6_paidBy 41 = .ok (.istore 11, 2) := by decide +kernel
theorem dX6_paidBy_43 : decode cX6_paidBy 43 = .ok (.iload 7, 2) := by decide +kernel
theorem dX6_paidBy_45 : decode cX6_paidBy 45 = .ok (.ifCond .eq 19, 3) := by decide +kernel
theorem dX6_paidBy_48 : decode cX6_paidBy 48 = .ok (.aload_n 0, 1) := by decide +kernel
theorem dX6_paidBy_49 : decode cX6_paidBy 49 = .ok (.iload_n 1, 1) := by decide +kernel
theorem dX6_paidBy_50 : decode cX6_paidBy 50 = .ok (.iload 10, 2) := by decide +kernel
theorem dX6_paidBy_52 : decode cX6_paidBy 52 = .ok (.iload 11, 2) := by decide +kernel
theorem dX6_paidBy_54 : decode cX6_paidBy 54 = .ok (.invokevirtual 102, 3) := by decide +kernel
theorem dX6_paidBy_57 : decode cX6_paidBy 57 = .ok (.ifCond .eq 7, 3) := by decide +kernel
theorem dX6_paidBy_60 : decode cX6_paidBy 60 = .ok (.iconst 1, 1) := by decide +kernel
theorem dX6_paidBy_61 : decode cX6_paidBy 61 = .ok (.goto 4, 3) := by decide +kernel
theorem dX6_paidBy_64 : decode cX6_paidBy 64 = .ok (.iconst 0, 1) := by decide +kernel
theorem dX6_paidBy_65 : decode cX6_paidBy 65 = .ok (.istore 7, 2) := by decide +kernel
theorem dX6_paidBy_67 : decode cX6_paidBy 67 = .ok (.iload 7, 2) := by decide +kernel
theorem dX6_paidBy_69 : decode cX6_paidBy 69 = .ok (.ifCond .eq 39, 3) := by decide +kernel
theorem dX6_paidBy_72 : decode cX6_paidBy 72 = .ok (.iload 5, 2) := by decide +kernel
theorem dX6_paidBy_74 : decode cX6_paidBy 74 = .ok (.aload_n 0, 1) := by decide +kernel
theorem dX6_paidBy_75 : decode cX6_paidBy 75 = .ok (.iload_n 1, 1) := by decide +kernel
theorem dX6_paidBy_76 : decode cX6_paidBy 76 = .ok (.iload 11, 2) := by decide +kernel
theorem dX6_paidBy_78 : decode cX6_paidBy 78 = .ok (.aload_n 0, 1) := by decide +kernel
theorem dX6_paidBy_79 : decode cX6_paidBy 79 = .ok (.getfield 82, 3) := by decide +kernel
theorem dX6_paidBy_82 : decode cX6_paidBy 82 = .ok (.invokevirtual 105, 3) := by decide +kernel
theorem dX6_paidBy_85 : decode cX6_paidBy 85 = .ok (.iadd, 1) := by decide +kernel
theorem dX6_paidBy_86 : decode cX6_paidBy 86 = .ok (.istore 5, 2) := by decide +kernel
theorem dX6_paidBy_88 : decode cX6_paidBy 88 = .ok (.iload 6, 2) := by decide +kernel
theorem dX6_paidBy_90 : decode cX6_paidBy 90 = .ok (.aload_n 0, 1) := by decide +kernel
theorem dX6_paidBy_91 : decode cX6_paidBy 91 = .ok (.getfield 16, 3) := by decide +kernel
theorem dX6_paidBy_94 : decode cX6_paidBy 94 = .ok (.iload 10, 2) := by decide +kernel
theorem dX6_paidBy_96 : decode cX6_paidBy 96 = .ok (.iaload, 1) := by decide +kernel
theorem dX6_paidBy_97 : decode cX6_paidBy 97 = .ok (.iadd, 1) := by decide +kernel
theorem dX6_paidBy_98 : decode cX6_paidBy 98 = .ok (.istore 6, 2) := by decide +kernel
theorem dX6_paidBy_100 : decode cX6_paidBy 100 = .ok (.aload_n 0, 1) := by decide +kernel
theorem dX6_paidBy_101 : decode cX6_paidBy 101 = .ok (.iload 10, 2) := by decide +kernel
theorem dX6_paidBy_103 : decode cX6_paidBy 103 = .ok (.iload 11, 2) := by decide +kernel
theorem dX6_paidBy_105 : decode cX6_paidBy 105 = .ok (.invokevirtual 109, 3) := by decide +kernel
theorem dX6_paidBy_108 : decode cX6_paidBy 108 = .ok (.iinc 8 (-1), 3) := by decide +kernel
theorem dX6_paidBy_111 : decode cX6_paidBy 111 = .ok (.goto (-97), 3) := by decide +kernel
theorem dX6_paidBy_114 : decode cX6_paidBy 114 = .ok (.aload_n 0, 1) := by decide +kernel
theorem dX6_paidBy_115 : decode cX6_paidBy 115 = .ok (.invokevirtual 113, 3) := by decide +kernel
theorem dX6_paidBy_118 : decode cX6_paidBy 118 = .ok (.iload 7, 2) := by decide +kernel
theorem dX6_paidBy_120 : decode cX6_paidBy 120 = .ok (.ifCond .eq 14, 3) := by decide +kernel
theorem dX6_paidBy_123 : decode cX6_paidBy 123 = .ok (.iload 5, 2) := by decide +kernel
theorem dX6_paidBy_125 : decode cX6_paidBy 125 = .ok (.iload_n 2, 1) := by decide +kernel
theorem dX6_paidBy_126 : decode cX6_paidBy 126 = .ok (.if_icmp .lt 8, 3) := by decide +kernel
theorem dX6_paidBy_129 : decode cX6_paidBy 129 = .ok (.iload 6, 2) := by decide +kernel
theorem dX6_paidBy_131 : decode cX6_paidBy 131 = .ok (.goto 5, 3) := by decide +kernel
theorem dX6_paidBy_134 : decode cX6_paidBy 134 = .ok (.ldc 116, 2) := by decide +kernel
theorem dX6_paidBy_136 : decode cX6_paidBy 136 = .ok (.ireturn, 1) := by decide +kernel
set_option maxRecDepth 20000 in
theorem ggX6_planNow_X6_save : GoodIn wsX6_planNow wsX6_save := goodIn_r _ [6, 7, 8, 41, 42, 43, 44, 45, 46, 47, 48, 49, 50, 51, 52, 53, 54, 55, 56, 57, 58, 59, 60, 61, 62, 63, 64, 65, 66, 67, 68, 69, 70] (by decide +kernel) (by decide +kernel)
set_option maxRecDepth 20000 in
theorem gX6_planNow_X6_save : GoodIn wsX6_planNow (wsV RX6 117 RX6 yX6_save wsX6_save) := goodIn_app (goodIn_of _ (by decide +kernel)) ggX6_planNow_X6_save
set_option maxRecDepth 20000 in
theorem ggX6_planNow_X6_paidBy : GoodIn wsX6_planNow wsX6_paidBy := goodIn_r _ [12, 13, 14, 1, 15, 16, 17, 5, 18, 19, 20, 21, 22, 23, 24, 25, 26, 27, 28, 29, 30, 8, 31, 32, 33, 34, 35, 36, 37, 38, 39, 40, 7, 41, 42, 43, 44, 45, 46, 47, 48, 49, 50, 51, 52, 53, 54, 55, 56, 57, 58, 59, 60, 61, 62, 63, 64, 65, 66, 67, 68, 69, 70] (by decide +kernel) (by decide +kernel)
set_option maxRecDepth 20000 in
theorem gX6_planNow_X6_paidBy : GoodIn wsX6_planNow (wsV RX6 120 RX6 yX6_paidBy wsX6_paidBy) := goodIn_app (goodIn_of _ (by decide +kernel)) ggX6_planNow_X6_paidBy
theorem dX6_planNow_0 : decode cX6_planNow 0 = .ok (.aload_n 0, 1) := by decide +kernel
theorem dX6_planNow_1 : decode cX6_planNow 1 = .ok (.invokevirtual 117, 3) := by decide +kernel
theorem dX6_planNow_4 : decode cX6_planNow 4 = .ok (.iconst (-1), 1) := by decide +kernel
theorem dX6_planNow_5 : decode cX6_planNow 5 = .ok (.istore 4, 2) := by decide +kernel
theorem dX6_planNow_7 : decode cX6_planNow 7 = .ok (.iconst 0, 1) := by decide +kernel
theorem dX6_planNow_8 : decode cX6_planNow 8 = .ok (.istore 5, 2) := by decide +kernel
theorem dX6_planNow_10 : decode cX6_planNow 10 = .ok (.ldc 116, 2) := by decide +kernel
theorem dX6_planNow_12 : decode cX6_planNow 12 = .ok (.istore 6, 2) := by decide +kernel
theorem dX6_planNow_14 : decode cX6_planNow 14 = .ok (.iconst 1, 1) := by decide +kernel
theorem dX6_planNow_15 : decode cX6_planNow 15 = .ok (.istore 7, 2) := by decide +kernel
theorem dX6_planNow_17 : decode cX6_planNow 17 = .ok (.iload 7, 2) := by decide +kernel
theorem dX6_planNow_19 : decode cX6_planNow 19 = .ok (.iconst 3, 1) := by decide +kernel
theorem dX6_planNow_20 : decode cX6_planNow 20 = .ok (.if_icmp .gt 89, 3) := by decide +kernel
theorem dX6_planNow_23 : decode cX6_planNow 23 = .ok (.iconst 0, 1) := by decide +kernel
theorem dX6_planNow_24 : decode cX6_planNow 24 = .ok (.istore 8, 2) := by decide +kernel
theorem dX6_planNow_26 : decode cX6_planNow 26 = .ok (.iload 8, 2) := by decide +kernel
theorem dX6_planNow_28 : decode cX6_planNow 28 = .ok (.iconst 1, 1) := by decide +kernel
theorem dX6_planNow_29 : decode cX6_planNow 29 = .ok (.iconst 4, 1) := by decide +kernel
theorem dX6_planNow_30 : decode cX6_planNow 30 = .ok (.iload 7, 2) := by decide +kernel
theorem dX6_planNow_32 : decode cX6_planNow 32 = .ok (.imul, 1) := by decide +kernel
theorem dX6_planNow_33 : decode cX6_planNow 33 = .ok (.ishl, 1) := by decide +kernel
theorem dX6_planNow_34 : decode cX6_planNow 34 = .ok (.if_icmp .ge 69, 3) := by decide +kernel
theorem dX6_planNow_37 : decode cX6_planNow 37 = .ok (.aload_n 0, 1) := by decide +kernel
theorem dX6_planNow_38 : decode cX6_planNow 38 = .ok (.iload_n 1, 1) := by decide +kernel
theorem dX6_planNow_39 : decode cX6_planNow 39 = .ok (.iload_n 2, 1) := by decide +kernel
theorem dX6_planNow_40 : decode cX6_planNow 40 = .ok (.iload 7, 2) := by decide +kernel
theorem dX6_planNow_42 : decode cX6_planNow 42 = .ok (.iload 8, 2) := by decide +kernel
theorem dX6_planNow_44 : decode cX6_planNow 44 = .ok (.invokevirtual 120, 3) := by decide +kernel
theorem dX6_planNow_47 : decode cX6_planNow 47 = .ok (.istore 9, 2) := by decide +kernel
theorem dX6_planNow_49 : decode cX6_planNow 49 = .ok (.iload 9, 2) := by decide +kernel
theorem dX6_planNow_51 : decode cX6_planNow 51 = .ok (.iload 6, 2) := by decide +kernel
theorem dX6_planNow_53 : decode cX6_planNow 53 = .ok (.if_icmp .ge 8, 3) := by decide +kernel
theorem dX6_planNow_56 : decode cX6_planNow 56 = .ok (.iload 8, 2) := by decide +kernel
theorem dX6_planNow_58 : decode cX6_planNow 58 = .ok (.goto 5, 3) := by decide +kernel
theorem dX6_planNow_61 : decode cX6_planNow 61 = .ok (.iload 4, 2) := by decide +kernel
theorem dX6_planNow_63 : decode cX6_planNow 63 = .ok (.istore 4, 2) := by decide +kernel
theorem dX6_planNow_65 : decode cX6_planNow 65 = .ok (.iload 9, 2) := by decide +kernel
theorem dX6_planNow_67 : decode cX6_planNow 67 = .ok (.iload 6, 2) := by decide +kernel
theorem dX6_planNow_69 : decode cX6_planNow 69 = .ok (.if_icmp .ge 8, 3) := by decide +kernel
theorem dX6_planNow_72 : decode cX6_planNow 72 = .ok (.iload 7, 2) := by decide +kernel
theorem dX6_planNow_74 : decode cX6_planNow 74 = .ok (.goto 5, 3) := by decide +kernel
theorem dX6_planNow_77 : decode cX6_planNow 77 = .ok (.iload 5, 2) := by decide +kernel
theorem dX6_planNow_79 : decode cX6_planNow 79 = .ok (.istore 5, 2) := by decide +kernel
theorem dX6_planNow_81 : decode cX6_planNow 81 = .ok (.iload 9, 2) := by decide +kernel
theorem dX6_planNow_83 : decode cX6_planNow 83 = .ok (.iload 6, 2) := by decide +kernel
theorem dX6_planNow_85 : decode cX6_planNow 85 = .ok (.if_icmp .ge 8, 3) := by decide +kernel
theorem dX6_planNow_88 : decode cX6_planNow 88 = .ok (.iload 9, 2) := by decide +kernel
theorem dX6_planNow_90 : decode cX6_planNow 90 = .ok (.goto 5, 3) := by decide +kernel
theorem dX6_planNow_93 : decode cX6_planNow 93 = .ok (.iload 6, 2) := by decide +kernel
theorem dX6_planNow_95 : decode cX6_planNow 95 = .ok (.istore 6, 2) := by decide +kernel
theorem dX6_planNow_97 : decode cX6_planNow 97 = .ok (.iinc 8 1, 3) := by decide +kernel
theorem dX6_planNow_100 : decode cX6_planNow 100 = .ok (.goto (-74), 3) := by decide +kernel
theorem dX6_planNow_103 : decode cX6_planNow 103 = .ok (.iinc 7 1, 3) := by decide +kernel
theorem dX6_planNow_106 : decode cX6_planNow 106 = .ok (.goto (-89), 3) := by decide +kernel
theorem dX6_planNow_109 : decode cX6_planNow 109 = .ok (.iload 4, 2) := by decide +kernel
theorem dX6_planNow_111 : decode cX6_planNow 111 = .ok (.iconst (-1), 1) := by decide +kernel
theorem dX6_planNow_112 : decode cX6_planNow 112 = .ok (.if_icmp .eq 7, 3) := by decide +kernel
theorem dX6_planNow_115 : decode cX6_planNow 115 = .ok (.iload_n 3, 1) := by decide +kernel
theorem dX6_planNow_116 : decode cX6_planNow 116 = .ok (.ifCond .ne 16, 3) := by decide +kernel
theorem dX6_planNow_119 : decode cX6_planNow 119 = .ok (.iload 4, 2) := by decide +kernel
theorem dX6_planNow_121 : decode cX6_planNow 121 = .ok (.iconst (-1), 1) := by decide +kernel
theorem dX6_planNow_122 : decode cX6_planNow 122 = .ok (.if_icmp .ne 7, 3) := by decide +kernel
theorem dX6_planNow_125 : decode cX6_planNow 125 = .ok (.iconst (-1), 1) := by decide +kernel
theorem dX6_planNow_126 : decode cX6_planNow 126 = .ok (.goto 5, 3) := by decide +kernel
theorem dX6_planNow_129 : decode cX6_planNow 129 = .ok (.iload 6, 2) := by decide +kernel
theorem dX6_planNow_131 : decode cX6_planNow 131 = .ok (.ireturn, 1) := by decide +kernel
theorem dX6_planNow_132 : decode cX6_planNow 132 = .ok (.iload_n 3, 1) := by decide +kernel
theorem dX6_planNow_133 : decode cX6_planNow 133 = .ok (.iconst 1, 1) := by decide +kernel
theorem dX6_planNow_134 : decode cX6_planNow 134 = .ok (.if_icmp .ne 6, 3) := by decide +kernel
theorem dX6_planNow_137 : decode cX6_planNow 137 = .ok (.iload 5, 2) := by decide +kernel
theorem dX6_planNow_139 : decode cX6_planNow 139 = .ok (.ireturn, 1) := by decide +kernel
theorem dX6_planNow_140 : decode cX6_planNow 140 = .ok (.iload_n 3, 1) := by decide +kernel
theorem dX6_planNow_141 : decode cX6_planNow 141 = .ok (.bipush 10, 2) := by decide +kernel
theorem dX6_planNow_143 : decode cX6_planNow 143 = .ok (.isub, 1) := by decide +kernel
theorem dX6_planNow_144 : decode cX6_planNow 144 = .ok (.iload 5, 2) := by decide +kernel
theorem dX6_planNow_146 : decode cX6_planNow 146 = .ok (.if_icmp .ge 23, 3) := by decide +kernel
theorem dX6_planNow_149 : decode cX6_planNow 149 = .ok (.iload 4, 2) := by decide +kernel
theorem dX6_planNow_151 : decode cX6_planNow 151 = .ok (.iconst 4, 1) := by decide +kernel
theorem dX6_planNow_152 : decode cX6_planNow 152 = .ok (.iload 5, 2) := by decide +kernel
theorem dX6_planNow_154 : decode cX6_planNow 154 = .ok (.iconst 1, 1) := by decide +kernel
theorem dX6_planNow_155 : decode cX6_planNow 155 = .ok (.isub, 1) := by decide +kernel
theorem dX6_planNow_156 : decode cX6_planNow 156 = .ok (.iload_n 3, 1) := by decide +kernel
theorem dX6_planNow_157 : decode cX6_planNow 157 = .ok (.bipush 10, 2) := by decide +kernel
theorem dX6_planNow_159 : decode cX6_planNow 159 = .ok (.isub, 1) := by decide +kernel
theorem dX6_planNow_160 : decode cX6_planNow 160 = .ok (.isub, 1) := by decide +kernel
theorem dX6_planNow_161 : decode cX6_planNow 161 = .ok (.imul, 1) := by decide +kernel
theorem dX6_planNow_162 : decode cX6_planNow 162 = .ok (.ishr, 1) := by decide +kernel
theorem dX6_planNow_163 : decode cX6_planNow 163 = .ok (.bipush 15, 2) := by decide +kernel
theorem dX6_planNow_165 : decode cX6_planNow 165 = .ok (.iand, 1) := by decide +kernel
theorem dX6_planNow_166 : decode cX6_planNow 166 = .ok (.goto 4, 3) := by decide +kernel
theorem dX6_planNow_169 : decode cX6_planNow 169 = .ok (.iconst (-1), 1) := by decide +kernel
theorem dX6_planNow_170 : decode cX6_planNow 170 = .ok (.istore 7, 2) := by decide +kernel
theorem dX6_planNow_172 : decode cX6_planNow 172 = .ok (.iload 7, 2) := by decide +kernel
theorem dX6_planNow_174 : decode cX6_planNow 174 = .ok (.iconst (-1), 1) := by decide +kernel
theorem dX6_planNow_175 : decode cX6_planNow 175 = .ok (.if_icmp .ne 7, 3) := by decide +kernel
theorem dX6_planNow_178 : decode cX6_planNow 178 = .ok (.iconst (-1), 1) := by decide +kernel
theorem dX6_planNow_179 : decode cX6_planNow 179 = .ok (.goto 15, 3) := by decide +kernel
theorem dX6_planNow_182 : decode cX6_planNow 182 = .ok (.bipush 10, 2) := by decide +kernel
theorem dX6_planNow_184 : decode cX6_planNow 184 = .ok (.iload 7, 2) := by decide +kernel
theorem dX6_planNow_186 : decode cX6_planNow 186 = .ok (.iconst 4, 1) := by decide +kernel
theorem dX6_planNow_187 : decode cX6_planNow 187 = .ok (.idiv, 1) := by decide +kernel
theorem dX6_planNow_188 : decode cX6_planNow 188 = .ok (.imul, 1) := by decide +kernel
theorem dX6_planNow_189 : decode cX6_planNow 189 = .ok (.iload 7, 2) := by decide +kernel
theorem dX6_planNow_191 : decode cX6_planNow 191 = .ok (.iconst 4, 1) := by decide +kernel
theorem dX6_planNow_192 : decode cX6_planNow 192 = .ok (.irem, 1) := by decide +kernel
theorem dX6_planNow_193 : decode cX6_planNow 193 = .ok (.iadd, 1) := by decide +kernel
theorem dX6_planNow_194 : decode cX6_planNow 194 = .ok (.ireturn, 1) := by decide +kernel
set_option maxRecDepth 20000 in
theorem ggX6_plan_X6_isHouse : GoodIn wsX6_plan wsX6_isHouse := goodIn_r _ [6, 7, 8, 9, 5, 10, 46, 47, 48, 49, 50, 51, 52, 53, 54, 55, 56, 57, 58, 59, 60, 61, 62, 63, 64, 65, 66, 67, 68, 69, 70, 71, 72, 73, 74, 75] (by decide +kernel) (by decide +kernel)
set_option maxRecDepth 20000 in
theorem gX6_plan_X6_isHouse : GoodIn wsX6_plan (wsV RX6 94 RX6 yX6_isHouse wsX6_isHouse) := goodIn_app (goodIn_of _ (by decide +kernel)) ggX6_plan_X6_isHouse
set_option maxRecDepth 20000 in
theorem ggX6_plan_X6_within : GoodIn wsX6_plan wsX6_within := goodIn_r _ [10] (by decide +kernel) (by decide +kernel)
set_option maxRecDepth 20000 in
theorem gX6_plan_X6_within : GoodIn wsX6_plan (va_wsS RX6 44 yX6_within wsX6_within) := goodIn_app (goodIn_of _ (by decide +kernel)) ggX6_plan_X6_within
set_option maxRecDepth 20000 in
theorem ggX6_plan_X6_planNow : GoodIn wsX6_plan wsX6_planNow := goodIn_r _ [14, 15, 16, 17, 18, 5, 19, 20, 21, 22, 23, 24, 25, 26, 27, 28, 29, 30, 31, 2, 3, 4, 6, 7, 8, 9, 10, 32, 33, 34, 35, 36, 37, 38, 39, 40, 41, 42, 43, 44, 45, 46, 47, 48, 49, 50, 51, 52, 53, 54, 55, 56, 57, 58, 59, 60, 61, 62, 63, 64, 65, 66, 67, 68, 69, 70, 71, 72, 73, 74, 75] (by decide +kernel) (by decide +kernel)
set_option maxRecDepth 20000 in
theorem gX6_plan_X6_planNow : GoodIn wsX6_plan (wsV RX6 127 RX6 yX6_planNow wsX6_planNow) := goodIn_app (goodIn_of _ (by decide +kernel)) ggX6_plan_X6_planNow
theorem dX6_plan_0 : decode cX6_plan 0 = .ok (.aload_n 0, 1) := by decide +kernel
theorem dX6_plan_1 : decode cX6_plan 1 = .ok (.iload_n 1, 1) := by decide +kernel
theorem dX6_plan_2 : decode cX6_plan 2 = .ok (.invokevirtual 94, 3) := by decide +kernel
theorem dX6_plan_5 : decode cX6_plan 5 = .ok (.ifCond .ne 6, 3) := by decide +kernel
theorem dX6_plan_8 : decode cX6_plan 8 = .ok (.bipush (-101), 2) := by decide +kernel
theorem dX6_plan_10 : decode cX6_plan 10 = .ok (.ireturn, 1) := by decide +kernel
theorem dX6_plan_11 : decode cX6_plan 11 = .ok (.iload_n 2, 1) := by decide +kernel
theorem dX6_plan_12 : decode cX6_plan 12 = .ok (.iconst 1, 1) := by decide +kernel
theorem dX6_plan_13 : decode cX6_plan 13 = .ok (.bipush 60, 2) := by decide +kernel
theorem dX6_plan_15 : decode cX6_plan 15 = .ok (.invokestatic 44, 3) := by decide +kernel
theorem dX6_plan_18 : decode cX6_plan 18 = .ok (.ifCond .eq 23, 3) := by decide +kernel
theorem dX6_plan_21 : decode cX6_plan 21 = .ok (.iload_n 3, 1) := by decide +kernel
theorem dX6_plan_22 : decode cX6_plan 22 = .ok (.iconst 0, 1) := by decide +kernel
theorem dX6_plan_23 : decode cX6_plan 23 = .ok (.iconst 1, 1) := by decide +kernel
theorem dX6_plan_24 : decode cX6_plan 24 = .ok (.invokestatic 44, 3) := by decide +kernel
theorem dX6_plan_27 : decode cX6_plan 27 = .ok (.ifCond .ne 17, 3) := by decide +kernel
theorem dX6_plan_30 : decode cX6_plan 30 = .ok (.iload_n 3, 1) := by decide +kernel
theorem dX6_plan_31 : decode cX6_plan 31 = .ok (.bipush 10, 2) := by decide +kernel
theorem dX6_plan_33 : decode cX6_plan 33 = .ok (.bipush 12, 2) := by decide +kernel
theorem dX6_plan_35 : decode cX6_plan 35 = .ok (.invokestatic 44, 3) := by decide +kernel
theorem dX6_plan_38 : decode cX6_plan 38 = .ok (.ifCond .ne 6, 3) := by decide +kernel
theorem dX6_plan_41 : decode cX6_plan 41 = .ok (.bipush (-102), 2) := by decide +kernel
theorem dX6_plan_43 : decode cX6_plan 43 = .ok (.ireturn, 1) := by decide +kernel
theorem dX6_plan_44 : decode cX6_plan 44 = .ok (.aload_n 0, 1) := by decide +kernel
theorem dX6_plan_45 : decode cX6_plan 45 = .ok (.getfield 124, 3) := by decide +kernel
theorem dX6_plan_48 : decode cX6_plan 48 = .ok (.bipush 40, 2) := by decide +kernel
theorem dX6_plan_50 : decode cX6_plan 50 = .ok (.if_icmp .ne 6, 3) := by decide +kernel
theorem dX6_plan_53 : decode cX6_plan 53 = .ok (.bipush (-103), 2) := by decide +kernel
theorem dX6_plan_55 : decode cX6_plan 55 = .ok (.ireturn, 1) := by decide +kernel
theorem dX6_plan_56 : decode cX6_plan 56 = .ok (.aload_n 0, 1) := by decide +kernel
theorem dX6_plan_57 : decode cX6_plan 57 = .ok (.dup, 1) := by decide +kernel
theorem dX6_plan_58 : decode cX6_plan 58 = .ok (.getfield 124, 3) := by decide +kernel
theorem dX6_plan_61 : decode cX6_plan 61 = .ok (.iconst 1, 1) := by decide +kernel
theorem dX6_plan_62 : decode cX6_plan 62 = .ok (.iadd, 1) := by decide +kernel
theorem dX6_plan_63 : decode cX6_plan 63 = .ok (.putfield 124, 3) := by decide +kernel
theorem dX6_plan_66 : decode cX6_plan 66 = .ok (.aload_n 0, 1) := by decide +kernel
theorem dX6_plan_67 : decode cX6_plan 67 = .ok (.iload_n 1, 1) := by decide +kernel
theorem dX6_plan_68 : decode cX6_plan 68 = .ok (.iload_n 2, 1) := by decide +kernel
theorem dX6_plan_69 : decode cX6_plan 69 = .ok (.iload_n 3, 1) := by decide +kernel
theorem dX6_plan_70 : decode cX6_plan 70 = .ok (.invokevirtual 127, 3) := by decide +kernel
theorem dX6_plan_73 : decode cX6_plan 73 = .ok (.ireturn, 1) := by decide +kernel
set_option maxRecDepth 20000 in
theorem ggX6_fairNow_X6_ounces : GoodIn wsX6_fairNow wsX6_ounces := goodIn_r _ [8, 9, 10, 11, 12, 13, 14, 15, 16, 17, 18, 19, 20, 21, 22, 23, 24, 25, 26, 27, 28, 29, 30, 31, 32, 33, 34, 35, 36, 37, 38, 39, 40, 41] (by decide +kernel) (by decide +kernel)
set_option maxRecDepth 20000 in
theorem gX6_fairNow_X6_ounces : GoodIn wsX6_fairNow (wsV RX6 105 RX6 yX6_ounces wsX6_ounces) := goodIn_app (goodIn_of _ (by decide +kernel)) ggX6_fairNow_X6_ounces
theorem dX6_fairNow_0 : decode cX6_fairNow 0 = .ok (.aload_n 0, 1) := by decide +kernel
theorem dX6_fairNow_1 : decode cX6_fairNow 1 = .ok (.iload_n 2, 1) := by decide +kernel
theorem dX6_fairNow_2 : decode cX6_fairNow 2 = .ok (.iload_n 2, 1) := by decide +kernel
theorem dX6_fairNow_3 : decode cX6_fairNow 3 = .ok (.aload_n 0, 1) := by decide +kernel
theorem dX6_fairNow_4 : decode cX6_fairNow 4 = .ok (.getfield 82, 3) := by decide +kernel
theorem dX6_fairNow_7 : decode cX6_fairNow 7 = .ok (.invokevirtual 105, 3) := by decide +kernel
theorem dX6_fairNow_10 : decode cX6_fairNow 10 = .ok (.istore_n 3, 1) := by decide +kernel
theorem dX6_fairNow_11 : decode cX6_fairNow 11 = .ok (.iconst 1, 1) := by decide +kernel
theorem dX6_fairNow_12 : decode cX6_fairNow 12 = .ok (.istore 4, 2) := by decide +kernel
theorem dX6_fairNow_14 : decode cX6_fairNow 14 = .ok (.iconst 0, 1) := by decide +kernel
theorem dX6_fairNow_15 : decode cX6_fairNow 15 = .ok (.istore 5, 2) := by decide +kernel
theorem dX6_fairNow_17 : decode cX6_fairNow 17 = .ok (.iload 5, 2) := by decide +kernel
theorem dX6_fairNow_19 : decode cX6_fairNow 19 = .ok (.aload_n 0, 1) := by decide +kernel
theorem dX6_fairNow_20 : decode cX6_fairNow 20 = .ok (.getfield 73, 3) := by decide +kernel
theorem dX6_fairNow_23 : decode cX6_fairNow 23 = .ok (.if_icmp .ge 47, 3) := by decide +kernel
theorem dX6_fairNow_26 : decode cX6_fairNow 26 = .ok (.iload 4, 2) := by decide +kernel
theorem dX6_fairNow_28 : decode cX6_fairNow 28 = .ok (.ifCond .eq 33, 3) := by decide +kernel
theorem dX6_fairNow_31 : decode cX6_fairNow 31 = .ok (.iload 5, 2) := by decide +kernel
theorem dX6_fairNow_33 : decode cX6_fairNow 33 = .ok (.iload_n 2, 1) := by decide +kernel
theorem dX6_fairNow_34 : decode cX6_fairNow 34 = .ok (.if_icmp .eq 23, 3) := by decide +kernel
theorem dX6_fairNow_37 : decode cX6_fairNow 37 = .ok (.iload_n 3, 1) := by decide +kernel
theorem dX6_fairNow_38 : decode cX6_fairNow 38 = .ok (.aload_n 0, 1) := by decide +kernel
theorem dX6_fairNow_39 : decode cX6_fairNow 39 = .ok (.getfield 16, 3) := by decide +kernel
theorem dX6_fairNow_42 : decode cX6_fairNow 42 = .ok (.iload 5, 2) := by decide +kernel
theorem dX6_fairNow_44 : decode cX6_fairNow 44 = .ok (.iaload, 1) := by decide +kernel
theorem dX6_fairNow_45 : decode cX6_fairNow 45 = .ok (.imul, 1) := by decide +kernel
theorem dX6_fairNow_46 : decode cX6_fairNow 46 = .ok (.iload_n 3, 1) := by decide +kernel
theorem dX6_fairNow_47 : decode cX6_fairNow 47 = .ok (.aload_n 0, 1) := by decide +kernel
theorem dX6_fairNow_48 : decode cX6_fairNow 48 = .ok (.getfield 16, 3) := by decide +kernel
theorem dX6_fairNow_51 : decode cX6_fairNow 51 = .ok (.iload_n 1, 1) := by decide +kernel
theorem dX6_fairNow_52 : decode cX6_fairNow 52 = .ok (.iaload, 1) := by decide +kernel
theorem dX6_fairNow_53 : decode cX6_fairNow 53 = .ok (.imul, 1) := by decide +kernel
theorem dX6_fairNow_54 : decode cX6_fairNow 54 = .ok (.if_icmp .lt 7, 3) := by decide +kernel
theorem dX6_fairNow_57 : decode cX6_fairNow 57 = .ok (.iconst 1, 1) := by decide +kernel
theorem dX6_fairNow_58 : decode cX6_fairNow 58 = .ok (.goto 4, 3) := by decide +kernel
theorem dX6_fairNow_61 : decode cX6_fairNow 61 = .ok (.iconst 0, 1) := by decide +kernel
theorem dX6_fairNow_62 : decode cX6_fairNow 62 = .ok (.istore 4, 2) := by decide +kernel
theorem dX6_fairNow_64 : decode cX6_fairNow 64 = .ok (.iinc 5 1, 3) := by decide +kernel
theorem dX6_fairNow_67 : decode cX6_fairNow 67 = .ok (.goto (-50), 3) := by decide +kernel
theorem dX6_fairNow_70 : decode cX6_fairNow 70 = .ok (.iload 4, 2) := by decide +kernel
theorem dX6_fairNow_72 : decode cX6_fairNow 72 = .ok (.ifCond .eq 7, 3) := by decide +kernel
theorem dX6_fairNow_75 : decode cX6_fairNow 75 = .ok (.iconst 1, 1) := by decide +kernel
theorem dX6_fairNow_76 : decode cX6_fairNow 76 = .ok (.goto 4, 3) := by decide +kernel
theorem dX6_fairNow_79 : decode cX6_fairNow 79 = .ok (.iconst 0, 1) := by decide +kernel
theorem dX6_fairNow_80 : decode cX6_fairNow 80 = .ok (.ireturn, 1) := by decide +kernel
set_option maxRecDepth 20000 in
theorem ggX6_fair_X6_isHouse : GoodIn wsX6_fair wsX6_isHouse := goodIn_r _ [5, 6, 7, 8, 4, 9, 23, 24, 25, 26, 27, 28, 29, 30, 31, 32, 33, 34, 35, 36, 37, 38, 39, 40, 41, 42, 43, 44, 45, 46, 47, 48, 49, 50, 51, 52] (by decide +kernel) (by decide +kernel)
set_option maxRecDepth 20000 in
theorem gX6_fair_X6_isHouse : GoodIn wsX6_fair (wsV RX6 94 RX6 yX6_isHouse wsX6_isHouse) := goodIn_app (goodIn_of _ (by decide +kernel)) ggX6_fair_X6_isHouse
set_option maxRecDepth 20000 in
theorem ggX6_fair_X6_fairNow : GoodIn wsX6_fair wsX6_fairNow := goodIn_r _ [13, 14, 6, 15, 16, 17, 18, 4, 19, 20, 21, 22, 23, 24, 25, 26, 27, 28, 29, 30, 31, 32, 33, 34, 35, 36, 37, 38, 39, 40, 41, 42, 43, 44, 45, 46, 47, 48, 49, 50, 51, 52] (by decide +kernel) (by decide +kernel)
set_option maxRecDepth 20000 in
theorem gX6_fair_X6_fairNow : GoodIn wsX6_fair (wsV RX6 130 RX6 yX6_fairNow wsX6_fairNow) := goodIn_app (goodIn_of _ (by decide +kernel)) ggX6_fair_X6_fairNow
theorem dX6_fair_0 : decode cX6_fair 0 = .ok (.aload_n 0, 1) := by decide +kernel
theorem dX6_fair_1 : decode cX6_fair 1 = .ok (.iload_n 1, 1) := by decide +kernel
theorem dX6_fair_2 : decode cX6_fair 2 = .ok (.invokevirtual 94, 3) := by decide +kernel
theorem dX6_fair_5 : decode cX6_fair 5 = .ok (.ifCond .eq 25, 3) := by decide +kernel
theorem dX6_fair_8 : decode cX6_fair 8 = .ok (.aload_n 0, 1) := by decide +kernel
theorem dX6_fair_9 : decode cX6_fair 9 = .ok (.iload_n 2, 1) := by decide +kernel
theorem dX6_fair_10 : decode cX6_fair 10 = .ok (.invokevirtual 94, 3) := by decide +kernel
theorem dX6_fair_13 : decode cX6_fair 13 = .ok (.ifCond .eq 17, 3) := by decide +kernel
theorem dX6_fair_16 : decode cX6_fair 16 = .ok (.iload_n 1, 1) := by decide +kernel
theorem dX6_fair_17 : decode cX6_fair 17 = .ok (.iload_n 2, 1) := by decide +kernel
theorem dX6_fair_18 : decode cX6_fair 18 = .ok (.if_icmp .eq 12, 3) := by decide +kernel
theorem dX6_fair_21 : decode cX6_fair 21 = .ok (.aload_n 0, 1) := by decide +kernel
theorem dX6_fair_22 : decode cX6_fair 22 = .ok (.iload_n 1, 1) := by decide +kernel
theorem dX6_fair_23 : decode cX6_fair 23 = .ok (.iload_n 2, 1) := by decide +kernel
theorem dX6_fair_24 : decode cX6_fair 24 = .ok (.invokevirtual 130, 3) := by decide +kernel
theorem dX6_fair_27 : decode cX6_fair 27 = .ok (.goto 5, 3) := by decide +kernel
theorem dX6_fair_30 : decode cX6_fair 30 = .ok (.bipush (-101), 2) := by decide +kernel
theorem dX6_fair_32 : decode cX6_fair 32 = .ok (.ireturn, 1) := by decide +kernel
set_option maxRecDepth 20000 in
theorem ggX6_pass_X6_isHouse : GoodIn wsX6_pass wsX6_isHouse := goodIn_r _ [7, 8, 9, 10, 6, 11, 12, 13, 14, 15, 16, 17, 18, 19, 20, 21, 22, 23, 24, 25, 26, 27, 28, 29, 30, 31, 32, 33, 34, 35, 36, 37, 38, 39, 40, 41] (by decide +kernel) (by decide +kernel)
set_option maxRecDepth 20000 in
theorem gX6_pass_X6_isHouse : GoodIn wsX6_pass (wsV RX6 94 RX6 yX6_isHouse wsX6_isHouse) := goodIn_app (goodIn_of _ (by decide +kernel)) ggX6_pass_X6_isHouse
theorem dX6_pass_0 : decode cX6_pass 0 = .ok (.aload_n 0, 1) := by decide +kernel
theorem dX6_pass_1 : decode cX6_pass 1 = .ok (.iload_n 1, 1) := by decide +kernel
theorem dX6_pass_2 : decode cX6_pass 2 = .ok (.invokevirtual 94, 3) := by decide +kernel
theorem dX6_pass_5 : decode cX6_pass 5 = .ok (.ifCond .ne 6, 3) := by decide +kernel
theorem dX6_pass_8 : decode cX6_pass 8 = .ok (.bipush (-101), 2) := by decide +kernel
theorem dX6_pass_10 : decode cX6_pass 10 = .ok (.ireturn, 1) := by decide +kernel
theorem dX6_pass_11 : decode cX6_pass 11 = .ok (.aload_n 0, 1) := by decide +kernel
theorem dX6_pass_12 : decode cX6_pass 12 = .ok (.getfield 88, 3) := by decide +kernel
theorem dX6_pass_15 : decode cX6_pass 15 = .ok (.bipush 8, 2) := by decide +kernel
theorem dX6_pass_17 : decode cX6_pass 17 = .ok (.if_icmp .ne 6, 3) := by decide +kernel
theorem dX6_pass_20 : decode cX6_pass 20 = .ok (.bipush (-104), 2) := by decide +kernel
theorem dX6_pass_22 : decode cX6_pass 22 = .ok (.ireturn, 1) := by decide +kernel
theorem dX6_pass_23 : decode cX6_pass 23 = .ok (.aload_n 0, 1) := by decide +kernel
theorem dX6_pass_24 : decode cX6_pass 24 = .ok (.getfield 31, 3) := by decide +kernel
theorem dX6_pass_27 : decode cX6_pass 27 = .ok (.iload_n 1, 1) := by decide +kernel
theorem dX6_pass_28 : decode cX6_pass 28 = .ok (.dup2, 1) := by decide +kernel
theorem dX6_pass_29 : decode cX6_pass 29 = .ok (.iaload, 1) := by decide +kernel
theorem dX6_pass_30 : decode cX6_pass 30 = .ok (.iconst 1, 1) := by decide +kernel
theorem dX6_pass_31 : decode cX6_pass 31 = .ok (.iadd, 1) := by decide +kernel
theorem dX6_pass_32 : decode cX6_pass 32 = .ok (.iastore, 1) := by decide +kernel
theorem dX6_pass_33 : decode cX6_pass 33 = .ok (.aload_n 0, 1) := by decide +kernel
theorem dX6_pass_34 : decode cX6_pass 34 = .ok (.dup, 1) := by decide +kernel
theorem dX6_pass_35 : decode cX6_pass 35 = .ok (.getfield 88, 3) := by decide +kernel
theorem dX6_pass_38 : decode cX6_pass 38 = .ok (.iconst 1, 1) := by decide +kernel
theorem dX6_pass_39 : decode cX6_pass 39 = .ok (.iadd, 1) := by decide +kernel
theorem dX6_pass_40 : decode cX6_pass 40 = .ok (.putfield 88, 3) := by decide +kernel
theorem dX6_pass_43 : decode cX6_pass 43 = .ok (.aload_n 0, 1) := by decide +kernel
theorem dX6_pass_44 : decode cX6_pass 44 = .ok (.getfield 88, 3) := by decide +kernel
theorem dX6_pass_47 : decode cX6_pass 47 = .ok (.ireturn, 1) := by decide +kernel
set_option maxRecDepth 20000 in
theorem ggX6_lose_X6_within : GoodIn wsX6_lose wsX6_within := goodIn_r _ [5] (by decide +kernel) (by decide +kernel)
set_option maxRecDepth 20000 in
theorem gX6_lose_X6_within : GoodIn wsX6_lose (va_wsS RX6 44 yX6_within wsX6_within) := goodIn_app (goodIn_of _ (by decide +kernel)) ggX6_lose_X6_within
theorem dX6_lose_0 : decode cX6_lose 0 = .ok (.iload_n 1, 1) := by decide +kernel
theorem dX6_lose_1 : decode cX6_lose 1 = .ok (.iconst 0, 1) := by decide +kernel
theorem dX6_lose_2 : decode cX6_lose 2 = .ok (.bipush 20, 2) := by decide +kernel
theorem dX6_lose_4 : decode cX6_lose 4 = .ok (.invokestatic 44, 3) := by decide +kernel
theorem dX6_lose_7 : decode cX6_lose 7 = .ok (.ifCond .ne 6, 3) := by decide +kernel
theorem dX6_lose_10 : decode cX6_lose 10 = .ok (.bipush (-102), 2) := by decide +kernel
theorem dX6_lose_12 : decode cX6_lose 12 = .ok (.ireturn, 1) := by decide +kernel
theorem dX6_lose_13 : decode cX6_lose 13 = .ok (.aload_n 0, 1) := by decide +kernel
theorem dX6_lose_14 : decode cX6_lose 14 = .ok (.getfield 91, 3) := by decide +kernel
theorem dX6_lose_17 : decode cX6_lose 17 = .ok (.istore_n 2, 1) := by decide +kernel
theorem dX6_lose_18 : decode cX6_lose 18 = .ok (.aload_n 0, 1) := by decide +kernel
theorem dX6_lose_19 : decode cX6_lose 19 = .ok (.iload_n 1, 1) := by decide +kernel
theorem dX6_lose_20 : decode cX6_lose 20 = .ok (.putfield 91, 3) := by decide +kernel
theorem dX6_lose_23 : decode cX6_lose 23 = .ok (.iload_n 2, 1) := by decide +kernel
theorem dX6_lose_24 : decode cX6_lose 24 = .ok (.ireturn, 1) := by decide +kernel
theorem dX6_clear_0 : decode cX6_clear 0 = .ok (.aload_n 0, 1) := by decide +kernel
theorem dX6_clear_1 : decode cX6_clear 1 = .ok (.getfield 88, 3) := by decide +kernel
theorem dX6_clear_4 : decode cX6_clear 4 = .ok (.istore_n 1, 1) := by decide +kernel
theorem dX6_clear_5 : decode cX6_clear 5 = .ok (.aload_n 0, 1) := by decide +kernel
theorem dX6_clear_6 : decode cX6_clear 6 = .ok (.iconst 0, 1) := by decide +kernel
theorem dX6_clear_7 : decode cX6_clear 7 = .ok (.putfield 88, 3) := by decide +kernel
theorem dX6_clear_10 : decode cX6_clear 10 = .ok (.aload_n 0, 1) := by decide +kernel
theorem dX6_clear_11 : decode cX6_clear 11 = .ok (.iconst 0, 1) := by decide +kernel
theorem dX6_clear_12 : decode cX6_clear 12 = .ok (.putfield 91, 3) := by decide +kernel
theorem dX6_clear_15 : decode cX6_clear 15 = .ok (.iconst 0, 1) := by decide +kernel
theorem dX6_clear_16 : decode cX6_clear 16 = .ok (.istore_n 2, 1) := by decide +kernel
theorem dX6_clear_17 : decode cX6_clear 17 = .ok (.iload_n 2, 1) := by decide +kernel
theorem dX6_clear_18 : decode cX6_clear 18 = .ok (.iconst 4, 1) := by decide +kernel
theorem dX6_clear_19 : decode cX6_clear 19 = .ok (.if_icmp .ge 16, 3) := by decide +kernel
theorem dX6_clear_22 : decode cX6_clear 22 = .ok (.aload_n 0, 1) := by decide +kernel
theorem dX6_clear_23 : decode cX6_clear 23 = .ok (.getfield 31, 3) := by decide +kernel
theorem dX6_clear_26 : decode cX6_clear 26 = .ok (.iload_n 2, 1) := by decide +kernel
theorem dX6_clear_27 : decode cX6_clear 27 = .ok (.iconst 0, 1) := by decide +kernel
theorem dX6_clear_28 : decode cX6_clear 28 = .ok (.iastore, 1) := by decide +kernel
theorem dX6_clear_29 : decode cX6_clear 29 = .ok (.iinc 2 1, 3) := by decide +kernel
theorem dX6_clear_32 : decode cX6_clear 32 = .ok (.goto (-15), 3) := by decide +kernel
theorem dX6_clear_35 : decode cX6_clear 35 = .ok (.iload_n 1, 1) := by decide +kernel
theorem dX6_clear_36 : decode cX6_clear 36 = .ok (.ireturn, 1) := by decide +kernel
set_option maxRecDepth 20000 in
theorem ggX6_isRubbed_X6_isIn : GoodIn wsX6_isRubbed wsX6_isIn := goodIn_r _ [7] (by decide +kernel) (by decide +kernel)
set_option maxRecDepth 20000 in
theorem gX6_isRubbed_X6_isIn : GoodIn wsX6_isRubbed (va_wsS RX6 133 yX6_isIn wsX6_isIn) := goodIn_app (goodIn_of _ (by decide +kernel)) ggX6_isRubbed_X6_isIn
theorem dX6_isRubbed_0 : decode cX6_isRubbed 0 = .ok (.iconst 0, 1) := by decide +kernel
theorem dX6_isRubbed_1 : decode cX6_isRubbed 1 = .ok (.istore_n 2, 1) := by decide +kernel
theorem dX6_isRubbed_2 : decode cX6_isRubbed 2 = .ok (.iconst 0, 1) := by decide +kernel
theorem dX6_isRubbed_3 : decode cX6_isRubbed 3 = .ok (.istore_n 3, 1) := by decide +kernel
theorem dX6_isRubbed_4 : decode cX6_isRubbed 4 = .ok (.iload_n 3, 1) := by decide +kernel
theorem dX6_isRubbed_5 : decode cX6_isRubbed 5 = .ok (.aload_n 0, 1) := by decide +kernel
theorem dX6_isRubbed_6 : decode cX6_isRubbed 6 = .ok (.getfield 73, 3) := by decide +kernel
theorem dX6_isRubbed_9 : decode cX6_isRubbed 9 = .ok (.if_icmp .ge 30, 3) := by decide +kernel
theorem dX6_isRubbed_12 : decode cX6_isRubbed 12 = .ok (.iload_n 2, 1) := by decide +kernel
theorem dX6_isRubbed_13 : decode cX6_isRubbed 13 = .ok (.iload_n 1, 1) := by decide +kernel
theorem dX6_isRubbed_14 : decode cX6_isRubbed 14 = .ok (.iload_n 3, 1) := by decide +kernel
theorem dX6_isRubbed_15 : decode cX6_isRubbed 15 = .ok (.invokestatic 133, 3) := by decide +kernel
theorem dX6_isRubbed_18 : decode cX6_isRubbed 18 = .ok (.ifCond .eq 12, 3) := by decide +kernel
theorem dX6_isRubbed_21 : decode cX6_isRubbed 21 = .ok (.aload_n 0, 1) := by decide +kernel
theorem dX6_isRubbed_22 : decode cX6_isRubbed 22 = .ok (.getfield 31, 3) := by decide +kernel
theorem dX6_isRubbed_25 : decode cX6_isRubbed 25 = .ok (.iload_n 3, 1) := by decide +kernel
theorem dX6_isRubbed_26 : decode cX6_isRubbed 26 = .ok (.iaload, 1) := by decide +kernel
theorem dX6_isRubbed_27 : decode cX6_isRubbed 27 = .ok (.goto 4, 3) := by decide +kernel
theorem dX6_isRubbed_30 : decode cX6_isRubbed 30 = .ok (.iconst 0, 1) := by decide +kernel
theorem dX6_isRubbed_31 : decode cX6_isRubbed 31 = .ok (.iadd, 1) := by decide +kernel
theorem dX6_isRubbed_32 : decode cX6_isRubbed 32 = .ok (.istore_n 2, 1) := by decide +kernel
theorem dX6_isRubbed_33 : decode cX6_isRubbed 33 = .ok (.iinc 3 1, 3) := by decide +kernel
theorem dX6_isRubbed_36 : decode cX6_isRubbed 36 = .ok (.goto (-32), 3) := by decide +kernel
theorem dX6_isRubbed_39 : decode cX6_isRubbed 39 = .ok (.iload_n 2, 1) := by decide +kernel
theorem dX6_isRubbed_40 : decode cX6_isRubbed 40 = .ok (.aload_n 0, 1) := by decide +kernel
theorem dX6_isRubbed_41 : decode cX6_isRubbed 41 = .ok (.getfield 91, 3) := by decide +kernel
theorem dX6_isRubbed_44 : decode cX6_isRubbed 44 = .ok (.if_icmp .ne 7, 3) := by decide +kernel
theorem dX6_isRubbed_47 : decode cX6_isRubbed 47 = .ok (.iconst 1, 1) := by decide +kernel
theorem dX6_isRubbed_48 : decode cX6_isRubbed 48 = .ok (.goto 4, 3) := by decide +kernel
theorem dX6_isRubbed_51 : decode cX6_isRubbed 51 = .ok (.iconst 0, 1) := by decide +kernel
theorem dX6_isRubbed_52 : decode cX6_isRubbed 52 = .ok (.ireturn, 1) := by decide +kernel
set_option maxRecDepth 20000 in
theorem ggX6_rubbedNow_X6_isRubbed : GoodIn wsX6_rubbedNow wsX6_isRubbed := goodIn_r _ [6, 1, 7, 8, 9, 10, 5, 11, 12, 13, 14, 15, 16, 17, 18, 19, 20, 21, 22, 23, 24, 25, 26, 27, 28, 29, 30, 31, 32, 33, 34, 35, 36, 37, 38, 39, 40, 41] (by decide +kernel) (by decide +kernel)
set_option maxRecDepth 20000 in
theorem gX6_rubbedNow_X6_isRubbed : GoodIn wsX6_rubbedNow (wsV RX6 137 RX6 yX6_isRubbed wsX6_isRubbed) := goodIn_app (goodIn_of _ (by decide +kernel)) ggX6_rubbedNow_X6_isRubbed
theorem dX6_rubbedNow_0 : decode cX6_rubbedNow 0 = .ok (.iconst 0, 1) := by decide +kernel
theorem dX6_rubbedNow_1 : decode cX6_rubbedNow 1 = .ok (.istore_n 2, 1) := by decide +kernel
theorem dX6_rubbedNow_2 : decode cX6_rubbedNow 2 = .ok (.iconst (-1), 1) := by decide +kernel
theorem dX6_rubbedNow_3 : decode cX6_rubbedNow 3 = .ok (.istore_n 3, 1) := by decide +kernel
theorem dX6_rubbedNow_4 : decode cX6_rubbedNow 4 = .ok (.iconst 1, 1) := by decide +kernel
theorem dX6_rubbedNow_5 : decode cX6_rubbedNow 5 = .ok (.aload_n 0, 1) := by decide +kernel
theorem dX6_rubbedNow_6 : decode cX6_rubbedNow 6 = .ok (.getfield 73, 3) := by decide +kernel
theorem dX6_rubbedNow_9 : decode cX6_rubbedNow 9 = .ok (.ishl, 1) := by decide +kernel
theorem dX6_rubbedNow_10 : decode cX6_rubbedNow 10 = .ok (.iconst 1, 1) := by decide +kernel
theorem dX6_rubbedNow_11 : decode cX6_rubbedNow 11 = .ok (.isub, 1) := by decide +kernel
theorem dX6_rubbedNow_12 : decode cX6_rubbedNow 12 = .ok (.istore 4, 2) := by decide +kernel
theorem dX6_rubbedNow_14 : decode cX6_rubbedNow 14 = .ok (.iconst 1, 1) := by decide +kernel
theorem dX6_rubbedNow_15 : decode cX6_rubbedNow 15 = .ok (.aload_n 0, 1) := by decide +kernel
theorem dX6_rubbedNow_16 : decode cX6_rubbedNow 16 = .ok (.getfield 73, 3) := by decide +kernel
theorem dX6_rubbedNow_19 : decode cX6_rubbedNow 19 = .ok (.ishl, 1) := by decide +kernel
theorem dX6_rubbedNow_20 : decode cX6_rubbedNow 20 = .ok (.iconst 1, 1) := by decide +kernel
theorem dX6_rubbedNow_21 : decode cX6_rubbedNow 21 = .ok (.isub, 1) := by decide +kernel
theorem dX6_rubbedNow_22 : decode cX6_rubbedNow 22 = .ok (.istore 5, 2) := by decide +kernel
theorem dX6_rubbedNow_24 : decode cX6_rubbedNow 24 = .ok (.iload 5, 2) := by decide +kernel
theorem dX6_rubbedNow_26 : decode cX6_rubbedNow 26 = .ok (.ifCond .lt 59, 3) := by decide +kernel
theorem dX6_rubbedNow_29 : decode cX6_rubbedNow 29 = .ok (.aload_n 0, 1) := by decide +kernel
theorem dX6_rubbedNow_30 : decode cX6_rubbedNow 30 = .ok (.iload 5, 2) := by decide +kernel
theorem dX6_rubbedNow_32 : decode cX6_rubbedNow 32 = .ok (.invokevirtual 137, 3) := by decide +kernel
theorem dX6_rubbedNow_35 : decode cX6_rubbedNow 35 = .ok (.istore 6, 2) := by decide +kernel
theorem dX6_rubbedNow_37 : decode cX6_rubbedNow 37 = .ok (.iload_n 2, 1) := by decide +kernel
theorem dX6_rubbedNow_38 : decode cX6_rubbedNow 38 = .ok (.iload 6, 2) := by decide +kernel
theorem dX6_rubbedNow_40 : decode cX6_rubbedNow 40 = .ok (.ifCond .eq 7, 3) := by decide +kernel
theorem dX6_rubbedNow_43 : decode cX6_rubbedNow 43 = .ok (.iconst 1, 1) := by decide +kernel
theorem dX6_rubbedNow_44 : decode cX6_rubbedNow 44 = .ok (.goto 4, 3) := by decide +kernel
theorem dX6_rubbedNow_47 : decode cX6_rubbedNow 47 = .ok (.iconst 0, 1) := by decide +kernel
theorem dX6_rubbedNow_48 : decode cX6_rubbedNow 48 = .ok (.iadd, 1) := by decide +kernel
theorem dX6_rubbedNow_49 : decode cX6_rubbedNow 49 = .ok (.istore_n 2, 1) := by decide +kernel
theorem dX6_rubbedNow_50 : decode cX6_rubbedNow 50 = .ok (.iload 6, 2) := by decide +kernel
theorem dX6_rubbedNow_52 : decode cX6_rubbedNow 52 = .ok (.ifCond .eq 8, 3) := by decide +kernel
theorem dX6_rubbedNow_55 : decode cX6_rubbedNow 55 = .ok (.iload 5, 2) := by decide +kernel
theorem dX6_rubbedNow_57 : decode cX6_rubbedNow 57 = .ok (.goto 4, 3) := by decide +kernel
theorem dX6_rubbedNow_60 : decode cX6_rubbedNow 60 = .ok (.iload_n 3, 1) := by decide +kernel
theorem dX6_rubbedNow_61 : decode cX6_rubbedNow 61 = .ok (.istore_n 3, 1) := by decide +kernel
theorem dX6_rubbedNow_62 : decode cX6_rubbedNow 62 = .ok (.iload 6, 2) := by decide +kernel
theorem dX6_rubbedNow_64 : decode cX6_rubbedNow 64 = .ok (.ifCond .eq 11, 3) := by decide +kernel
theorem dX6_rubbedNow_67 : decode cX6_rubbedNow 67 = .ok (.iload 4, 2) := by decide +kernel
theorem dX6_rubbedNow_69 : decode cX6_rubbedNow 69 = .ok (.iload 5, 2) := by decide +kernel
theorem dX6_rubbedNow_71 : decode cX6_rubbedNow 71 = .ok (.iand, 1) := by decide +kernel
theorem dX6_rubbedNow_72 : decode cX6_rubbedNow 72 = .ok (.goto 5, 3) := by decide +kernel
theorem dX6_rubbedNow_75 : decode cX6_rubbedNow 75 = .ok (.iload 4, 2) := by decide +kernel
theorem dX6_rubbedNow_77 : decode cX6_rubbedNow 77 = .ok (.istore 4, 2) := by decide +kernel
theorem dX6_rubbedNow_79 : decode cX6_rubbedNow 79 = .ok (.iinc 5 (-1), 3) := by decide +kernel
theorem dX6_rubbedNow_82 : decode cX6_rubbedNow 82 = .ok (.goto (-58), 3) := by decide +kernel
theorem dX6_rubbedNow_85 : decode cX6_rubbedNow 85 = .ok (.iload_n 1, 1) := by decide +kernel
theorem dX6_rubbedNow_86 : decode cX6_rubbedNow 86 = .ok (.ifCond .ne 7, 3) := by decide +kernel
theorem dX6_rubbedNow_89 : decode cX6_rubbedNow 89 = .ok (.iload_n 2, 1) := by decide +kernel
theorem dX6_rubbedNow_90 : decode cX6_rubbedNow 90 = .ok (.goto 22, 3) := by decide +kernel
theorem dX6_rubbedNow_93 : decode cX6_rubbedNow 93 = .ok (.iload_n 2, 1) := by decide +kernel
theorem dX6_rubbedNow_94 : decode cX6_rubbedNow 94 = .ok (.ifCond .ne 7, 3) := by decide +kernel
theorem dX6_rubbedNow_97 : decode cX6_rubbedNow 97 = .ok (.iconst (-1), 1) := by decide +kernel
theorem dX6_rubbedNow_98 : decode cX6_rubbedNow 98 = .ok (.goto 14, 3) := by decide +kernel
theorem dX6_rubbedNow_101 : decode cX6_rubbedNow 101 = .ok (.iload_n 1, 1) := by decide +kernel
theorem dX6_rubbedNow_102 : decode cX6_rubbedNow 102 = .ok (.iconst 1, 1) := by decide +kernel
theorem dX6_rubbedNow_103 : decode cX6_rubbedNow 103 = .ok (.if_icmp .ne 7, 3) := by decide +kernel
theorem dX6_rubbedNow_106 : decode cX6_rubbedNow 106 = .ok (.iload_n 3, 1) := by decide +kernel
theorem dX6_rubbedNow_107 : decode cX6_rubbedNow 107 = .ok (.goto 5, 3) := by decide +kernel
theorem dX6_rubbedNow_110 : decode cX6_rubbedNow 110 = .ok (.iload 4, 2) := by decide +kernel
theorem dX6_rubbedNow_112 : decode cX6_rubbedNow 112 = .ok (.ireturn, 1) := by decide +kernel
set_option maxRecDepth 20000 in
theorem ggX6_rubbed_X6_within : GoodIn wsX6_rubbed wsX6_within := goodIn_r _ [5] (by decide +kernel) (by decide +kernel)
set_option maxRecDepth 20000 in
theorem gX6_rubbed_X6_within : GoodIn wsX6_rubbed (va_wsS RX6 44 yX6_within wsX6_within) := goodIn_app (goodIn_of _ (by decide +kernel)) ggX6_rubbed_X6_within
set_option maxRecDepth 20000 in
theorem ggX6_rubbed_X6_rubbedNow : GoodIn wsX6_rubbed wsX6_rubbedNow := goodIn_r _ [9, 1, 10, 11, 12, 4, 13, 14, 15, 16, 17, 18, 19, 20, 21, 22, 23, 24, 25, 26, 27, 28, 29, 30, 31, 32, 33, 34, 35, 36, 37, 38, 39, 40, 41, 42, 43, 44, 45, 46, 47, 48] (by decide +kernel) (by decide +kernel)
set_option maxRecDepth 20000 in
theorem gX6_rubbed_X6_rubbedNow : GoodIn wsX6_rubbed (wsV RX6 140 RX6 yX6_rubbedNow wsX6_rubbedNow) := goodIn_app (goodIn_of _ (by decide +kernel)) ggX6_rubbed_X6_rubbedNow
theorem dX6_rubbed_0 : decode cX6_rubbed 0 = .ok (.iload_n 1, 1) := by decide +kernel
theorem dX6_rubbed_1 : decode cX6_rubbed 1 = .ok (.iconst 0, 1) := by decide +kernel
theorem dX6_rubbed_2 : decode cX6_rubbed 2 = .ok (.iconst 2, 1) := by decide +kernel
theorem dX6_rubbed_3 : decode cX6_rubbed 3 = .ok (.invokestatic 44, 3) := by decide +kernel
theorem dX6_rubbed_6 : decode cX6_rubbed 6 = .ok (.ifCond .ne 6, 3) := by decide +kernel
theorem dX6_rubbed_9 : decode cX6_rubbed 9 = .ok (.bipush (-102), 2) := by decide +kernel
theorem dX6_rubbed_11 : decode cX6_rubbed 11 = .ok (.ireturn, 1) := by decide +kernel
theorem dX6_rubbed_12 : decode cX6_rubbed 12 = .ok (.aload_n 0, 1) := by decide +kernel
theorem dX6_rubbed_13 : decode cX6_rubbed 13 = .ok (.getfield 73, 3) := by decide +kernel
theorem dX6_rubbed_16 : decode cX6_rubbed 16 = .ok (.ifCond .ne 8, 3) := by decide +kernel
theorem dX6_rubbed_19 : decode cX6_rubbed 19 = .ok (.bipush (-103), 2) := by decide +kernel
theorem dX6_rubbed_21 : decode cX6_rubbed 21 = .ok (.goto 8, 3) := by decide +kernel
theorem dX6_rubbed_24 : decode cX6_rubbed 24 = .ok (.aload_n 0, 1) := by decide +kernel
theorem dX6_rubbed_25 : decode cX6_rubbed 25 = .ok (.iload_n 1, 1) := by decide +kernel
theorem dX6_rubbed_26 : decode cX6_rubbed 26 = .ok (.invokevirtual 140, 3) := by decide +kernel
theorem dX6_rubbed_29 : decode cX6_rubbed 29 = .ok (.ireturn, 1) := by decide +kernel
set_option maxRecDepth 20000 in
theorem ggX6_watchNow_X6_rubbedNow : GoodIn wsX6_watchNow wsX6_rubbedNow := goodIn_r _ [7, 2, 8, 9, 10, 6, 11, 12, 13, 14, 15, 16, 17, 18, 19, 20, 21, 22, 23, 24, 25, 26, 27, 28, 29, 30, 31, 32, 33, 34, 35, 36, 37, 38, 39, 40, 41, 42, 43, 44, 45, 46] (by decide +kernel) (by decide +kernel)
set_option maxRecDepth 20000 in
theorem gX6_watchNow_X6_rubbedNow : GoodIn wsX6_watchNow (wsV RX6 140 RX6 yX6_rubbedNow wsX6_rubbedNow) := goodIn_app (goodIn_of _ (by decide +kernel)) ggX6_watchNow_X6_rubbedNow
set_option maxRecDepth 20000 in
theorem ggX6_watchNow_X6_isIn : GoodIn wsX6_watchNow wsX6_isIn := goodIn_r _ [16] (by decide +kernel) (by decide +kernel)
set_option maxRecDepth 20000 in
theorem gX6_watchNow_X6_isIn : GoodIn wsX6_watchNow (va_wsS RX6 133 yX6_isIn wsX6_isIn) := goodIn_app (goodIn_of _ (by decide +kernel)) ggX6_watchNow_X6_isIn
set_option maxRecDepth 20000 in
theorem ggX6_watchNow_X6_isRubbed : GoodIn wsX6_watchNow wsX6_isRubbed := goodIn_r _ [11, 2, 12, 13, 14, 15, 6, 16, 17, 18, 19, 20, 21, 22, 23, 24, 25, 26, 27, 28, 29, 30, 31, 32, 33, 34, 35, 36, 37, 38, 39, 40, 41, 42, 43, 44, 45, 46] (by decide +kernel) (by decide +kernel)
set_option maxRecDepth 20000 in
theorem gX6_watchNow_X6_isRubbed : GoodIn wsX6_watchNow (wsV RX6 137 RX6 yX6_isRubbed wsX6_isRubbed) := goodIn_app (goodIn_of _ (by decide +kernel)) ggX6_watchNow_X6_isRubbed
theorem dX6_watchNow_0 : decode cX6_watchNow 0 = .ok (.aload_n 0, 1) := by decide +kernel
theorem dX6_watchNow_1 : decode cX6_watchNow 1 = .ok (.iconst 0, 1) := by decide +kernel
theorem dX6_watchNow_2 : decode cX6_watchNow 2 = .ok (.invokevirtual 140, 3) := by decide +kernel
theorem dX6_watchNow_5 : decode cX6_watchNow 5 = .ok (.istore_n 1, 1) := by decide +kernel
theorem dX6_watchNow_6 : decode cX6_watchNow 6 = .ok (.iconst (-1), 1) := by decide +kernel
theorem dX6_watchNow_7 : decode cX6_watchNow 7 = .ok (.istore_n 2, 1) := by decide +kernel
theorem dX6_watchNow_8 : decode cX6_watchNow 8 = .ok (.ldc 116, 2) := by decide +kernel
theorem dX6_watchNow_10 : decode cX6_watchNow 10 = .ok (.istore_n 3, 1) := by decide +kernel
theorem dX6_watchNow_11 : decode cX6_watchNow 11 = .ok (.iconst 0, 1) := by decide +kernel
theorem dX6_watchNow_12 : decode cX6_watchNow 12 = .ok (.istore 4, 2) := by decide +kernel
theorem dX6_watchNow_14 : decode cX6_watchNow 14 = .ok (.iload 4, 2) := by decide +kernel
theorem dX6_watchNow_16 : decode cX6_watchNow 16 = .ok (.aload_n 0, 1) := by decide +kernel
theorem dX6_watchNow_17 : decode cX6_watchNow 17 = .ok (.getfield 73, 3) := by decide +kernel
theorem dX6_watchNow_20 : decode cX6_watchNow 20 = .ok (.if_icmp .ge 111, 3) := by decide +kernel
theorem dX6_watchNow_23 : decode cX6_watchNow 23 = .ok (.iload_n 1, 1) := by decide +kernel
theorem dX6_watchNow_24 : decode cX6_watchNow 24 = .ok (.ifCond .le 107, 3) := by decide +kernel
theorem dX6_watchNow_27 : decode cX6_watchNow 27 = .ok (.iconst 0, 1) := by decide +kernel
theorem dX6_watchNow_28 : decode cX6_watchNow 28 = .ok (.istore 5, 2) := by decide +kernel
theorem dX6_watchNow_30 : decode cX6_watchNow 30 = .ok (.iconst 0, 1) := by decide +kernel
theorem dX6_watchNow_31 : decode cX6_watchNow 31 = .ok (.istore 6, 2) := by decide +kernel
theorem dX6_watchNow_33 : decode cX6_watchNow 33 = .ok (.iload 6, 2) := by decide +kernel
theorem dX6_watchNow_35 : decode cX6_watchNow 35 = .ok (.iconst 1, 1) := by decide +kernel
theorem dX6_watchNow_36 : decode cX6_watchNow 36 = .ok (.aload_n 0, 1) := by decide +kernel
theorem dX6_watchNow_37 : decode cX6_watchNow 37 = .ok (.getfield 73, 3) := by decide +kernel
theorem dX6_watchNow_40 : decode cX6_watchNow 40 = .ok (.ishl, 1) := by decide +kernel
theorem dX6_watchNow_41 : decode cX6_watchNow 41 = .ok (.if_icmp .ge 38, 3) := by decide +kernel
theorem dX6_watchNow_44 : decode cX6_watchNow 44 = .ok (.iload 5, 2) := by decide +kernel
theorem dX6_watchNow_46 : decode cX6_watchNow 46 = .ok (.iload 6, 2) := by decide +kernel
theorem dX6_watchNow_48 : decode cX6_watchNow 48 = .ok (.iload 4, 2) := by decide +kernel
theorem dX6_watchNow_50 : decode cX6_watchNow 50 = .ok (.invokestatic 133, 3) := by decide +kernel
theorem dX6_watchNow_53 : decode cX6_watchNow 53 = .ok (.ifCond .eq 16, 3) := by decide +kernel
theorem dX6_watchNow_56 : decode cX6_watchNow 56 = .ok (.aload_n 0, 1) := by decide +kernel
theorem dX6_watchNow_57 : decode cX6_watchNow 57 = .ok (.iload 6, 2) := by decide +kernel
theorem dX6_watchNow_59 : decode cX6_watchNow 59 = .ok (.invokevirtual 137, 3) := by decide +kernel
theorem dX6_watchNow_62 : decode cX6_watchNow 62 = .ok (.ifCond .eq 7, 3) := by decide +kernel
theorem dX6_watchNow_65 : decode cX6_watchNow 65 = .ok (.iconst 1, 1) := by decide +kernel
theorem dX6_watchNow_66 : decode cX6_watchNow 66 = .ok (.goto 4, 3) := by decide +kernel
theorem dX6_watchNow_69 : decode cX6_watchNow 69 = .ok (.iconst 0, 1) := by decide +kernel
theorem dX6_watchNow_70 : decode cX6_watchNow 70 = .ok (.iadd, 1) := by decide +kernel
theorem dX6_watchNow_71 : decode cX6_watchNow 71 = .ok (.istore 5, 2) := by decide +kernel
theorem dX6_watchNow_73 : decode cX6_watchNow 73 = .ok (.iinc 6 1, 3) := by decide +kernel
theorem dX6_watchNow_76 : decode cX6_watchNow 76 = .ok (.goto (-43), 3) := by decide +kernel
theorem dX6_watchNow_79 : decode cX6_watchNow 79 = .ok (.iload 5, 2) := by decide +kernel
theorem dX6_watchNow_81 : decode cX6_watchNow 81 = .ok (.iload_n 1, 1) := by decide +kernel
theorem dX6_watchNow_82 : decode cX6_watchNow 82 = .ok (.iload 5, 2) := by decide +kernel
theorem dX6_watchNow_84 : decode cX6_watchNow 84 = .ok (.isub, 1) := by decide +kernel
theorem dX6_watchNow_85 : decode cX6_watchNow 85 = .ok (.if_icmp .le 8, 3) := by decide +kernel
theorem dX6_watchNow_88 : decode cX6_watchNow 88 = .ok (.iload 5, 2) := by decide +kernel
theorem dX6_watchNow_90 : decode cX6_watchNow 90 = .ok (.goto 7, 3) := by decide +kernel
theorem dX6_watchNow_93 : decode cX6_watchNow 93 = .ok (.iload_n 1, 1) := by decide +kernel
theorem dX6_watchNow_94 : decode cX6_watchNow 94 = .ok (.iload 5, 2) := by decide +kernel
theorem dX6_watchNow_96 : decode cX6_watchNow 96 = .ok (.isub, 1) := by decide +kernel
theorem dX6_watchNow_97 : decode cX6_watchNow 97 = .ok (.istore 6, 2) := by decide +kernel
theorem dX6_watchNow_99 : decode cX6_watchNow 99 = .ok (.iload 6, 2) := by decide +kernel
theorem dX6_watchNow_101 : decode cX6_watchNow 101 = .ok (.iload_n 3, 1) := by decide +kernel
theorem dX6_watchNow_102 : decode cX6_watchNow 102 = .ok (.if_icmp .ge 8, 3) := by decide +kernel
theorem dX6_watchNow_105 : decode cX6_watchNow 105 = .ok (.iload 4, 2) := by decide +kernel
theorem dX6_watchNow_107 : decode cX6_watchNow 107 = .ok (.goto 4, 3) := by decide +kernel
theorem dX6_watchNow_110 : decode cX6_watchNow 110 = .ok (.iload_n 2, 1) := by decide +kernel
theorem dX6_watchNow_111 : decode cX6_watchNow 111 = .ok (.istore_n 2, 1) := by decide +kernel
theorem dX6_watchNow_112 : decode cX6_watchNow 112 = .ok (.iload 6, 2) := by decide +kernel
theorem dX6_watchNow_114 : decode cX6_watchNow 114 = .ok (.iload_n 3, 1) := by decide +kernel
theorem dX6_watchNow_115 : decode cX6_watchNow 115 = .ok (.if_icmp .ge 8, 3) := by decide +kernel
theorem dX6_watchNow_118 : decode cX6_watchNow 118 = .ok (.iload 6, 2) := by decide +kernel
theorem dX6_watchNow_120 : decode cX6_watchNow 120 = .ok (.goto 4, 3) := by decide +kernel
theorem dX6_watchNow_123 : decode cX6_watchNow 123 = .ok (.iload_n 3, 1) := by decide +kernel
theorem dX6_watchNow_124 : decode cX6_watchNow 124 = .ok (.istore_n 3, 1) := by decide +kernel
theorem dX6_watchNow_125 : decode cX6_watchNow 125 = .ok (.iinc 4 1, 3) := by decide +kernel
theorem dX6_watchNow_128 : decode cX6_watchNow 128 = .ok (.goto (-114), 3) := by decide +kernel
theorem dX6_watchNow_131 : decode cX6_watchNow 131 = .ok (.iload_n 2, 1) := by decide +kernel
theorem dX6_watchNow_132 : decode cX6_watchNow 132 = .ok (.ireturn, 1) := by decide +kernel
set_option maxRecDepth 20000 in
theorem ggX6_watch_X6_watchNow : GoodIn wsX6_watch wsX6_watchNow := goodIn_r _ [6, 7, 1, 8, 9, 10, 5, 11, 12, 13, 14, 15, 16, 17, 18, 19, 20, 21, 22, 23, 24, 25, 26, 27, 28, 29, 30, 31, 32, 33, 34, 35, 36, 37, 38, 39, 40, 41, 42, 43, 44, 45, 46, 47, 48, 49, 50] (by decide +kernel) (by decide +kernel)
set_option maxRecDepth 20000 in
theorem gX6_watch_X6_watchNow : GoodIn wsX6_watch (wsV RX6 143 RX6 yX6_watchNow wsX6_watchNow) := goodIn_app (goodIn_of _ (by decide +kernel)) ggX6_watch_X6_watchNow
theorem dX6_watch_0 : decode cX6_watch 0 = .ok (.aload_n 0, 1) := by decide +kernel
theorem dX6_watch_1 : decode cX6_watch 1 = .ok (.getfield 73, 3) := by decide +kernel
theorem dX6_watch_4 : decode cX6_watch 4 = .ok (.ifCond .ne 8, 3) := by decide +kernel
theorem dX6_watch_7 : decode cX6_watch 7 = .ok (.bipush (-103), 2) := by decide +kernel
theorem dX6_watch_9 : decode cX6_watch 9 = .ok (.goto 7, 3) := by decide +kernel
theorem dX6_watch_12 : decode cX6_watch 12 = .ok (.aload_n 0, 1) := by decide +kernel
theorem dX6_watch_13 : decode cX6_watch 13 = .ok (.invokevirtual 143, 3) := by decide +kernel
theorem dX6_watch_16 : decode cX6_watch 16 = .ok (.ireturn, 1) := by decide +kernel
theorem dX6_draw_0 : decode cX6_draw 0 = .ok (.aload_n 0, 1) := by decide +kernel
theorem dX6_draw_1 : decode cX6_draw 1 = .ok (.ldc2_w 146, 3) := by decide +kernel
theorem dX6_draw_4 : decode cX6_draw 4 = .ok (.aload_n 0, 1) := by decide +kernel
theorem dX6_draw_5 : decode cX6_draw 5 = .ok (.getfield 148, 3) := by decide +kernel
theorem dX6_draw_8 : decode cX6_draw 8 = .ok (.lmul, 1) := by decide +kernel
theorem dX6_draw_9 : decode cX6_draw 9 = .ok (.ldc2_w 152, 3) := by decide +kernel
theorem dX6_draw_12 : decode cX6_draw 12 = .ok (.ladd, 1) := by decide +kernel
theorem dX6_draw_13 : decode cX6_draw 13 = .ok (.ldc2_w 154, 3) := by decide +kernel
theorem dX6_draw_16 : decode cX6_draw 16 = .ok (.land, 1) := by decide +kernel
theorem dX6_draw_17 : decode cX6_draw 17 = .ok (.putfield 148, 3) := by decide +kernel
theorem dX6_draw_20 : decode cX6_draw 20 = .ok (.aload_n 0, 1) := by decide +kernel
theorem dX6_draw_21 : decode cX6_draw 21 = .ok (.getfield 148, 3) := by decide +kernel
theorem dX6_draw_24 : decode cX6_draw 24 = .ok (.ldc2_w 156, 3) := by decide +kernel
theorem dX6_draw_27 : decode cX6_draw 27 = .ok (.ldiv, 1) := by decide +kernel
theorem dX6_draw_28 : decode cX6_draw 28 = .ok (.iload_n 1, 1) := by decide +kernel
theorem dX6_draw_29 : decode cX6_draw 29 = .ok (.i2l, 1) := by decide +kernel
theorem dX6_draw_30 : decode cX6_draw 30 = .ok (.lrem, 1) := by decide +kernel
theorem dX6_draw_31 : decode cX6_draw 31 = .ok (.l2i, 1) := by decide +kernel
theorem dX6_draw_32 : decode cX6_draw 32 = .ok (.ireturn, 1) := by decide +kernel
theorem dX6_weighsAll_0 : decode cX6_weighsAll 0 = .ok (.iconst 0, 1) := by decide +kernel
theorem dX6_weighsAll_1 : decode cX6_weighsAll 1 = .ok (.istore_n 1, 1) := by decide +kernel
theorem dX6_weighsAll_2 : decode cX6_weighsAll 2 = .ok (.iconst 0, 1) := by decide +kernel
theorem dX6_weighsAll_3 : decode cX6_weighsAll 3 = .ok (.istore_n 2, 1) := by decide +kernel
theorem dX6_weighsAll_4 : decode cX6_weighsAll 4 = .ok (.iload_n 2, 1) := by decide +kernel
theorem dX6_weighsAll_5 : decode cX6_weighsAll 5 = .ok (.aload_n 0, 1) := by decide +kernel
theorem dX6_weighsAll_6 : decode cX6_weighsAll 6 = .ok (.getfield 73, 3) := by decide +kernel
theorem dX6_weighsAll_9 : decode cX6_weighsAll 9 = .ok (.if_icmp .ge 18, 3) := by decide +kernel
theorem dX6_weighsAll_12 : decode cX6_weighsAll 12 = .ok (.iload_n 1, 1) := by decide +kernel
theorem dX6_weighsAll_13 : decode cX6_weighsAll 13 = .ok (.aload_n 0, 1) := by decide +kernel
theorem dX6_weighsAll_14 : decode cX6_weighsAll 14 = .ok (.getfield 13, 3) := by decide +kernel
theorem dX6_weighsAll_17 : decode cX6_weighsAll 17 = .ok (.iload_n 2, 1) := by decide +kernel
theorem dX6_weighsAll_18 : decode cX6_weighsAll 18 = .ok (.iaload, 1) := by decide +kernel
theorem dX6_weighsAll_19 : decode cX6_weighsAll 19 = .ok (.iadd, 1) := by decide +kernel
theorem dX6_weighsAll_20 : decode cX6_weighsAll 20 = .ok (.istore_n 1, 1) := by decide +kernel
theorem dX6_weighsAll_21 : decode cX6_weighsAll 21 = .ok (.iinc 2 1, 3) := by decide +kernel
theorem dX6_weighsAll_24 : decode cX6_weighsAll 24 = .ok (.goto (-20), 3) := by decide +kernel
theorem dX6_weighsAll_27 : decode cX6_weighsAll 27 = .ok (.iload_n 1, 1) := by decide +kernel
theorem dX6_weighsAll_28 : decode cX6_weighsAll 28 = .ok (.ireturn, 1) := by decide +kernel
set_option maxRecDepth 20000 in
theorem ggX6_marketsNow_X6_save : GoodIn wsX6_marketsNow wsX6_save := goodIn_r _ [8, 9, 10, 37, 38, 39, 40, 41, 42, 43, 44, 45, 46, 47, 48, 49, 50, 51, 52, 53, 54, 55, 56, 57, 58, 59, 60, 61, 62, 63, 64, 65, 66] (by decide +kernel) (by decide +kernel)
set_option maxRecDepth 20000 in
theorem gX6_marketsNow_X6_save : GoodIn wsX6_marketsNow (wsV RX6 117 RX6 yX6_save wsX6_save) := goodIn_app (goodIn_of _ (by decide +kernel)) ggX6_marketsNow_X6_save
set_option maxRecDepth 20000 in
theorem ggX6_marketsNow_X6_draw : GoodIn wsX6_marketsNow wsX6_draw := goodIn_r _ [14, 15, 1, 16, 17, 18, 37, 38, 39, 40, 41, 42, 43, 44, 45, 46, 47, 48, 49, 50, 51, 52, 53, 54, 55, 56, 57, 58, 59, 60, 61, 62, 63, 64, 65, 66] (by decide +kernel) (by decide +kernel)
set_option maxRecDepth 20000 in
theorem gX6_marketsNow_X6_draw : GoodIn wsX6_marketsNow (wsV RX6 158 RX6 yX6_draw wsX6_draw) := goodIn_app (goodIn_of _ (by decide +kernel)) ggX6_marketsNow_X6_draw
set_option maxRecDepth 20000 in
theorem ggX6_marketsNow_X6_ounces : GoodIn wsX6_marketsNow wsX6_ounces := goodIn_r _ [22, 10, 23, 24, 37, 38, 39, 40, 41, 42, 43, 44, 45, 46, 47, 48, 49, 50, 51, 52, 53, 54, 55, 56, 57, 58, 59, 60, 61, 62, 63, 64, 65, 66] (by decide +kernel) (by decide +kernel)
set_option maxRecDepth 20000 in
theorem gX6_marketsNow_X6_ounces : GoodIn wsX6_marketsNow (wsV RX6 105 RX6 yX6_ounces wsX6_ounces) := goodIn_app (goodIn_of _ (by decide +kernel)) ggX6_marketsNow_X6_ounces
set_option maxRecDepth 20000 in
theorem ggX6_marketsNow_X6_wear : GoodIn wsX6_marketsNow wsX6_wear := goodIn_r _ [28, 24, 10, 37, 38, 39, 40, 41, 42, 43, 44, 45, 46, 47, 48, 49, 50, 51, 52, 53, 54, 55, 56, 57, 58, 59, 60, 61, 62, 63, 64, 65, 66] (by decide +kernel) (by decide +kernel)
set_option maxRecDepth 20000 in
theorem gX6_marketsNow_X6_wear : GoodIn wsX6_marketsNow (wsV RX6 109 RX6 yX6_wear wsX6_wear) := goodIn_app (goodIn_of _ (by decide +kernel)) ggX6_marketsNow_X6_wear
set_option maxRecDepth 20000 in
theorem ggX6_marketsNow_X6_weighsAll : GoodIn wsX6_marketsNow wsX6_weighsAll := goodIn_r _ [32, 2, 10, 37, 38, 39, 40, 41, 42, 43, 44, 45, 46, 47, 48, 49, 50, 51, 52, 53, 54, 55, 56, 57, 58, 59, 60, 61, 62, 63, 64, 65, 66] (by decide +kernel) (by decide +kernel)
set_option maxRecDepth 20000 in
theorem gX6_marketsNow_X6_weighsAll : GoodIn wsX6_marketsNow (wsV RX6 161 RX6 yX6_weighsAll wsX6_weighsAll) := goodIn_app (goodIn_of _ (by decide +kernel)) ggX6_marketsNow_X6_weighsAll
set_option maxRecDepth 20000 in
theorem ggX6_marketsNow_X6_load : GoodIn wsX6_marketsNow wsX6_load := goodIn_r _ [36, 10, 9, 37, 38, 39, 40, 41, 42, 43, 44, 45, 46, 47, 48, 49, 50, 51, 52, 53, 54, 55, 56, 57, 58, 59, 60, 61, 62, 63, 64, 65, 66] (by decide +kernel) (by decide +kernel)
set_option maxRecDepth 20000 in
theorem gX6_marketsNow_X6_load : GoodIn wsX6_marketsNow (wsV RX6 113 RX6 yX6_load wsX6_load) := goodIn_app (goodIn_of _ (by decide +kernel)) ggX6_marketsNow_X6_load
theorem dX6_marketsNow_0 : decode cX6_marketsNow 0 = .ok (.aload_n 0, 1) := by decide +kernel
theorem dX6_marketsNow_1 : decode cX6_marketsNow 1 = .ok (.invokevirtual 117, 3) := by decide +kernel
theorem dX6_marketsNow_4 : decode cX6_marketsNow 4 = .ok (.aload_n 0, 1) := by decide +kernel
theorem dX6_marketsNow_5 : decode cX6_marketsNow 5 = .ok (.iload_n 2, 1) := by decide +kernel
theorem dX6_marketsNow_6 : decode cX6_marketsNow 6 = .ok (.i2l, 1) := by decide +kernel
theorem dX6_marketsNow_7 : decode cX6_marketsNow 7 = .ok (.putfield 148, 3) := by decide +kernel
theorem dX6_marketsNow_10 : decode cX6_marketsNow 10 = .ok (.iconst 0, 1) := by decide +kernel
theorem dX6_marketsNow_11 : decode cX6_marketsNow 11 = .ok (.istore 4, 2) := by decide +kernel
theorem dX6_marketsNow_13 : decode cX6_marketsNow 13 = .ok (.iconst 0, 1) := by decide +kernel
theorem dX6_marketsNow_14 : decode cX6_marketsNow 14 = .ok (.istore 5, 2) := by decide +kernel
theorem dX6_marketsNow_16 : decode cX6_marketsNow 16 = .ok (.iload 5, 2) := by decide +kernel
theorem dX6_marketsNow_18 : decode cX6_marketsNow 18 = .ok (.iload_n 1, 1) := by decide +kernel
theorem dX6_marketsNow_19 : decode cX6_marketsNow 19 = .ok (.if_icmp .ge 74, 3) := by decide +kernel
theorem dX6_marketsNow_22 : decode cX6_marketsNow 22 = .ok (.aload_n 0, 1) := by decide +kernel
theorem dX6_marketsNow_23 : decode cX6_marketsNow 23 = .ok (.aload_n 0, 1) := by decide +kernel
theorem dX6_marketsNow_24 : decode cX6_marketsNow 24 = .ok (.getfield 73, 3) := by decide +kernel
theorem dX6_marketsNow_27 : decode cX6_marketsNow 27 = .ok (.invokevirtual 158, 3) := by decide +kernel
theorem dX6_marketsNow_30 : decode cX6_marketsNow 30 = .ok (.istore 6, 2) := by decide +kernel
theorem dX6_marketsNow_32 : decode cX6_marketsNow 32 = .ok (.aload_n 0, 1) := by decide +kernel
theorem dX6_marketsNow_33 : decode cX6_marketsNow 33 = .ok (.aload_n 0, 1) := by decide +kernel
theorem dX6_marketsNow_34 : decode cX6_marketsNow 34 = .ok (.getfield 73, 3) := by decide +kernel
theorem dX6_marketsNow_37 : decode cX6_marketsNow 37 = .ok (.invokevirtual 158, 3) := by decide +kernel
theorem dX6_marketsNow_40 : decode cX6_marketsNow 40 = .ok (.istore 7, 2) := by decide +kernel
theorem dX6_marketsNow_42 : decode cX6_marketsNow 42 = .ok (.aload_n 0, 1) := by decide +kernel
theorem dX6_marketsNow_43 : decode cX6_marketsNow 43 = .ok (.aload_n 0, 1) := by decide +kernel
theorem dX6_marketsNow_44 : decode cX6_marketsNow 44 = .ok (.getfield 73, 3) := by decide +kernel
theorem dX6_marketsNow_47 : decode cX6_marketsNow 47 = .ok (.invokevirtual 158, 3) := by decide +kernel
theorem dX6_marketsNow_50 : decode cX6_marketsNow 50 = .ok (.istore 8, 2) := by decide +kernel
theorem dX6_marketsNow_52 : decode cX6_marketsNow 52 = .ok (.iload 6, 2) := by decide +kernel
theorem dX6_marketsNow_54 : decode cX6_marketsNow 54 = .ok (.iload 7, 2) := by decide +kernel
theorem dX6_marketsNow_56 : decode cX6_marketsNow 56 = .ok (.if_icmp .eq 31, 3) := by decide +kernel
theorem dX6_marketsNow_59 : decode cX6_marketsNow 59 = .ok (.iload 4, 2) := by decide +kernel
theorem dX6_marketsNow_61 : decode cX6_marketsNow 61 = .ok (.aload_n 0, 1) := by decide +kernel
theorem dX6_marketsNow_62 : decode cX6_marketsNow 62 = .ok (.iload 6, 2) := by decide +kernel
theorem dX6_marketsNow_64 : decode cX6_marketsNow 64 = .ok (.iload 8, 2) := by decide +kernel
theorem dX6_marketsNow_66 : decode cX6_marketsNow 66 = .ok (.aload_n 0, 1) := by decide +kernel
theorem dX6_marketsNow_67 : decode cX6_marketsNow 67 = .ok (.getfield 82, 3) := by decide +kernel
theorem dX6_marketsNow_70 : decode cX6_marketsNow 70 = .ok (.iload 5, 2) := by decide +kernel
theorem dX6_marketsNow_72 : decode cX6_marketsNow 72 = .ok (.iadd, 1) := by decide +kernel
theorem dX6_marketsNow_73 : decode cX6_marketsNow 73 = .ok (.invokevirtual 105, 3) := by decide +kernel
theorem dX6_marketsNow_76 : decode cX6_marketsNow 76 = .ok (.iadd, 1) := by decide +kernel
theorem dX6_marketsNow_77 : decode cX6_marketsNow 77 = .ok (.istore 4, 2) := by decide +kernel
theorem dX6_marketsNow_79 : decode cX6_marketsNow 79 = .ok (.aload_n 0, 1) := by decide +kernel
theorem dX6_marketsNow_80 : decode cX6_marketsNow 80 = .ok (.iload 7, 2) := by decide +kernel
theorem dX6_marketsNow_82 : decode cX6_marketsNow 82 = .ok (.iload 8, 2) := by decide +kernel
theorem dX6_marketsNow_84 : decode cX6_marketsNow 84 = .ok (.invokevirtual 109, 3) := by decide +kernel
theorem dX6_marketsNow_87 : decode cX6_marketsNow 87 = .ok (.iinc 5 1, 3) := by decide +kernel
theorem dX6_marketsNow_90 : decode cX6_marketsNow 90 = .ok (.goto (-74), 3) := by decide +kernel
theorem dX6_marketsNow_93 : decode cX6_marketsNow 93 = .ok (.aload_n 0, 1) := by decide +kernel
theorem dX6_marketsNow_94 : decode cX6_marketsNow 94 = .ok (.invokevirtual 161, 3) := by decide +kernel
theorem dX6_marketsNow_97 : decode cX6_marketsNow 97 = .ok (.istore 5, 2) := by decide +kernel
theorem dX6_marketsNow_99 : decode cX6_marketsNow 99 = .ok (.aload_n 0, 1) := by decide +kernel
theorem dX6_marketsNow_100 : decode cX6_marketsNow 100 = .ok (.invokevirtual 113, 3) := by decide +kernel
theorem dX6_marketsNow_103 : decode cX6_marketsNow 103 = .ok (.iload_n 3, 1) := by decide +kernel
theorem dX6_marketsNow_104 : decode cX6_marketsNow 104 = .ok (.ifCond .ne 8, 3) := by decide +kernel
theorem dX6_marketsNow_107 : decode cX6_marketsNow 107 = .ok (.iload 4, 2) := by decide +kernel
theorem dX6_marketsNow_109 : decode cX6_marketsNow 109 = .ok (.goto 18, 3) := by decide +kernel
theorem dX6_marketsNow_112 : decode cX6_marketsNow 112 = .ok (.iload_n 3, 1) := by decide +kernel
theorem dX6_marketsNow_113 : decode cX6_marketsNow 113 = .ok (.iconst 1, 1) := by decide +kernel
theorem dX6_marketsNow_114 : decode cX6_marketsNow 114 = .ok (.if_icmp .ne 8, 3) := by decide +kernel
theorem dX6_marketsNow_117 : decode cX6_marketsNow 117 = .ok (.iload 5, 2) := by decide +kernel
theorem dX6_marketsNow_119 : decode cX6_marketsNow 119 = .ok (.goto 8, 3) := by decide +kernel
theorem dX6_marketsNow_122 : decode cX6_marketsNow 122 = .ok (.aload_n 0, 1) := by decide +kernel
theorem dX6_marketsNow_123 : decode cX6_marketsNow 123 = .ok (.getfield 148, 3) := by decide +kernel
theorem dX6_marketsNow_126 : decode cX6_marketsNow 126 = .ok (.l2i, 1) := by decide +kernel
theorem dX6_marketsNow_127 : decode cX6_marketsNow 127 = .ok (.ireturn, 1) := by decide +kernel
set_option maxRecDepth 20000 in
theorem ggX6_markets_X6_within : GoodIn wsX6_markets wsX6_within := goodIn_r _ [5] (by decide +kernel) (by decide +kernel)
set_option maxRecDepth 20000 in
theorem gX6_markets_X6_within : GoodIn wsX6_markets (va_wsS RX6 44 yX6_within wsX6_within) := goodIn_app (goodIn_of _ (by decide +kernel)) ggX6_markets_X6_within
set_option maxRecDepth 20000 in
theorem ggX6_markets_X6_marketsNow : GoodIn wsX6_markets wsX6_marketsNow := goodIn_r _ [9, 10, 1, 11, 12, 13, 14, 4, 15, 16, 17, 18, 19, 20, 21, 22, 23, 24, 25, 26, 27, 28, 29, 30, 31, 32, 33, 34, 35, 36, 37, 38, 39, 40, 41, 42, 43, 44, 45, 46, 47, 48, 49, 50, 51, 52, 53, 54, 55, 56, 57, 58, 59, 60, 61, 62, 63, 64, 65, 66, 67, 68, 69, 70, 71, 72, 73] (by decide +kernel) (by decide +kernel)
set_option maxRecDepth 20000 in
theorem gX6_markets_X6_marketsNow : GoodIn wsX6_markets (wsV RX6 164 RX6 yX6_marketsNow wsX6_marketsNow) := goodIn_app (goodIn_of _ (by decide +kernel)) ggX6_markets_X6_marketsNow
theorem dX6_markets_0 : decode cX6_markets 0 = .ok (.iload_n 1, 1) := by decide +kernel
theorem dX6_markets_1 : decode cX6_markets 1 = .ok (.iconst 1, 1) := by decide +kernel
theorem dX6_markets_2 : decode cX6_markets 2 = .ok (.bipush 60, 2) := by decide +kernel
theorem dX6_markets_4 : decode cX6_markets 4 = .ok (.invokestatic 44, 3) := by decide +kernel
theorem dX6_markets_7 : decode cX6_markets 7 = .ok (.ifCond .eq 16, 3) := by decide +kernel
theorem dX6_markets_10 : decode cX6_markets 10 = .ok (.iload_n 2, 1) := by decide +kernel
theorem dX6_markets_11 : decode cX6_markets 11 = .ok (.ifCond .lt 12, 3) := by decide +kernel
theorem dX6_markets_14 : decode cX6_markets 14 = .ok (.iload_n 3, 1) := by decide +kernel
theorem dX6_markets_15 : decode cX6_markets 15 = .ok (.iconst 0, 1) := by decide +kernel
theorem dX6_markets_16 : decode cX6_markets 16 = .ok (.iconst 2, 1) := by decide +kernel
theorem dX6_markets_17 : decode cX6_markets 17 = .ok (.invokestatic 44, 3) := by decide +kernel
theorem dX6_markets_20 : decode cX6_markets 20 = .ok (.ifCond .ne 6, 3) := by decide +kernel
theorem dX6_markets_23 : decode cX6_markets 23 = .ok (.bipush (-102), 2) := by decide +kernel
theorem dX6_markets_25 : decode cX6_markets 25 = .ok (.ireturn, 1) := by decide +kernel
theorem dX6_markets_26 : decode cX6_markets 26 = .ok (.aload_n 0, 1) := by decide +kernel
theorem dX6_markets_27 : decode cX6_markets 27 = .ok (.getfield 73, 3) := by decide +kernel
theorem dX6_markets_30 : decode cX6_markets 30 = .ok (.ifCond .ne 8, 3) := by decide +kernel
theorem dX6_markets_33 : decode cX6_markets 33 = .ok (.bipush (-103), 2) := by decide +kernel
theorem dX6_markets_35 : decode cX6_markets 35 = .ok (.goto 10, 3) := by decide +kernel
theorem dX6_markets_38 : decode cX6_markets 38 = .ok (.aload_n 0, 1) := by decide +kernel
theorem dX6_markets_39 : decode cX6_markets 39 = .ok (.iload_n 1, 1) := by decide +kernel
theorem dX6_markets_40 : decode cX6_markets 40 = .ok (.iload_n 2, 1) := by decide +kernel
theorem dX6_markets_41 : decode cX6_markets 41 = .ok (.iload_n 3, 1) := by decide +kernel
theorem dX6_markets_42 : decode cX6_markets 42 = .ok (.invokevirtual 164, 3) := by decide +kernel
theorem dX6_markets_45 : decode cX6_markets 45 = .ok (.ireturn, 1) := by decide +kernel
theorem dX6_image_0 : decode cX6_image 0 = .ok (.aload_n 0, 1) := by decide +kernel
theorem dX6_image_1 : decode cX6_image 1 = .ok (.getfield 73, 3) := by decide +kernel
theorem dX6_image_4 : decode cX6_image 4 = .ok (.ifCond .ne 6, 3) := by decide +kernel
theorem dX6_image_7 : decode cX6_image 7 = .ok (.bipush (-103), 2) := by decide +kernel
theorem dX6_image_9 : decode cX6_image 9 = .ok (.ireturn, 1) := by decide +kernel
theorem dX6_image_10 : decode cX6_image 10 = .ok (.aload_n 0, 1) := by decide +kernel
theorem dX6_image_11 : decode cX6_image 11 = .ok (.iconst 1, 1) := by decide +kernel
theorem dX6_image_12 : decode cX6_image 12 = .ok (.putfield 167, 3) := by decide +kernel
theorem dX6_image_15 : decode cX6_image 15 = .ok (.aload_n 0, 1) := by decide +kernel
theorem dX6_image_16 : decode cX6_image 16 = .ok (.aload_n 0, 1) := by decide +kernel
theorem dX6_image_17 : decode cX6_image 17 = .ok (.getfield 79, 3) := by decide +kernel
theorem dX6_image_20 : decode cX6_image 20 = .ok (.putfield 170, 3) := by decide +kernel
theorem dX6_image_23 : decode cX6_image 23 = .ok (.aload_n 0, 1) := by decide +kernel
theorem dX6_image_24 : decode cX6_image 24 = .ok (.aload_n 0, 1) := by decide +kernel
theorem dX6_image_25 : decode cX6_image 25 = .ok (.getfield 82, 3) := by decide +kernel
theorem dX6_image_28 : decode cX6_image 28 = .ok (.putfield 173, 3) := by decide +kernel
theorem dX6_image_31 : decode cX6_image 31 = .ok (.aload_n 0, 1) := by decide +kernel
theorem dX6_image_32 : decode cX6_image 32 = .ok (.aload_n 0, 1) := by decide +kernel
theorem dX6_image_33 : decode cX6_image 33 = .ok (.getfield 85, 3) := by decide +kernel
theorem dX6_image_36 : decode cX6_image 36 = .ok (.putfield 176, 3) := by decide +kernel
theorem dX6_image_39 : decode cX6_image 39 = .ok (.aload_n 0, 1) := by decide +kernel
theorem dX6_image_40 : decode cX6_image 40 = .ok (.aload_n 0, 1) := by decide +kernel
theorem dX6_image_41 : decode cX6_image 41 = .ok (.getfield 88, 3) := by decide +kernel
theorem dX6_image_44 : decode cX6_image 44 = .ok (.putfield 179, 3) := by decide +kernel
theorem dX6_image_47 : decode cX6_image 47 = .ok (.aload_n 0, 1) := by decide +kernel
theorem dX6_image_48 : decode cX6_image 48 = .ok (.aload_n 0, 1) := by decide +kernel
theorem dX6_image_49 : decode cX6_image 49 = .ok (.getfield 91, 3) := by decide +kernel
theorem dX6_image_52 : decode cX6_image 52 = .ok (.putfield 182, 3) := by decide +kernel
theorem dX6_image_55 : decode cX6_image 55 = .ok (.iconst 0, 1) := by decide +kernel
theorem dX6_image_56 : decode cX6_image 56 = .ok (.istore_n 1, 1) := by decide +kernel
theorem dX6_image_57 : decode cX6_image 57 = .ok (.iload_n 1, 1) := by decide +kernel
theorem dX6_image_58 : decode cX6_image 58 = .ok (.iconst 4, 1) := by decide +kernel
theorem dX6_image_59 : decode cX6_image 59 = .ok (.if_icmp .ge 109, 3) := by decide +kernel
theorem dX6_image_62 : decode cX6_image 62 = .ok (.aload_n 0, 1) := by decide +kernel
theorem dX6_image_63 : decode cX6_image 63 = .ok (.getfield 41, 3) := by decide +kernel
theorem dX6_image_66 : decode cX6_image 66 = .ok (.bipush 6, 2) := by decide +kernel
theorem dX6_image_68 : decode cX6_image 68 = .ok (.iload_n 1, 1) := by decide +kernel
theorem dX6_image_69 : decode cX6_image 69 = .ok (.imul, 1) := by decide +kernel
theorem dX6_image_70 : decode cX6_image 70 = .ok (.aload_n 0, 1) := by decide +kernel
theorem dX6_image_71 : decode cX6_image 71 = .ok (.getfield 13, 3) := by decide +kernel
theorem dX6_image_74 : decode cX6_image 74 = .ok (.iload_n 1, 1) := by decide +kernel
theorem dX6_image_75 : decode cX6_image 75 = .ok (.iaload, 1) := by decide +kernel
theorem dX6_image_76 : decode cX6_image 76 = .ok (.iastore, 1) := by decide +kernel
theorem dX6_image_77 : decode cX6_image 77 = .ok (.aload_n 0, 1) := by decide +kernel
theorem dX6_image_78 : decode cX6_image 78 = .ok (.getfield 41, 3) := by decide +kernel
theorem dX6_image_81 : decode cX6_image 81 = .ok (.bipush 6, 2) := by decide +kernel
theorem dX6_image_83 : decode cX6_image 83 = .ok (.iload_n 1, 1) := by decide +kernel
theorem dX6_image_84 : decode cX6_image 84 = .ok (.imul, 1) := by decide +kernel
theorem dX6_image_85 : decode cX6_image 85 = .ok (.iconst 1, 1) := by decide +kernel
theorem dX6_image_86 : decode cX6_image 86 = .ok (.iadd, 1) := by decide +kernel
theorem dX6_image_87 : decode cX6_image 87 = .ok (.aload_n 0, 1) := by decide +kernel
theorem dX6_image_88 : decode cX6_image 88 = .ok (.getfield 19, 3) := by decide +kernel
theorem dX6_image_91 : decode cX6_image 91 = .ok (.iload_n 1, 1) := by decide +kernel
theorem dX6_image_92 : decode cX6_image 92 = .ok (.iaload, 1) := by decide +kernel
theorem dX6_image_93 : decode cX6_image 93 = .ok (.iastore, 1) := by decide +kernel
theorem dX6_image_94 : decode cX6_image 94 = .ok (.aload_n 0, 1) := by decide +kernel
theorem dX6_image_95 : decode cX6_image 95 = .ok (.getfield 41, 3) := by decide +kernel
theorem dX6_image_98 : decode cX6_image 98 = .ok (.bipush 6, 2) := by decide +kernel
theorem dX6_image_100 : decode cX6_image 100 = .ok (.iload_n 1, 1) := by decide +kernel
theorem dX6_image_101 : decode cX6_image 101 = .ok (.imul, 1) := by decide +kernel
theorem dX6_image_102 : decode cX6_image 102 = .ok (.iconst 2, 1) := by decide +kernel
theorem dX6_image_103 : decode cX6_image 103 = .ok (.iadd, 1) := by decide +kernel
theorem dX6_image_104 : decode cX6_image 104 = .ok (.aload_n 0, 1) := by decide +kernel
theorem dX6_image_105 : decode cX6_image 105 = .ok (.getfield 22, 3) := by decide +kernel
theorem dX6_image_108 : decode cX6_image 108 = .ok (.iload_n 1, 1) := by decide +kernel
theorem dX6_image_109 : decode cX6_image 109 = .ok (.iaload, 1) := by decide +kernel
theorem dX6_image_110 : decode cX6_image 110 = .ok (.iastore, 1) := by decide +kernel
theorem dX6_image_111 : decode cX6_image 111 = .ok (.aload_n 0, 1) := by decide +kernel
theorem dX6_image_112 : decode cX6_image 112 = .ok (.getfield 41, 3) := by decide +kernel
theorem dX6_image_115 : decode cX6_image 115 = .ok (.bipush 6, 2) := by decide +kernel
theorem dX6_image_117 : decode cX6_image 117 = .ok (.iload_n 1, 1) := by decide +kernel
theorem dX6_image_118 : decode cX6_image 118 = .ok (.imul, 1) := by decide +kernel
theorem dX6_image_119 : decode cX6_image 119 = .ok (.iconst 3, 1) := by decide +kernel
theorem dX6_image_120 : decode cX6_image 120 = .ok (.iadd, 1) := by decide +kernel
theorem dX6_image_121 : decode cX6_image 121 = .ok (.aload_n 0, 1) := by decide +kernel
theorem dX6_image_122 : decode cX6_image 122 = .ok (.getfield 25, 3) := by decide +kernel
theorem dX6_image_125 : decode cX6_image 125 = .ok (.iload_n 1, 1) := by decide +kernel
theorem dX6_image_126 : decode cX6_image 126 = .ok (.iaload, 1) := by decide +kernel
theorem dX6_image_127 : decode cX6_image 127 = .ok (.iastore, 1) := by decide +kernel
theorem dX6_image_128 : decode cX6_image 128 = .ok (.aload_n 0, 1) := by decide +kernel
theorem dX6_image_129 : decode cX6_image 129 = .ok (.getfield 41, 3) := by decide +kernel
theorem dX6_image_132 : decode cX6_image 132 = .ok (.bipush 6, 2) := by decide +kernel
theorem dX6_image_134 : decode cX6_image 134 = .ok (.iload_n 1, 1) := by decide +kernel
theorem dX6_image_135 : decode cX6_image 135 = .ok (.imul, 1) := by decide +kernel
theorem dX6_image_136 : decode cX6_image 136 = .ok (.iconst 4, 1) := by decide +kernel
theorem dX6_image_137 : decode cX6_image 137 = .ok (.iadd, 1) := by decide +kernel
theorem dX6_image_138 : decode cX6_image 138 = .ok (.aload_n 0, 1) := by decide +kernel
theorem dX6_image_139 : decode cX6_image 139 = .ok (.getfield 28, 3) := by decide +kernel
theorem dX6_image_142 : decode cX6_image 142 = .ok (.iload_n 1, 1) := by decide +kernel
theorem dX6_image_143 : decode cX6_image 143 = .ok (.iaload, 1) := by decide +kernel
theorem dX6_image_144 : decode cX6_image 144 = .ok (.iastore, 1) := by decide +kernel
theorem dX6_image_145 : decode cX6_image 145 = .ok (.aload_n 0, 1) := by decide +kernel
theorem dX6_image_146 : decode cX6_image 146 = .ok (.getfield 41, 3) := by decide +kernel
theorem dX6_image_149 : decode cX6_image 149 = .ok (.bipush 6, 2) := by decide +kernel
theorem dX6_image_151 : decode cX6_image 151 = .ok (.iload_n 1, 1) := by decide +kernel
theorem dX6_image_152 : decode cX6_image 152 = .ok (.imul, 1) := by decide +kernel
theorem dX6_image_153 : decode cX6_image 153 = .ok (.iconst 5, 1) := by decide +kernel
theorem dX6_image_154 : decode cX6_image 154 = .ok (.iadd, 1) := by decide +kernel
theorem dX6_image_155 : decode cX6_image 155 = .ok (.aload_n 0, 1) := by decide +kernel
theorem dX6_image_156 : decode cX6_image 156 = .ok (.getfield 31, 3) := by decide +kernel
theorem dX6_image_159 : decode cX6_image 159 = .ok (.iload_n 1, 1) := by decide +kernel
theorem dX6_image_160 : decode cX6_image 160 = .ok (.iaload, 1) := by decide +kernel
theorem dX6_image_161 : decode cX6_image 161 = .ok (.iastore, 1) := by decide +kernel
theorem dX6_image_162 : decode cX6_image 162 = .ok (.iinc 1 1, 3) := by decide +kernel
theorem dX6_image_165 : decode cX6_image 165 = .ok (.goto (-108), 3) := by decide +kernel
theorem dX6_image_168 : decode cX6_image 168 = .ok (.aload_n 0, 1) := by decide +kernel
theorem dX6_image_169 : decode cX6_image 169 = .ok (.getfield 82, 3) := by decide +kernel
theorem dX6_image_172 : decode cX6_image 172 = .ok (.ireturn, 1) := by decide +kernel
theorem dX6_restore_0 : decode cX6_restore 0 = .ok (.aload_n 0, 1) := by decide +kernel
theorem dX6_restore_1 : decode cX6_restore 1 = .ok (.getfield 167, 3) := by decide +kernel
theorem dX6_restore_4 : decode cX6_restore 4 = .ok (.ifCond .eq 14, 3) := by decide +kernel
theorem dX6_restore_7 : decode cX6_restore 7 = .ok (.aload_n 0, 1) := by decide +kernel
theorem dX6_restore_8 : decode cX6_restore 8 = .ok (.getfield 170, 3) := by decide +kernel
theorem dX6_restore_11 : decode cX6_restore 11 = .ok (.aload_n 0, 1) := by decide +kernel
theorem dX6_restore_12 : decode cX6_restore 12 = .ok (.getfield 79, 3) := by decide +kernel
theorem dX6_restore_15 : decode cX6_restore 15 = .ok (.if_icmp .eq 6, 3) := by decide +kernel
theorem dX6_restore_18 : decode cX6_restore 18 = .ok (.bipush (-103), 2) := by decide +kernel
theorem dX6_restore_20 : decode cX6_restore 20 = .ok (.ireturn, 1) := by decide +kernel
theorem dX6_restore_21 : decode cX6_restore 21 = .ok (.aload_n 0, 1) := by decide +kernel
theorem dX6_restore_22 : decode cX6_restore 22 = .ok (.aload_n 0, 1) := by decide +kernel
theorem dX6_restore_23 : decode cX6_restore 23 = .ok (.getfield 173, 3) := by decide +kernel
theorem dX6_restore_26 : decode cX6_restore 26 = .ok (.putfield 82, 3) := by decide +kernel
theorem dX6_restore_29 : decode cX6_restore 29 = .ok (.aload_n 0, 1) := by decide +kernel
theorem dX6_restore_30 : decode cX6_restore 30 = .ok (.aload_n 0, 1) := by decide +kernel
theorem dX6_restore_31 : decode cX6_restore 31 = .ok (.getfield 176, 3) := by decide +kernel
theorem dX6_restore_34 : decode cX6_restore 34 = .ok (.putfield 85, 3) := by decide +kernel
theorem dX6_restore_37 : decode cX6_restore 37 = .ok (.aload_n 0, 1) := by decide +kernel
theorem dX6_restore_38 : decode cX6_restore 38 = .ok (.aload_n 0, 1) := by decide +kernel
theorem dX6_restore_39 : decode cX6_restore 39 = .ok (.getfield 179, 3) := by decide +kernel
theorem dX6_restore_42 : decode cX6_restore 42 = .ok (.putfield 88, 3) := by decide +kernel
theorem dX6_restore_45 : decode cX6_restore 45 = .ok (.aload_n 0, 1) := by decide +kernel
theorem dX6_restore_46 : decode cX6_restore 46 = .ok (.aload_n 0, 1) := by decide +kernel
theorem dX6_restore_47 : decode cX6_restore 47 = .ok (.getfield 182, 3) := by decide +kernel
theorem dX6_restore_50 : decode cX6_restore 50 = .ok (.putfield 91, 3) := by decide +kernel
theorem dX6_restore_53 : decode cX6_restore 53 = .ok (.iconst 0, 1) := by decide +kernel
theorem dX6_restore_54 : decode cX6_restore 54 = .ok (.istore_n 1, 1) := by decide +kernel
theorem dX6_restore_55 : decode cX6_restore 55 = .ok (.iload_n 1, 1) := by decide +kernel
theorem dX6_restore_56 : decode cX6_restore 56 = .ok (.iconst 4, 1) := by decide +kernel
theorem dX6_restore_57 : decode cX6_restore 57 = .ok (.if_icmp .ge 109, 3) := by decide +kernel
theorem dX6_restore_60 : decode cX6_restore 60 = .ok (.aload_n 0, 1) := by decide +kernel
theorem dX6_restore_61 : decode cX6_restore 61 = .ok (.getfield 13, 3) := by decide +kernel
theorem dX6_restore_64 : decode cX6_restore 64 = .ok (.iload_n 1, 1) := by decide +kernel
theorem dX6_restore_65 : decode cX6_restore 65 = .ok (.aload_n 0, 1) := by decide +kernel
theorem dX6_restore_66 : decode cX6_restore 66 = .ok (.getfield 41, 3) := by decide +kernel
theorem dX6_restore_69 : decode cX6_restore 69 = .ok (.bipush 6, 2) := by decide +kernel
theorem dX6_restore_71 : decode cX6_restore 71 = .ok (.iload_n 1, 1) := by decide +kernel
theorem dX6_restore_72 : decode cX6_restore 72 = .ok (.imul, 1) := by decide +kernel
theorem dX6_restore_73 : decode cX6_restore 73 = .ok (.iaload, 1) := by decide +kernel
theorem dX6_restore_74 : decode cX6_restore 74 = .ok (.iastore, 1) := by decide +kernel
theorem dX6_restore_75 : decode cX6_restore 75 = .ok (.aload_n 0, 1) := by decide +kernel
theorem dX6_restore_76 : decode cX6_restore 76 = .ok (.getfield 19, 3) := by decide +kernel
theorem dX6_restore_79 : decode cX6_restore 79 = .ok (.iload_n 1, 1) := by decide +kernel
theorem dX6_restore_80 : decode cX6_restore 80 = .ok (.aload_n 0, 1) := by decide +kernel
theorem dX6_restore_81 : decode cX6_restore 81 = .ok (.getfield 41, 3) := by decide +kernel
theorem dX6_restore_84 : decode cX6_restore 84 = .ok (.bipush 6, 2) := by decide +kernel
theorem dX6_restore_86 : decode cX6_restore 86 = .ok (.iload_n 1, 1) := by decide +kernel
theorem dX6_restore_87 : decode cX6_restore 87 = .ok (.imul, 1) := by decide +kernel
theorem dX6_restore_88 : decode cX6_restore 88 = .ok (.iconst 1, 1) := by decide +kernel
theorem dX6_restore_89 : decode cX6_restore 89 = .ok (.iadd, 1) := by decide +kernel
theorem dX6_restore_90 : decode cX6_restore 90 = .ok (.iaload, 1) := by decide +kernel
theorem dX6_restore_91 : decode cX6_restore 91 = .ok (.iastore, 1) := by decide +kernel
theorem dX6_restore_92 : decode cX6_restore 92 = .ok (.aload_n 0, 1) := by decide +kernel
theorem dX6_restore_93 : decode cX6_restore 93 = .ok (.getfield 22, 3) := by decide +kernel
theorem dX6_restore_96 : decode cX6_restore 96 = .ok (.iload_n 1, 1) := by decide +kernel
theorem dX6_restore_97 : decode cX6_restore 97 = .ok (.aload_n 0, 1) := by decide +kernel
theorem dX6_restore_98 : decode cX6_restore 98 = .ok (.getfield 41, 3) := by decide +kernel
theorem dX6_restore_101 : decode cX6_restore 101 = .ok (.bipush 6, 2) := by decide +kernel
theorem dX6_restore_103 : decode cX6_restore 103 = .ok (.iload_n 1, 1) := by decide +kernel
theorem dX6_restore_104 : decode cX6_restore 104 = .ok (.imul, 1) := by decide +kernel
theorem dX6_restore_105 : decode cX6_restore 105 = .ok (.iconst 2, 1) := by decide +kernel
theorem dX6_restore_106 : decode cX6_restore 106 = .ok (.iadd, 1) := by decide +kernel
theorem dX6_restore_107 : decode cX6_restore 107 = .ok (.iaload, 1) := by decide +kernel
theorem dX6_restore_108 : decode cX6_restore 108 = .ok (.iastore, 1) := by decide +kernel
theorem dX6_restore_109 : decode cX6_restore 109 = .ok (.aload_n 0, 1) := by decide +kernel
theorem dX6_restore_110 : decode cX6_restore 110 = .ok (.getfield 25, 3) := by decide +kernel
theorem dX6_restore_113 : decode cX6_restore 113 = .ok (.iload_n 1, 1) := by decide +kernel
theorem dX6_restore_114 : decode cX6_restore 114 = .ok (.aload_n 0, 1) := by decide +kernel
theorem dX6_restore_115 : decode cX6_restore 115 = .ok (.getfield 41, 3) := by decide +kernel
theorem dX6_restore_118 : decode cX6_restore 118 = .ok (.bipush 6, 2) := by decide +kernel
theorem dX6_restore_120 : decode cX6_restore 120 = .ok (.iload_n 1, 1) := by decide +kernel
theorem dX6_restore_121 : decode cX6_restore 121 = .ok (.imul, 1) := by decide +kernel
theorem dX6_restore_122 : decode cX6_restore 122 = .ok (.iconst 3, 1) := by decide +kernel
theorem dX6_restore_123 : decode cX6_restore 123 = .ok (.iadd, 1) := by decide +kernel
theorem dX6_restore_124 : decode cX6_restore 124 = .ok (.iaload, 1) := by decide +kernel
theorem dX6_restore_125 : decode cX6_restore 125 = .ok (.iastore, 1) := by decide +kernel
theorem dX6_restore_126 : decode cX6_restore 126 = .ok (.aload_n 0, 1) := by decide +kernel
theorem dX6_restore_127 : decode cX6_restore 127 = .ok (.getfield 28, 3) := by decide +kernel
theorem dX6_restore_130 : decode cX6_restore 130 = .ok (.iload_n 1, 1) := by decide +kernel
theorem dX6_restore_131 : decode cX6_restore 131 = .ok (.aload_n 0, 1) := by decide +kernel
theorem dX6_restore_132 : decode cX6_restore 132 = .ok (.getfield 41, 3) := by decide +kernel
theorem dX6_restore_135 : decode cX6_restore 135 = .ok (.bipush 6, 2) := by decide +kernel
theorem dX6_restore_137 : decode cX6_restore 137 = .ok (.iload_n 1, 1) := by decide +kernel
theorem dX6_restore_138 : decode cX6_restore 138 = .ok (.imul, 1) := by decide +kernel
theorem dX6_restore_139 : decode cX6_restore 139 = .ok (.iconst 4, 1) := by decide +kernel
theorem dX6_restore_140 : decode cX6_restore 140 = .ok (.iadd, 1) := by decide +kernel
theorem dX6_restore_141 : decode cX6_restore 141 = .ok (.iaload, 1) := by decide +kernel
theorem dX6_restore_142 : decode cX6_restore 142 = .ok (.iastore, 1) := by decide +kernel
theorem dX6_restore_143 : decode cX6_restore 143 = .ok (.aload_n 0, 1) := by decide +kernel
theorem dX6_restore_144 : decode cX6_restore 144 = .ok (.getfield 31, 3) := by decide +kernel
theorem dX6_restore_147 : decode cX6_restore 147 = .ok (.iload_n 1, 1) := by decide +kernel
theorem dX6_restore_148 : decode cX6_restore 148 = .ok (.aload_n 0, 1) := by decide +kernel
theorem dX6_restore_149 : decode cX6_restore 149 = .ok (.getfield 41, 3) := by decide +kernel
theorem dX6_restore_152 : decode cX6_restore 152 = .ok (.bipush 6, 2) := by decide +kernel
theorem dX6_restore_154 : decode cX6_restore 154 = .ok (.iload_n 1, 1) := by decide +kernel
theorem dX6_restore_155 : decode cX6_restore 155 = .ok (.imul, 1) := by decide +kernel
theorem dX6_restore_156 : decode cX6_restore 156 = .ok (.iconst 5, 1) := by decide +kernel
theorem dX6_restore_157 : decode cX6_restore 157 = .ok (.iadd, 1) := by decide +kernel
theorem dX6_restore_158 : decode cX6_restore 158 = .ok (.iaload, 1) := by decide +kernel
theorem dX6_restore_159 : decode cX6_restore 159 = .ok (.iastore, 1) := by decide +kernel
theorem dX6_restore_160 : decode cX6_restore 160 = .ok (.iinc 1 1, 3) := by decide +kernel
theorem dX6_restore_163 : decode cX6_restore 163 = .ok (.goto (-108), 3) := by decide +kernel
theorem dX6_restore_166 : decode cX6_restore 166 = .ok (.aload_n 0, 1) := by decide +kernel
theorem dX6_restore_167 : decode cX6_restore 167 = .ok (.getfield 82, 3) := by decide +kernel
theorem dX6_restore_170 : decode cX6_restore 170 = .ok (.ireturn, 1) := by decide +kernel
set_option maxRecDepth 20000 in
theorem ggX6_sum_X6_houseNow : GoodIn wsX6_sum wsX6_houseNow := goodIn_r _ [6, 7, 8, 9, 10, 11, 12, 13, 14, 15, 16, 17, 18, 19, 20, 21, 22, 23, 24, 25, 26, 27, 28, 29, 30, 31, 32, 33, 34, 35, 36, 37, 38, 39, 40, 41, 42, 43] (by decide +kernel) (by decide +kernel)
set_option maxRecDepth 20000 in
theorem gX6_sum_X6_houseNow : GoodIn wsX6_sum (wsV RX6 98 RX6 yX6_houseNow wsX6_houseNow) := goodIn_app (goodIn_of _ (by decide +kernel)) ggX6_sum_X6_houseNow
theorem dX6_sum_0 : decode cX6_sum 0 = .ok (.iconst 0, 1) := by decide +kernel
theorem dX6_sum_1 : decode cX6_sum 1 = .ok (.istore_n 2, 1) := by decide +kernel
theorem dX6_sum_2 : decode cX6_sum 2 = .ok (.iconst 0, 1) := by decide +kernel
theorem dX6_sum_3 : decode cX6_sum 3 = .ok (.istore_n 3, 1) := by decide +kernel
theorem dX6_sum_4 : decode cX6_sum 4 = .ok (.iload_n 3, 1) := by decide +kernel
theorem dX6_sum_5 : decode cX6_sum 5 = .ok (.aload_n 0, 1) := by decide +kernel
theorem dX6_sum_6 : decode cX6_sum 6 = .ok (.getfield 73, 3) := by decide +kernel
theorem dX6_sum_9 : decode cX6_sum 9 = .ok (.if_icmp .ge 18, 3) := by decide +kernel
theorem dX6_sum_12 : decode cX6_sum 12 = .ok (.iload_n 2, 1) := by decide +kernel
theorem dX6_sum_13 : decode cX6_sum 13 = .ok (.aload_n 0, 1) := by decide +kernel
theorem dX6_sum_14 : decode cX6_sum 14 = .ok (.iload_n 3, 1) := by decide +kernel
theorem dX6_sum_15 : decode cX6_sum 15 = .ok (.iload_n 1, 1) := by decide +kernel
theorem dX6_sum_16 : decode cX6_sum 16 = .ok (.invokevirtual 98, 3) := by decide +kernel
theorem dX6_sum_19 : decode cX6_sum 19 = .ok (.iadd, 1) := by decide +kernel
theorem dX6_sum_20 : decode cX6_sum 20 = .ok (.istore_n 2, 1) := by decide +kernel
theorem dX6_sum_21 : decode cX6_sum 21 = .ok (.iinc 3 1, 3) := by decide +kernel
theorem dX6_sum_24 : decode cX6_sum 24 = .ok (.goto (-20), 3) := by decide +kernel
theorem dX6_sum_27 : decode cX6_sum 27 = .ok (.iload_n 2, 1) := by decide +kernel
theorem dX6_sum_28 : decode cX6_sum 28 = .ok (.ireturn, 1) := by decide +kernel
set_option maxRecDepth 20000 in
theorem ggX6_howMany_X6_sum : GoodIn wsX6_howMany wsX6_sum := goodIn_r _ [14, 1, 15, 16, 17, 13, 18, 19, 20, 21, 22, 23, 24, 25, 30, 31, 32, 33, 34, 35, 36, 37, 38, 39, 40, 41, 42, 43, 44, 45, 46, 47, 48, 49, 50, 51, 52, 53, 54, 55, 56, 57, 58, 59] (by decide +kernel) (by decide +kernel)
set_option maxRecDepth 20000 in
theorem gX6_howMany_X6_sum : GoodIn wsX6_howMany (wsV RX6 185 RX6 yX6_sum wsX6_sum) := goodIn_app (goodIn_of _ (by decide +kernel)) ggX6_howMany_X6_sum
set_option maxRecDepth 20000 in
theorem ggX6_howMany_X6_weighsAll : GoodIn wsX6_howMany wsX6_weighsAll := goodIn_r _ [29, 1, 20, 30, 31, 32, 33, 34, 35, 36, 37, 38, 39, 40, 41, 42, 43, 44, 45, 46, 47, 48, 49, 50, 51, 52, 53, 54, 55, 56, 57, 58, 59] (by decide +kernel) (by decide +kernel)
set_option maxRecDepth 20000 in
theorem gX6_howMany_X6_weighsAll : GoodIn wsX6_howMany (wsV RX6 161 RX6 yX6_weighsAll wsX6_weighsAll) := goodIn_app (goodIn_of _ (by decide +kernel)) ggX6_howMany_X6_weighsAll
theorem dX6_howMany_0 : decode cX6_howMany 0 = .ok (.iload_n 1, 1) := by decide +kernel
theorem dX6_howMany_1 : decode cX6_howMany 1 = .ok (.tableswitch 125 0 11 #[63, 68, 73, 78, 83, 89, 95, 100, 105, 110, 115, 120], 63) := by decide +kernel
theorem dX6_howMany_64 : decode cX6_howMany 64 = .ok (.aload_n 0, 1) := by decide +kernel
theorem dX6_howMany_65 : decode cX6_howMany 65 = .ok (.getfield 73, 3) := by decide +kernel
theorem dX6_howMany_68 : decode cX6_howMany 68 = .ok (.ireturn, 1) := by decide +kernel
theorem dX6_howMany_69 : decode cX6_howMany 69 = .ok (.aload_n 0, 1) := by decide +kernel
theorem dX6_howMany_70 : decode cX6_howMany 70 = .ok (.getfield 76, 3) := by decide +kernel
theorem dX6_howMany_73 : decode cX6_howMany 73 = .ok (.ireturn, 1) := by decide +kernel
theorem dX6_howMany_74 : decode cX6_howMany 74 = .ok (.aload_n 0, 1) := by decide +kernel
theorem dX6_howMany_75 : decode cX6_howMany 75 = .ok (.getfield 82, 3) := by decide +kernel
theorem dX6_howMany_78 : decode cX6_howMany 78 = .ok (.ireturn, 1) := by decide +kernel
theorem dX6_howMany_79 : decode cX6_howMany 79 = .ok (.aload_n 0, 1) := by decide +kernel
theorem dX6_howMany_80 : decode cX6_howMany 80 = .ok (.getfield 85, 3) := by decide +kernel
theorem dX6_howMany_83 : decode cX6_howMany 83 = .ok (.ireturn, 1) := by decide +kernel
theorem dX6_howMany_84 : decode cX6_howMany 84 = .ok (.aload_n 0, 1) := by decide +kernel
theorem dX6_howMany_85 : decode cX6_howMany 85 = .ok (.iconst 3, 1) := by decide +kernel
theorem dX6_howMany_86 : decode cX6_howMany 86 = .ok (.invokevirtual 185, 3) := by decide +kernel
theorem dX6_howMany_89 : decode cX6_howMany 89 = .ok (.ireturn, 1) := by decide +kernel
theorem dX6_howMany_90 : decode cX6_howMany 90 = .ok (.aload_n 0, 1) := by decide +kernel
theorem dX6_howMany_91 : decode cX6_howMany 91 = .ok (.iconst 4, 1) := by decide +kernel
theorem dX6_howMany_92 : decode cX6_howMany 92 = .ok (.invokevirtual 185, 3) := by decide +kernel
theorem dX6_howMany_95 : decode cX6_howMany 95 = .ok (.ireturn, 1) := by decide +kernel
theorem dX6_howMany_96 : decode cX6_howMany 96 = .ok (.aload_n 0, 1) := by decide +kernel
theorem dX6_howMany_97 : decode cX6_howMany 97 = .ok (.invokevirtual 161, 3) := by decide +kernel
theorem dX6_howMany_100 : decode cX6_howMany 100 = .ok (.ireturn, 1) := by decide +kernel
theorem dX6_howMany_101 : decode cX6_howMany 101 = .ok (.aload_n 0, 1) := by decide +kernel
theorem dX6_howMany_102 : decode cX6_howMany 102 = .ok (.getfield 88, 3) := by decide +kernel
theorem dX6_howMany_105 : decode cX6_howMany 105 = .ok (.ireturn, 1) := by decide +kernel
theorem dX6_howMany_106 : decode cX6_howMany 106 = .ok (.aload_n 0, 1) := by decide +kernel
theorem dX6_howMany_107 : decode cX6_howMany 107 = .ok (.getfield 91, 3) := by decide +kernel
theorem dX6_howMany_110 : decode cX6_howMany 110 = .ok (.ireturn, 1) := by decide +kernel
theorem dX6_howMany_111 : decode cX6_howMany 111 = .ok (.aload_n 0, 1) := by decide +kernel
theorem dX6_howMany_112 : decode cX6_howMany 112 = .ok (.getfield 48, 3) := by decide +kernel
theorem dX6_howMany_115 : decode cX6_howMany 115 = .ok (.ireturn, 1) := by decide +kernel
theorem dX6_howMany_116 : decode cX6_howMany 116 = .ok (.aload_n 0, 1) := by decide +kernel
theorem dX6_howMany_117 : decode cX6_howMany 117 = .ok (.getfield 79, 3) := by decide +kernel
theorem dX6_howMany_120 : decode cX6_howMany 120 = .ok (.ireturn, 1) := by decide +kernel
theorem dX6_howMany_121 : decode cX6_howMany 121 = .ok (.aload_n 0, 1) := by decide +kernel
theorem dX6_howMany_122 : decode cX6_howMany 122 = .ok (.getfield 124, 3) := by decide +kernel
theorem dX6_howMany_125 : decode cX6_howMany 125 = .ok (.ireturn, 1) := by decide +kernel
theorem dX6_howMany_126 : decode cX6_howMany 126 = .ok (.bipush (-102), 2) := by decide +kernel
theorem dX6_howMany_128 : decode cX6_howMany 128 = .ok (.ireturn, 1) := by decide +kernel
set_option maxRecDepth 20000 in
theorem ggX6_count_X6_howMany : GoodIn wsX6_count wsX6_howMany := goodIn_r _ [5, 6, 7, 8, 9, 10, 11, 12, 13, 14, 15, 16, 17, 4, 18, 19, 20, 21, 22, 23, 24, 25, 26, 27, 28, 29, 30, 31, 32, 33, 34, 35, 36, 37, 38, 39, 40, 41, 42, 43, 44, 45, 46, 47, 48, 49, 50, 51, 52, 53, 54, 55, 56, 57, 58, 59, 60, 61, 62, 63] (by decide +kernel) (by decide +kernel)
set_option maxRecDepth 20000 in
theorem gX6_count_X6_howMany : GoodIn wsX6_count (wsV RX6 188 RX6 yX6_howMany wsX6_howMany) := goodIn_app (goodIn_of _ (by decide +kernel)) ggX6_count_X6_howMany
theorem dX6_count_0 : decode cX6_count 0 = .ok (.aload_n 0, 1) := by decide +kernel
theorem dX6_count_1 : decode cX6_count 1 = .ok (.iload_n 1, 1) := by decide +kernel
theorem dX6_count_2 : decode cX6_count 2 = .ok (.invokevirtual 188, 3) := by decide +kernel
theorem dX6_count_5 : decode cX6_count 5 = .ok (.ireturn, 1) := by decide +kernel
theorem dX6_mix_0 : decode cX6_mix 0 = .ok (.aload_n 0, 1) := by decide +kernel
theorem dX6_mix_1 : decode cX6_mix 1 = .ok (.ldc2_w 191, 3) := by decide +kernel
theorem dX6_mix_4 : decode cX6_mix 4 = .ok (.aload_n 0, 1) := by decide +kernel
theorem dX6_mix_5 : decode cX6_mix 5 = .ok (.getfield 193, 3) := by decide +kernel
theorem dX6_mix_8 : decode cX6_mix 8 = .ok (.lmul, 1) := by decide +kernel
theorem dX6_mix_9 : decode cX6_mix 9 = .ok (.lload_n 1, 1) := by decide +kernel
theorem dX6_mix_10 : decode cX6_mix 10 = .ok (.ladd, 1) := by decide +kernel
theorem dX6_mix_11 : decode cX6_mix 11 = .ok (.putfield 193, 3) := by decide +kernel
theorem dX6_mix_14 : decode cX6_mix 14 = .ok (.return_, 1) := by decide +kernel
set_option maxRecDepth 20000 in
theorem ggX6_digest_X6_houseNow : GoodIn wsX6_digest wsX6_houseNow := goodIn_r _ [10, 11, 12, 13, 14, 15, 16, 17, 67, 68, 69, 70, 71, 72, 73, 74, 75, 76, 77, 78, 79, 80, 81, 82, 83, 84, 85, 86, 87, 88, 89, 90, 91, 92, 93, 94, 95, 96] (by decide +kernel) (by decide +kernel)
set_option maxRecDepth 20000 in
theorem gX6_digest_X6_houseNow : GoodIn wsX6_digest (wsV RX6 98 RX6 yX6_houseNow wsX6_houseNow) := goodIn_app (goodIn_of _ (by decide +kernel)) ggX6_digest_X6_houseNow
set_option maxRecDepth 20000 in
theorem ggX6_digest_X6_mix : GoodIn wsX6_digest wsX6_mix := goodIn_r _ [21, 22, 2, 67, 68, 69, 70, 71, 72, 73, 74, 75, 76, 77, 78, 79, 80, 81, 82, 83, 84, 85, 86, 87, 88, 89, 90, 91, 92, 93, 94, 95, 96] (by decide +kernel) (by decide +kernel)
set_option maxRecDepth 20000 in
theorem gX6_digest_X6_mix : GoodIn wsX6_digest (wsV RX6 198 RX6 yX6_mix wsX6_mix) := goodIn_app (goodIn_of _ (by decide +kernel)) ggX6_digest_X6_mix
set_option maxRecDepth 20000 in
theorem ggX6_digest_X6_fairNow : GoodIn wsX6_digest wsX6_fairNow := goodIn_r _ [26, 27, 3, 13, 28, 29, 30, 9, 31, 12, 32, 11, 67, 68, 69, 70, 71, 72, 73, 74, 75, 76, 77, 78, 79, 80, 81, 82, 83, 84, 85, 86, 87, 88, 89, 90, 91, 92, 93, 94, 95, 96] (by decide +kernel) (by decide +kernel)
set_option maxRecDepth 20000 in
theorem gX6_digest_X6_fairNow : GoodIn wsX6_digest (wsV RX6 130 RX6 yX6_fairNow wsX6_fairNow) := goodIn_app (goodIn_of _ (by decide +kernel)) ggX6_digest_X6_fairNow
set_option maxRecDepth 20000 in
theorem ggX6_digest_X6_rubbedNow : GoodIn wsX6_digest wsX6_rubbedNow := goodIn_r _ [36, 3, 37, 38, 39, 9, 40, 41, 42, 43, 44, 45, 67, 68, 69, 70, 71, 72, 73, 74, 75, 76, 77, 78, 79, 80, 81, 82, 83, 84, 85, 86, 87, 88, 89, 90, 91, 92, 93, 94, 95, 96] (by decide +kernel) (by decide +kernel)
set_option maxRecDepth 20000 in
theorem gX6_digest_X6_rubbedNow : GoodIn wsX6_digest (wsV RX6 140 RX6 yX6_rubbedNow wsX6_rubbedNow) := goodIn_app (goodIn_of _ (by decide +kernel)) ggX6_digest_X6_rubbedNow
set_option maxRecDepth 20000 in
theorem ggX6_digest_X6_watchNow : GoodIn wsX6_digest wsX6_watchNow := goodIn_r _ [49, 50, 3, 33, 34, 35, 9, 36, 37, 38, 39, 40, 41, 42, 43, 44, 45, 67, 68, 69, 70, 71, 72, 73, 74, 75, 76, 77, 78, 79, 80, 81, 82, 83, 84, 85, 86, 87, 88, 89, 90, 91, 92, 93, 94, 95, 96] (by decide +kernel) (by decide +kernel)
set_option maxRecDepth 20000 in
theorem gX6_digest_X6_watchNow : GoodIn wsX6_digest (wsV RX6 143 RX6 yX6_watchNow wsX6_watchNow) := goodIn_app (goodIn_of _ (by decide +kernel)) ggX6_digest_X6_watchNow
set_option maxRecDepth 20000 in
theorem ggX6_digest_X6_howMany : GoodIn wsX6_digest wsX6_howMany := goodIn_r _ [54, 3, 32, 27, 55, 56, 42, 4, 57, 58, 59, 60, 61, 9, 62, 6, 7, 8, 10, 11, 12, 13, 14, 15, 16, 17, 63, 64, 65, 66, 67, 68, 69, 70, 71, 72, 73, 74, 75, 76, 77, 78, 79, 80, 81, 82, 83, 84, 85, 86, 87, 88, 89, 90, 91, 92, 93, 94, 95, 96] (by decide +kernel) (by decide +kernel)
set_option maxRecDepth 20000 in
theorem gX6_digest_X6_howMany : GoodIn wsX6_digest (wsV RX6 188 RX6 yX6_howMany wsX6_howMany) := goodIn_app (goodIn_of _ (by decide +kernel)) ggX6_digest_X6_howMany
theorem dX6_digest_0 : decode cX6_digest 0 = .ok (.aload_n 0, 1) := by decide +kernel
theorem dX6_digest_1 : decode cX6_digest 1 = .ok (.ldc2_w 196, 3) := by decide +kernel
theorem dX6_digest_4 : decode cX6_digest 4 = .ok (.putfield 193, 3) := by decide +kernel
theorem dX6_digest_7 : decode cX6_digest 7 = .ok (.iconst 0, 1) := by decide +kernel
theorem dX6_digest_8 : decode cX6_digest 8 = .ok (.istore_n 1, 1) := by decide +kernel
theorem dX6_digest_9 : decode cX6_digest 9 = .ok (.iload_n 1, 1) := by decide +kernel
theorem dX6_digest_10 : decode cX6_digest 10 = .ok (.aload_n 0, 1) := by decide +kernel
theorem dX6_digest_11 : decode cX6_digest 11 = .ok (.getfield 73, 3) := by decide +kernel
theorem dX6_digest_14 : decode cX6_digest 14 = .ok (.if_icmp .ge 66, 3) := by decide +kernel
theorem dX6_digest_17 : decode cX6_digest 17 = .ok (.iconst 0, 1) := by decide +kernel
theorem dX6_digest_18 : decode cX6_digest 18 = .ok (.istore_n 2, 1) := by decide +kernel
theorem dX6_digest_19 : decode cX6_digest 19 = .ok (.iload_n 2, 1) := by decide +kernel
theorem dX6_digest_20 : decode cX6_digest 20 = .ok (.bipush 7, 2) := by decide +kernel
theorem dX6_digest_22 : decode cX6_digest 22 = .ok (.if_icmp .ge 20, 3) := by decide +kernel
theorem dX6_digest_25 : decode cX6_digest 25 = .ok (.aload_n 0, 1) := by decide +kernel
theorem dX6_digest_26 : decode cX6_digest 26 = .ok (.aload_n 0, 1) := by decide +kernel
theorem dX6_digest_27 : decode cX6_digest 27 = .ok (.iload_n 1, 1) := by decide +kernel
theorem dX6_digest_28 : decode cX6_digest 28 = .ok (.iload_n 2, 1) := by decide +kernel
theorem dX6_digest_29 : decode cX6_digest 29 = .ok (.invokevirtual 98, 3) := by decide +kernel
theorem dX6_digest_32 : decode cX6_digest 32 = .ok (.i2l, 1) := by decide +kernel
theorem dX6_digest_33 : decode cX6_digest 33 = .ok (.invokevirtual 198, 3) := by decide +kernel
theorem dX6_digest_36 : decode cX6_digest 36 = .ok (.iinc 2 1, 3) := by decide +kernel
theorem dX6_digest_39 : decode cX6_digest 39 = .ok (.goto (-20), 3) := by decide +kernel
theorem dX6_digest_42 : decode cX6_digest 42 = .ok (.iconst 0, 1) := by decide +kernel
theorem dX6_digest_43 : decode cX6_digest 43 = .ok (.istore_n 2, 1) := by decide +kernel
theorem dX6_digest_44 : decode cX6_digest 44 = .ok (.iload_n 2, 1) := by decide +kernel
theorem dX6_digest_45 : decode cX6_digest 45 = .ok (.aload_n 0, 1) := by decide +kernel
theorem dX6_digest_46 : decode cX6_digest 46 = .ok (.getfield 73, 3) := by decide +kernel
theorem dX6_digest_49 : decode cX6_digest 49 = .ok (.if_icmp .ge 25, 3) := by decide +kernel
theorem dX6_digest_52 : decode cX6_digest 52 = .ok (.iload_n 1, 1) := by decide +kernel
theorem dX6_digest_53 : decode cX6_digest 53 = .ok (.iload_n 2, 1) := by decide +kernel
theorem dX6_digest_54 : decode cX6_digest 54 = .ok (.if_icmp .eq 14, 3) := by decide +kernel
theorem dX6_digest_57 : decode cX6_digest 57 = .ok (.aload_n 0, 1) := by decide +kernel
theorem dX6_digest_58 : decode cX6_digest 58 = .ok (.aload_n 0, 1) := by decide +kernel
theorem dX6_digest_59 : decode cX6_digest 59 = .ok (.iload_n 1, 1) := by decide +kernel
theorem dX6_digest_60 : decode cX6_digest 60 = .ok (.iload_n 2, 1) := by decide +kernel
theorem dX6_digest_61 : decode cX6_digest 61 = .ok (.invokevirtual 130, 3) := by decide +kernel
theorem dX6_digest_64 : decode cX6_digest 64 = .ok (.i2l, 1) := by decide +kernel
theorem dX6_digest_65 : decode cX6_digest 65 = .ok (.invokevirtual 198, 3) := by decide +kernel
theorem dX6_digest_68 : decode cX6_digest 68 = .ok (.iinc 2 1, 3) := by decide +kernel
theorem dX6_digest_71 : decode cX6_digest 71 = .ok (.goto (-27), 3) := by decide +kernel
theorem dX6_digest_74 : decode cX6_digest 74 = .ok (.iinc 1 1, 3) := by decide +kernel
theorem dX6_digest_77 : decode cX6_digest 77 = .ok (.goto (-68), 3) := by decide +kernel
theorem dX6_digest_80 : decode cX6_digest 80 = .ok (.aload_n 0, 1) := by decide +kernel
theorem dX6_digest_81 : decode cX6_digest 81 = .ok (.getfield 73, 3) := by decide +kernel
theorem dX6_digest_84 : decode cX6_digest 84 = .ok (.ifCond .le 35, 3) := by decide +kernel
theorem dX6_digest_87 : decode cX6_digest 87 = .ok (.iconst 0, 1) := by decide +kernel
theorem dX6_digest_88 : decode cX6_digest 88 = .ok (.istore_n 1, 1) := by decide +kernel
theorem dX6_digest_89 : decode cX6_digest 89 = .ok (.iload_n 1, 1) := by decide +kernel
theorem dX6_digest_90 : decode cX6_digest 90 = .ok (.iconst 3, 1) := by decide +kernel
theorem dX6_digest_91 : decode cX6_digest 91 = .ok (.if_icmp .ge 19, 3) := by decide +kernel
theorem dX6_digest_94 : decode cX6_digest 94 = .ok (.aload_n 0, 1) := by decide +kernel
theorem dX6_digest_95 : decode cX6_digest 95 = .ok (.aload_n 0, 1) := by decide +kernel
theorem dX6_digest_96 : decode cX6_digest 96 = .ok (.iload_n 1, 1) := by decide +kernel
theorem dX6_digest_97 : decode cX6_digest 97 = .ok (.invokevirtual 140, 3) := by decide +kernel
theorem dX6_digest_100 : decode cX6_digest 100 = .ok (.i2l, 1) := by decide +kernel
theorem dX6_digest_101 : decode cX6_digest 101 = .ok (.invokevirtual 198, 3) := by decide +kernel
theorem dX6_digest_104 : decode cX6_digest 104 = .ok (.iinc 1 1, 3) := by decide +kernel
theorem dX6_digest_107 : decode cX6_digest 107 = .ok (.goto (-18), 3) := by decide +kernel
theorem dX6_digest_110 : decode cX6_digest 110 = .ok (.aload_n 0, 1) := by decide +kernel
theorem dX6_digest_111 : decode cX6_digest 111 = .ok (.aload_n 0, 1) := by decide +kernel
theorem dX6_digest_112 : decode cX6_digest 112 = .ok (.invokevirtual 143, 3) := by decide +kernel
theorem dX6_digest_115 : decode cX6_digest 115 = .ok (.i2l, 1) := by decide +kernel
theorem dX6_digest_116 : decode cX6_digest 116 = .ok (.invokevirtual 198, 3) := by decide +kernel
theorem dX6_digest_119 : decode cX6_digest 119 = .ok (.iconst 0, 1) := by decide +kernel
theorem dX6_digest_120 : decode cX6_digest 120 = .ok (.istore_n 1, 1) := by decide +kernel
theorem dX6_digest_121 : decode cX6_digest 121 = .ok (.iload_n 1, 1) := by decide +kernel
theorem dX6_digest_122 : decode cX6_digest 122 = .ok (.aload_n 0, 1) := by decide +kernel
theorem dX6_digest_123 : decode cX6_digest 123 = .ok (.getfield 48, 3) := by decide +kernel
theorem dX6_digest_126 : decode cX6_digest 126 = .ok (.if_icmp .ge 20, 3) := by decide +kernel
theorem dX6_digest_129 : decode cX6_digest 129 = .ok (.aload_n 0, 1) := by decide +kernel
theorem dX6_digest_130 : decode cX6_digest 130 = .ok (.aload_n 0, 1) := by decide +kernel
theorem dX6_digest_131 : decode cX6_digest 131 = .ok (.getfield 34, 3) := by decide +kernel
theorem dX6_digest_134 : decode cX6_digest 134 = .ok (.iload_n 1, 1) := by decide +kernel
theorem dX6_digest_135 : decode cX6_digest 135 = .ok (.baload, 1) := by decide +kernel
theorem dX6_digest_136 : decode cX6_digest 136 = .ok (.i2l, 1) := by decide +kernel
theorem dX6_digest_137 : decode cX6_digest 137 = .ok (.invokevirtual 198, 3) := by decide +kernel
theorem dX6_digest_140 : decode cX6_digest 140 = .ok (.iinc 1 1, 3) := by decide +kernel
theorem dX6_digest_143 : decode cX6_digest 143 = .ok (.goto (-22), 3) := by decide +kernel
theorem dX6_digest_146 : decode cX6_digest 146 = .ok (.iconst 0, 1) := by decide +kernel
theorem dX6_digest_147 : decode cX6_digest 147 = .ok (.istore_n 1, 1) := by decide +kernel
theorem dX6_digest_148 : decode cX6_digest 148 = .ok (.iload_n 1, 1) := by decide +kernel
theorem dX6_digest_149 : decode cX6_digest 149 = .ok (.bipush 12, 2) := by decide +kernel
theorem dX6_digest_151 : decode cX6_digest 151 = .ok (.if_icmp .ge 19, 3) := by decide +kernel
theorem dX6_digest_154 : decode cX6_digest 154 = .ok (.aload_n 0, 1) := by decide +kernel
theorem dX6_digest_155 : decode cX6_digest 155 = .ok (.aload_n 0, 1) := by decide +kernel
theorem dX6_digest_156 : decode cX6_digest 156 = .ok (.iload_n 1, 1) := by decide +kernel
theorem dX6_digest_157 : decode cX6_digest 157 = .ok (.invokevirtual 188, 3) := by decide +kernel
theorem dX6_digest_160 : decode cX6_digest 160 = .ok (.i2l, 1) := by decide +kernel
theorem dX6_digest_161 : decode cX6_digest 161 = .ok (.invokevirtual 198, 3) := by decide +kernel
theorem dX6_digest_164 : decode cX6_digest 164 = .ok (.iinc 1 1, 3) := by decide +kernel
theorem dX6_digest_167 : decode cX6_digest 167 = .ok (.goto (-19), 3) := by decide +kernel
theorem dX6_digest_170 : decode cX6_digest 170 = .ok (.aload_n 0, 1) := by decide +kernel
theorem dX6_digest_171 : decode cX6_digest 171 = .ok (.getfield 193, 3) := by decide +kernel
theorem dX6_digest_174 : decode cX6_digest 174 = .ok (.lreturn, 1) := by decide +kernel
theorem dJ11_isValidCodePoint_9a6ad_0 : decode cJ11_isValidCodePoint_9a6ad 0 = .ok (.iload_n 0, 1) := by decide +kernel
theorem dJ11_isValidCodePoint_9a6ad_1 : decode cJ11_isValidCodePoint_9a6ad 1 = .ok (.bipush 16, 2) := by decide +kernel
theorem dJ11_isValidCodePoint_9a6ad_3 : decode cJ11_isValidCodePoint_9a6ad 3 = .ok (.iushr, 1) := by decide +kernel
theorem dJ11_isValidCodePoint_9a6ad_4 : decode cJ11_isValidCodePoint_9a6ad 4 = .ok (.istore_n 1, 1) := by decide +kernel
theorem dJ11_isValidCodePoint_9a6ad_5 : decode cJ11_isValidCodePoint_9a6ad 5 = .ok (.iload_n 1, 1) := by decide +kernel
theorem dJ11_isValidCodePoint_9a6ad_6 : decode cJ11_isValidCodePoint_9a6ad 6 = .ok (.bipush 17, 2) := by decide +kernel
theorem dJ11_isValidCodePoint_9a6ad_8 : decode cJ11_isValidCodePoint_9a6ad 8 = .ok (.if_icmp .ge 7, 3) := by decide +kernel
theorem dJ11_isValidCodePoint_9a6ad_11 : decode cJ11_isValidCodePoint_9a6ad 11 = .ok (.iconst 1, 1) := by decide +kernel
theorem dJ11_isValidCodePoint_9a6ad_12 : decode cJ11_isValidCodePoint_9a6ad 12 = .ok (.goto 4, 3) := by decide +kernel
theorem dJ11_isValidCodePoint_9a6ad_15 : decode cJ11_isValidCodePoint_9a6ad 15 = .ok (.iconst 0, 1) := by decide +kernel
theorem dJ11_isValidCodePoint_9a6ad_16 : decode cJ11_isValidCodePoint_9a6ad 16 = .ok (.ireturn, 1) := by decide +kernel
theorem dJ11_highSurrogate_5068e_0 : decode cJ11_highSurrogate_5068e 0 = .ok (.iload_n 0, 1) := by decide +kernel
theorem dJ11_highSurrogate_5068e_1 : decode cJ11_highSurrogate_5068e 1 = .ok (.bipush 10, 2) := by decide +kernel
theorem dJ11_highSurrogate_5068e_3 : decode cJ11_highSurrogate_5068e 3 = .ok (.iushr, 1) := by decide +kernel
theorem dJ11_highSurrogate_5068e_4 : decode cJ11_highSurrogate_5068e 4 = .ok (.ldc 110, 2) := by decide +kernel
theorem dJ11_highSurrogate_5068e_6 : decode cJ11_highSurrogate_5068e 6 = .ok (.iadd, 1) := by decide +kernel
theorem dJ11_highSurrogate_5068e_7 : decode cJ11_highSurrogate_5068e 7 = .ok (.i2c, 1) := by decide +kernel
theorem dJ11_highSurrogate_5068e_8 : decode cJ11_highSurrogate_5068e 8 = .ok (.ireturn, 1) := by decide +kernel
theorem dJ11_lowSurrogate_5068e_0 : decode cJ11_lowSurrogate_5068e 0 = .ok (.iload_n 0, 1) := by decide +kernel
theorem dJ11_lowSurrogate_5068e_1 : decode cJ11_lowSurrogate_5068e 1 = .ok (.sipush 1023, 3) := by decide +kernel
theorem dJ11_lowSurrogate_5068e_4 : decode cJ11_lowSurrogate_5068e 4 = .ok (.iand, 1) := by decide +kernel
theorem dJ11_lowSurrogate_5068e_5 : decode cJ11_lowSurrogate_5068e 5 = .ok (.ldc 76, 2) := by decide +kernel
theorem dJ11_lowSurrogate_5068e_7 : decode cJ11_lowSurrogate_5068e 7 = .ok (.iadd, 1) := by decide +kernel
theorem dJ11_lowSurrogate_5068e_8 : decode cJ11_lowSurrogate_5068e 8 = .ok (.i2c, 1) := by decide +kernel
theorem dJ11_lowSurrogate_5068e_9 : decode cJ11_lowSurrogate_5068e 9 = .ok (.ireturn, 1) := by decide +kernel
theorem dJ9_max_7cf53_0 : decode cJ9_max_7cf53 0 = .ok (.iload_n 0, 1) := by decide +kernel
theorem dJ9_max_7cf53_1 : decode cJ9_max_7cf53 1 = .ok (.iload_n 1, 1) := by decide +kernel
theorem dJ9_max_7cf53_2 : decode cJ9_max_7cf53 2 = .ok (.if_icmp .lt 7, 3) := by decide +kernel
theorem dJ9_max_7cf53_5 : decode cJ9_max_7cf53 5 = .ok (.iload_n 0, 1) := by decide +kernel
theorem dJ9_max_7cf53_6 : decode cJ9_max_7cf53 6 = .ok (.goto 4, 3) := by decide +kernel
theorem dJ9_max_7cf53_9 : decode cJ9_max_7cf53 9 = .ok (.iload_n 1, 1) := by decide +kernel
theorem dJ9_max_7cf53_10 : decode cJ9_max_7cf53 10 = .ok (.ireturn, 1) := by decide +kernel
theorem dJ9_min_7cf53_0 : decode cJ9_min_7cf53 0 = .ok (.iload_n 0, 1) := by decide +kernel
theorem dJ9_min_7cf53_1 : decode cJ9_min_7cf53 1 = .ok (.iload_n 1, 1) := by decide +kernel
theorem dJ9_min_7cf53_2 : decode cJ9_min_7cf53 2 = .ok (.if_icmp .gt 7, 3) := by decide +kernel
theorem dJ9_min_7cf53_5 : decode cJ9_min_7cf53 5 = .ok (.iload_n 0, 1) := by decide +kernel
theorem dJ9_min_7cf53_6 : decode cJ9_min_7cf53 6 = .ok (.goto 4, 3) := by decide +kernel
theorem dJ9_min_7cf53_9 : decode cJ9_min_7cf53 9 = .ok (.iload_n 1, 1) := by decide +kernel
theorem dJ9_min_7cf53_10 : decode cJ9_min_7cf53 10 = .ok (.ireturn, 1) := by decide +kernel
set_option maxRecDepth 20000 in
theorem ggJ0_length_8abf5_J0_coder_7d493 : GoodIn wsJ0_length_8abf5 wsJ0_coder_7d493 := goodIn_r _ [6, 7, 8] (by decide +kernel) (by decide +kernel)
set_option maxRecDepth 20000 in
theorem gJ0_length_8abf5_J0_coder_7d493 : GoodIn wsJ0_length_8abf5 (wsV RJ0 335 RJ0 yJ0_coder_7d493 wsJ0_coder_7d493) := goodIn_app (goodIn_of _ (by decide +kernel)) ggJ0_length_8abf5_J0_coder_7d493
theorem dJ0_length_8abf5_0 : decode cJ0_length_8abf5 0 = .ok (.aload_n 0, 1) := by decide +kernel
theorem dJ0_length_8abf5_1 : decode cJ0_length_8abf5 1 = .ok (.getfield 9, 3) := by decide +kernel
theorem dJ0_length_8abf5_4 : decode cJ0_length_8abf5 4 = .ok (.arraylength, 1) := by decide +kernel
theorem dJ0_length_8abf5_5 : decode cJ0_length_8abf5 5 = .ok (.aload_n 0, 1) := by decide +kernel
theorem dJ0_length_8abf5_6 : decode cJ0_length_8abf5 6 = .ok (.invokevirtual 335, 3) := by decide +kernel
theorem dJ0_length_8abf5_9 : decode cJ0_length_8abf5 9 = .ok (.ishr, 1) := by decide +kernel
theorem dJ0_length_8abf5_10 : decode cJ0_length_8abf5 10 = .ok (.ireturn, 1) := by decide +kernel
set_option maxRecDepth 20000 in
theorem ggJ0_indexOf_0f7a4_J0_indexOf_7cf53 : GoodIn wsJ0_indexOf_0f7a4 wsJ0_indexOf_7cf53 := goodIn_r _ [5, 6, 7, 8, 9, 4, 10, 11, 12, 13, 14, 15, 16, 17, 18, 19, 20, 21, 22, 23, 24, 25, 26, 27, 28, 29, 30, 31, 32, 33, 34, 35, 36, 37, 38, 39, 40, 41, 42, 43, 44, 45, 46, 47, 48, 49, 50, 51, 52, 53, 54, 55, 56, 57, 58, 59, 60, 61, 62, 63, 64, 65, 66, 67, 68, 69, 70, 71, 72, 73, 74, 75, 76, 77, 78, 79, 80, 81, 82, 83, 84, 85] (by decide +kernel) (by decide +kernel)
set_option maxRecDepth 20000 in
theorem gJ0_indexOf_0f7a4_J0_indexOf_7cf53 : GoodIn wsJ0_indexOf_0f7a4 (wsV RJ0 633 RJ0 yJ0_indexOf_7cf53 wsJ0_indexOf_7cf53) := goodIn_app (goodIn_of _ (by decide +kernel)) ggJ0_indexOf_0f7a4_J0_indexOf_7cf53
theorem dJ0_indexOf_0f7a4_0 : decode cJ0_indexOf_0f7a4 0 = .ok (.aload_n 0, 1) := by decide +kernel
theorem dJ0_indexOf_0f7a4_1 : decode cJ0_indexOf_0f7a4 1 = .ok (.iload_n 1, 1) := by decide +kernel
theorem dJ0_indexOf_0f7a4_2 : decode cJ0_indexOf_0f7a4 2 = .ok (.iconst 0, 1) := by decide +kernel
theorem dJ0_indexOf_0f7a4_3 : decode cJ0_indexOf_0f7a4 3 = .ok (.invokevirtual 633, 3) := by decide +kernel
theorem dJ0_indexOf_0f7a4_6 : decode cJ0_indexOf_0f7a4 6 = .ok (.ireturn, 1) := by decide +kernel
set_option maxRecDepth 20000 in
theorem ggJ0_indexOf_7cf53_J0_isLatin1_aae02 : GoodIn wsJ0_indexOf_7cf53 wsJ0_isLatin1_aae02 := goodIn_r _ [6, 7, 8] (by decide +kernel) (by decide +kernel)
set_option maxRecDepth 20000 in
theorem gJ0_indexOf_7cf53_J0_isLatin1_aae02 : GoodIn wsJ0_indexOf_7cf53 (wsV RJ0 492 RJ0 yJ0_isLatin1_aae02 wsJ0_isLatin1_aae02) := goodIn_app (goodIn_of _ (by decide +kernel)) ggJ0_indexOf_7cf53_J0_isLatin1_aae02
set_option maxRecDepth 20000 in
theorem ggJ0_indexOf_7cf53_J0_length_8abf5 : GoodIn wsJ0_indexOf_7cf53 wsJ0_length_8abf5 := goodIn_r _ [12, 1, 13, 14, 15, 5, 16, 7, 8] (by decide +kernel) (by decide +kernel)
set_option maxRecDepth 20000 in
theorem gJ0_indexOf_7cf53_J0_length_8abf5 : GoodIn wsJ0_indexOf_7cf53 (wsV RJ0 505 RJ0 yJ0_length_8abf5 wsJ0_length_8abf5) := goodIn_app (goodIn_of _ (by decide +kernel)) ggJ0_indexOf_7cf53_J0_length_8abf5
set_option maxRecDepth 20000 in
theorem ggJ0_indexOf_7cf53_J1_indexOf_4cfef : GoodIn wsJ0_indexOf_7cf53 wsJ1_indexOf_4cfef := goodIn_r _ [20, 21, 22, 23, 24, 25, 26, 27, 28, 29, 19, 30, 31, 32, 33] (by decide +kernel) (by decide +kernel)
set_option maxRecDepth 20000 in
theorem gJ0_indexOf_7cf53_J1_indexOf_4cfef : GoodIn wsJ0_indexOf_7cf53 (va_wsS RJ0 637 yJ1_indexOf_4cfef wsJ1_indexOf_4cfef) := goodIn_app (goodIn_of _ (by decide +kernel)) ggJ0_indexOf_7cf53_J1_indexOf_4cfef
set_option maxRecDepth 20000 in
theorem ggJ0_indexOf_7cf53_J2_indexOf_4cfef : GoodIn wsJ0_indexOf_7cf53 wsJ2_indexOf_4cfef := goodIn_r _ [37, 38, 22, 23, 24, 39, 26, 27, 40, 41, 42, 36, 43, 44, 45, 46, 47, 48, 49, 50, 51, 5, 52, 53, 54, 55, 56, 57, 58, 59, 60, 61, 62, 63, 64, 65, 66, 67, 68, 69, 70, 71, 72, 73, 74, 75, 76, 77, 78, 79, 80, 81] (by decide +kernel) (by decide +kernel)
set_option maxRecDepth 20000 in
theorem gJ0_indexOf_7cf53_J2_indexOf_4cfef : GoodIn wsJ0_indexOf_7cf53 (va_wsS RJ0 640 yJ2_indexOf_4cfef wsJ2_indexOf_4cfef) := goodIn_app (goodIn_of _ (by decide +kernel)) ggJ0_indexOf_7cf53_J2_indexOf_4cfef
theorem dJ0_indexOf_7cf53_0 : decode cJ0_indexOf_7cf53 0 = .ok (.aload_n 0, 1) := by decide +kernel
theorem dJ0_indexOf_7cf53_1 : decode cJ0_indexOf_7cf53 1 = .ok (.invokevirtual 492, 3) := by decide +kernel
theorem dJ0_indexOf_7cf53_4 : decode cJ0_indexOf_7cf53 4 = .ok (.ifCond .eq 19, 3) := by decide +kernel
theorem dJ0_indexOf_7cf53_7 : decode cJ0_indexOf_7cf53 7 = .ok (.aload_n 0, 1) := by decide +kernel
theorem dJ0_indexOf_7cf53_8 : decode cJ0_indexOf_7cf53 8 = .ok (.getfield 9, 3) := by decide +kernel
theorem dJ0_indexOf_7cf53_11 : decode cJ0_indexOf_7cf53 11 = .ok (.iload_n 1, 1) := by decide +kernel
theorem dJ0_indexOf_7cf53_12 : decode cJ0_indexOf_7cf53 12 = .ok (.iload_n 2, 1) := by decide +kernel
theorem dJ0_indexOf_7cf53_13 : decode cJ0_indexOf_7cf53 13 = .ok (.aload_n 0, 1) := by decide +kernel
theorem dJ0_indexOf_7cf53_14 : decode cJ0_indexOf_7cf53 14 = .ok (.invokevirtual 505, 3) := by decide +kernel
theorem dJ0_indexOf_7cf53_17 : decode cJ0_indexOf_7cf53 17 = .ok (.invokestatic 637, 3) := by decide +kernel
theorem dJ0_indexOf_7cf53_20 : decode cJ0_indexOf_7cf53 20 = .ok (.goto 16, 3) := by decide +kernel
theorem dJ0_indexOf_7cf53_23 : decode cJ0_indexOf_7cf53 23 = .ok (.aload_n 0, 1) := by decide +kernel
theorem dJ0_indexOf_7cf53_24 : decode cJ0_indexOf_7cf53 24 = .ok (.getfield 9, 3) := by decide +kernel
theorem dJ0_indexOf_7cf53_27 : decode cJ0_indexOf_7cf53 27 = .ok (.iload_n 1, 1) := by decide +kernel
theorem dJ0_indexOf_7cf53_28 : decode cJ0_indexOf_7cf53 28 = .ok (.iload_n 2, 1) := by decide +kernel
theorem dJ0_indexOf_7cf53_29 : decode cJ0_indexOf_7cf53 29 = .ok (.aload_n 0, 1) := by decide +kernel
theorem dJ0_indexOf_7cf53_30 : decode cJ0_indexOf_7cf53 30 = .ok (.invokevirtual 505, 3) := by decide +kernel
theorem dJ0_indexOf_7cf53_33 : decode cJ0_indexOf_7cf53 33 = .ok (.invokestatic 640, 3) := by decide +kernel
theorem dJ0_indexOf_7cf53_36 : decode cJ0_indexOf_7cf53 36 = .ok (.ireturn, 1) := by decide +kernel
theorem dJ0_coder_7d493_0 : decode cJ0_coder_7d493 0 = .ok (.getstatic 38, 3) := by decide +kernel
theorem dJ0_coder_7d493_3 : decode cJ0_coder_7d493 3 = .ok (.ifCond .eq 10, 3) := by decide +kernel
theorem dJ0_coder_7d493_6 : decode cJ0_coder_7d493 6 = .ok (.aload_n 0, 1) := by decide +kernel
theorem dJ0_coder_7d493_7 : decode cJ0_coder_7d493 7 = .ok (.getfield 15, 3) := by decide +kernel
theorem dJ0_coder_7d493_10 : decode cJ0_coder_7d493 10 = .ok (.goto 4, 3) := by decide +kernel
theorem dJ0_coder_7d493_13 : decode cJ0_coder_7d493 13 = .ok (.iconst 1, 1) := by decide +kernel
theorem dJ0_coder_7d493_14 : decode cJ0_coder_7d493 14 = .ok (.ireturn, 1) := by decide +kernel
theorem dJ0_isLatin1_aae02_0 : decode cJ0_isLatin1_aae02 0 = .ok (.getstatic 38, 3) := by decide +kernel
theorem dJ0_isLatin1_aae02_3 : decode cJ0_isLatin1_aae02 3 = .ok (.ifCond .eq 14, 3) := by decide +kernel
theorem dJ0_isLatin1_aae02_6 : decode cJ0_isLatin1_aae02 6 = .ok (.aload_n 0, 1) := by decide +kernel
theorem dJ0_isLatin1_aae02_7 : decode cJ0_isLatin1_aae02 7 = .ok (.getfield 15, 3) := by decide +kernel
theorem dJ0_isLatin1_aae02_10 : decode cJ0_isLatin1_aae02 10 = .ok (.ifCond .ne 7, 3) := by decide +kernel
theorem dJ0_isLatin1_aae02_13 : decode cJ0_isLatin1_aae02 13 = .ok (.iconst 1, 1) := by decide +kernel
theorem dJ0_isLatin1_aae02_14 : decode cJ0_isLatin1_aae02 14 = .ok (.goto 4, 3) := by decide +kernel
theorem dJ0_isLatin1_aae02_17 : decode cJ0_isLatin1_aae02 17 = .ok (.iconst 0, 1) := by decide +kernel
theorem dJ0_isLatin1_aae02_18 : decode cJ0_isLatin1_aae02 18 = .ok (.ireturn, 1) := by decide +kernel
set_option maxRecDepth 20000 in
theorem ggJ0_checkBoundsBeginEnd_23922_J3_checkFromToIndex_8c36e : GoodIn wsJ0_checkBoundsBeginEnd_23922 wsJ3_checkFromToIndex_8c36e := goodIn_r _ [5] (by decide +kernel) (by decide +kernel)
set_option maxRecDepth 20000 in
theorem gJ0_checkBoundsBeginEnd_23922_J3_checkFromToIndex_8c36e : GoodIn wsJ0_checkBoundsBeginEnd_23922 (va_wsS RJ0 1062 yJ3_checkFromToIndex_8c36e wsJ3_checkFromToIndex_8c36e) := goodIn_app (goodIn_of _ (by decide +kernel)) ggJ0_checkBoundsBeginEnd_23922_J3_checkFromToIndex_8c36e
theorem dJ0_checkBoundsBeginEnd_23922_0 : decode cJ0_checkBoundsBeginEnd_23922 0 = .ok (.iload_n 0, 1) := by decide +kernel
theorem dJ0_checkBoundsBeginEnd_23922_1 : decode cJ0_checkBoundsBeginEnd_23922 1 = .ok (.iload_n 1, 1) := by decide +kernel
theorem dJ0_checkBoundsBeginEnd_23922_2 : decode cJ0_checkBoundsBeginEnd_23922 2 = .ok (.iload_n 2, 1) := by decide +kernel
theorem dJ0_checkBoundsBeginEnd_23922_3 : decode cJ0_checkBoundsBeginEnd_23922 3 = .ok (.getstatic 1053, 3) := by decide +kernel
theorem dJ0_checkBoundsBeginEnd_23922_6 : decode cJ0_checkBoundsBeginEnd_23922 6 = .ok (.invokestatic 1062, 3) := by decide +kernel
theorem dJ0_checkBoundsBeginEnd_23922_9 : decode cJ0_checkBoundsBeginEnd_23922 9 = .ok (.pop, 1) := by decide +kernel
theorem dJ0_checkBoundsBeginEnd_23922_10 : decode cJ0_checkBoundsBeginEnd_23922 10 = .ok (.return_, 1) := by decide +kernel
theorem dJ1_canEncode_9a6ad_0 : decode cJ1_canEncode_9a6ad 0 = .ok (.iload_n 0, 1) := by decide +kernel
theorem dJ1_canEncode_9a6ad_1 : decode cJ1_canEncode_9a6ad 1 = .ok (.ifCond .lt 14, 3) := by decide +kernel
theorem dJ1_canEncode_9a6ad_4 : decode cJ1_canEncode_9a6ad 4 = .ok (.iload_n 0, 1) := by decide +kernel
theorem dJ1_canEncode_9a6ad_5 : decode cJ1_canEncode_9a6ad 5 = .ok (.sipush 255, 3) := by decide +kernel
theorem dJ1_canEncode_9a6ad_8 : decode cJ1_canEncode_9a6ad 8 = .ok (.if_icmp .gt 7, 3) := by decide +kernel
theorem dJ1_canEncode_9a6ad_11 : decode cJ1_canEncode_9a6ad 11 = .ok (.iconst 1, 1) := by decide +kernel
theorem dJ1_canEncode_9a6ad_12 : decode cJ1_canEncode_9a6ad 12 = .ok (.goto 4, 3) := by decide +kernel
theorem dJ1_canEncode_9a6ad_15 : decode cJ1_canEncode_9a6ad 15 = .ok (.iconst 0, 1) := by decide +kernel
theorem dJ1_canEncode_9a6ad_16 : decode cJ1_canEncode_9a6ad 16 = .ok (.ireturn, 1) := by decide +kernel
set_option maxRecDepth 20000 in
theorem ggJ1_indexOf_4cfef_J1_canEncode_9a6ad : GoodIn wsJ1_indexOf_4cfef wsJ1_canEncode_9a6ad := goodIn_r _ [11] (by decide +kernel) (by decide +kernel)
set_option maxRecDepth 20000 in
theorem gJ1_indexOf_4cfef_J1_canEncode_9a6ad : GoodIn wsJ1_indexOf_4cfef (va_wsS RJ1 88 yJ1_canEncode_9a6ad wsJ1_canEncode_9a6ad) := goodIn_app (goodIn_of _ (by decide +kernel)) ggJ1_indexOf_4cfef_J1_canEncode_9a6ad
set_option maxRecDepth 20000 in
theorem ggJ1_indexOf_4cfef_J1_indexOfChar_4cfef : GoodIn wsJ1_indexOf_4cfef wsJ1_indexOfChar_4cfef := goodIn_r _ [14] (by decide +kernel) (by decide +kernel)
set_option maxRecDepth 20000 in
theorem gJ1_indexOf_4cfef_J1_indexOfChar_4cfef : GoodIn wsJ1_indexOf_4cfef (va_wsS RJ1 95 yJ1_indexOfChar_4cfef wsJ1_indexOfChar_4cfef) := goodIn_app (goodIn_of _ (by decide +kernel)) ggJ1_indexOf_4cfef_J1_indexOfChar_4cfef
theorem dJ1_indexOf_4cfef_0 : decode cJ1_indexOf_4cfef 0 = .ok (.iload_n 1, 1) := by decide +kernel
theorem dJ1_indexOf_4cfef_1 : decode cJ1_indexOf_4cfef 1 = .ok (.invokestatic 88, 3) := by decide +kernel
theorem dJ1_indexOf_4cfef_4 : decode cJ1_indexOf_4cfef 4 = .ok (.ifCond .ne 5, 3) := by decide +kernel
theorem dJ1_indexOf_4cfef_7 : decode cJ1_indexOf_4cfef 7 = .ok (.iconst (-1), 1) := by decide +kernel
theorem dJ1_indexOf_4cfef_8 : decode cJ1_indexOf_4cfef 8 = .ok (.ireturn, 1) := by decide +kernel
theorem dJ1_indexOf_4cfef_9 : decode cJ1_indexOf_4cfef 9 = .ok (.iload_n 2, 1) := by decide +kernel
theorem dJ1_indexOf_4cfef_10 : decode cJ1_indexOf_4cfef 10 = .ok (.iconst 0, 1) := by decide +kernel
theorem dJ1_indexOf_4cfef_11 : decode cJ1_indexOf_4cfef 11 = .ok (.invokestatic 92, 3) := by decide +kernel
theorem dJ1_indexOf_4cfef_14 : decode cJ1_indexOf_4cfef 14 = .ok (.istore_n 2, 1) := by decide +kernel
theorem dJ1_indexOf_4cfef_15 : decode cJ1_indexOf_4cfef 15 = .ok (.iload_n 3, 1) := by decide +kernel
theorem dJ1_indexOf_4cfef_16 : decode cJ1_indexOf_4cfef 16 = .ok (.aload_n 0, 1) := by decide +kernel
theorem dJ1_indexOf_4cfef_17 : decode cJ1_indexOf_4cfef 17 = .ok (.arraylength, 1) := by decide +kernel
theorem dJ1_indexOf_4cfef_18 : decode cJ1_indexOf_4cfef 18 = .ok (.invokestatic 38, 3) := by decide +kernel
theorem dJ1_indexOf_4cfef_21 : decode cJ1_indexOf_4cfef 21 = .ok (.istore_n 3, 1) := by decide +kernel
theorem dJ1_indexOf_4cfef_22 : decode cJ1_indexOf_4cfef 22 = .ok (.iload_n 2, 1) := by decide +kernel
theorem dJ1_indexOf_4cfef_23 : decode cJ1_indexOf_4cfef 23 = .ok (.iload_n 3, 1) := by decide +kernel
theorem dJ1_indexOf_4cfef_24 : decode cJ1_indexOf_4cfef 24 = .ok (.if_icmp .lt 5, 3) := by decide +kernel
theorem dJ1_indexOf_4cfef_27 : decode cJ1_indexOf_4cfef 27 = .ok (.iconst (-1), 1) := by decide +kernel
theorem dJ1_indexOf_4cfef_28 : decode cJ1_indexOf_4cfef 28 = .ok (.ireturn, 1) := by decide +kernel
theorem dJ1_indexOf_4cfef_29 : decode cJ1_indexOf_4cfef 29 = .ok (.aload_n 0, 1) := by decide +kernel
theorem dJ1_indexOf_4cfef_30 : decode cJ1_indexOf_4cfef 30 = .ok (.iload_n 1, 1) := by decide +kernel
theorem dJ1_indexOf_4cfef_31 : decode cJ1_indexOf_4cfef 31 = .ok (.iload_n 2, 1) := by decide +kernel
theorem dJ1_indexOf_4cfef_32 : decode cJ1_indexOf_4cfef 32 = .ok (.iload_n 3, 1) := by decide +kernel
theorem dJ1_indexOf_4cfef_33 : decode cJ1_indexOf_4cfef 33 = .ok (.invokestatic 95, 3) := by decide +kernel
theorem dJ1_indexOf_4cfef_36 : decode cJ1_indexOf_4cfef 36 = .ok (.ireturn, 1) := by decide +kernel
theorem dJ1_indexOfChar_4cfef_0 : decode cJ1_indexOfChar_4cfef 0 = .ok (.iload_n 1, 1) := by decide +kernel
theorem dJ1_indexOfChar_4cfef_1 : decode cJ1_indexOfChar_4cfef 1 = .ok (.i2b, 1) := by decide +kernel
theorem dJ1_indexOfChar_4cfef_2 : decode cJ1_indexOfChar_4cfef 2 = .ok (.istore 4, 2) := by decide +kernel
theorem dJ1_indexOfChar_4cfef_4 : decode cJ1_indexOfChar_4cfef 4 = .ok (.iload_n 2, 1) := by decide +kernel
theorem dJ1_indexOfChar_4cfef_5 : decode cJ1_indexOfChar_4cfef 5 = .ok (.istore 5, 2) := by decide +kernel
theorem dJ1_indexOfChar_4cfef_7 : decode cJ1_indexOfChar_4cfef 7 = .ok (.iload 5, 2) := by decide +kernel
theorem dJ1_indexOfChar_4cfef_9 : decode cJ1_indexOfChar_4cfef 9 = .ok (.iload_n 3, 1) := by decide +kernel
theorem dJ1_indexOfChar_4cfef_10 : decode cJ1_indexOfChar_4cfef 10 = .ok (.if_icmp .ge 21, 3) := by decide +kernel
theorem dJ1_indexOfChar_4cfef_13 : decode cJ1_indexOfChar_4cfef 13 = .ok (.aload_n 0, 1) := by decide +kernel
theorem dJ1_indexOfChar_4cfef_14 : decode cJ1_indexOfChar_4cfef 14 = .ok (.iload 5, 2) := by decide +kernel
theorem dJ1_indexOfChar_4cfef_16 : decode cJ1_indexOfChar_4cfef 16 = .ok (.baload, 1) := by decide +kernel
theorem dJ1_indexOfChar_4cfef_17 : decode cJ1_indexOfChar_4cfef 17 = .ok (.iload 4, 2) := by decide +kernel
theorem dJ1_indexOfChar_4cfef_19 : decode cJ1_indexOfChar_4cfef 19 = .ok (.if_icmp .ne 6, 3) := by decide +kernel
theorem dJ1_indexOfChar_4cfef_22 : decode cJ1_indexOfChar_4cfef 22 = .ok (.iload 5, 2) := by decide +kernel
theorem dJ1_indexOfChar_4cfef_24 : decode cJ1_indexOfChar_4cfef 24 = .ok (.ireturn, 1) := by decide +kernel
theorem dJ1_indexOfChar_4cfef_25 : decode cJ1_indexOfChar_4cfef 25 = .ok (.iinc 5 1, 3) := by decide +kernel
theorem dJ1_indexOfChar_4cfef_28 : decode cJ1_indexOfChar_4cfef 28 = .ok (.goto (-21), 3) := by decide +kernel
theorem dJ1_indexOfChar_4cfef_31 : decode cJ1_indexOfChar_4cfef 31 = .ok (.iconst (-1), 1) := by decide +kernel
theorem dJ1_indexOfChar_4cfef_32 : decode cJ1_indexOfChar_4cfef 32 = .ok (.ireturn, 1) := by decide +kernel
set_option maxRecDepth 20000 in
theorem ggJ2_getChar_3b067_J2_length_9d52b : GoodIn wsJ2_getChar_3b067 wsJ2_length_9d52b := goodIn_r _ [7] (by decide +kernel) (by decide +kernel)
set_option maxRecDepth 20000 in
theorem gJ2_getChar_3b067_J2_length_9d52b : GoodIn wsJ2_getChar_3b067 (va_wsS RJ2 48 yJ2_length_9d52b wsJ2_length_9d52b) := goodIn_app (goodIn_of _ (by decide +kernel)) ggJ2_getChar_3b067_J2_length_9d52b
theorem dJ2_getChar_3b067_0 : decode cJ2_getChar_3b067 0 = .ok (.getstatic 44, 3) := by decide +kernel
theorem dJ2_getChar_3b067_3 : decode cJ2_getChar_3b067 3 = .ok (.ifCond .ne 25, 3) := by decide +kernel
theorem dJ2_getChar_3b067_6 : decode cJ2_getChar_3b067 6 = .ok (.iload_n 1, 1) := by decide +kernel
theorem dJ2_getChar_3b067_7 : decode cJ2_getChar_3b067 7 = .ok (.ifCond .lt 11, 3) := by decide +kernel
theorem dJ2_getChar_3b067_10 : decode cJ2_getChar_3b067 10 = .ok (.iload_n 1, 1) := by decide +kernel
theorem dJ2_getChar_3b067_11 : decode cJ2_getChar_3b067 11 = .ok (.aload_n 0, 1) := by decide +kernel
theorem dJ2_getChar_3b067_12 : decode cJ2_getChar_3b067 12 = .ok (.invokestatic 48, 3) := by decide +kernel
theorem dJ2_getChar_3b067_15 : decode cJ2_getChar_3b067 15 = .ok (.if_icmp .lt 13, 3) := by decide +kernel
theorem dJ2_getChar_3b067_18 : decode cJ2_getChar_3b067 18 = .ok (.new 52, 3) := by decide +kernel
theorem dJ2_getChar_3b067_21 : decode cJ2_getChar_3b067 21 = .ok (.dup, 1) := by decide +kernel
theorem dJ2_getChar_3b067_22 : decode cJ2_getChar_3b067 22 = .ok (.ldc 54, 2) := by decide +kernel
theorem dJ2_getChar_3b067_24 : decode cJ2_getChar_3b067 24 = .ok (.invokespecial 56, 3) := by decide +kernel
theorem dJ2_getChar_3b067_27 : decode cJ2_getChar_3b067 27 = .ok (.athrow, 1) := by decide +kernel
theorem dJ2_getChar_3b067_28 : decode cJ2_getChar_3b067 28 = .ok (.iload_n 1, 1) := by decide +kernel
theorem dJ2_getChar_3b067_29 : decode cJ2_getChar_3b067 29 = .ok (.iconst 1, 1) := by decide +kernel
theorem dJ2_getChar_3b067_30 : decode cJ2_getChar_3b067 30 = .ok (.ishl, 1) := by decide +kernel
theorem dJ2_getChar_3b067_31 : decode cJ2_getChar_3b067 31 = .ok (.istore_n 1, 1) := by decide +kernel
theorem dJ2_getChar_3b067_32 : decode cJ2_getChar_3b067 32 = .ok (.aload_n 0, 1) := by decide +kernel
theorem dJ2_getChar_3b067_33 : decode cJ2_getChar_3b067 33 = .ok (.iload_n 1, 1) := by decide +kernel
theorem dJ2_getChar_3b067_34 : decode cJ2_getChar_3b067 34 = .ok (.iinc 1 1, 3) := by decide +kernel
theorem dJ2_getChar_3b067_37 : decode cJ2_getChar_3b067 37 = .ok (.baload, 1) := by decide +kernel
theorem dJ2_getChar_3b067_38 : decode cJ2_getChar_3b067 38 = .ok (.sipush 255, 3) := by decide +kernel
theorem dJ2_getChar_3b067_41 : decode cJ2_getChar_3b067 41 = .ok (.iand, 1) := by decide +kernel
theorem dJ2_getChar_3b067_42 : decode cJ2_getChar_3b067 42 = .ok (.getstatic 59, 3) := by decide +kernel
theorem dJ2_getChar_3b067_45 : decode cJ2_getChar_3b067 45 = .ok (.ishl, 1) := by decide +kernel
theorem dJ2_getChar_3b067_46 : decode cJ2_getChar_3b067 46 = .ok (.aload_n 0, 1) := by decide +kernel
theorem dJ2_getChar_3b067_47 : decode cJ2_getChar_3b067 47 = .ok (.iload_n 1, 1) := by decide +kernel
theorem dJ2_getChar_3b067_48 : decode cJ2_getChar_3b067 48 = .ok (.baload, 1) := by decide +kernel
theorem dJ2_getChar_3b067_49 : decode cJ2_getChar_3b067 49 = .ok (.sipush 255, 3) := by decide +kernel
theorem dJ2_getChar_3b067_52 : decode cJ2_getChar_3b067 52 = .ok (.iand, 1) := by decide +kernel
theorem dJ2_getChar_3b067_53 : decode cJ2_getChar_3b067 53 = .ok (.getstatic 63, 3) := by decide +kernel
theorem dJ2_getChar_3b067_56 : decode cJ2_getChar_3b067 56 = .ok (.ishl, 1) := by decide +kernel
theorem dJ2_getChar_3b067_57 : decode cJ2_getChar_3b067 57 = .ok (.ior, 1) := by decide +kernel
theorem dJ2_getChar_3b067_58 : decode cJ2_getChar_3b067 58 = .ok (.i2c, 1) := by decide +kernel
theorem dJ2_getChar_3b067_59 : decode cJ2_getChar_3b067 59 = .ok (.ireturn, 1) := by decide +kernel
theorem dJ2_length_9d52b_0 : decode cJ2_length_9d52b 0 = .ok (.aload_n 0, 1) := by decide +kernel
theorem dJ2_length_9d52b_1 : decode cJ2_length_9d52b 1 = .ok (.arraylength, 1) := by decide +kernel
theorem dJ2_length_9d52b_2 : decode cJ2_length_9d52b 2 = .ok (.iconst 1, 1) := by decide +kernel
theorem dJ2_length_9d52b_3 : decode cJ2_length_9d52b 3 = .ok (.ishr, 1) := by decide +kernel
theorem dJ2_length_9d52b_4 : decode cJ2_length_9d52b 4 = .ok (.ireturn, 1) := by decide +kernel
set_option maxRecDepth 20000 in
theorem ggJ2_indexOf_4cfef_J2_indexOfChar_4cfef : GoodIn wsJ2_indexOf_4cfef wsJ2_indexOfChar_4cfef := goodIn_r _ [12, 13, 14, 11, 15, 16, 17, 18, 19, 20, 21, 22, 23, 24, 25, 26, 27, 28, 29, 30, 31, 32, 33, 34, 35, 36] (by decide +kernel) (by decide +kernel)
set_option maxRecDepth 20000 in
theorem gJ2_indexOf_4cfef_J2_indexOfChar_4cfef : GoodIn wsJ2_indexOf_4cfef (va_wsS RJ2 228 yJ2_indexOfChar_4cfef wsJ2_indexOfChar_4cfef) := goodIn_app (goodIn_of _ (by decide +kernel)) ggJ2_indexOf_4cfef_J2_indexOfChar_4cfef
set_option maxRecDepth 20000 in
theorem ggJ2_indexOf_4cfef_J2_indexOfSupplementary_4cfef : GoodIn wsJ2_indexOf_4cfef wsJ2_indexOfSupplementary_4cfef := goodIn_r _ [39, 40, 41, 42, 43, 44, 45, 46, 47, 48, 49, 50, 51, 13, 14, 11, 15, 16, 17, 18, 19, 20, 21, 22, 23, 24, 25, 26, 27, 31, 32, 33, 34, 35, 36] (by decide +kernel) (by decide +kernel)
set_option maxRecDepth 20000 in
theorem gJ2_indexOf_4cfef_J2_indexOfSupplementary_4cfef : GoodIn wsJ2_indexOf_4cfef (va_wsS RJ2 232 yJ2_indexOfSupplementary_4cfef wsJ2_indexOfSupplementary_4cfef) := goodIn_app (goodIn_of _ (by decide +kernel)) ggJ2_indexOf_4cfef_J2_indexOfSupplementary_4cfef
theorem dJ2_indexOf_4cfef_0 : decode cJ2_indexOf_4cfef 0 = .ok (.iload_n 2, 1) := by decide +kernel
theorem dJ2_indexOf_4cfef_1 : decode cJ2_indexOf_4cfef 1 = .ok (.iconst 0, 1) := by decide +kernel
theorem dJ2_indexOf_4cfef_2 : decode cJ2_indexOf_4cfef 2 = .ok (.invokestatic 224, 3) := by decide +kernel
theorem dJ2_indexOf_4cfef_5 : decode cJ2_indexOf_4cfef 5 = .ok (.istore_n 2, 1) := by decide +kernel
theorem dJ2_indexOf_4cfef_6 : decode cJ2_indexOf_4cfef 6 = .ok (.iload_n 3, 1) := by decide +kernel
theorem dJ2_indexOf_4cfef_7 : decode cJ2_indexOf_4cfef 7 = .ok (.aload_n 0, 1) := by decide +kernel
theorem dJ2_indexOf_4cfef_8 : decode cJ2_indexOf_4cfef 8 = .ok (.arraylength, 1) := by decide +kernel
theorem dJ2_indexOf_4cfef_9 : decode cJ2_indexOf_4cfef 9 = .ok (.iconst 1, 1) := by decide +kernel
theorem dJ2_indexOf_4cfef_10 : decode cJ2_indexOf_4cfef 10 = .ok (.ishr, 1) := by decide +kernel
theorem dJ2_indexOf_4cfef_11 : decode cJ2_indexOf_4cfef 11 = .ok (.invokestatic 183, 3) := by decide +kernel
theorem dJ2_indexOf_4cfef_14 : decode cJ2_indexOf_4cfef 14 = .ok (.istore_n 3, 1) := by decide +kernel
theorem dJ2_indexOf_4cfef_15 : decode cJ2_indexOf_4cfef 15 = .ok (.iload_n 2, 1) := by decide +kernel
theorem dJ2_indexOf_4cfef_16 : decode cJ2_indexOf_4cfef 16 = .ok (.iload_n 3, 1) := by decide +kernel
theorem dJ2_indexOf_4cfef_17 : decode cJ2_indexOf_4cfef 17 = .ok (.if_icmp .lt 5, 3) := by decide +kernel
theorem dJ2_indexOf_4cfef_20 : decode cJ2_indexOf_4cfef 20 = .ok (.iconst (-1), 1) := by decide +kernel
theorem dJ2_indexOf_4cfef_21 : decode cJ2_indexOf_4cfef 21 = .ok (.ireturn, 1) := by decide +kernel
theorem dJ2_indexOf_4cfef_22 : decode cJ2_indexOf_4cfef 22 = .ok (.iload_n 1, 1) := by decide +kernel
theorem dJ2_indexOf_4cfef_23 : decode cJ2_indexOf_4cfef 23 = .ok (.ldc 227, 2) := by decide +kernel
theorem dJ2_indexOf_4cfef_25 : decode cJ2_indexOf_4cfef 25 = .ok (.if_icmp .ge 11, 3) := by decide +kernel
theorem dJ2_indexOf_4cfef_28 : decode cJ2_indexOf_4cfef 28 = .ok (.aload_n 0, 1) := by decide +kernel
theorem dJ2_indexOf_4cfef_29 : decode cJ2_indexOf_4cfef 29 = .ok (.iload_n 1, 1) := by decide +kernel
theorem dJ2_indexOf_4cfef_30 : decode cJ2_indexOf_4cfef 30 = .ok (.iload_n 2, 1) := by decide +kernel
theorem dJ2_indexOf_4cfef_31 : decode cJ2_indexOf_4cfef 31 = .ok (.iload_n 3, 1) := by decide +kernel
theorem dJ2_indexOf_4cfef_32 : decode cJ2_indexOf_4cfef 32 = .ok (.invokestatic 228, 3) := by decide +kernel
theorem dJ2_indexOf_4cfef_35 : decode cJ2_indexOf_4cfef 35 = .ok (.ireturn, 1) := by decide +kernel
theorem dJ2_indexOf_4cfef_36 : decode cJ2_indexOf_4cfef 36 = .ok (.aload_n 0, 1) := by decide +kernel
theorem dJ2_indexOf_4cfef_37 : decode cJ2_indexOf_4cfef 37 = .ok (.iload_n 1, 1) := by decide +kernel
theorem dJ2_indexOf_4cfef_38 : decode cJ2_indexOf_4cfef 38 = .ok (.iload_n 2, 1) := by decide +kernel
theorem dJ2_indexOf_4cfef_39 : decode cJ2_indexOf_4cfef 39 = .ok (.iload_n 3, 1) := by decide +kernel
theorem dJ2_indexOf_4cfef_40 : decode cJ2_indexOf_4cfef 40 = .ok (.invokestatic 232, 3) := by decide +kernel
theorem dJ2_indexOf_4cfef_43 : decode cJ2_indexOf_4cfef 43 = .ok (.ireturn, 1) := by decide +kernel
set_option maxRecDepth 20000 in
theorem ggJ2_indexOfChar_4cfef_J2_checkBoundsBeginEnd_d044e : GoodIn wsJ2_indexOfChar_4cfef wsJ2_checkBoundsBeginEnd_d044e := goodIn_r _ [4, 5, 6, 3, 7, 8, 9, 10, 11, 12, 13, 14, 15, 16] (by decide +kernel) (by decide +kernel)
set_option maxRecDepth 20000 in
theorem gJ2_indexOfChar_4cfef_J2_checkBoundsBeginEnd_d044e : GoodIn wsJ2_indexOfChar_4cfef (va_wsS RJ2 96 yJ2_checkBoundsBeginEnd_d044e wsJ2_checkBoundsBeginEnd_d044e) := goodIn_app (goodIn_of _ (by decide +kernel)) ggJ2_indexOfChar_4cfef_J2_checkBoundsBeginEnd_d044e
set_option maxRecDepth 20000 in
theorem ggJ2_indexOfChar_4cfef_J2_indexOfCharUnsafe_4cfef : GoodIn wsJ2_indexOfChar_4cfef wsJ2_indexOfCharUnsafe_4cfef := goodIn_r _ [19, 20, 21, 3, 22, 23, 24, 25, 5, 6, 7] (by decide +kernel) (by decide +kernel)
set_option maxRecDepth 20000 in
theorem gJ2_indexOfChar_4cfef_J2_indexOfCharUnsafe_4cfef : GoodIn wsJ2_indexOfChar_4cfef (va_wsS RJ2 244 yJ2_indexOfCharUnsafe_4cfef wsJ2_indexOfCharUnsafe_4cfef) := goodIn_app (goodIn_of _ (by decide +kernel)) ggJ2_indexOfChar_4cfef_J2_indexOfCharUnsafe_4cfef
theorem dJ2_indexOfChar_4cfef_0 : decode cJ2_indexOfChar_4cfef 0 = .ok (.iload_n 2, 1) := by decide +kernel
theorem dJ2_indexOfChar_4cfef_1 : decode cJ2_indexOfChar_4cfef 1 = .ok (.iload_n 3, 1) := by decide +kernel
theorem dJ2_indexOfChar_4cfef_2 : decode cJ2_indexOfChar_4cfef 2 = .ok (.aload_n 0, 1) := by decide +kernel
theorem dJ2_indexOfChar_4cfef_3 : decode cJ2_indexOfChar_4cfef 3 = .ok (.invokestatic 96, 3) := by decide +kernel
theorem dJ2_indexOfChar_4cfef_6 : decode cJ2_indexOfChar_4cfef 6 = .ok (.aload_n 0, 1) := by decide +kernel
theorem dJ2_indexOfChar_4cfef_7 : decode cJ2_indexOfChar_4cfef 7 = .ok (.iload_n 1, 1) := by decide +kernel
theorem dJ2_indexOfChar_4cfef_8 : decode cJ2_indexOfChar_4cfef 8 = .ok (.iload_n 2, 1) := by decide +kernel
theorem dJ2_indexOfChar_4cfef_9 : decode cJ2_indexOfChar_4cfef 9 = .ok (.iload_n 3, 1) := by decide +kernel
theorem dJ2_indexOfChar_4cfef_10 : decode cJ2_indexOfChar_4cfef 10 = .ok (.invokestatic 244, 3) := by decide +kernel
theorem dJ2_indexOfChar_4cfef_13 : decode cJ2_indexOfChar_4cfef 13 = .ok (.ireturn, 1) := by decide +kernel
set_option maxRecDepth 20000 in
theorem ggJ2_indexOfCharUnsafe_4cfef_J2_getChar_3b067 : GoodIn wsJ2_indexOfCharUnsafe_4cfef wsJ2_getChar_3b067 := goodIn_r _ [4, 5, 6, 7, 8, 9, 3, 10] (by decide +kernel) (by decide +kernel)
set_option maxRecDepth 20000 in
theorem gJ2_indexOfCharUnsafe_4cfef_J2_getChar_3b067 : GoodIn wsJ2_indexOfCharUnsafe_4cfef (va_wsS RJ2 71 yJ2_getChar_3b067 wsJ2_getChar_3b067) := goodIn_app (goodIn_of _ (by decide +kernel)) ggJ2_indexOfCharUnsafe_4cfef_J2_getChar_3b067
theorem dJ2_indexOfCharUnsafe_4cfef_0 : decode cJ2_indexOfCharUnsafe_4cfef 0 = .ok (.iload_n 2, 1) := by decide +kernel
theorem dJ2_indexOfCharUnsafe_4cfef_1 : decode cJ2_indexOfCharUnsafe_4cfef 1 = .ok (.istore 4, 2) := by decide +kernel
theorem dJ2_indexOfCharUnsafe_4cfef_3 : decode cJ2_indexOfCharUnsafe_4cfef 3 = .ok (.iload 4, 2) := by decide +kernel
theorem dJ2_indexOfCharUnsafe_4cfef_5 : decode cJ2_indexOfCharUnsafe_4cfef 5 = .ok (.iload_n 3, 1) := by decide +kernel
theorem dJ2_indexOfCharUnsafe_4cfef_6 : decode cJ2_indexOfCharUnsafe_4cfef 6 = .ok (.if_icmp .ge 22, 3) := by decide +kernel
theorem dJ2_indexOfCharUnsafe_4cfef_9 : decode cJ2_indexOfCharUnsafe_4cfef 9 = .ok (.aload_n 0, 1) := by decide +kernel
theorem dJ2_indexOfCharUnsafe_4cfef_10 : decode cJ2_indexOfCharUnsafe_4cfef 10 = .ok (.iload 4, 2) := by decide +kernel
theorem dJ2_indexOfCharUnsafe_4cfef_12 : decode cJ2_indexOfCharUnsafe_4cfef 12 = .ok (.invokestatic 71, 3) := by decide +kernel
theorem dJ2_indexOfCharUnsafe_4cfef_15 : decode cJ2_indexOfCharUnsafe_4cfef 15 = .ok (.iload_n 1, 1) := by decide +kernel
theorem dJ2_indexOfCharUnsafe_4cfef_16 : decode cJ2_indexOfCharUnsafe_4cfef 16 = .ok (.if_icmp .ne 6, 3) := by decide +kernel
theorem dJ2_indexOfCharUnsafe_4cfef_19 : decode cJ2_indexOfCharUnsafe_4cfef 19 = .ok (.iload 4, 2) := by decide +kernel
theorem dJ2_indexOfCharUnsafe_4cfef_21 : decode cJ2_indexOfCharUnsafe_4cfef 21 = .ok (.ireturn, 1) := by decide +kernel
theorem dJ2_indexOfCharUnsafe_4cfef_22 : decode cJ2_indexOfCharUnsafe_4cfef 22 = .ok (.iinc 4 1, 3) := by decide +kernel
theorem dJ2_indexOfCharUnsafe_4cfef_25 : decode cJ2_indexOfCharUnsafe_4cfef 25 = .ok (.goto (-22), 3) := by decide +kernel
theorem dJ2_indexOfCharUnsafe_4cfef_28 : decode cJ2_indexOfCharUnsafe_4cfef 28 = .ok (.iconst (-1), 1) := by decide +kernel
theorem dJ2_indexOfCharUnsafe_4cfef_29 : decode cJ2_indexOfCharUnsafe_4cfef 29 = .ok (.ireturn, 1) := by decide +kernel
set_option maxRecDepth 20000 in
theorem ggJ2_indexOfSupplementary_4cfef_J11_isValidCodePoint_9a6ad : GoodIn wsJ2_indexOfSupplementary_4cfef wsJ11_isValidCodePoint_9a6ad := goodIn_r _ [4] (by decide +kernel) (by decide +kernel)
set_option maxRecDepth 20000 in
theorem gJ2_indexOfSupplementary_4cfef_J11_isValidCodePoint_9a6ad : GoodIn wsJ2_indexOfSupplementary_4cfef (va_wsS RJ2 164 yJ11_isValidCodePoint_9a6ad wsJ11_isValidCodePoint_9a6ad) := goodIn_app (goodIn_of _ (by decide +kernel)) ggJ2_indexOfSupplementary_4cfef_J11_isValidCodePoint_9a6ad
set_option maxRecDepth 20000 in
theorem ggJ2_indexOfSupplementary_4cfef_J11_highSurrogate_5068e : GoodIn wsJ2_indexOfSupplementary_4cfef wsJ11_highSurrogate_5068e := goodIn_r _ [7, 8] (by decide +kernel) (by decide +kernel)
set_option maxRecDepth 20000 in
theorem gJ2_indexOfSupplementary_4cfef_J11_highSurrogate_5068e : GoodIn wsJ2_indexOfSupplementary_4cfef (va_wsS RJ2 157 yJ11_highSurrogate_5068e wsJ11_highSurrogate_5068e) := goodIn_app (goodIn_of _ (by decide +kernel)) ggJ2_indexOfSupplementary_4cfef_J11_highSurrogate_5068e
set_option maxRecDepth 20000 in
theorem ggJ2_indexOfSupplementary_4cfef_J11_lowSurrogate_5068e : GoodIn wsJ2_indexOfSupplementary_4cfef wsJ11_lowSurrogate_5068e := goodIn_r _ [11, 12] (by decide +kernel) (by decide +kernel)
set_option maxRecDepth 20000 in
theorem gJ2_indexOfSupplementary_4cfef_J11_lowSurrogate_5068e : GoodIn wsJ2_indexOfSupplementary_4cfef (va_wsS RJ2 161 yJ11_lowSurrogate_5068e wsJ11_lowSurrogate_5068e) := goodIn_app (goodIn_of _ (by decide +kernel)) ggJ2_indexOfSupplementary_4cfef_J11_lowSurrogate_5068e
set_option maxRecDepth 20000 in
theorem ggJ2_indexOfSupplementary_4cfef_J2_checkBoundsBeginEnd_d044e : GoodIn wsJ2_indexOfSupplementary_4cfef wsJ2_checkBoundsBeginEnd_d044e := goodIn_r _ [16, 17, 18, 15, 19, 20, 21, 22, 23, 24, 25, 26, 27, 28] (by decide +kernel) (by decide +kernel)
set_option maxRecDepth 20000 in
theorem gJ2_indexOfSupplementary_4cfef_J2_checkBoundsBeginEnd_d044e : GoodIn wsJ2_indexOfSupplementary_4cfef (va_wsS RJ2 96 yJ2_checkBoundsBeginEnd_d044e wsJ2_checkBoundsBeginEnd_d044e) := goodIn_app (goodIn_of _ (by decide +kernel)) ggJ2_indexOfSupplementary_4cfef_J2_checkBoundsBeginEnd_d044e
set_option maxRecDepth 20000 in
theorem ggJ2_indexOfSupplementary_4cfef_J2_getChar_3b067 : GoodIn wsJ2_indexOfSupplementary_4cfef wsJ2_getChar_3b067 := goodIn_r _ [31, 32, 33, 34, 17, 18, 15, 19] (by decide +kernel) (by decide +kernel)
set_option maxRecDepth 20000 in
theorem gJ2_indexOfSupplementary_4cfef_J2_getChar_3b067 : GoodIn wsJ2_indexOfSupplementary_4cfef (va_wsS RJ2 71 yJ2_getChar_3b067 wsJ2_getChar_3b067) := goodIn_app (goodIn_of _ (by decide +kernel)) ggJ2_indexOfSupplementary_4cfef_J2_getChar_3b067
theorem dJ2_indexOfSupplementary_4cfef_0 : decode cJ2_indexOfSupplementary_4cfef 0 = .ok (.iload_n 1, 1) := by decide +kernel
theorem dJ2_indexOfSupplementary_4cfef_1 : decode cJ2_indexOfSupplementary_4cfef 1 = .ok (.invokestatic 164, 3) := by decide +kernel
theorem dJ2_indexOfSupplementary_4cfef_4 : decode cJ2_indexOfSupplementary_4cfef 4 = .ok (.ifCond .eq 65, 3) := by decide +kernel
theorem dJ2_indexOfSupplementary_4cfef_7 : decode cJ2_indexOfSupplementary_4cfef 7 = .ok (.iload_n 1, 1) := by decide +kernel
theorem dJ2_indexOfSupplementary_4cfef_8 : decode cJ2_indexOfSupplementary_4cfef 8 = .ok (.invokestatic 157, 3) := by decide +kernel
theorem dJ2_indexOfSupplementary_4cfef_11 : decode cJ2_indexOfSupplementary_4cfef 11 = .ok (.istore 4, 2) := by decide +kernel
theorem dJ2_indexOfSupplementary_4cfef_13 : decode cJ2_indexOfSupplementary_4cfef 13 = .ok (.iload_n 1, 1) := by decide +kernel
theorem dJ2_indexOfSupplementary_4cfef_14 : decode cJ2_indexOfSupplementary_4cfef 14 = .ok (.invokestatic 161, 3) := by decide +kernel
theorem dJ2_indexOfSupplementary_4cfef_17 : decode cJ2_indexOfSupplementary_4cfef 17 = .ok (.istore 5, 2) := by decide +kernel
theorem dJ2_indexOfSupplementary_4cfef_19 : decode cJ2_indexOfSupplementary_4cfef 19 = .ok (.iload_n 2, 1) := by decide +kernel
end
section
theorem dJ2_indexOfSupplementary_4cfef_20 : decode cJ2_indexOfSupplementary_4cfef 20 = .ok (.iload_n 3, 1) := by decide +kernel
theorem dJ2_indexOfSupplementary_4cfef_21 : decode cJ2_indexOfSupplementary_4cfef 21 = .ok (.aload_n 0, 1) := by decide +kernel
theorem dJ2_indexOfSupplementary_4cfef_22 : decode cJ2_indexOfSupplementary_4cfef 22 = .ok (.invokestatic 96, 3) := by decide +kernel
theorem dJ2_indexOfSupplementary_4cfef_25 : decode cJ2_indexOfSupplementary_4cfef 25 = .ok (.iload_n 2, 1) := by decide +kernel
theorem dJ2_indexOfSupplementary_4cfef_26 : decode cJ2_indexOfSupplementary_4cfef 26 = .ok (.istore 6, 2) := by decide +kernel
theorem dJ2_indexOfSupplementary_4cfef_28 : decode cJ2_indexOfSupplementary_4cfef 28 = .ok (.iload 6, 2) := by decide +kernel
theorem dJ2_indexOfSupplementary_4cfef_30 : decode cJ2_indexOfSupplementary_4cfef 30 = .ok (.iload_n 3, 1) := by decide +kernel
theorem dJ2_indexOfSupplementary_4cfef_31 : decode cJ2_indexOfSupplementary_4cfef 31 = .ok (.iconst 1, 1) := by decide +kernel
theorem dJ2_indexOfSupplementary_4cfef_32 : decode cJ2_indexOfSupplementary_4cfef 32 = .ok (.isub, 1) := by decide +kernel
theorem dJ2_indexOfSupplementary_4cfef_33 : decode cJ2_indexOfSupplementary_4cfef 33 = .ok (.if_icmp .ge 36, 3) := by decide +kernel
theorem dJ2_indexOfSupplementary_4cfef_36 : decode cJ2_indexOfSupplementary_4cfef 36 = .ok (.aload_n 0, 1) := by decide +kernel
theorem dJ2_indexOfSupplementary_4cfef_37 : decode cJ2_indexOfSupplementary_4cfef 37 = .ok (.iload 6, 2) := by decide +kernel
theorem dJ2_indexOfSupplementary_4cfef_39 : decode cJ2_indexOfSupplementary_4cfef 39 = .ok (.invokestatic 71, 3) := by decide +kernel
theorem dJ2_indexOfSupplementary_4cfef_42 : decode cJ2_indexOfSupplementary_4cfef 42 = .ok (.iload 4, 2) := by decide +kernel
theorem dJ2_indexOfSupplementary_4cfef_44 : decode cJ2_indexOfSupplementary_4cfef 44 = .ok (.if_icmp .ne 19, 3) := by decide +kernel
theorem dJ2_indexOfSupplementary_4cfef_47 : decode cJ2_indexOfSupplementary_4cfef 47 = .ok (.aload_n 0, 1) := by decide +kernel
theorem dJ2_indexOfSupplementary_4cfef_48 : decode cJ2_indexOfSupplementary_4cfef 48 = .ok (.iload 6, 2) := by decide +kernel
theorem dJ2_indexOfSupplementary_4cfef_50 : decode cJ2_indexOfSupplementary_4cfef 50 = .ok (.iconst 1, 1) := by decide +kernel
theorem dJ2_indexOfSupplementary_4cfef_51 : decode cJ2_indexOfSupplementary_4cfef 51 = .ok (.iadd, 1) := by decide +kernel
theorem dJ2_indexOfSupplementary_4cfef_52 : decode cJ2_indexOfSupplementary_4cfef 52 = .ok (.invokestatic 71, 3) := by decide +kernel
theorem dJ2_indexOfSupplementary_4cfef_55 : decode cJ2_indexOfSupplementary_4cfef 55 = .ok (.iload 5, 2) := by decide +kernel
theorem dJ2_indexOfSupplementary_4cfef_57 : decode cJ2_indexOfSupplementary_4cfef 57 = .ok (.if_icmp .ne 6, 3) := by decide +kernel
theorem dJ2_indexOfSupplementary_4cfef_60 : decode cJ2_indexOfSupplementary_4cfef 60 = .ok (.iload 6, 2) := by decide +kernel
theorem dJ2_indexOfSupplementary_4cfef_62 : decode cJ2_indexOfSupplementary_4cfef 62 = .ok (.ireturn, 1) := by decide +kernel
theorem dJ2_indexOfSupplementary_4cfef_63 : decode cJ2_indexOfSupplementary_4cfef 63 = .ok (.iinc 6 1, 3) := by decide +kernel
theorem dJ2_indexOfSupplementary_4cfef_66 : decode cJ2_indexOfSupplementary_4cfef 66 = .ok (.goto (-38), 3) := by decide +kernel
theorem dJ2_indexOfSupplementary_4cfef_69 : decode cJ2_indexOfSupplementary_4cfef 69 = .ok (.iconst (-1), 1) := by decide +kernel
theorem dJ2_indexOfSupplementary_4cfef_70 : decode cJ2_indexOfSupplementary_4cfef 70 = .ok (.ireturn, 1) := by decide +kernel
set_option maxRecDepth 20000 in
theorem ggJ2_checkBoundsBeginEnd_d044e_J2_length_9d52b : GoodIn wsJ2_checkBoundsBeginEnd_d044e wsJ2_length_9d52b := goodIn_r _ [4] (by decide +kernel) (by decide +kernel)
set_option maxRecDepth 20000 in
theorem gJ2_checkBoundsBeginEnd_d044e_J2_length_9d52b : GoodIn wsJ2_checkBoundsBeginEnd_d044e (va_wsS RJ2 48 yJ2_length_9d52b wsJ2_length_9d52b) := goodIn_app (goodIn_of _ (by decide +kernel)) ggJ2_checkBoundsBeginEnd_d044e_J2_length_9d52b
set_option maxRecDepth 20000 in
theorem ggJ2_checkBoundsBeginEnd_d044e_J0_checkBoundsBeginEnd_23922 : GoodIn wsJ2_checkBoundsBeginEnd_d044e wsJ0_checkBoundsBeginEnd_23922 := goodIn_r _ [8, 9, 10, 11, 12, 13] (by decide +kernel) (by decide +kernel)
set_option maxRecDepth 20000 in
theorem gJ2_checkBoundsBeginEnd_d044e_J0_checkBoundsBeginEnd_23922 : GoodIn wsJ2_checkBoundsBeginEnd_d044e (va_wsS RJ2 241 yJ0_checkBoundsBeginEnd_23922 wsJ0_checkBoundsBeginEnd_23922) := goodIn_app (goodIn_of _ (by decide +kernel)) ggJ2_checkBoundsBeginEnd_d044e_J0_checkBoundsBeginEnd_23922
theorem dJ2_checkBoundsBeginEnd_d044e_0 : decode cJ2_checkBoundsBeginEnd_d044e 0 = .ok (.iload_n 0, 1) := by decide +kernel
theorem dJ2_checkBoundsBeginEnd_d044e_1 : decode cJ2_checkBoundsBeginEnd_d044e 1 = .ok (.iload_n 1, 1) := by decide +kernel
theorem dJ2_checkBoundsBeginEnd_d044e_2 : decode cJ2_checkBoundsBeginEnd_d044e 2 = .ok (.aload_n 2, 1) := by decide +kernel
theorem dJ2_checkBoundsBeginEnd_d044e_3 : decode cJ2_checkBoundsBeginEnd_d044e 3 = .ok (.invokestatic 48, 3) := by decide +kernel
theorem dJ2_checkBoundsBeginEnd_d044e_6 : decode cJ2_checkBoundsBeginEnd_d044e 6 = .ok (.invokestatic 241, 3) := by decide +kernel
theorem dJ2_checkBoundsBeginEnd_d044e_9 : decode cJ2_checkBoundsBeginEnd_d044e 9 = .ok (.return_, 1) := by decide +kernel
theorem dJ3_checkFromToIndex_8c36e_0 : decode cJ3_checkFromToIndex_8c36e 0 = .ok (.iload_n 0, 1) := by decide +kernel
theorem dJ3_checkFromToIndex_8c36e_1 : decode cJ3_checkFromToIndex_8c36e 1 = .ok (.ifCond .lt 13, 3) := by decide +kernel
theorem dJ3_checkFromToIndex_8c36e_4 : decode cJ3_checkFromToIndex_8c36e 4 = .ok (.iload_n 0, 1) := by decide +kernel
theorem dJ3_checkFromToIndex_8c36e_5 : decode cJ3_checkFromToIndex_8c36e 5 = .ok (.iload_n 1, 1) := by decide +kernel
theorem dJ3_checkFromToIndex_8c36e_6 : decode cJ3_checkFromToIndex_8c36e 6 = .ok (.if_icmp .gt 8, 3) := by decide +kernel
theorem dJ3_checkFromToIndex_8c36e_9 : decode cJ3_checkFromToIndex_8c36e 9 = .ok (.iload_n 1, 1) := by decide +kernel
theorem dJ3_checkFromToIndex_8c36e_10 : decode cJ3_checkFromToIndex_8c36e 10 = .ok (.iload_n 2, 1) := by decide +kernel
theorem dJ3_checkFromToIndex_8c36e_11 : decode cJ3_checkFromToIndex_8c36e 11 = .ok (.if_icmp .le 11, 3) := by decide +kernel
theorem dJ3_checkFromToIndex_8c36e_14 : decode cJ3_checkFromToIndex_8c36e 14 = .ok (.aload_n 3, 1) := by decide +kernel
theorem dJ3_checkFromToIndex_8c36e_15 : decode cJ3_checkFromToIndex_8c36e 15 = .ok (.iload_n 0, 1) := by decide +kernel
theorem dJ3_checkFromToIndex_8c36e_16 : decode cJ3_checkFromToIndex_8c36e 16 = .ok (.iload_n 1, 1) := by decide +kernel
theorem dJ3_checkFromToIndex_8c36e_17 : decode cJ3_checkFromToIndex_8c36e 17 = .ok (.iload_n 2, 1) := by decide +kernel
theorem dJ3_checkFromToIndex_8c36e_18 : decode cJ3_checkFromToIndex_8c36e 18 = .ok (.invokestatic 99, 3) := by decide +kernel
theorem dJ3_checkFromToIndex_8c36e_21 : decode cJ3_checkFromToIndex_8c36e 21 = .ok (.athrow, 1) := by decide +kernel
theorem dJ3_checkFromToIndex_8c36e_22 : decode cJ3_checkFromToIndex_8c36e 22 = .ok (.iload_n 0, 1) := by decide +kernel
theorem dJ3_checkFromToIndex_8c36e_23 : decode cJ3_checkFromToIndex_8c36e 23 = .ok (.ireturn, 1) := by decide +kernel
set_option maxRecDepth 20000 in
theorem ggL_law_X5_init : GoodIn wsL_law wsX5_init := goodIn_r _ [8, 9, 10, 11, 12, 13, 14, 15, 16, 17, 18, 19, 20, 21, 22, 23, 24, 25, 26, 27, 28, 29, 30, 31, 32, 33, 34, 35, 36, 37, 38, 39, 40, 41, 42, 43, 44, 45, 46, 47, 48, 49, 50, 51, 52, 53, 54, 55, 56, 57, 58, 59, 60, 61, 62, 63, 64, 65, 66, 67, 68, 69, 70, 71, 72, 73, 74, 75, 76, 77, 78, 79, 732, 733, 692, 693, 694, 695, 696, 697, 698, 699, 700, 701, 734, 735, 736, 737, 738, 739, 740, 741, 742, 743, 744, 745, 746, 747, 748, 749, 750, 751, 752, 753, 754, 755, 756, 757] (by decide +kernel) (by decide +kernel)
set_option maxRecDepth 20000 in
theorem gL_law_X5_init : GoodIn wsL_law (wsX5_init) := ggL_law_X5_init
set_option maxRecDepth 20000 in
theorem ggL_law_X6_init : GoodIn wsL_law wsX6_init := goodIn_r _ [82, 83, 10, 11, 46, 84, 85, 86, 87, 88, 89, 90, 91, 92, 93, 94, 95, 702, 703, 704, 705, 706, 707, 708, 709, 710, 711, 712, 713, 714, 715, 716, 717, 718, 719, 720, 721, 722, 723, 724, 725, 726, 727, 728, 729, 730, 731] (by decide +kernel) (by decide +kernel)
set_option maxRecDepth 20000 in
theorem gL_law_X6_init : GoodIn wsL_law (wsX6_init) := ggL_law_X6_init
set_option maxRecDepth 20000 in
theorem ggL_law_X5_letter : GoodIn wsL_law wsX5_letter := goodIn_r _ [99, 15, 100, 101, 102, 103, 14, 104, 42, 41, 692, 693, 694, 695, 696, 697, 698, 699, 700, 701, 732, 733] (by decide +kernel) (by decide +kernel)
set_option maxRecDepth 20000 in
theorem gL_law_X5_letter : GoodIn wsL_law (wsV RL 13 RX5 yX5_letter wsX5_letter) := goodIn_app (goodIn_of _ (by decide +kernel)) ggL_law_X5_letter
set_option maxRecDepth 20000 in
theorem ggL_law_X6_letter : GoodIn wsL_law wsX6_letter := goodIn_r _ [108, 109, 93, 110, 111, 5, 112, 702, 703, 704, 705, 706, 707, 708, 709, 710, 711, 712, 713, 714, 715, 716, 717, 718, 719, 720, 721, 722, 723, 724, 725, 726, 727, 728, 729, 730, 731] (by decide +kernel) (by decide +kernel)
set_option maxRecDepth 20000 in
theorem gL_law_X6_letter : GoodIn wsL_law (wsV RL 17 RX6 yX6_letter wsX6_letter) := goodIn_app (goodIn_of _ (by decide +kernel)) ggL_law_X6_letter
set_option maxRecDepth 20000 in
theorem ggL_law_X5_blank : GoodIn wsL_law wsX5_blank := goodIn_r _ [116, 15, 100, 117, 118, 119, 14, 120, 42, 692, 693, 694, 695, 696, 697, 698, 699, 700, 701, 732, 733] (by decide +kernel) (by decide +kernel)
set_option maxRecDepth 20000 in
theorem gL_law_X5_blank : GoodIn wsL_law (wsV RL 18 RX5 yX5_blank wsX5_blank) := goodIn_app (goodIn_of _ (by decide +kernel)) ggL_law_X5_blank
set_option maxRecDepth 20000 in
theorem ggL_law_X6_blank : GoodIn wsL_law wsX6_blank := goodIn_r _ [124, 109, 702, 703, 704, 705, 706, 707, 708, 709, 710, 711, 712, 713, 714, 715, 716, 717, 718, 719, 720, 721, 722, 723, 724, 725, 726, 727, 728, 729, 730, 731] (by decide +kernel) (by decide +kernel)
set_option maxRecDepth 20000 in
theorem gL_law_X6_blank : GoodIn wsL_law (wsV RL 22 RX6 yX6_blank wsX6_blank) := goodIn_app (goodIn_of _ (by decide +kernel)) ggL_law_X6_blank
set_option maxRecDepth 20000 in
theorem ggL_law_X5_fault : GoodIn wsL_law wsX5_fault := goodIn_r _ [128, 15, 129, 130, 131, 14, 132, 42, 41, 133, 134, 135, 136, 137, 138, 139, 140, 141, 142, 143, 144, 145, 146, 147, 148, 149, 150, 151, 152, 153, 154, 155, 156, 157, 158, 159, 160, 161, 162, 163, 164, 165, 166, 167, 168, 169, 170, 171, 172, 173, 174, 175, 176, 177, 178, 179, 180, 181, 182, 183, 184, 185, 186, 187, 188, 189, 190, 191, 192, 193, 194, 195, 196, 197, 198, 199, 200, 201, 202, 203, 204, 205, 206, 207, 208, 209, 210, 211, 212, 213, 214, 215, 216, 217, 218, 219, 220, 221, 222, 223, 224, 225, 226, 227, 228, 229, 692, 693, 694, 695, 696, 697, 698, 699, 700, 701, 732, 733] (by decide +kernel) (by decide +kernel)
set_option maxRecDepth 20000 in
theorem gL_law_X5_fault : GoodIn wsL_law (wsV RL 23 RX5 yX5_fault wsX5_fault) := goodIn_app (goodIn_of _ (by decide +kernel)) ggL_law_X5_fault
set_option maxRecDepth 20000 in
theorem ggL_law_X6_fault : GoodIn wsL_law wsX6_fault := goodIn_r _ [233, 234, 235, 236, 5, 237, 238, 239, 109, 93, 240, 241, 242, 243, 244, 245, 246, 247, 248, 249, 250, 110, 111, 112, 702, 703, 704, 705, 706, 707, 708, 709, 710, 711, 712, 713, 714, 715, 716, 717, 718, 719, 720, 721, 722, 723, 724, 725, 726, 727, 728, 729, 730, 731] (by decide +kernel) (by decide +kernel)
set_option maxRecDepth 20000 in
theorem gL_law_X6_fault : GoodIn wsL_law (wsV RL 26 RX6 yX6_fault wsX6_fault) := goodIn_app (goodIn_of _ (by decide +kernel)) ggL_law_X6_fault
set_option maxRecDepth 20000 in
theorem ggL_law_X5_market : GoodIn wsL_law wsX5_market := goodIn_r _ [254, 15, 19, 23, 34, 35, 255, 256, 257, 258, 14, 259, 42, 41, 260, 130, 131, 132, 133, 134, 135, 136, 137, 138, 139, 140, 141, 142, 143, 144, 145, 146, 147, 148, 149, 150, 151, 152, 153, 154, 155, 156, 157, 158, 159, 160, 161, 162, 163, 164, 165, 166, 167, 168, 169, 170, 171, 172, 173, 174, 175, 176, 177, 178, 179, 180, 181, 182, 183, 184, 185, 186, 187, 188, 189, 190, 191, 192, 193, 194, 195, 196, 197, 198, 199, 200, 201, 202, 203, 204, 205, 206, 207, 208, 209, 210, 211, 212, 213, 214, 215, 216, 217, 218, 219, 220, 221, 222, 223, 224, 225, 226, 227, 228, 229, 261, 262, 263, 18, 264, 54, 265, 55, 56, 57, 47, 48, 49, 50, 51, 52, 53, 266, 267, 268, 269, 270, 271, 272, 273, 274, 275, 276, 277, 117, 118, 119, 120, 278, 279, 280, 22, 281, 61, 62, 63, 692, 693, 694, 695, 696, 697, 698, 699, 700, 701, 734, 735, 736, 737, 738, 739, 740, 741, 742, 743, 744, 732, 733, 745, 746, 747] (by decide +kernel) (by decide +kernel)
set_option maxRecDepth 20000 in
theorem gL_law_X5_market : GoodIn wsL_law (wsV RL 27 RX5 yX5_market wsX5_market) := goodIn_app (goodIn_of _ (by decide +kernel)) ggL_law_X5_market
set_option maxRecDepth 20000 in
theorem ggL_law_X6_market : GoodIn wsL_law wsX6_market := goodIn_r _ [285, 238, 239, 286, 93, 287, 84, 85, 86, 87, 88, 89, 90, 91, 288, 289, 290, 291, 292, 109, 234, 235, 236, 5, 237, 240, 241, 242, 243, 244, 245, 246, 247, 248, 249, 250, 110, 111, 112, 702, 703, 704, 705, 706, 707, 708, 709, 710, 711, 712, 713, 714, 715, 716, 717, 718, 719, 720, 721, 722, 723, 724, 725, 726, 727, 728, 729, 730, 731] (by decide +kernel) (by decide +kernel)
set_option maxRecDepth 20000 in
theorem gL_law_X6_market : GoodIn wsL_law (wsV RL 30 RX6 yX6_market wsX6_market) := goodIn_app (goodIn_of _ (by decide +kernel)) ggL_law_X6_market
set_option maxRecDepth 20000 in
theorem ggL_law_X5_about : GoodIn wsL_law wsX5_about := goodIn_r _ [296, 19, 297, 298, 299, 18, 300, 54, 301, 302, 303, 304, 47, 48, 49, 50, 51, 52, 53, 692, 693, 694, 695, 696, 697, 698, 699, 700, 701, 734, 735, 736, 737, 738, 739, 740, 741, 742, 743, 744] (by decide +kernel) (by decide +kernel)
set_option maxRecDepth 20000 in
theorem gL_law_X5_about : GoodIn wsL_law (wsV RL 31 RX5 yX5_about wsX5_about) := goodIn_app (goodIn_of _ (by decide +kernel)) ggL_law_X5_about
set_option maxRecDepth 20000 in
theorem ggL_law_X6_about : GoodIn wsL_law wsX6_about := goodIn_r _ [308, 309, 310, 311, 5, 312, 286, 110, 111, 112, 313, 314, 315, 316, 84, 85, 86, 87, 88, 89, 90, 702, 703, 704, 705, 706, 707, 708, 709, 710, 711, 712, 713, 714, 715, 716, 717, 718, 719, 720, 721, 722, 723, 724, 725, 726, 727, 728, 729, 730, 731] (by decide +kernel) (by decide +kernel)
set_option maxRecDepth 20000 in
theorem gL_law_X6_about : GoodIn wsL_law (wsV RL 35 RX6 yX6_about wsX6_about) := goodIn_app (goodIn_of _ (by decide +kernel)) ggL_law_X6_about
set_option maxRecDepth 20000 in
theorem ggL_law_X5_as : GoodIn wsL_law wsX5_as := goodIn_r _ [320, 19, 321, 297, 298, 299, 18, 300, 54, 322, 154, 155, 140, 156, 146, 157, 158, 159, 160, 151, 152, 323, 324, 2, 325, 692, 693, 694, 695, 696, 697, 698, 699, 700, 701, 734, 735, 736, 737, 738, 739, 740, 741, 742, 743, 744] (by decide +kernel) (by decide +kernel)
set_option maxRecDepth 20000 in
theorem gL_law_X5_as : GoodIn wsL_law (wsV RL 36 RX5 yX5_as wsX5_as) := goodIn_app (goodIn_of _ (by decide +kernel)) ggL_law_X5_as
set_option maxRecDepth 20000 in
theorem ggL_law_X6_as : GoodIn wsL_law wsX6_as := goodIn_r _ [329, 84, 309, 310, 311, 5, 312, 286, 110, 111, 112, 702, 703, 704, 705, 706, 707, 708, 709, 710, 711, 712, 713, 714, 715, 716, 717, 718, 719, 720, 721, 722, 723, 724, 725, 726, 727, 728, 729, 730, 731] (by decide +kernel) (by decide +kernel)
set_option maxRecDepth 20000 in
theorem gL_law_X6_as : GoodIn wsL_law (wsV RL 39 RX6 yX6_as wsX6_as) := goodIn_app (goodIn_of _ (by decide +kernel)) ggL_law_X6_as
set_option maxRecDepth 20000 in
theorem ggL_law_X5_measure : GoodIn wsL_law wsX5_measure := goodIn_r _ [333, 19, 334, 335, 336, 337, 338, 2, 339, 297, 298, 299, 18, 300, 54, 340, 341, 342, 343, 55, 47, 344, 166, 167, 168, 692, 693, 694, 695, 696, 697, 698, 699, 700, 701, 734, 735, 736, 737, 738, 739, 740, 741, 742, 743, 744] (by decide +kernel) (by decide +kernel)
set_option maxRecDepth 20000 in
theorem gL_law_X5_measure : GoodIn wsL_law (wsV RL 40 RX5 yX5_measure wsX5_measure) := goodIn_app (goodIn_of _ (by decide +kernel)) ggL_law_X5_measure
set_option maxRecDepth 20000 in
theorem ggL_law_X6_measure : GoodIn wsL_law wsX6_measure := goodIn_r _ [348, 289, 349, 350, 351, 5, 352, 309, 310, 311, 312, 286, 110, 111, 112, 353, 354, 355, 356, 85, 287, 84, 702, 703, 704, 705, 706, 707, 708, 709, 710, 711, 712, 713, 714, 715, 716, 717, 718, 719, 720, 721, 722, 723, 724, 725, 726, 727, 728, 729, 730, 731] (by decide +kernel) (by decide +kernel)
set_option maxRecDepth 20000 in
theorem gL_law_X6_measure : GoodIn wsL_law (wsV RL 44 RX6 yX6_measure wsX6_measure) := goodIn_app (goodIn_of _ (by decide +kernel)) ggL_law_X6_measure
set_option maxRecDepth 20000 in
theorem ggL_law_X5_buy : GoodIn wsL_law wsX5_buy := goodIn_r _ [360, 19, 361, 336, 337, 338, 2, 339, 297, 298, 299, 18, 300, 54, 362, 363, 364, 365, 48, 56, 50, 51, 49, 52, 53, 57, 366, 341, 342, 343, 55, 47, 344, 166, 167, 168, 367, 368, 369, 370, 692, 693, 694, 695, 696, 697, 698, 699, 700, 701, 734, 735, 736, 737, 738, 739, 740, 741, 742, 743, 744] (by decide +kernel) (by decide +kernel)
set_option maxRecDepth 20000 in
theorem gL_law_X5_buy : GoodIn wsL_law (wsV RL 45 RX5 yX5_buy wsX5_buy) := goodIn_app (goodIn_of _ (by decide +kernel)) ggL_law_X5_buy
set_option maxRecDepth 20000 in
theorem ggL_law_X6_buy : GoodIn wsL_law wsX6_buy := goodIn_r _ [374, 290, 289, 87, 88, 86, 89, 90, 349, 350, 351, 5, 352, 309, 310, 311, 312, 286, 110, 111, 112, 353, 354, 355, 356, 85, 287, 84, 375, 376, 377, 378, 702, 703, 704, 705, 706, 707, 708, 709, 710, 711, 712, 713, 714, 715, 716, 717, 718, 719, 720, 721, 722, 723, 724, 725, 726, 727, 728, 729, 730, 731] (by decide +kernel) (by decide +kernel)
set_option maxRecDepth 20000 in
theorem gL_law_X6_buy : GoodIn wsL_law (wsV RL 48 RX6 yX6_buy wsX6_buy) := goodIn_app (goodIn_of _ (by decide +kernel)) ggL_law_X6_buy
set_option maxRecDepth 20000 in
theorem ggL_law_X5_hour : GoodIn wsL_law wsX5_hour := goodIn_r _ [382, 19, 335, 383, 384, 385, 18, 386, 54, 692, 693, 694, 695, 696, 697, 698, 699, 700, 701, 734, 735, 736, 737, 738, 739, 740, 741, 742, 743, 744] (by decide +kernel) (by decide +kernel)
set_option maxRecDepth 20000 in
theorem gL_law_X5_hour : GoodIn wsL_law (wsV RL 49 RX5 yX5_hour wsX5_hour) := goodIn_app (goodIn_of _ (by decide +kernel)) ggL_law_X5_hour
set_option maxRecDepth 20000 in
theorem ggL_law_X6_hour : GoodIn wsL_law wsX6_hour := goodIn_r _ [390, 286, 289, 702, 703, 704, 705, 706, 707, 708, 709, 710, 711, 712, 713, 714, 715, 716, 717, 718, 719, 720, 721, 722, 723, 724, 725, 726, 727, 728, 729, 730, 731] (by decide +kernel) (by decide +kernel)
set_option maxRecDepth 20000 in
theorem gL_law_X6_hour : GoodIn wsL_law (wsV RL 52 RX6 yX6_hour wsX6_hour) := goodIn_app (goodIn_of _ (by decide +kernel)) ggL_law_X6_hour
set_option maxRecDepth 20000 in
theorem ggL_law_X5_plan : GoodIn wsL_law wsX5_plan := goodIn_r _ [394, 19, 36, 29, 297, 298, 299, 18, 300, 54, 395, 396, 2, 397, 398, 399, 400, 28, 401, 402, 67, 70, 71, 72, 73, 403, 404, 405, 406, 407, 408, 409, 410, 411, 412, 413, 68, 414, 415, 416, 417, 418, 419, 420, 341, 342, 343, 55, 47, 344, 166, 167, 168, 421, 422, 423, 424, 69, 425, 426, 368, 369, 370, 427, 428, 429, 430, 692, 693, 694, 695, 696, 697, 698, 699, 700, 701, 734, 735, 736, 737, 738, 739, 740, 741, 742, 743, 744, 748, 749, 750, 751, 752, 753, 754] (by decide +kernel) (by decide +kernel)
set_option maxRecDepth 20000 in
theorem gL_law_X5_plan : GoodIn wsL_law (wsV RL 53 RX5 yX5_plan wsX5_plan) := goodIn_app (goodIn_of _ (by decide +kernel)) ggL_law_X5_plan
set_option maxRecDepth 20000 in
theorem ggL_law_X6_plan : GoodIn wsL_law wsX6_plan := goodIn_r _ [434, 435, 309, 310, 311, 5, 312, 286, 110, 111, 112, 436, 437, 438, 439, 440, 441, 442, 443, 444, 94, 85, 445, 446, 447, 448, 289, 86, 349, 350, 351, 352, 353, 354, 355, 356, 287, 84, 375, 376, 377, 378, 449, 450, 451, 452, 702, 703, 704, 705, 706, 707, 708, 709, 710, 711, 712, 713, 714, 715, 716, 717, 718, 719, 720, 721, 722, 723, 724, 725, 726, 727, 728, 729, 730, 731] (by decide +kernel) (by decide +kernel)
set_option maxRecDepth 20000 in
theorem gL_law_X6_plan : GoodIn wsL_law (wsV RL 56 RX6 yX6_plan wsX6_plan) := goodIn_app (goodIn_of _ (by decide +kernel)) ggL_law_X6_plan
set_option maxRecDepth 20000 in
theorem ggL_law_X5_fair : GoodIn wsL_law wsX5_fair := goodIn_r _ [456, 19, 336, 337, 338, 2, 339, 297, 298, 299, 18, 300, 54, 457, 458, 459, 460, 48, 56, 49, 366, 341, 342, 343, 55, 47, 344, 166, 167, 168, 692, 693, 694, 695, 696, 697, 698, 699, 700, 701, 734, 735, 736, 737, 738, 739, 740, 741, 742, 743, 744] (by decide +kernel) (by decide +kernel)
set_option maxRecDepth 20000 in
theorem gL_law_X5_fair : GoodIn wsL_law (wsV RL 57 RX5 yX5_fair wsX5_fair) := goodIn_app (goodIn_of _ (by decide +kernel)) ggL_law_X5_fair
set_option maxRecDepth 20000 in
theorem ggL_law_X6_fair : GoodIn wsL_law wsX6_fair := goodIn_r _ [464, 309, 310, 311, 5, 312, 286, 110, 111, 112, 465, 466, 467, 468, 289, 86, 353, 354, 355, 356, 85, 287, 84, 702, 703, 704, 705, 706, 707, 708, 709, 710, 711, 712, 713, 714, 715, 716, 717, 718, 719, 720, 721, 722, 723, 724, 725, 726, 727, 728, 729, 730, 731] (by decide +kernel) (by decide +kernel)
set_option maxRecDepth 20000 in
theorem gL_law_X6_fair : GoodIn wsL_law (wsV RL 60 RX6 yX6_fair wsX6_fair) := goodIn_app (goodIn_of _ (by decide +kernel)) ggL_law_X6_fair
set_option maxRecDepth 20000 in
theorem ggL_law_X5_pass : GoodIn wsL_law wsX5_pass := goodIn_r _ [472, 19, 23, 473, 297, 298, 299, 18, 300, 54, 474, 475, 476, 22, 477, 61, 62, 692, 693, 694, 695, 696, 697, 698, 699, 700, 701, 745, 746, 747, 734, 735, 736, 737, 738, 739, 740, 741, 742, 743, 744] (by decide +kernel) (by decide +kernel)
set_option maxRecDepth 20000 in
theorem gL_law_X5_pass : GoodIn wsL_law (wsV RL 61 RX5 yX5_pass wsX5_pass) := goodIn_app (goodIn_of _ (by decide +kernel)) ggL_law_X5_pass
set_option maxRecDepth 20000 in
theorem ggL_law_X6_pass : GoodIn wsL_law wsX6_pass := goodIn_r _ [481, 291, 91, 309, 310, 311, 5, 312, 286, 110, 111, 112, 702, 703, 704, 705, 706, 707, 708, 709, 710, 711, 712, 713, 714, 715, 716, 717, 718, 719, 720, 721, 722, 723, 724, 725, 726, 727, 728, 729, 730, 731] (by decide +kernel) (by decide +kernel)
set_option maxRecDepth 20000 in
theorem gL_law_X6_pass : GoodIn wsL_law (wsV RL 64 RX6 yX6_pass wsX6_pass) := goodIn_app (goodIn_of _ (by decide +kernel)) ggL_law_X6_pass
set_option maxRecDepth 20000 in
theorem ggL_law_X5_lose : GoodIn wsL_law wsX5_lose := goodIn_r _ [485, 23, 486, 692, 693, 694, 695, 696, 697, 698, 699, 700, 701, 745, 746, 747] (by decide +kernel) (by decide +kernel)
set_option maxRecDepth 20000 in
theorem gL_law_X5_lose : GoodIn wsL_law (wsV RL 65 RX5 yX5_lose wsX5_lose) := goodIn_app (goodIn_of _ (by decide +kernel)) ggL_law_X5_lose
set_option maxRecDepth 20000 in
theorem ggL_law_X6_lose : GoodIn wsL_law wsX6_lose := goodIn_r _ [490, 292, 110, 111, 5, 112, 702, 703, 704, 705, 706, 707, 708, 709, 710, 711, 712, 713, 714, 715, 716, 717, 718, 719, 720, 721, 722, 723, 724, 725, 726, 727, 728, 729, 730, 731] (by decide +kernel) (by decide +kernel)
set_option maxRecDepth 20000 in
theorem gL_law_X6_lose : GoodIn wsL_law (wsV RL 68 RX6 yX6_lose wsX6_lose) := goodIn_app (goodIn_of _ (by decide +kernel)) ggL_law_X6_lose
set_option maxRecDepth 20000 in
theorem ggL_law_X5_clear : GoodIn wsL_law wsX5_clear := goodIn_r _ [494, 23, 473, 278, 279, 280, 22, 281, 61, 62, 63, 692, 693, 694, 695, 696, 697, 698, 699, 700, 701, 745, 746, 747] (by decide +kernel) (by decide +kernel)
set_option maxRecDepth 20000 in
theorem gL_law_X5_clear : GoodIn wsL_law (wsV RL 69 RX5 yX5_clear wsX5_clear) := goodIn_app (goodIn_of _ (by decide +kernel)) ggL_law_X5_clear
set_option maxRecDepth 20000 in
theorem ggL_law_X6_clear : GoodIn wsL_law wsX6_clear := goodIn_r _ [498, 291, 292, 91, 702, 703, 704, 705, 706, 707, 708, 709, 710, 711, 712, 713, 714, 715, 716, 717, 718, 719, 720, 721, 722, 723, 724, 725, 726, 727, 728, 729, 730, 731] (by decide +kernel) (by decide +kernel)
set_option maxRecDepth 20000 in
theorem gL_law_X6_clear : GoodIn wsL_law (wsV RL 72 RX6 yX6_clear wsX6_clear) := goodIn_app (goodIn_of _ (by decide +kernel)) ggL_law_X6_clear
set_option maxRecDepth 20000 in
theorem ggL_law_X5_rubbed : GoodIn wsL_law wsX5_rubbed := goodIn_r _ [502, 19, 23, 255, 383, 384, 385, 18, 386, 54, 503, 504, 505, 22, 506, 507, 508, 509, 510, 511, 512, 513, 514, 61, 63, 515, 516, 517, 518, 519, 520, 521, 522, 692, 693, 694, 695, 696, 697, 698, 699, 700, 701, 734, 735, 736, 737, 738, 739, 740, 741, 742, 743, 744, 745, 746, 747] (by decide +kernel) (by decide +kernel)
set_option maxRecDepth 20000 in
theorem gL_law_X5_rubbed : GoodIn wsL_law (wsV RL 73 RX5 yX5_rubbed wsX5_rubbed) := goodIn_app (goodIn_of _ (by decide +kernel)) ggL_law_X5_rubbed
set_option maxRecDepth 20000 in
theorem ggL_law_X6_rubbed : GoodIn wsL_law wsX6_rubbed := goodIn_r _ [526, 286, 110, 111, 5, 112, 527, 528, 529, 530, 531, 532, 533, 534, 91, 292, 535, 536, 537, 702, 703, 704, 705, 706, 707, 708, 709, 710, 711, 712, 713, 714, 715, 716, 717, 718, 719, 720, 721, 722, 723, 724, 725, 726, 727, 728, 729, 730, 731] (by decide +kernel) (by decide +kernel)
set_option maxRecDepth 20000 in
theorem gL_law_X6_rubbed : GoodIn wsL_law (wsV RL 76 RX6 yX6_rubbed wsX6_rubbed) := goodIn_app (goodIn_of _ (by decide +kernel)) ggL_law_X6_rubbed
set_option maxRecDepth 20000 in
theorem ggL_law_X5_watch : GoodIn wsL_law wsX5_watch := goodIn_r _ [541, 19, 23, 255, 383, 384, 385, 18, 386, 54, 542, 543, 544, 22, 545, 546, 166, 167, 168, 547, 504, 505, 506, 507, 508, 509, 510, 511, 512, 513, 514, 61, 63, 692, 693, 694, 695, 696, 697, 698, 699, 700, 701, 734, 735, 736, 737, 738, 739, 740, 741, 742, 743, 744, 745, 746, 747] (by decide +kernel) (by decide +kernel)
set_option maxRecDepth 20000 in
theorem gL_law_X5_watch : GoodIn wsL_law (wsV RL 77 RX5 yX5_watch wsX5_watch) := goodIn_app (goodIn_of _ (by decide +kernel)) ggL_law_X5_watch
set_option maxRecDepth 20000 in
theorem ggL_law_X6_watch : GoodIn wsL_law wsX6_watch := goodIn_r _ [551, 286, 552, 553, 554, 5, 555, 440, 527, 528, 529, 530, 531, 532, 533, 534, 91, 292, 535, 536, 537, 702, 703, 704, 705, 706, 707, 708, 709, 710, 711, 712, 713, 714, 715, 716, 717, 718, 719, 720, 721, 722, 723, 724, 725, 726, 727, 728, 729, 730, 731] (by decide +kernel) (by decide +kernel)
set_option maxRecDepth 20000 in
theorem gL_law_X6_watch : GoodIn wsL_law (wsV RL 80 RX6 yX6_watch wsX6_watch) := goodIn_app (goodIn_of _ (by decide +kernel)) ggL_law_X6_watch
set_option maxRecDepth 20000 in
theorem ggL_law_X5_markets : GoodIn wsL_law wsX5_markets := goodIn_r _ [559, 19, 33, 560, 561, 562, 383, 384, 385, 18, 386, 54, 563, 564, 565, 32, 566, 567, 77, 78, 79, 568, 403, 2, 404, 405, 406, 407, 408, 569, 570, 571, 572, 573, 574, 575, 576, 577, 578, 579, 580, 581, 582, 341, 342, 343, 55, 47, 344, 166, 167, 168, 583, 368, 369, 370, 584, 585, 586, 587, 692, 693, 694, 695, 696, 697, 698, 699, 700, 701, 755, 756, 757, 734, 735, 736, 737, 738, 739, 740, 741, 742, 743, 744] (by decide +kernel) (by decide +kernel)
set_option maxRecDepth 20000 in
theorem gL_law_X5_markets : GoodIn wsL_law (wsV RL 81 RX5 yX5_markets wsX5_markets) := goodIn_app (goodIn_of _ (by decide +kernel)) ggL_law_X5_markets
set_option maxRecDepth 20000 in
theorem ggL_law_X6_markets : GoodIn wsL_law wsX6_markets := goodIn_r _ [591, 286, 110, 111, 5, 112, 592, 593, 594, 595, 596, 289, 441, 442, 443, 444, 94, 85, 597, 598, 599, 600, 601, 602, 603, 604, 353, 354, 355, 356, 287, 84, 375, 376, 377, 378, 605, 606, 607, 608, 449, 450, 451, 452, 702, 703, 704, 705, 706, 707, 708, 709, 710, 711, 712, 713, 714, 715, 716, 717, 718, 719, 720, 721, 722, 723, 724, 725, 726, 727, 728, 729, 730, 731] (by decide +kernel) (by decide +kernel)
set_option maxRecDepth 20000 in
theorem gL_law_X6_markets : GoodIn wsL_law (wsV RL 84 RX6 yX6_markets wsX6_markets) := goodIn_app (goodIn_of _ (by decide +kernel)) ggL_law_X6_markets
set_option maxRecDepth 20000 in
theorem ggL_law_X5_image : GoodIn wsL_law wsX5_image := goodIn_r _ [612, 19, 24, 25, 23, 34, 335, 383, 384, 385, 18, 386, 54, 613, 614, 615, 616, 56, 57, 48, 50, 51, 52, 53, 403, 2, 404, 405, 406, 407, 408, 617, 618, 619, 22, 620, 61, 62, 63, 692, 693, 694, 695, 696, 697, 698, 699, 700, 701, 734, 735, 736, 737, 738, 739, 740, 741, 742, 743, 744, 745, 746, 747] (by decide +kernel) (by decide +kernel)
set_option maxRecDepth 20000 in
theorem gL_law_X5_image : GoodIn wsL_law (wsV RL 85 RX5 yX5_image wsX5_image) := goodIn_app (goodIn_of _ (by decide +kernel)) ggL_law_X5_image
set_option maxRecDepth 20000 in
theorem ggL_law_X6_image : GoodIn wsL_law wsX6_image := goodIn_r _ [624, 286, 625, 288, 626, 289, 627, 290, 628, 291, 629, 292, 630, 95, 85, 87, 88, 89, 90, 91, 702, 703, 704, 705, 706, 707, 708, 709, 710, 711, 712, 713, 714, 715, 716, 717, 718, 719, 720, 721, 722, 723, 724, 725, 726, 727, 728, 729, 730, 731] (by decide +kernel) (by decide +kernel)
set_option maxRecDepth 20000 in
theorem gL_law_X6_image : GoodIn wsL_law (wsV RL 88 RX6 yX6_image wsX6_image) := goodIn_app (goodIn_of _ (by decide +kernel)) ggL_law_X6_image
set_option maxRecDepth 20000 in
theorem ggL_law_X5_restore : GoodIn wsL_law wsX5_restore := goodIn_r _ [634, 34, 19, 24, 23, 25, 335, 613, 614, 615, 18, 616, 56, 57, 48, 50, 51, 52, 53, 403, 2, 404, 405, 406, 407, 408, 617, 618, 619, 22, 620, 61, 62, 63, 692, 693, 694, 695, 696, 697, 698, 699, 700, 701, 734, 735, 736, 737, 738, 739, 740, 741, 742, 743, 744, 745, 746, 747] (by decide +kernel) (by decide +kernel)
set_option maxRecDepth 20000 in
theorem gL_law_X5_restore : GoodIn wsL_law (wsV RL 89 RX5 yX5_restore wsX5_restore) := goodIn_app (goodIn_of _ (by decide +kernel)) ggL_law_X5_restore
set_option maxRecDepth 20000 in
theorem ggL_law_X6_restore : GoodIn wsL_law wsX6_restore := goodIn_r _ [638, 625, 626, 288, 627, 289, 628, 290, 629, 291, 630, 292, 85, 95, 87, 88, 89, 90, 91, 702, 703, 704, 705, 706, 707, 708, 709, 710, 711, 712, 713, 714, 715, 716, 717, 718, 719, 720, 721, 722, 723, 724, 725, 726, 727, 728, 729, 730, 731] (by decide +kernel) (by decide +kernel)
set_option maxRecDepth 20000 in
theorem gL_law_X6_restore : GoodIn wsL_law (wsV RL 92 RX6 yX6_restore wsX6_restore) := goodIn_app (goodIn_of _ (by decide +kernel)) ggL_law_X6_restore
set_option maxRecDepth 20000 in
theorem ggL_law_X5_count : GoodIn wsL_law wsX5_count := goodIn_r _ [642, 19, 255, 643, 335, 361, 644, 645, 334, 23, 473, 486, 15, 100, 35, 36, 584, 585, 586, 18, 587, 54, 692, 693, 694, 695, 696, 697, 698, 699, 700, 701, 734, 735, 736, 737, 738, 739, 740, 741, 742, 743, 744, 745, 746, 747, 732, 733] (by decide +kernel) (by decide +kernel)
set_option maxRecDepth 20000 in
theorem gL_law_X5_count : GoodIn wsL_law (wsV RL 93 RX5 yX5_count wsX5_count) := goodIn_app (goodIn_of _ (by decide +kernel)) ggL_law_X5_count
set_option maxRecDepth 20000 in
theorem ggL_law_X6_count : GoodIn wsL_law wsX6_count := goodIn_r _ [649, 650, 651, 652, 5, 653, 286, 287, 289, 290, 291, 292, 109, 288, 435, 654, 655, 656, 657, 313, 314, 315, 316, 84, 85, 86, 87, 88, 89, 90, 605, 606, 607, 608, 702, 703, 704, 705, 706, 707, 708, 709, 710, 711, 712, 713, 714, 715, 716, 717, 718, 719, 720, 721, 722, 723, 724, 725, 726, 727, 728, 729, 730, 731] (by decide +kernel) (by decide +kernel)
set_option maxRecDepth 20000 in
theorem gL_law_X6_count : GoodIn wsL_law (wsV RL 96 RX6 yX6_count wsX6_count) := goodIn_app (goodIn_of _ (by decide +kernel)) ggL_law_X6_count
set_option maxRecDepth 20000 in
theorem ggL_law_X5_digest : GoodIn wsL_law wsX5_digest := goodIn_r _ [661, 662, 19, 255, 15, 100, 663, 664, 665, 666, 2, 667, 668, 294, 295, 296, 297, 298, 299, 18, 300, 54, 301, 302, 303, 304, 47, 48, 49, 50, 51, 52, 53, 669, 670, 671, 672, 673, 454, 455, 456, 336, 337, 338, 339, 457, 458, 459, 460, 56, 366, 341, 342, 343, 55, 344, 166, 167, 168, 383, 384, 385, 386, 674, 675, 676, 677, 678, 500, 501, 502, 23, 503, 504, 505, 22, 506, 507, 508, 509, 510, 511, 512, 513, 514, 61, 63, 515, 516, 517, 518, 519, 520, 521, 522, 679, 539, 540, 541, 542, 543, 544, 545, 546, 547, 680, 640, 641, 642, 643, 335, 361, 644, 645, 334, 473, 486, 35, 36, 584, 585, 586, 587, 692, 693, 694, 695, 696, 697, 698, 699, 700, 701, 734, 735, 736, 737, 738, 739, 740, 741, 742, 743, 744, 732, 733, 745, 746, 747] (by decide +kernel) (by decide +kernel)
set_option maxRecDepth 20000 in
theorem gL_law_X5_digest : GoodIn wsL_law (wsV RL 97 RX5 yX5_digest wsX5_digest) := goodIn_app (goodIn_of _ (by decide +kernel)) ggL_law_X5_digest
set_option maxRecDepth 20000 in
theorem ggL_law_X6_digest : GoodIn wsL_law wsX6_digest := goodIn_r _ [684, 685, 686, 286, 109, 93, 313, 314, 315, 5, 316, 84, 85, 86, 87, 88, 89, 90, 687, 688, 689, 690, 691, 465, 466, 467, 468, 289, 353, 354, 355, 356, 287, 527, 528, 529, 530, 531, 532, 533, 534, 91, 292, 535, 536, 537, 552, 553, 554, 555, 440, 650, 651, 652, 653, 290, 291, 288, 435, 654, 655, 656, 657, 605, 606, 607, 608, 702, 703, 704, 705, 706, 707, 708, 709, 710, 711, 712, 713, 714, 715, 716, 717, 718, 719, 720, 721, 722, 723, 724, 725, 726, 727, 728, 729, 730, 731] (by decide +kernel) (by decide +kernel)
set_option maxRecDepth 20000 in
theorem gL_law_X6_digest : GoodIn wsL_law (wsV RL 101 RX6 yX6_digest wsX6_digest) := goodIn_app (goodIn_of _ (by decide +kernel)) ggL_law_X6_digest
theorem dL_law_0 : decode cL_law 0 = .ok (.new 7, 3) := by decide +kernel
theorem dL_law_3 : decode cL_law 3 = .ok (.dup, 1) := by decide +kernel
theorem dL_law_4 : decode cL_law 4 = .ok (.invokespecial 9, 3) := by decide +kernel
theorem dL_law_7 : decode cL_law 7 = .ok (.astore_n 1, 1) := by decide +kernel
theorem dL_law_8 : decode cL_law 8 = .ok (.new 10, 3) := by decide +kernel
theorem dL_law_11 : decode cL_law 11 = .ok (.dup, 1) := by decide +kernel
theorem dL_law_12 : decode cL_law 12 = .ok (.invokespecial 12, 3) := by decide +kernel
theorem dL_law_15 : decode cL_law 15 = .ok (.astore_n 2, 1) := by decide +kernel
theorem dL_law_16 : decode cL_law 16 = .ok (.iconst 0, 1) := by decide +kernel
theorem dL_law_17 : decode cL_law 17 = .ok (.istore_n 3, 1) := by decide +kernel
theorem dL_law_18 : decode cL_law 18 = .ok (.iload_n 3, 1) := by decide +kernel
theorem dL_law_19 : decode cL_law 19 = .ok (.aload_n 0, 1) := by decide +kernel
theorem dL_law_20 : decode cL_law 20 = .ok (.arraylength, 1) := by decide +kernel
theorem dL_law_21 : decode cL_law 21 = .ok (.iconst 4, 1) := by decide +kernel
theorem dL_law_22 : decode cL_law 22 = .ok (.isub, 1) := by decide +kernel
theorem dL_law_23 : decode cL_law 23 = .ok (.if_icmp .gt 619, 3) := by decide +kernel
theorem dL_law_26 : decode cL_law 26 = .ok (.aload_n 0, 1) := by decide +kernel
theorem dL_law_27 : decode cL_law 27 = .ok (.iload_n 3, 1) := by decide +kernel
theorem dL_law_28 : decode cL_law 28 = .ok (.iaload, 1) := by decide +kernel
theorem dL_law_29 : decode cL_law 29 = .ok (.bipush 31, 2) := by decide +kernel
theorem dL_law_31 : decode cL_law 31 = .ok (.iand, 1) := by decide +kernel
theorem dL_law_32 : decode cL_law 32 = .ok (.tableswitch 604 0 20 #[100, 123, 136, 149, 162, 195, 228, 271, 314, 327, 370, 403, 426, 449, 462, 485, 498, 541, 554, 567, 590], 100) := by decide +kernel
theorem dL_law_132 : decode cL_law 132 = .ok (.aload_n 1, 1) := by decide +kernel
theorem dL_law_133 : decode cL_law 133 = .ok (.aload_n 0, 1) := by decide +kernel
theorem dL_law_134 : decode cL_law 134 = .ok (.iload_n 3, 1) := by decide +kernel
theorem dL_law_135 : decode cL_law 135 = .ok (.iconst 1, 1) := by decide +kernel
theorem dL_law_136 : decode cL_law 136 = .ok (.iadd, 1) := by decide +kernel
theorem dL_law_137 : decode cL_law 137 = .ok (.iaload, 1) := by decide +kernel
theorem dL_law_138 : decode cL_law 138 = .ok (.invokevirtual 13, 3) := by decide +kernel
theorem dL_law_141 : decode cL_law 141 = .ok (.aload_n 2, 1) := by decide +kernel
theorem dL_law_142 : decode cL_law 142 = .ok (.aload_n 0, 1) := by decide +kernel
theorem dL_law_143 : decode cL_law 143 = .ok (.iload_n 3, 1) := by decide +kernel
theorem dL_law_144 : decode cL_law 144 = .ok (.iconst 1, 1) := by decide +kernel
theorem dL_law_145 : decode cL_law 145 = .ok (.iadd, 1) := by decide +kernel
theorem dL_law_146 : decode cL_law 146 = .ok (.iaload, 1) := by decide +kernel
theorem dL_law_147 : decode cL_law 147 = .ok (.invokevirtual 17, 3) := by decide +kernel
theorem dL_law_150 : decode cL_law 150 = .ok (.if_icmp .eq 486, 3) := by decide +kernel
theorem dL_law_153 : decode cL_law 153 = .ok (.iconst 0, 1) := by decide +kernel
theorem dL_law_154 : decode cL_law 154 = .ok (.ireturn, 1) := by decide +kernel
theorem dL_law_155 : decode cL_law 155 = .ok (.aload_n 1, 1) := by decide +kernel
theorem dL_law_156 : decode cL_law 156 = .ok (.invokevirtual 18, 3) := by decide +kernel
theorem dL_law_159 : decode cL_law 159 = .ok (.aload_n 2, 1) := by decide +kernel
theorem dL_law_160 : decode cL_law 160 = .ok (.invokevirtual 22, 3) := by decide +kernel
theorem dL_law_163 : decode cL_law 163 = .ok (.if_icmp .eq 473, 3) := by decide +kernel
theorem dL_law_166 : decode cL_law 166 = .ok (.iconst 0, 1) := by decide +kernel
theorem dL_law_167 : decode cL_law 167 = .ok (.ireturn, 1) := by decide +kernel
theorem dL_law_168 : decode cL_law 168 = .ok (.aload_n 1, 1) := by decide +kernel
theorem dL_law_169 : decode cL_law 169 = .ok (.invokevirtual 23, 3) := by decide +kernel
theorem dL_law_172 : decode cL_law 172 = .ok (.aload_n 2, 1) := by decide +kernel
theorem dL_law_173 : decode cL_law 173 = .ok (.invokevirtual 26, 3) := by decide +kernel
theorem dL_law_176 : decode cL_law 176 = .ok (.if_icmp .eq 460, 3) := by decide +kernel
theorem dL_law_179 : decode cL_law 179 = .ok (.iconst 0, 1) := by decide +kernel
theorem dL_law_180 : decode cL_law 180 = .ok (.ireturn, 1) := by decide +kernel
theorem dL_law_181 : decode cL_law 181 = .ok (.aload_n 1, 1) := by decide +kernel
theorem dL_law_182 : decode cL_law 182 = .ok (.invokevirtual 27, 3) := by decide +kernel
theorem dL_law_185 : decode cL_law 185 = .ok (.aload_n 2, 1) := by decide +kernel
theorem dL_law_186 : decode cL_law 186 = .ok (.invokevirtual 30, 3) := by decide +kernel
theorem dL_law_189 : decode cL_law 189 = .ok (.if_icmp .eq 447, 3) := by decide +kernel
theorem dL_law_192 : decode cL_law 192 = .ok (.iconst 0, 1) := by decide +kernel
theorem dL_law_193 : decode cL_law 193 = .ok (.ireturn, 1) := by decide +kernel
theorem dL_law_194 : decode cL_law 194 = .ok (.aload_n 1, 1) := by decide +kernel
theorem dL_law_195 : decode cL_law 195 = .ok (.aload_n 0, 1) := by decide +kernel
theorem dL_law_196 : decode cL_law 196 = .ok (.iload_n 3, 1) := by decide +kernel
theorem dL_law_197 : decode cL_law 197 = .ok (.iconst 1, 1) := by decide +kernel
theorem dL_law_198 : decode cL_law 198 = .ok (.iadd, 1) := by decide +kernel
theorem dL_law_199 : decode cL_law 199 = .ok (.iaload, 1) := by decide +kernel
theorem dL_law_200 : decode cL_law 200 = .ok (.aload_n 0, 1) := by decide +kernel
theorem dL_law_201 : decode cL_law 201 = .ok (.iload_n 3, 1) := by decide +kernel
theorem dL_law_202 : decode cL_law 202 = .ok (.iconst 2, 1) := by decide +kernel
theorem dL_law_203 : decode cL_law 203 = .ok (.iadd, 1) := by decide +kernel
theorem dL_law_204 : decode cL_law 204 = .ok (.iaload, 1) := by decide +kernel
theorem dL_law_205 : decode cL_law 205 = .ok (.invokevirtual 31, 3) := by decide +kernel
theorem dL_law_208 : decode cL_law 208 = .ok (.aload_n 2, 1) := by decide +kernel
theorem dL_law_209 : decode cL_law 209 = .ok (.aload_n 0, 1) := by decide +kernel
theorem dL_law_210 : decode cL_law 210 = .ok (.iload_n 3, 1) := by decide +kernel
theorem dL_law_211 : decode cL_law 211 = .ok (.iconst 1, 1) := by decide +kernel
theorem dL_law_212 : decode cL_law 212 = .ok (.iadd, 1) := by decide +kernel
theorem dL_law_213 : decode cL_law 213 = .ok (.iaload, 1) := by decide +kernel
theorem dL_law_214 : decode cL_law 214 = .ok (.aload_n 0, 1) := by decide +kernel
theorem dL_law_215 : decode cL_law 215 = .ok (.iload_n 3, 1) := by decide +kernel
theorem dL_law_216 : decode cL_law 216 = .ok (.iconst 2, 1) := by decide +kernel
theorem dL_law_217 : decode cL_law 217 = .ok (.iadd, 1) := by decide +kernel
theorem dL_law_218 : decode cL_law 218 = .ok (.iaload, 1) := by decide +kernel
theorem dL_law_219 : decode cL_law 219 = .ok (.invokevirtual 35, 3) := by decide +kernel
theorem dL_law_222 : decode cL_law 222 = .ok (.if_icmp .eq 414, 3) := by decide +kernel
theorem dL_law_225 : decode cL_law 225 = .ok (.iconst 0, 1) := by decide +kernel
theorem dL_law_226 : decode cL_law 226 = .ok (.ireturn, 1) := by decide +kernel
theorem dL_law_227 : decode cL_law 227 = .ok (.aload_n 1, 1) := by decide +kernel
theorem dL_law_228 : decode cL_law 228 = .ok (.aload_n 0, 1) := by decide +kernel
theorem dL_law_229 : decode cL_law 229 = .ok (.iload_n 3, 1) := by decide +kernel
theorem dL_law_230 : decode cL_law 230 = .ok (.iconst 1, 1) := by decide +kernel
theorem dL_law_231 : decode cL_law 231 = .ok (.iadd, 1) := by decide +kernel
theorem dL_law_232 : decode cL_law 232 = .ok (.iaload, 1) := by decide +kernel
theorem dL_law_233 : decode cL_law 233 = .ok (.aload_n 0, 1) := by decide +kernel
theorem dL_law_234 : decode cL_law 234 = .ok (.iload_n 3, 1) := by decide +kernel
theorem dL_law_235 : decode cL_law 235 = .ok (.iconst 2, 1) := by decide +kernel
theorem dL_law_236 : decode cL_law 236 = .ok (.iadd, 1) := by decide +kernel
theorem dL_law_237 : decode cL_law 237 = .ok (.iaload, 1) := by decide +kernel
theorem dL_law_238 : decode cL_law 238 = .ok (.invokevirtual 36, 3) := by decide +kernel
theorem dL_law_241 : decode cL_law 241 = .ok (.aload_n 2, 1) := by decide +kernel
theorem dL_law_242 : decode cL_law 242 = .ok (.aload_n 0, 1) := by decide +kernel
theorem dL_law_243 : decode cL_law 243 = .ok (.iload_n 3, 1) := by decide +kernel
theorem dL_law_244 : decode cL_law 244 = .ok (.iconst 1, 1) := by decide +kernel
theorem dL_law_245 : decode cL_law 245 = .ok (.iadd, 1) := by decide +kernel
theorem dL_law_246 : decode cL_law 246 = .ok (.iaload, 1) := by decide +kernel
theorem dL_law_247 : decode cL_law 247 = .ok (.aload_n 0, 1) := by decide +kernel
theorem dL_law_248 : decode cL_law 248 = .ok (.iload_n 3, 1) := by decide +kernel
theorem dL_law_249 : decode cL_law 249 = .ok (.iconst 2, 1) := by decide +kernel
theorem dL_law_250 : decode cL_law 250 = .ok (.iadd, 1) := by decide +kernel
theorem dL_law_251 : decode cL_law 251 = .ok (.iaload, 1) := by decide +kernel
theorem dL_law_252 : decode cL_law 252 = .ok (.invokevirtual 39, 3) := by decide +kernel
theorem dL_law_255 : decode cL_law 255 = .ok (.if_icmp .eq 381, 3) := by decide +kernel
theorem dL_law_258 : decode cL_law 258 = .ok (.iconst 0, 1) := by decide +kernel
theorem dL_law_259 : decode cL_law 259 = .ok (.ireturn, 1) := by decide +kernel
theorem dL_law_260 : decode cL_law 260 = .ok (.aload_n 1, 1) := by decide +kernel
theorem dL_law_261 : decode cL_law 261 = .ok (.aload_n 0, 1) := by decide +kernel
theorem dL_law_262 : decode cL_law 262 = .ok (.iload_n 3, 1) := by decide +kernel
theorem dL_law_263 : decode cL_law 263 = .ok (.iconst 1, 1) := by decide +kernel
theorem dL_law_264 : decode cL_law 264 = .ok (.iadd, 1) := by decide +kernel
theorem dL_law_265 : decode cL_law 265 = .ok (.iaload, 1) := by decide +kernel
theorem dL_law_266 : decode cL_law 266 = .ok (.aload_n 0, 1) := by decide +kernel
theorem dL_law_267 : decode cL_law 267 = .ok (.iload_n 3, 1) := by decide +kernel
theorem dL_law_268 : decode cL_law 268 = .ok (.iconst 2, 1) := by decide +kernel
theorem dL_law_269 : decode cL_law 269 = .ok (.iadd, 1) := by decide +kernel
theorem dL_law_270 : decode cL_law 270 = .ok (.iaload, 1) := by decide +kernel
theorem dL_law_271 : decode cL_law 271 = .ok (.aload_n 0, 1) := by decide +kernel
theorem dL_law_272 : decode cL_law 272 = .ok (.iload_n 3, 1) := by decide +kernel
theorem dL_law_273 : decode cL_law 273 = .ok (.iconst 3, 1) := by decide +kernel
theorem dL_law_274 : decode cL_law 274 = .ok (.iadd, 1) := by decide +kernel
theorem dL_law_275 : decode cL_law 275 = .ok (.iaload, 1) := by decide +kernel
theorem dL_law_276 : decode cL_law 276 = .ok (.invokevirtual 40, 3) := by decide +kernel
theorem dL_law_279 : decode cL_law 279 = .ok (.aload_n 2, 1) := by decide +kernel
theorem dL_law_280 : decode cL_law 280 = .ok (.aload_n 0, 1) := by decide +kernel
theorem dL_law_281 : decode cL_law 281 = .ok (.iload_n 3, 1) := by decide +kernel
theorem dL_law_282 : decode cL_law 282 = .ok (.iconst 1, 1) := by decide +kernel
theorem dL_law_283 : decode cL_law 283 = .ok (.iadd, 1) := by decide +kernel
theorem dL_law_284 : decode cL_law 284 = .ok (.iaload, 1) := by decide +kernel
theorem dL_law_285 : decode cL_law 285 = .ok (.aload_n 0, 1) := by decide +kernel
theorem dL_law_286 : decode cL_law 286 = .ok (.iload_n 3, 1) := by decide +kernel
theorem dL_law_287 : decode cL_law 287 = .ok (.iconst 2, 1) := by decide +kernel
theorem dL_law_288 : decode cL_law 288 = .ok (.iadd, 1) := by decide +kernel
theorem dL_law_289 : decode cL_law 289 = .ok (.iaload, 1) := by decide +kernel
theorem dL_law_290 : decode cL_law 290 = .ok (.aload_n 0, 1) := by decide +kernel
theorem dL_law_291 : decode cL_law 291 = .ok (.iload_n 3, 1) := by decide +kernel
theorem dL_law_292 : decode cL_law 292 = .ok (.iconst 3, 1) := by decide +kernel
theorem dL_law_293 : decode cL_law 293 = .ok (.iadd, 1) := by decide +kernel
theorem dL_law_294 : decode cL_law 294 = .ok (.iaload, 1) := by decide +kernel
theorem dL_law_295 : decode cL_law 295 = .ok (.invokevirtual 44, 3) := by decide +kernel
theorem dL_law_298 : decode cL_law 298 = .ok (.if_icmp .eq 338, 3) := by decide +kernel
theorem dL_law_301 : decode cL_law 301 = .ok (.iconst 0, 1) := by decide +kernel
theorem dL_law_302 : decode cL_law 302 = .ok (.ireturn, 1) := by decide +kernel
theorem dL_law_303 : decode cL_law 303 = .ok (.aload_n 1, 1) := by decide +kernel
theorem dL_law_304 : decode cL_law 304 = .ok (.aload_n 0, 1) := by decide +kernel
theorem dL_law_305 : decode cL_law 305 = .ok (.iload_n 3, 1) := by decide +kernel
theorem dL_law_306 : decode cL_law 306 = .ok (.iconst 1, 1) := by decide +kernel
theorem dL_law_307 : decode cL_law 307 = .ok (.iadd, 1) := by decide +kernel
theorem dL_law_308 : decode cL_law 308 = .ok (.iaload, 1) := by decide +kernel
theorem dL_law_309 : decode cL_law 309 = .ok (.aload_n 0, 1) := by decide +kernel
theorem dL_law_310 : decode cL_law 310 = .ok (.iload_n 3, 1) := by decide +kernel
theorem dL_law_311 : decode cL_law 311 = .ok (.iconst 2, 1) := by decide +kernel
theorem dL_law_312 : decode cL_law 312 = .ok (.iadd, 1) := by decide +kernel
theorem dL_law_313 : decode cL_law 313 = .ok (.iaload, 1) := by decide +kernel
theorem dL_law_314 : decode cL_law 314 = .ok (.aload_n 0, 1) := by decide +kernel
theorem dL_law_315 : decode cL_law 315 = .ok (.iload_n 3, 1) := by decide +kernel
theorem dL_law_316 : decode cL_law 316 = .ok (.iconst 3, 1) := by decide +kernel
theorem dL_law_317 : decode cL_law 317 = .ok (.iadd, 1) := by decide +kernel
theorem dL_law_318 : decode cL_law 318 = .ok (.iaload, 1) := by decide +kernel
theorem dL_law_319 : decode cL_law 319 = .ok (.invokevirtual 45, 3) := by decide +kernel
theorem dL_law_322 : decode cL_law 322 = .ok (.aload_n 2, 1) := by decide +kernel
theorem dL_law_323 : decode cL_law 323 = .ok (.aload_n 0, 1) := by decide +kernel
theorem dL_law_324 : decode cL_law 324 = .ok (.iload_n 3, 1) := by decide +kernel
theorem dL_law_325 : decode cL_law 325 = .ok (.iconst 1, 1) := by decide +kernel
theorem dL_law_326 : decode cL_law 326 = .ok (.iadd, 1) := by decide +kernel
theorem dL_law_327 : decode cL_law 327 = .ok (.iaload, 1) := by decide +kernel
theorem dL_law_328 : decode cL_law 328 = .ok (.aload_n 0, 1) := by decide +kernel
theorem dL_law_329 : decode cL_law 329 = .ok (.iload_n 3, 1) := by decide +kernel
theorem dL_law_330 : decode cL_law 330 = .ok (.iconst 2, 1) := by decide +kernel
theorem dL_law_331 : decode cL_law 331 = .ok (.iadd, 1) := by decide +kernel
theorem dL_law_332 : decode cL_law 332 = .ok (.iaload, 1) := by decide +kernel
theorem dL_law_333 : decode cL_law 333 = .ok (.aload_n 0, 1) := by decide +kernel
theorem dL_law_334 : decode cL_law 334 = .ok (.iload_n 3, 1) := by decide +kernel
theorem dL_law_335 : decode cL_law 335 = .ok (.iconst 3, 1) := by decide +kernel
theorem dL_law_336 : decode cL_law 336 = .ok (.iadd, 1) := by decide +kernel
theorem dL_law_337 : decode cL_law 337 = .ok (.iaload, 1) := by decide +kernel
theorem dL_law_338 : decode cL_law 338 = .ok (.invokevirtual 48, 3) := by decide +kernel
theorem dL_law_341 : decode cL_law 341 = .ok (.if_icmp .eq 295, 3) := by decide +kernel
theorem dL_law_344 : decode cL_law 344 = .ok (.iconst 0, 1) := by decide +kernel
theorem dL_law_345 : decode cL_law 345 = .ok (.ireturn, 1) := by decide +kernel
theorem dL_law_346 : decode cL_law 346 = .ok (.aload_n 1, 1) := by decide +kernel
theorem dL_law_347 : decode cL_law 347 = .ok (.invokevirtual 49, 3) := by decide +kernel
theorem dL_law_350 : decode cL_law 350 = .ok (.aload_n 2, 1) := by decide +kernel
theorem dL_law_351 : decode cL_law 351 = .ok (.invokevirtual 52, 3) := by decide +kernel
theorem dL_law_354 : decode cL_law 354 = .ok (.if_icmp .eq 282, 3) := by decide +kernel
theorem dL_law_357 : decode cL_law 357 = .ok (.iconst 0, 1) := by decide +kernel
theorem dL_law_358 : decode cL_law 358 = .ok (.ireturn, 1) := by decide +kernel
theorem dL_law_359 : decode cL_law 359 = .ok (.aload_n 1, 1) := by decide +kernel
theorem dL_law_360 : decode cL_law 360 = .ok (.aload_n 0, 1) := by decide +kernel
theorem dL_law_361 : decode cL_law 361 = .ok (.iload_n 3, 1) := by decide +kernel
theorem dL_law_362 : decode cL_law 362 = .ok (.iconst 1, 1) := by decide +kernel
theorem dL_law_363 : decode cL_law 363 = .ok (.iadd, 1) := by decide +kernel
theorem dL_law_364 : decode cL_law 364 = .ok (.iaload, 1) := by decide +kernel
theorem dL_law_365 : decode cL_law 365 = .ok (.aload_n 0, 1) := by decide +kernel
theorem dL_law_366 : decode cL_law 366 = .ok (.iload_n 3, 1) := by decide +kernel
theorem dL_law_367 : decode cL_law 367 = .ok (.iconst 2, 1) := by decide +kernel
theorem dL_law_368 : decode cL_law 368 = .ok (.iadd, 1) := by decide +kernel
theorem dL_law_369 : decode cL_law 369 = .ok (.iaload, 1) := by decide +kernel
theorem dL_law_370 : decode cL_law 370 = .ok (.aload_n 0, 1) := by decide +kernel
theorem dL_law_371 : decode cL_law 371 = .ok (.iload_n 3, 1) := by decide +kernel
theorem dL_law_372 : decode cL_law 372 = .ok (.iconst 3, 1) := by decide +kernel
theorem dL_law_373 : decode cL_law 373 = .ok (.iadd, 1) := by decide +kernel
theorem dL_law_374 : decode cL_law 374 = .ok (.iaload, 1) := by decide +kernel
theorem dL_law_375 : decode cL_law 375 = .ok (.invokevirtual 53, 3) := by decide +kernel
theorem dL_law_378 : decode cL_law 378 = .ok (.aload_n 2, 1) := by decide +kernel
theorem dL_law_379 : decode cL_law 379 = .ok (.aload_n 0, 1) := by decide +kernel
theorem dL_law_380 : decode cL_law 380 = .ok (.iload_n 3, 1) := by decide +kernel
theorem dL_law_381 : decode cL_law 381 = .ok (.iconst 1, 1) := by decide +kernel
theorem dL_law_382 : decode cL_law 382 = .ok (.iadd, 1) := by decide +kernel
theorem dL_law_383 : decode cL_law 383 = .ok (.iaload, 1) := by decide +kernel
theorem dL_law_384 : decode cL_law 384 = .ok (.aload_n 0, 1) := by decide +kernel
theorem dL_law_385 : decode cL_law 385 = .ok (.iload_n 3, 1) := by decide +kernel
theorem dL_law_386 : decode cL_law 386 = .ok (.iconst 2, 1) := by decide +kernel
theorem dL_law_387 : decode cL_law 387 = .ok (.iadd, 1) := by decide +kernel
theorem dL_law_388 : decode cL_law 388 = .ok (.iaload, 1) := by decide +kernel
theorem dL_law_389 : decode cL_law 389 = .ok (.aload_n 0, 1) := by decide +kernel
theorem dL_law_390 : decode cL_law 390 = .ok (.iload_n 3, 1) := by decide +kernel
theorem dL_law_391 : decode cL_law 391 = .ok (.iconst 3, 1) := by decide +kernel
theorem dL_law_392 : decode cL_law 392 = .ok (.iadd, 1) := by decide +kernel
theorem dL_law_393 : decode cL_law 393 = .ok (.iaload, 1) := by decide +kernel
theorem dL_law_394 : decode cL_law 394 = .ok (.invokevirtual 56, 3) := by decide +kernel
theorem dL_law_397 : decode cL_law 397 = .ok (.if_icmp .eq 239, 3) := by decide +kernel
theorem dL_law_400 : decode cL_law 400 = .ok (.iconst 0, 1) := by decide +kernel
theorem dL_law_401 : decode cL_law 401 = .ok (.ireturn, 1) := by decide +kernel
theorem dL_law_402 : decode cL_law 402 = .ok (.aload_n 1, 1) := by decide +kernel
theorem dL_law_403 : decode cL_law 403 = .ok (.aload_n 0, 1) := by decide +kernel
theorem dL_law_404 : decode cL_law 404 = .ok (.iload_n 3, 1) := by decide +kernel
theorem dL_law_405 : decode cL_law 405 = .ok (.iconst 1, 1) := by decide +kernel
theorem dL_law_406 : decode cL_law 406 = .ok (.iadd, 1) := by decide +kernel
theorem dL_law_407 : decode cL_law 407 = .ok (.iaload, 1) := by decide +kernel
theorem dL_law_408 : decode cL_law 408 = .ok (.aload_n 0, 1) := by decide +kernel
theorem dL_law_409 : decode cL_law 409 = .ok (.iload_n 3, 1) := by decide +kernel
theorem dL_law_410 : decode cL_law 410 = .ok (.iconst 2, 1) := by decide +kernel
theorem dL_law_411 : decode cL_law 411 = .ok (.iadd, 1) := by decide +kernel
theorem dL_law_412 : decode cL_law 412 = .ok (.iaload, 1) := by decide +kernel
theorem dL_law_413 : decode cL_law 413 = .ok (.invokevirtual 57, 3) := by decide +kernel
theorem dL_law_416 : decode cL_law 416 = .ok (.aload_n 2, 1) := by decide +kernel
theorem dL_law_417 : decode cL_law 417 = .ok (.aload_n 0, 1) := by decide +kernel
theorem dL_law_418 : decode cL_law 418 = .ok (.iload_n 3, 1) := by decide +kernel
theorem dL_law_419 : decode cL_law 419 = .ok (.iconst 1, 1) := by decide +kernel
theorem dL_law_420 : decode cL_law 420 = .ok (.iadd, 1) := by decide +kernel
theorem dL_law_421 : decode cL_law 421 = .ok (.iaload, 1) := by decide +kernel
theorem dL_law_422 : decode cL_law 422 = .ok (.aload_n 0, 1) := by decide +kernel
theorem dL_law_423 : decode cL_law 423 = .ok (.iload_n 3, 1) := by decide +kernel
theorem dL_law_424 : decode cL_law 424 = .ok (.iconst 2, 1) := by decide +kernel
theorem dL_law_425 : decode cL_law 425 = .ok (.iadd, 1) := by decide +kernel
theorem dL_law_426 : decode cL_law 426 = .ok (.iaload, 1) := by decide +kernel
theorem dL_law_427 : decode cL_law 427 = .ok (.invokevirtual 60, 3) := by decide +kernel
theorem dL_law_430 : decode cL_law 430 = .ok (.if_icmp .eq 206, 3) := by decide +kernel
theorem dL_law_433 : decode cL_law 433 = .ok (.iconst 0, 1) := by decide +kernel
theorem dL_law_434 : decode cL_law 434 = .ok (.ireturn, 1) := by decide +kernel
theorem dL_law_435 : decode cL_law 435 = .ok (.aload_n 1, 1) := by decide +kernel
theorem dL_law_436 : decode cL_law 436 = .ok (.aload_n 0, 1) := by decide +kernel
theorem dL_law_437 : decode cL_law 437 = .ok (.iload_n 3, 1) := by decide +kernel
theorem dL_law_438 : decode cL_law 438 = .ok (.iconst 1, 1) := by decide +kernel
theorem dL_law_439 : decode cL_law 439 = .ok (.iadd, 1) := by decide +kernel
theorem dL_law_440 : decode cL_law 440 = .ok (.iaload, 1) := by decide +kernel
theorem dL_law_441 : decode cL_law 441 = .ok (.invokevirtual 61, 3) := by decide +kernel
theorem dL_law_444 : decode cL_law 444 = .ok (.aload_n 2, 1) := by decide +kernel
theorem dL_law_445 : decode cL_law 445 = .ok (.aload_n 0, 1) := by decide +kernel
theorem dL_law_446 : decode cL_law 446 = .ok (.iload_n 3, 1) := by decide +kernel
theorem dL_law_447 : decode cL_law 447 = .ok (.iconst 1, 1) := by decide +kernel
theorem dL_law_448 : decode cL_law 448 = .ok (.iadd, 1) := by decide +kernel
theorem dL_law_449 : decode cL_law 449 = .ok (.iaload, 1) := by decide +kernel
theorem dL_law_450 : decode cL_law 450 = .ok (.invokevirtual 64, 3) := by decide +kernel
theorem dL_law_453 : decode cL_law 453 = .ok (.if_icmp .eq 183, 3) := by decide +kernel
theorem dL_law_456 : decode cL_law 456 = .ok (.iconst 0, 1) := by decide +kernel
theorem dL_law_457 : decode cL_law 457 = .ok (.ireturn, 1) := by decide +kernel
theorem dL_law_458 : decode cL_law 458 = .ok (.aload_n 1, 1) := by decide +kernel
theorem dL_law_459 : decode cL_law 459 = .ok (.aload_n 0, 1) := by decide +kernel
theorem dL_law_460 : decode cL_law 460 = .ok (.iload_n 3, 1) := by decide +kernel
theorem dL_law_461 : decode cL_law 461 = .ok (.iconst 1, 1) := by decide +kernel
theorem dL_law_462 : decode cL_law 462 = .ok (.iadd, 1) := by decide +kernel
theorem dL_law_463 : decode cL_law 463 = .ok (.iaload, 1) := by decide +kernel
theorem dL_law_464 : decode cL_law 464 = .ok (.invokevirtual 65, 3) := by decide +kernel
theorem dL_law_467 : decode cL_law 467 = .ok (.aload_n 2, 1) := by decide +kernel
theorem dL_law_468 : decode cL_law 468 = .ok (.aload_n 0, 1) := by decide +kernel
theorem dL_law_469 : decode cL_law 469 = .ok (.iload_n 3, 1) := by decide +kernel
theorem dL_law_470 : decode cL_law 470 = .ok (.iconst 1, 1) := by decide +kernel
theorem dL_law_471 : decode cL_law 471 = .ok (.iadd, 1) := by decide +kernel
theorem dL_law_472 : decode cL_law 472 = .ok (.iaload, 1) := by decide +kernel
theorem dL_law_473 : decode cL_law 473 = .ok (.invokevirtual 68, 3) := by decide +kernel
theorem dL_law_476 : decode cL_law 476 = .ok (.if_icmp .eq 160, 3) := by decide +kernel
theorem dL_law_479 : decode cL_law 479 = .ok (.iconst 0, 1) := by decide +kernel
theorem dL_law_480 : decode cL_law 480 = .ok (.ireturn, 1) := by decide +kernel
theorem dL_law_481 : decode cL_law 481 = .ok (.aload_n 1, 1) := by decide +kernel
theorem dL_law_482 : decode cL_law 482 = .ok (.invokevirtual 69, 3) := by decide +kernel
theorem dL_law_485 : decode cL_law 485 = .ok (.aload_n 2, 1) := by decide +kernel
theorem dL_law_486 : decode cL_law 486 = .ok (.invokevirtual 72, 3) := by decide +kernel
theorem dL_law_489 : decode cL_law 489 = .ok (.if_icmp .eq 147, 3) := by decide +kernel
theorem dL_law_492 : decode cL_law 492 = .ok (.iconst 0, 1) := by decide +kernel
theorem dL_law_493 : decode cL_law 493 = .ok (.ireturn, 1) := by decide +kernel
theorem dL_law_494 : decode cL_law 494 = .ok (.aload_n 1, 1) := by decide +kernel
theorem dL_law_495 : decode cL_law 495 = .ok (.aload_n 0, 1) := by decide +kernel
theorem dL_law_496 : decode cL_law 496 = .ok (.iload_n 3, 1) := by decide +kernel
theorem dL_law_497 : decode cL_law 497 = .ok (.iconst 1, 1) := by decide +kernel
theorem dL_law_498 : decode cL_law 498 = .ok (.iadd, 1) := by decide +kernel
theorem dL_law_499 : decode cL_law 499 = .ok (.iaload, 1) := by decide +kernel
theorem dL_law_500 : decode cL_law 500 = .ok (.invokevirtual 73, 3) := by decide +kernel
theorem dL_law_503 : decode cL_law 503 = .ok (.aload_n 2, 1) := by decide +kernel
theorem dL_law_504 : decode cL_law 504 = .ok (.aload_n 0, 1) := by decide +kernel
theorem dL_law_505 : decode cL_law 505 = .ok (.iload_n 3, 1) := by decide +kernel
theorem dL_law_506 : decode cL_law 506 = .ok (.iconst 1, 1) := by decide +kernel
theorem dL_law_507 : decode cL_law 507 = .ok (.iadd, 1) := by decide +kernel
theorem dL_law_508 : decode cL_law 508 = .ok (.iaload, 1) := by decide +kernel
theorem dL_law_509 : decode cL_law 509 = .ok (.invokevirtual 76, 3) := by decide +kernel
theorem dL_law_512 : decode cL_law 512 = .ok (.if_icmp .eq 124, 3) := by decide +kernel
theorem dL_law_515 : decode cL_law 515 = .ok (.iconst 0, 1) := by decide +kernel
theorem dL_law_516 : decode cL_law 516 = .ok (.ireturn, 1) := by decide +kernel
theorem dL_law_517 : decode cL_law 517 = .ok (.aload_n 1, 1) := by decide +kernel
theorem dL_law_518 : decode cL_law 518 = .ok (.invokevirtual 77, 3) := by decide +kernel
theorem dL_law_521 : decode cL_law 521 = .ok (.aload_n 2, 1) := by decide +kernel
theorem dL_law_522 : decode cL_law 522 = .ok (.invokevirtual 80, 3) := by decide +kernel
theorem dL_law_525 : decode cL_law 525 = .ok (.if_icmp .eq 111, 3) := by decide +kernel
theorem dL_law_528 : decode cL_law 528 = .ok (.iconst 0, 1) := by decide +kernel
theorem dL_law_529 : decode cL_law 529 = .ok (.ireturn, 1) := by decide +kernel
theorem dL_law_530 : decode cL_law 530 = .ok (.aload_n 1, 1) := by decide +kernel
theorem dL_law_531 : decode cL_law 531 = .ok (.aload_n 0, 1) := by decide +kernel
theorem dL_law_532 : decode cL_law 532 = .ok (.iload_n 3, 1) := by decide +kernel
theorem dL_law_533 : decode cL_law 533 = .ok (.iconst 1, 1) := by decide +kernel
theorem dL_law_534 : decode cL_law 534 = .ok (.iadd, 1) := by decide +kernel
theorem dL_law_535 : decode cL_law 535 = .ok (.iaload, 1) := by decide +kernel
theorem dL_law_536 : decode cL_law 536 = .ok (.aload_n 0, 1) := by decide +kernel
theorem dL_law_537 : decode cL_law 537 = .ok (.iload_n 3, 1) := by decide +kernel
theorem dL_law_538 : decode cL_law 538 = .ok (.iconst 2, 1) := by decide +kernel
theorem dL_law_539 : decode cL_law 539 = .ok (.iadd, 1) := by decide +kernel
theorem dL_law_540 : decode cL_law 540 = .ok (.iaload, 1) := by decide +kernel
theorem dL_law_541 : decode cL_law 541 = .ok (.aload_n 0, 1) := by decide +kernel
theorem dL_law_542 : decode cL_law 542 = .ok (.iload_n 3, 1) := by decide +kernel
theorem dL_law_543 : decode cL_law 543 = .ok (.iconst 3, 1) := by decide +kernel
theorem dL_law_544 : decode cL_law 544 = .ok (.iadd, 1) := by decide +kernel
theorem dL_law_545 : decode cL_law 545 = .ok (.iaload, 1) := by decide +kernel
theorem dL_law_546 : decode cL_law 546 = .ok (.invokevirtual 81, 3) := by decide +kernel
theorem dL_law_549 : decode cL_law 549 = .ok (.aload_n 2, 1) := by decide +kernel
theorem dL_law_550 : decode cL_law 550 = .ok (.aload_n 0, 1) := by decide +kernel
theorem dL_law_551 : decode cL_law 551 = .ok (.iload_n 3, 1) := by decide +kernel
theorem dL_law_552 : decode cL_law 552 = .ok (.iconst 1, 1) := by decide +kernel
theorem dL_law_553 : decode cL_law 553 = .ok (.iadd, 1) := by decide +kernel
theorem dL_law_554 : decode cL_law 554 = .ok (.iaload, 1) := by decide +kernel
theorem dL_law_555 : decode cL_law 555 = .ok (.aload_n 0, 1) := by decide +kernel
theorem dL_law_556 : decode cL_law 556 = .ok (.iload_n 3, 1) := by decide +kernel
theorem dL_law_557 : decode cL_law 557 = .ok (.iconst 2, 1) := by decide +kernel
theorem dL_law_558 : decode cL_law 558 = .ok (.iadd, 1) := by decide +kernel
theorem dL_law_559 : decode cL_law 559 = .ok (.iaload, 1) := by decide +kernel
theorem dL_law_560 : decode cL_law 560 = .ok (.aload_n 0, 1) := by decide +kernel
theorem dL_law_561 : decode cL_law 561 = .ok (.iload_n 3, 1) := by decide +kernel
theorem dL_law_562 : decode cL_law 562 = .ok (.iconst 3, 1) := by decide +kernel
theorem dL_law_563 : decode cL_law 563 = .ok (.iadd, 1) := by decide +kernel
theorem dL_law_564 : decode cL_law 564 = .ok (.iaload, 1) := by decide +kernel
theorem dL_law_565 : decode cL_law 565 = .ok (.invokevirtual 84, 3) := by decide +kernel
theorem dL_law_568 : decode cL_law 568 = .ok (.if_icmp .eq 68, 3) := by decide +kernel
theorem dL_law_571 : decode cL_law 571 = .ok (.iconst 0, 1) := by decide +kernel
theorem dL_law_572 : decode cL_law 572 = .ok (.ireturn, 1) := by decide +kernel
theorem dL_law_573 : decode cL_law 573 = .ok (.aload_n 1, 1) := by decide +kernel
theorem dL_law_574 : decode cL_law 574 = .ok (.invokevirtual 85, 3) := by decide +kernel
theorem dL_law_577 : decode cL_law 577 = .ok (.aload_n 2, 1) := by decide +kernel
theorem dL_law_578 : decode cL_law 578 = .ok (.invokevirtual 88, 3) := by decide +kernel
theorem dL_law_581 : decode cL_law 581 = .ok (.if_icmp .eq 55, 3) := by decide +kernel
theorem dL_law_584 : decode cL_law 584 = .ok (.iconst 0, 1) := by decide +kernel
theorem dL_law_585 : decode cL_law 585 = .ok (.ireturn, 1) := by decide +kernel
theorem dL_law_586 : decode cL_law 586 = .ok (.aload_n 1, 1) := by decide +kernel
theorem dL_law_587 : decode cL_law 587 = .ok (.invokevirtual 89, 3) := by decide +kernel
theorem dL_law_590 : decode cL_law 590 = .ok (.aload_n 2, 1) := by decide +kernel
theorem dL_law_591 : decode cL_law 591 = .ok (.invokevirtual 92, 3) := by decide +kernel
theorem dL_law_594 : decode cL_law 594 = .ok (.if_icmp .eq 42, 3) := by decide +kernel
theorem dL_law_597 : decode cL_law 597 = .ok (.iconst 0, 1) := by decide +kernel
theorem dL_law_598 : decode cL_law 598 = .ok (.ireturn, 1) := by decide +kernel
theorem dL_law_599 : decode cL_law 599 = .ok (.aload_n 1, 1) := by decide +kernel
theorem dL_law_600 : decode cL_law 600 = .ok (.aload_n 0, 1) := by decide +kernel
theorem dL_law_601 : decode cL_law 601 = .ok (.iload_n 3, 1) := by decide +kernel
theorem dL_law_602 : decode cL_law 602 = .ok (.iconst 1, 1) := by decide +kernel
theorem dL_law_603 : decode cL_law 603 = .ok (.iadd, 1) := by decide +kernel
theorem dL_law_604 : decode cL_law 604 = .ok (.iaload, 1) := by decide +kernel
theorem dL_law_605 : decode cL_law 605 = .ok (.invokevirtual 93, 3) := by decide +kernel
theorem dL_law_608 : decode cL_law 608 = .ok (.aload_n 2, 1) := by decide +kernel
theorem dL_law_609 : decode cL_law 609 = .ok (.aload_n 0, 1) := by decide +kernel
theorem dL_law_610 : decode cL_law 610 = .ok (.iload_n 3, 1) := by decide +kernel
theorem dL_law_611 : decode cL_law 611 = .ok (.iconst 1, 1) := by decide +kernel
theorem dL_law_612 : decode cL_law 612 = .ok (.iadd, 1) := by decide +kernel
theorem dL_law_613 : decode cL_law 613 = .ok (.iaload, 1) := by decide +kernel
theorem dL_law_614 : decode cL_law 614 = .ok (.invokevirtual 96, 3) := by decide +kernel
theorem dL_law_617 : decode cL_law 617 = .ok (.if_icmp .eq 19, 3) := by decide +kernel
theorem dL_law_620 : decode cL_law 620 = .ok (.iconst 0, 1) := by decide +kernel
theorem dL_law_621 : decode cL_law 621 = .ok (.ireturn, 1) := by decide +kernel
theorem dL_law_622 : decode cL_law 622 = .ok (.aload_n 1, 1) := by decide +kernel
theorem dL_law_623 : decode cL_law 623 = .ok (.invokevirtual 97, 3) := by decide +kernel
theorem dL_law_626 : decode cL_law 626 = .ok (.aload_n 2, 1) := by decide +kernel
theorem dL_law_627 : decode cL_law 627 = .ok (.invokevirtual 101, 3) := by decide +kernel
theorem dL_law_630 : decode cL_law 630 = .ok (.lcmp, 1) := by decide +kernel
theorem dL_law_631 : decode cL_law 631 = .ok (.ifCond .eq 5, 3) := by decide +kernel
theorem dL_law_634 : decode cL_law 634 = .ok (.iconst 0, 1) := by decide +kernel
theorem dL_law_635 : decode cL_law 635 = .ok (.ireturn, 1) := by decide +kernel
theorem dL_law_636 : decode cL_law 636 = .ok (.iinc 3 4, 3) := by decide +kernel
theorem dL_law_639 : decode cL_law 639 = .ok (.goto (-621), 3) := by decide +kernel
theorem dL_law_642 : decode cL_law 642 = .ok (.iconst 1, 1) := by decide +kernel
theorem dL_law_643 : decode cL_law 643 = .ok (.ireturn, 1) := by decide +kernel
abbrev vwCl : List vw_C := [(RX0, TX0, 3), (RX1, TX1, 3), (RX2, TX2, 11), (RX3, TX3, 2), (RX4, TX4, 7), (RX5, TX5, 10), (RX6, TX6, 30)]
end
section
/-! ===== my own kit: the common world's words, indices, calls, answers ===== -/
abbrev gTy (cB cC cI : ClassId) : List (ClassId × FieldType) := [(cI, .int), (cC, .char), (cB, .byte)]
/-- the nest mates' links that the class uses -/
def gNest (U : State) : Prop := va_Nw (.methodLinkNest RX5 9 yX3_init RX5) U ∧ va_Nw (.methodLinkNest RX5 18 yX2_init RX5) U ∧ va_Nw (.methodLinkNest RX5 25 yX1_init RX5) U ∧ va_Nw (.methodLinkNest RX5 38 yX4_init RX5) U ∧ va_Nw (.methodLinkNest RX5 45 yX0_init RX5) U ∧ va_Nw (.methodLinkNest RX4 37 yX5_copyRow RX5) U ∧ va_Nw (.methodLinkNest RX0 25 yX5_copyRow RX5) U ∧ va_Nw (.methodLinkNest RX2 75 yX5_copyRow RX5) U ∧ va_Nw (.methodLinkNest RX1 22 yX5_copyRow RX5) U
theorem gNest.same {u U : State} (h : u.vm = U.vm) (q : gNest u) : gNest U := ⟨q.1.same rfl h, q.2.1.same rfl h, q.2.2.1.same rfl h, q.2.2.2.1.same rfl h, q.2.2.2.2.1.same rfl h, q.2.2.2.2.2.1.same rfl h, q.2.2.2.2.2.2.1.same rfl h, q.2.2.2.2.2.2.2.1.same rfl h, q.2.2.2.2.2.2.2.2.same rfl h⟩
theorem gNest.warm {s U : State} (h : s.WarmedH U.vm) (q : gNest s) : gNest U := ⟨q.1.warmM h, q.2.1.warmM h, q.2.2.1.warmM h, q.2.2.2.1.warmM h, q.2.2.2.2.1.warmM h, q.2.2.2.2.2.1.warmM h, q.2.2.2.2.2.2.1.warmM h, q.2.2.2.2.2.2.2.1.warmM h, q.2.2.2.2.2.2.2.2.warmM h⟩
def gK (D : va_G) (cB cC cI : ClassId) (U : State) : Prop := va_K D vwCl (gTy cB cC cI) U ∧ gNest U
theorem gK.same {D : va_G} {cB cC cI : ClassId} {u U : State} (h : u.vm = U.vm) (q : gK D cB cC cI u) : gK D cB cC cI U := ⟨va_K.moved (u := u) (U := U) (h ▸ Vm.Alike.refl u.vm) q.1, q.2.same h⟩
theorem gK.warm {D : va_G} {cB cC cI : ClassId} {s U : State} (h : s.WarmedH U.vm) (q : gK D cB cC cI s) : gK D cB cC cI U := ⟨va_K.moved h.alike q.1, q.2.warm h⟩
/-- an index of a row of n places, and its number -/
def ix (b : Int32) (j n : Nat) : Prop := vp_in b n ∧ b.toNatClampNeg = j
theorem ix_nI {j n : Nat} (h : j < n) (hn : n < 2 ^ 31) : ix (nI j) j n := ⟨vp_in_nI h hn, nI_clamp (Nat.lt_trans h hn)⟩
theorem ix_var {b : Int32} {n : Nat} (h : vp_in b n) : ix b b.toNatClampNeg n := ⟨h, rfl⟩
theorem ix.lt {b : Int32} {j n : Nat} (h : ix b j n) : j < n := by
  obtain ⟨h1, rfl⟩ := h
  exact Nat.not_le.mp fun q => h1 (Or.inr q)
theorem ix.eq {b : Int32} {j n : Nat} (h : ix b j n) (hn : n < 2 ^ 31) : b = nI j := by
  obtain ⟨h1, rfl⟩ := h
  obtain ⟨k, hk, rfl⟩ := vp_in_of h1 hn
  rw [nI_clamp (Nat.lt_trans hk hn)]
theorem ix.up {b : Int32} {j n k : Nat} (h : ix b j n) (hk : n ≤ k) : ix b j k := ⟨fun q => h.1 (q.elim Or.inl (fun z => Or.inr (Nat.le_trans hk z))), h.2⟩
theorem fm_of_map {α β : Type} {f : α → Option β} {is : List α} {w : List β} (h : is.map f = w.map some) : is.filterMap f = w := by
  induction is generalizing w with
  | nil => cases w with
    | nil => rfl
    | cons a t => cases h
  | cons i t ih => cases w with
    | nil => cases h
    | cons a w =>
      simp only [List.map_cons, List.cons.injEq] at h
      rw [List.filterMap_cons, h.1]
      simp only
      rw [ih h.2]
/-- a row's places beyond its length don't matter -/
theorem va_P.arr {D : va_G} {cl : List vw_C} {ws : va_W} {H : Heap} {a n : Nat} {cA : ClassId} {f g : Nat → Int32} (h : va_P D cl ws H) (q0 : Nat) (he : ws[q0]? = some (a, .inl (cA, n, .inl f))) (hfg : ∀ j, j < n → f j = g j) : va_P D cl (ws.set q0 (a, .inl (cA, n, .inl g))) H := by
  intro k q hk
  by_cases hkq : k = q0
  · subst hkq
    have hlt : k < ws.length := (List.getElem?_eq_some_iff.mp he).1
    rw [List.getElem?_set_self hlt] at hk
    obtain rfl := Option.some.inj hk
    have h1 : H[a]? = some (vp_cell cA (n, .inl f)) := h k _ he
    show H[a]? = some (vp_cell cA (n, .inl g))
    rw [h1, vp_cell_i, vp_cell_i]
    have : (fun j : Fin n => (Value.int (f j.val))) = (fun j : Fin n => (Value.int (g j.val))) := funext fun j => by rw [hfg j.val j.isLt]
    show some ({ cls := cA, slots := Array.ofFn (n := n) fun j => Value.int (f j.val), vm := .none } : Cell) = some { cls := cA, slots := Array.ofFn (n := n) fun j => Value.int (g j.val), vm := .none }
    rw [this]
  · rw [List.getElem?_set_ne (Ne.symm hkq)] at hk
    exact h k q hk
section MyRows
variable {p : Program} {l : Launch} {e : Env} {R : Room} {s : State} {m : MethodId} {args : Array Value} {below : List Frame} {meth : Method} {c : Code} {H : Heap} {locs : List Loc} {cells slots : Nat} {Q : State → Prop}
variable {cc : ByteArray} {pc : Nat} {ls : Array Slot} {rest : List Value} {D : va_G} {cl : List vw_C} {A : Nat → Prop} {a : Nat} {tys : List (ClassId × FieldType)} {ws : va_W} {H0 : Heap} {cB cC cI : ClassId}
theorem my_top {x y : Int32} (h : x = y) (k : W p l e R s m args below meth c H locs cells slots Q (F0 m pc ls (.int y :: rest))) : W p l e R s m args below meth c H locs cells slots Q (F0 m pc ls (.int x :: rest)) := h ▸ k
theorem my_topl {x y : Int64} (h : x = y) (k : W p l e R s m args below meth c H locs cells slots Q (F0 m pc ls (.long y :: rest))) : W p l e R s m args below meth c H locs cells slots Q (F0 m pc ls (.long x :: rest)) := h ▸ k
theorem my_iald (hexec : p.tables.exec = Jvm.exec) (hb : c.code = cc) (hK : gK D cB cC cI s) (hP : va_P D vwCl ws H) (q0 : Nat) {n : Nat} {f : Nat → Int32} (ha : ws[q0]? = some (a, .inl (cI, n, .inl f))) {i : Int32} {j : Nat} (hin : ix i j n) (hdg : decode cc pc = .ok (.iaload, 1))
    (kk : W p l e R s m args below meth c H locs cells slots Q (F0 m (pc + 1) ls (.int (f j) :: rest))) : W p l e R s m args below meth c H locs cells slots Q (F0 m pc ls (.int i :: .ref a :: rest)) := by
  obtain ⟨h1, rfl⟩ := hin
  exact va_iald hexec hb hK.1 hP q0 0 ha rfl h1 hdg kk
theorem my_cald (hexec : p.tables.exec = Jvm.exec) (hb : c.code = cc) (hK : gK D cB cC cI s) (hP : va_P D vwCl ws H) (q0 : Nat) {n : Nat} {f : Nat → Int32} (ha : ws[q0]? = some (a, .inl (cC, n, .inl f))) {i : Int32} {j : Nat} (hin : ix i j n) (hdg : decode cc pc = .ok (.caload, 1))
    (kk : W p l e R s m args below meth c H locs cells slots Q (F0 m (pc + 1) ls (.int (f j) :: rest))) : W p l e R s m args below meth c H locs cells slots Q (F0 m pc ls (.int i :: .ref a :: rest)) := by
  obtain ⟨h1, rfl⟩ := hin
  exact va_cald hexec hb hK.1 hP q0 1 ha rfl h1 hdg kk
theorem my_bald (hexec : p.tables.exec = Jvm.exec) (hb : c.code = cc) (hK : gK D cB cC cI s) (hP : va_P D vwCl ws H) (q0 : Nat) {n : Nat} {f : Nat → Int32} (ha : ws[q0]? = some (a, .inl (cB, n, .inl f))) {i : Int32} {j : Nat} (hin : ix i j n) (hdg : decode cc pc = .ok (.baload, 1))
    (kk : W p l e R s m args below meth c H locs cells slots Q (F0 m (pc + 1) ls (.int (f j) :: rest))) : W p l e R s m args below meth c H locs cells slots Q (F0 m pc ls (.int i :: .ref a :: rest)) := by
  obtain ⟨h1, rfl⟩ := hin
  exact va_bald hexec hb hK.1 hP q0 2 ha rfl h1 hdg kk
theorem my_iast (hexec : p.tables.exec = Jvm.exec) (hb : c.code = cc) (hK : gK D cB cC cI s) (hP : va_P D vwCl ws H) (hD : va_D A ws) (hS : va_S A H0 H locs) (q0 : Nat) {n : Nat} {f : Nat → Int32} (ha : ws[q0]? = some (a, .inl (cI, n, .inl f))) {i : Int32} {x : Int32} {j : Nat} (hin : ix i j n) (hdg : decode cc pc = .ok (.iastore, 1))
    (kk : ∀ (H1 : Heap) (locs1 : List Loc), va_P D vwCl (ws.set q0 (a, .inl (cI, n, .inl (upd f j x)))) H1 → va_D A (ws.set q0 (a, .inl (cI, n, .inl (upd f j x)))) → va_S A H0 H1 locs1 → W p l e R s m args below meth c H1 locs1 cells slots Q (F0 m (pc + 1) ls rest)) : W p l e R s m args below meth c H locs cells slots Q (F0 m pc ls (.int x :: .int i :: .ref a :: rest)) := by
  obtain ⟨h1, rfl⟩ := hin
  exact va_iast hexec hb hK.1 hP hD hS q0 0 ha rfl h1 hdg kk
theorem my_cast (hexec : p.tables.exec = Jvm.exec) (hb : c.code = cc) (hK : gK D cB cC cI s) (hP : va_P D vwCl ws H) (hD : va_D A ws) (hS : va_S A H0 H locs) (q0 : Nat) {n : Nat} {f : Nat → Int32} (ha : ws[q0]? = some (a, .inl (cC, n, .inl f))) {i : Int32} {x : Int32} {j : Nat} (hin : ix i j n) (hdg : decode cc pc = .ok (.castore, 1))
    (kk : ∀ (H1 : Heap) (locs1 : List Loc), va_P D vwCl (ws.set q0 (a, .inl (cC, n, .inl (upd f j (vp_nar .char x))))) H1 → va_D A (ws.set q0 (a, .inl (cC, n, .inl (upd f j (vp_nar .char x))))) → va_S A H0 H1 locs1 → W p l e R s m args below meth c H1 locs1 cells slots Q (F0 m (pc + 1) ls rest)) : W p l e R s m args below meth c H locs cells slots Q (F0 m pc ls (.int x :: .int i :: .ref a :: rest)) := by
  obtain ⟨h1, rfl⟩ := hin
  exact va_cast hexec hb hK.1 hP hD hS q0 1 ha rfl h1 hdg kk
theorem my_bast (hexec : p.tables.exec = Jvm.exec) (hb : c.code = cc) (hK : gK D cB cC cI s) (hP : va_P D vwCl ws H) (hD : va_D A ws) (hS : va_S A H0 H locs) (q0 : Nat) {n : Nat} {f : Nat → Int32} (ha : ws[q0]? = some (a, .inl (cB, n, .inl f))) {i : Int32} {x : Int32} {j : Nat} (hin : ix i j n) (hdg : decode cc pc = .ok (.bastore, 1))
    (kk : ∀ (H1 : Heap) (locs1 : List Loc), va_P D vwCl (ws.set q0 (a, .inl (cB, n, .inl (upd f j (vp_nar .byte x))))) H1 → va_D A (ws.set q0 (a, .inl (cB, n, .inl (upd f j (vp_nar .byte x))))) → va_S A H0 H1 locs1 → W p l e R s m args below meth c H1 locs1 cells slots Q (F0 m (pc + 1) ls rest)) : W p l e R s m args below meth c H locs cells slots Q (F0 m pc ls (.int x :: .int i :: .ref a :: rest)) := by
  obtain ⟨h1, rfl⟩ := hin
  exact va_bast hexec hb hK.1 hP hD hS q0 2 ha rfl h1 hdg kk
end MyRows
/-! contracts: read-only (R), and those that write (W) -/
abbrev gPr (D : va_G) (cB cC cI : ClassId) (av : List Value) (wc : va_W) : Array Value → State → Prop := va_Pc av (fun U => va_P D vwCl wc U.heap ∧ gK D cB cC cI U)
abbrev gPw (D : va_G) (cB cC cI : ClassId) (av : List Value) (wc : va_W) (sz : Nat) : Array Value → State → Prop := va_Pc av (fun U => U.heap.size = sz ∧ va_P D vwCl wc U.heap ∧ gK D cB cC cI U ∧ va_D (fun _ => True) wc)
abbrev gB {S : Type} (D : va_G) (A : Nat → Prop) (w : S → va_W) : S → State → Prop := fun u t => va_P D vwCl (w u) t.heap ∧ va_D A (w u)
theorem gPr_blind {D : va_G} {cB cC cI : ClassId} {av : List Value} {wc : va_W} : FrameBlind (gPr D cB cC cI av wc) := fun a U g mk q => ⟨q.1, q.2.1, gK.same (u := U) (U := U.calling g mk a) rfl q.2.2⟩
theorem gPw_blind {D : va_G} {cB cC cI : ClassId} {av : List Value} {wc : va_W} {sz : Nat} : FrameBlind (gPw D cB cC cI av wc sz) := fun a U g mk q => ⟨q.1, q.2.1, q.2.2.1, gK.same (u := U) (U := U.calling g mk a) rfl q.2.2.2.1, q.2.2.2.2⟩
/-- a read-only method, from its body -/
theorem metR {l : Launch} {y : MethodName} {ws ws' : List Cond} {rm : Room} {D : va_G} {cB cC cI : ClassId} {av : List Value} {wc : va_W} {Qc : Array Value → State → Outcome → State → Prop} {cc : ByteArray} {maxL : Nat} {ret : Option FieldType} (own : String) (hown : y.cls = own)
    (hy : plainName y.cls = true) (hw : ws = Cond.code y cc maxL ret :: ws') (hlen : (lg_sl av).length ≤ maxL)
    (body : ∀ (p : Program) (e : Env) (s : State) (m : MethodId) (below : List Frame) (meth : Method) (c : Code), p.tables.exec = Jvm.exec → c.code = cc → meth.sig.returnType = ret → c.maxLocals = maxL → s.vm.findClass own = some m.cls → (∀ w ∈ ws, w.before av.toArray s = true) → meth.locks = false → va_P D vwCl wc s.heap → gK D cB cC cI s → ∀ ls : Array Slot, lv_has ls maxL (lv_args 0 av) →
      W p l e (headSpec ws rm).room s m av.toArray below meth c s.heap [] 0 0 (MQ below Qc av.toArray s 0 0 (fun _ => False)) (F0 m 0 ls [])) : Met l y ws rm (gPr D cB cC cI av wc) Qc 0 0 (fun _ => False) := by
  refine Met.ofW (cc := cc) (maxL := maxL) (ret := ret) hy hw ?_
  intro p e s m args below meth c s₁ B hml hv
  obtain ⟨rfl, hP, hK⟩ := hv
  have hl := lv_entry av (n := maxL) hlen
  rw [lg_entry_eq]
  exact body p e s m below meth c B.exec B.bytes B.returns hml (hown ▸ findClass_of_methodNamed B.named) (atoms_spec (ws := ws) B.pre) B.notSynchronized hP hK _ hl
/-- a method that writes, from its body -/
theorem metW {l : Launch} {y : MethodName} {ws ws' : List Cond} {rm : Room} {D : va_G} {cB cC cI : ClassId} {av : List Value} {wc : va_W} {sz mc ms : Nat} {QA : (Nat → Prop) → Array Value → State → Outcome → State → Prop} {cc : ByteArray} {maxL : Nat} {ret : Option FieldType} (own : String) (hown : y.cls = own)
    (hy : plainName y.cls = true) (hw : ws = Cond.code y cc maxL ret :: ws') (hlen : (lg_sl av).length ≤ maxL)
    (body : ∀ (p : Program) (e : Env) (s : State) (m : MethodId) (below : List Frame) (meth : Method) (c : Code) (A : Nat → Prop), p.tables.exec = Jvm.exec → c.code = cc → meth.sig.returnType = ret → c.maxLocals = maxL → s.vm.findClass own = some m.cls → (∀ w ∈ ws, w.before av.toArray s = true) → meth.locks = false → meth.name = y.name → va_P D vwCl wc s.heap → gK D cB cC cI s → va_D A wc → (∀ q : Nat, s.heap.size ≤ q → A q) → va_S A s.heap s.heap [] → ∀ ls : Array Slot, lv_has ls maxL (lv_args 0 av) →
      W p l e (headSpec ws rm).room s m av.toArray below meth c s.heap [] 0 0 (MQ below (QA A) av.toArray s mc ms A) (F0 m 0 ls [])) : Met l y ws rm (gPw D cB cC cI av wc sz) (QA (va_A wc sz)) mc ms (va_A wc sz) := by
  refine Met.ofW (cc := cc) (maxL := maxL) (ret := ret) hy hw ?_
  intro p e s m args below meth c s₁ B hml hv
  obtain ⟨rfl, hsz, hP, hK, hD0⟩ := hv
  subst hsz
  have hl := lv_entry av (n := maxL) hlen
  rw [lg_entry_eq]
  exact body p e s m below meth c (va_A wc s.heap.size) B.exec B.bytes B.returns hml (hown ▸ findClass_of_methodNamed B.named) (atoms_spec (ws := ws) B.pre) B.notSynchronized (name_of_methodNamed B.named B.method).1 hP hK (hD0.self (sz := s.heap.size)) (fun q h => Or.inr h) va_S.rf _ hl
section MyEnds
variable {p : Program} {l : Launch} {e : Env} {R : Room} {s : State} {m : MethodId} {args : Array Value} {below : List Frame} {meth : Method} {c : Code} {H : Heap} {locs : List Loc} {cells slots : Nat}
variable {cc : ByteArray} {pc : Nat} {ls : Array Slot} {D : va_G} {A : Nat → Prop}
theorem retRi {v e0 : Int32} (hx : p.tables.exec = Jvm.exec) (hb : c.code = cc) (hr : meth.sig.returnType = some .int) (hlocks : meth.locks = false) (h : v = e0) (hdg : decode cc pc = .ok (.ireturn, 1)) : W p l e R s m args below meth c s.heap [] cells slots (MQ below (vp_Si (fun r => r = e0)) args s cells slots (fun _ => False)) (F0 m pc ls [.int v]) :=
  W.iret (v := v) hx hb hr (fun t ht _ => ⟨v, rfl, h, ht⟩) (fun _ q => by cases q) hdg hlocks
theorem retRz {v e0 : Int32} {ty : FieldType} (hx : p.tables.exec = Jvm.exec) (hb : c.code = cc) (hr : meth.sig.returnType = some ty) (hlocks : meth.locks = false) (hn : narrow ty (.int v) = .int v) (h : v = e0) (hdg : decode cc pc = .ok (.ireturn, 1)) : W p l e R s m args below meth c s.heap [] cells slots (MQ below (vp_Si (fun r => r = e0)) args s cells slots (fun _ => False)) (F0 m pc ls [.int v]) :=
  W.zret (v := v) hx hb hr hn (fun t ht _ => ⟨v, rfl, h, ht⟩) (fun _ q => by cases q) hdg hlocks
theorem retRl {v e0 : Int64} (hx : p.tables.exec = Jvm.exec) (hb : c.code = cc) (hr : meth.sig.returnType = some .long) (hlocks : meth.locks = false) (h : v = e0) (hdg : decode cc pc = .ok (.lreturn, 1)) : W p l e R s m args below meth c s.heap [] cells slots (MQ below (vp_Sl (fun r => r = e0)) args s cells slots (fun _ => False)) (F0 m pc ls [.long v]) :=
  W.lret (v := v) hx hb hr (fun t ht _ => ⟨v, rfl, h, ht⟩) (fun _ q => by cases q) hdg hlocks
theorem retWi {S : Type} {post : Int32 → S → Prop} {w : S → va_W} {v : Int32} (u : S) (hx : p.tables.exec = Jvm.exec) (hb : c.code = cc) (hr : meth.sig.returnType = some .int) (hlocks : meth.locks = false) (h : post v u) (hP : va_P D vwCl (w u) H) (hD : va_D A (w u)) (hS : va_S A s.heap H locs) (hdg : decode cc pc = .ok (.ireturn, 1)) : W p l e R s m args below meth c H locs cells slots (MQ below (va_Qi post (gB D A w) A) args s cells slots A) (F0 m pc ls [.int v]) :=
  W.iret (v := v) hx hb hr (fun t ht _ => ⟨⟨v, u, rfl, h, by rw [ht]; exact hP, hD⟩, hS.F ht⟩) hS.2.2 hdg hlocks
theorem retWl {S : Type} {post : Int64 → S → Prop} {w : S → va_W} {v : Int64} (u : S) (hx : p.tables.exec = Jvm.exec) (hb : c.code = cc) (hr : meth.sig.returnType = some .long) (hlocks : meth.locks = false) (h : post v u) (hP : va_P D vwCl (w u) H) (hD : va_D A (w u)) (hS : va_S A s.heap H locs) (hdg : decode cc pc = .ok (.lreturn, 1)) : W p l e R s m args below meth c H locs cells slots (MQ below (va_Ql post (gB D A w) A) args s cells slots A) (F0 m pc ls [.long v]) :=
  W.lret (v := v) hx hb hr (fun t ht _ => ⟨⟨v, u, rfl, h, by rw [ht]; exact hP, hD⟩, hS.F ht⟩) hS.2.2 hdg hlocks
theorem retWv {S : Type} {post : S → Prop} {w : S → va_W} (u : S) (hx : p.tables.exec = Jvm.exec) (hb : c.code = cc) (hr : meth.sig.returnType = none) (hlocks : meth.locks = false) (h : post u) (hP : va_P D vwCl (w u) H) (hD : va_D A (w u)) (hS : va_S A s.heap H locs) (hdg : decode cc pc = .ok (.return_, 1)) : W p l e R s m args below meth c H locs cells slots (MQ below (va_Qv post (gB D A w) A) args s cells slots A) (F0 m pc ls []) :=
  W.vret hx hb hr (fun t ht _ => ⟨⟨u, rfl, h, by rw [ht]; exact hP, hD⟩, hS.F ht⟩) hS.2.2 hdg hlocks
end MyEnds
section MyCalls
variable {p : Program} {l : Launch} {e : Env} {R : Room} {s : State} {m : MethodId} {args : Array Value} {below : List Frame} {meth : Method} {c : Code} {H : Heap} {locs : List Loc} {cells slots : Nat} {Q : State → Prop}
variable {cc bytes : ByteArray} {pc nL maxL index n ci q0 N : Nat} {ls : Array Slot} {rest As st : List Value} {D : va_G} {cB cC cI : ClassId} {w0 wc wr : va_W} {own C : String} {y : MethodName} {ret : Option FieldType} {rm : Room} {Ts ws : List Cond} {b : Nat} {T : u_T} {fs : List Value} {A0 : Nat → Prop} {H0 : Heap}
theorem gPr_at (hK : gK D cB cC cI s) (hP : va_P D vwCl w0 H) (is : List Nat) (hs : is.map (fun i => w0[i]?) = wc.map some) {av : List Value} (U : State) (hU : U.heap = H) (hW : s.WarmedH U.vm) : gPr D cB cC cI av wc av.toArray U := ⟨rfl, by rw [hU]; exact hP.sub is (fm_of_map hs), hK.warm hW⟩
theorem gPw_at (hK : gK D cB cC cI s) (hP : va_P D vwCl w0 H) (hD : va_D A0 w0) (is : List Nat) (hn : va_nd is = true) (hs : is.map (fun i => w0[i]?) = wc.map some) {av : List Value} (U : State) (hU : U.heap = H) (hW : s.WarmedH U.vm) : gPw D cB cC cI av wc H.size av.toArray U := ⟨rfl, by rw [hU], by rw [hU]; exact hP.sub is (fm_of_map hs), hK.warm hW, (hD.sub is hn hs).weaken (fun _ _ _ _ => trivial)⟩
/-- a read-only virtual call, an int comes back -/
theorem rcVi {e0 : Int32} (S : CallFix p m c cc nL s args Ts own) (hM : Met l y ws rm (gPr D cB cC cI (.ref b :: As) wc) (vp_Si (fun r => r = e0)) 0 0 (fun _ => False)) (cw : CallW R s args own C index y bytes maxL ret ws rm 0 0 n)
    (hK : gK D cB cC cI s) (hP : va_P D vwCl w0 H) (is : List Nat) (hs : is.map (fun i => w0[i]?) = wc.map some) (hc : vwCl[ci]? = some (C, T, N)) (q0 : Nat) (he : w0[q0]? = some (b, .inr (ci, fs)))
    (hn : As.length = n) (hsize : ls.size = nL) (hst : st = As.reverse ++ .ref b :: rest) (hW : (rest.map fun v => v.category).sum ≤ 8) (hdg : decode cc pc = .ok (.invokevirtual index, 3)) (hf : cells + 0 ≤ R.cells ∧ slots + 0 ≤ R.slots)
    (kk : W p l e R s m args below meth c H locs cells slots Q (F0 m (pc + 3) ls (.int e0 :: rest))) : W p l e R s m args below meth c H locs cells slots Q (F0 m pc ls st) :=
  vp_callSi (W.runV (As := As) (rest := rest) (b := b) S hM cw ⟨gPr_blind, va_recv hK.1 hP hc he, fun U hU hW => gPr_at hK hP is hs U hU hW⟩ rfl hn hsize hst (lv_room hW) hdg hf) (fun r hr => hr ▸ kk)
theorem rcSi {e0 : Int32} (S : CallFix p m c cc nL s args Ts own) (hM : Met l y ws rm (gPr D cB cC cI As wc) (vp_Si (fun r => r = e0)) 0 0 (fun _ => False)) (cw : CallB R s args own index y bytes maxL ret ws rm 0 0 n ∧ (Cond.static y).before args s = true)
    (hK : gK D cB cC cI s) (hP : va_P D vwCl w0 H) (is : List Nat) (hs : is.map (fun i => w0[i]?) = wc.map some)
    (hn : As.length = n) (hsize : ls.size = nL) (hst : st = As.reverse ++ rest) (hW : (rest.map fun v => v.category).sum ≤ 8) (hdg : decode cc pc = .ok (.invokestatic index, 3)) (hf : cells + 0 ≤ R.cells ∧ slots + 0 ≤ R.slots)
    (kk : W p l e R s m args below meth c H locs cells slots Q (F0 m (pc + 3) ls (.int e0 :: rest))) : W p l e R s m args below meth c H locs cells slots Q (F0 m pc ls st) :=
  vp_callSi (W.runS (As := As) (rest := rest) S hM cw ⟨gPr_blind, fun U hU hW => gPr_at hK hP is hs U hU hW⟩ rfl hn hsize hst (lv_room hW) hdg hf) (fun r hr => hr ▸ kk)
theorem rcVl {e0 : Int64} (S : CallFix p m c cc nL s args Ts own) (hM : Met l y ws rm (gPr D cB cC cI (.ref b :: As) wc) (vp_Sl (fun r => r = e0)) 0 0 (fun _ => False)) (cw : CallW R s args own C index y bytes maxL ret ws rm 0 0 n)
    (hK : gK D cB cC cI s) (hP : va_P D vwCl w0 H) (is : List Nat) (hs : is.map (fun i => w0[i]?) = wc.map some) (hc : vwCl[ci]? = some (C, T, N)) (q0 : Nat) (he : w0[q0]? = some (b, .inr (ci, fs)))
    (hn : As.length = n) (hsize : ls.size = nL) (hst : st = As.reverse ++ .ref b :: rest) (hW : (rest.map fun v => v.category).sum ≤ 8) (hdg : decode cc pc = .ok (.invokevirtual index, 3)) (hf : cells + 0 ≤ R.cells ∧ slots + 0 ≤ R.slots)
    (kk : W p l e R s m args below meth c H locs cells slots Q (F0 m (pc + 3) ls (.long e0 :: rest))) : W p l e R s m args below meth c H locs cells slots Q (F0 m pc ls st) :=
  vp_callSl (W.runV (As := As) (rest := rest) (b := b) S hM cw ⟨gPr_blind, va_recv hK.1 hP hc he, fun U hU hW => gPr_at hK hP is hs U hU hW⟩ rfl hn hsize hst (lv_room hW) hdg hf) (fun r hr => hr ▸ kk)
theorem rcSl {e0 : Int64} (S : CallFix p m c cc nL s args Ts own) (hM : Met l y ws rm (gPr D cB cC cI As wc) (vp_Sl (fun r => r = e0)) 0 0 (fun _ => False)) (cw : CallB R s args own index y bytes maxL ret ws rm 0 0 n ∧ (Cond.static y).before args s = true)
    (hK : gK D cB cC cI s) (hP : va_P D vwCl w0 H) (is : List Nat) (hs : is.map (fun i => w0[i]?) = wc.map some)
    (hn : As.length = n) (hsize : ls.size = nL) (hst : st = As.reverse ++ rest) (hW : (rest.map fun v => v.category).sum ≤ 8) (hdg : decode cc pc = .ok (.invokestatic index, 3)) (hf : cells + 0 ≤ R.cells ∧ slots + 0 ≤ R.slots)
    (kk : W p l e R s m args below meth c H locs cells slots Q (F0 m (pc + 3) ls (.long e0 :: rest))) : W p l e R s m args below meth c H locs cells slots Q (F0 m pc ls st) :=
  vp_callSl (W.runS (As := As) (rest := rest) S hM cw ⟨gPr_blind, fun U hU hW => gPr_at hK hP is hs U hU hW⟩ rfl hn hsize hst (lv_room hW) hdg hf) (fun r hr => hr ▸ kk)
/-- behind a call that wrote: the caller's world again, in its own order -/
theorem gBack {H1 : Heap} {w1 w2 : va_W} (hP : va_P D vwCl w0 H) (hD : va_D A0 w0) (isC isR perm : List Nat) (hC : isC.map (fun i => w0[i]?) = wc.map some) (hR : isR.map (fun i => w0[i]?) = wr.map some) (hn : va_nd isR = true) (hdis : ∀ i ∈ isR, i ∉ isC) (hnp : va_nd perm = true) (hp : perm.map (fun i => (wr ++ w1)[i]?) = w2.map some)
    (hk : ∀ q : Nat, q < H.size → ¬ va_A wc H.size q → H1[q]? = H[q]?) (hF : ∀ q, va_A wc H.size q → A0 q) (hP1 : va_P D vwCl w1 H1) (hD1 : va_D (va_A wc H.size) w1) : va_P D vwCl w2 H1 ∧ va_D A0 w2 := by
  obtain ⟨a, b⟩ := va_join hP hD isC isR hC hR hn hdis hk hF hP1 hD1
  exact ⟨a.sub perm (fm_of_map hp), b.sub perm hnp hp⟩
theorem wcVi {S0 : Type} {post : Int32 → S0 → Prop} {w1 w2 : S0 → va_W} (S : CallFix p m c cc nL s args Ts own) (hM : Met l y ws rm (gPw D cB cC cI (.ref b :: As) wc H.size) (va_Qi post (gB D (va_A wc H.size) w1) (va_A wc H.size)) 0 0 (va_A wc H.size)) (cw : CallW R s args own C index y bytes maxL ret ws rm 0 0 n)
    (hK : gK D cB cC cI s) (hP : va_P D vwCl w0 H) (hD : va_D A0 w0) (hS : va_S A0 H0 H locs) (hA : ∀ q, H0.size ≤ q → A0 q) (isC isR perm : List Nat) (hnC : va_nd isC = true) (hC : isC.map (fun i => w0[i]?) = wc.map some) (hR : isR.map (fun i => w0[i]?) = wr.map some) (hnR : va_nd isR = true) (hdis : ∀ i ∈ isR, i ∉ isC) (hnp : va_nd perm = true) (hp : ∀ u, perm.map (fun i => (wr ++ w1 u)[i]?) = (w2 u).map some)
    (hc : vwCl[ci]? = some (C, T, N)) (q0 : Nat) (he : w0[q0]? = some (b, .inr (ci, fs)))
    (hn : As.length = n) (hsize : ls.size = nL) (hst : st = As.reverse ++ .ref b :: rest) (hW : (rest.map fun v => v.category).sum ≤ 8) (hdg : decode cc pc = .ok (.invokevirtual index, 3)) (hf : cells + 0 ≤ R.cells ∧ slots + 0 ≤ R.slots)
    (kk : ∀ (r : Int32) (u : S0) (H1 : Heap) (locs1 : List Loc), post r u → va_P D vwCl (w2 u) H1 → va_D A0 (w2 u) → va_S A0 H0 H1 locs1 → W p l e R s m args below meth c H1 locs1 cells slots Q (F0 m (pc + 3) ls (.int r :: rest))) : W p l e R s m args below meth c H locs cells slots Q (F0 m pc ls st) := by
  have hF := va_free (wc := wc) hD hS hA isC hC
  refine va_calli (va_runV (As := As) (rest := rest) (b := b) S hM cw ⟨gPw_blind, va_recv hK.1 hP hc he, fun U hU hW => gPw_at hK hP hD isC hnC hC U hU hW⟩ rfl hn hsize hst (lv_room hW) hdg hf) hS (fun q _ h => hF q h) hF (fun r u t H1 locs1 ht _ hw hB _ hk1 hS1 => ?_)
  obtain ⟨hP1, hD1⟩ := hB
  rw [ht] at hP1
  obtain ⟨a, b⟩ := gBack hP hD isC isR perm hC hR hnR hdis hnp (hp u) hk1 hF hP1 hD1
  exact kk r u H1 locs1 hw a b hS1
theorem wcVl {S0 : Type} {post : Int64 → S0 → Prop} {w1 w2 : S0 → va_W} (S : CallFix p m c cc nL s args Ts own) (hM : Met l y ws rm (gPw D cB cC cI (.ref b :: As) wc H.size) (va_Ql post (gB D (va_A wc H.size) w1) (va_A wc H.size)) 0 0 (va_A wc H.size)) (cw : CallW R s args own C index y bytes maxL ret ws rm 0 0 n)
    (hK : gK D cB cC cI s) (hP : va_P D vwCl w0 H) (hD : va_D A0 w0) (hS : va_S A0 H0 H locs) (hA : ∀ q, H0.size ≤ q → A0 q) (isC isR perm : List Nat) (hnC : va_nd isC = true) (hC : isC.map (fun i => w0[i]?) = wc.map some) (hR : isR.map (fun i => w0[i]?) = wr.map some) (hnR : va_nd isR = true) (hdis : ∀ i ∈ isR, i ∉ isC) (hnp : va_nd perm = true) (hp : ∀ u, perm.map (fun i => (wr ++ w1 u)[i]?) = (w2 u).map some)
    (hc : vwCl[ci]? = some (C, T, N)) (q0 : Nat) (he : w0[q0]? = some (b, .inr (ci, fs)))
    (hn : As.length = n) (hsize : ls.size = nL) (hst : st = As.reverse ++ .ref b :: rest) (hW : (rest.map fun v => v.category).sum ≤ 8) (hdg : decode cc pc = .ok (.invokevirtual index, 3)) (hf : cells + 0 ≤ R.cells ∧ slots + 0 ≤ R.slots)
    (kk : ∀ (r : Int64) (u : S0) (H1 : Heap) (locs1 : List Loc), post r u → va_P D vwCl (w2 u) H1 → va_D A0 (w2 u) → va_S A0 H0 H1 locs1 → W p l e R s m args below meth c H1 locs1 cells slots Q (F0 m (pc + 3) ls (.long r :: rest))) : W p l e R s m args below meth c H locs cells slots Q (F0 m pc ls st) := by
  have hF := va_free (wc := wc) hD hS hA isC hC
  refine va_calll (va_runV (As := As) (rest := rest) (b := b) S hM cw ⟨gPw_blind, va_recv hK.1 hP hc he, fun U hU hW => gPw_at hK hP hD isC hnC hC U hU hW⟩ rfl hn hsize hst (lv_room hW) hdg hf) hS (fun q _ h => hF q h) hF (fun r u t H1 locs1 ht _ hw hB _ hk1 hS1 => ?_)
  obtain ⟨hP1, hD1⟩ := hB
  rw [ht] at hP1
  obtain ⟨a, b⟩ := gBack hP hD isC isR perm hC hR hnR hdis hnp (hp u) hk1 hF hP1 hD1
  exact kk r u H1 locs1 hw a b hS1
theorem wcVv {S0 : Type} {post : S0 → Prop} {w1 w2 : S0 → va_W} (S : CallFix p m c cc nL s args Ts own) (hM : Met l y ws rm (gPw D cB cC cI (.ref b :: As) wc H.size) (va_Qv post (gB D (va_A wc H.size) w1) (va_A wc H.size)) 0 0 (va_A wc H.size)) (cw : CallW R s args own C index y bytes maxL ret ws rm 0 0 n)
    (hK : gK D cB cC cI s) (hP : va_P D vwCl w0 H) (hD : va_D A0 w0) (hS : va_S A0 H0 H locs) (hA : ∀ q, H0.size ≤ q → A0 q) (isC isR perm : List Nat) (hnC : va_nd isC = true) (hC : isC.map (fun i => w0[i]?) = wc.map some) (hR : isR.map (fun i => w0[i]?) = wr.map some) (hnR : va_nd isR = true) (hdis : ∀ i ∈ isR, i ∉ isC) (hnp : va_nd perm = true) (hp : ∀ u, perm.map (fun i => (wr ++ w1 u)[i]?) = (w2 u).map some)
    (hc : vwCl[ci]? = some (C, T, N)) (q0 : Nat) (he : w0[q0]? = some (b, .inr (ci, fs)))
    (hn : As.length = n) (hsize : ls.size = nL) (hst : st = As.reverse ++ .ref b :: rest) (hW : (rest.map fun v => v.category).sum ≤ 8) (hdg : decode cc pc = .ok (.invokevirtual index, 3)) (hf : cells + 0 ≤ R.cells ∧ slots + 0 ≤ R.slots)
    (kk : ∀ (u : S0) (H1 : Heap) (locs1 : List Loc), post u → va_P D vwCl (w2 u) H1 → va_D A0 (w2 u) → va_S A0 H0 H1 locs1 → W p l e R s m args below meth c H1 locs1 cells slots Q (F0 m (pc + 3) ls rest)) : W p l e R s m args below meth c H locs cells slots Q (F0 m pc ls st) := by
  have hF := va_free (wc := wc) hD hS hA isC hC
  refine va_callv (va_runV (As := As) (rest := rest) (b := b) S hM cw ⟨gPw_blind, va_recv hK.1 hP hc he, fun U hU hW => gPw_at hK hP hD isC hnC hC U hU hW⟩ rfl hn hsize hst (lv_room hW) hdg hf) hS (fun q _ h => hF q h) hF (fun u t H1 locs1 ht _ hw hB _ hk1 hS1 => ?_)
  obtain ⟨hP1, hD1⟩ := hB
  rw [ht] at hP1
  obtain ⟨a, b⟩ := gBack hP hD isC isR perm hC hR hnR hdis hnp (hp u) hk1 hF hP1 hD1
  exact kk u H1 locs1 hw a b hS1
/-- a nest mate's static method that writes -/
theorem wcNv {S0 : Type} {post : S0 → Prop} {w1 w2 : S0 → va_W} {host : String} (S : CallFix p m c cc nL s args Ts own) (hM : Met l y ws rm (gPw D cB cC cI As wc H.size) (va_Qv post (gB D (va_A wc H.size) w1) (va_A wc H.size)) 0 0 (va_A wc H.size)) (cw : va_CN R s args own index y host bytes maxL ret ws rm 0 0 n ∧ (Cond.static y).before args s = true ∧ True)
    (hK : gK D cB cC cI s) (hP : va_P D vwCl w0 H) (hD : va_D A0 w0) (hS : va_S A0 H0 H locs) (hA : ∀ q, H0.size ≤ q → A0 q) (isC isR perm : List Nat) (hnC : va_nd isC = true) (hC : isC.map (fun i => w0[i]?) = wc.map some) (hR : isR.map (fun i => w0[i]?) = wr.map some) (hnR : va_nd isR = true) (hdis : ∀ i ∈ isR, i ∉ isC) (hnp : va_nd perm = true) (hp : ∀ u, perm.map (fun i => (wr ++ w1 u)[i]?) = (w2 u).map some)
    (hn : As.length = n) (hsize : ls.size = nL) (hst : st = As.reverse ++ rest) (hW : (rest.map fun v => v.category).sum ≤ 8) (hdg : decode cc pc = .ok (.invokestatic index, 3)) (hf : cells + 0 ≤ R.cells ∧ slots + 0 ≤ R.slots)
    (kk : ∀ (u : S0) (H1 : Heap) (locs1 : List Loc), post u → va_P D vwCl (w2 u) H1 → va_D A0 (w2 u) → va_S A0 H0 H1 locs1 → W p l e R s m args below meth c H1 locs1 cells slots Q (F0 m (pc + 3) ls rest)) : W p l e R s m args below meth c H locs cells slots Q (F0 m pc ls st) := by
  have hF := va_free (wc := wc) hD hS hA isC hC
  refine va_callv (va_runSN (As := As) (rest := rest) S hM cw ⟨gPw_blind, fun U hU hW => gPw_at hK hP hD isC hnC hC U hU hW⟩ rfl hn hsize hst (lv_room hW) hdg hf) hS (fun q _ h => hF q h) hF (fun u t H1 locs1 ht _ hw hB _ hk1 hS1 => ?_)
  obtain ⟨hP1, hD1⟩ := hB
  rw [ht] at hP1
  obtain ⟨a, b⟩ := gBack hP hD isC isR perm hC hR hnR hdis hnp (hp u) hk1 hF hP1 hD1
  exact kk u H1 locs1 hw a b hS1
/-- the same, where the answer and the world behind are exact -/
abbrev QWi (D : va_G) (E : Int32) (w : va_W) (A : Nat → Prop) : Array Value → State → Outcome → State → Prop := va_Qi (fun r (_ : Unit) => r = E) (gB D A (fun _ => w)) A
abbrev QWl (D : va_G) (E : Int64) (w : va_W) (A : Nat → Prop) : Array Value → State → Outcome → State → Prop := va_Ql (fun r (_ : Unit) => r = E) (gB D A (fun _ => w)) A
abbrev QWv (D : va_G) (w : va_W) (A : Nat → Prop) : Array Value → State → Outcome → State → Prop := va_Qv (fun (_ : Unit) => True) (gB D A (fun _ => w)) A
theorem wcVi1 {e0 : Int32} {w1 w2 : va_W} (S : CallFix p m c cc nL s args Ts own) (hM : Met l y ws rm (gPw D cB cC cI (.ref b :: As) wc H.size) (QWi D e0 w1 (va_A wc H.size)) 0 0 (va_A wc H.size)) (cw : CallW R s args own C index y bytes maxL ret ws rm 0 0 n)
    (hK : gK D cB cC cI s) (hP : va_P D vwCl w0 H) (hD : va_D A0 w0) (hS : va_S A0 H0 H locs) (hA : ∀ q, H0.size ≤ q → A0 q) (isC isR perm : List Nat) (hnC : va_nd isC = true) (hC : isC.map (fun i => w0[i]?) = wc.map some) (hR : isR.map (fun i => w0[i]?) = wr.map some) (hnR : va_nd isR = true) (hdis : ∀ i ∈ isR, i ∉ isC) (hnp : va_nd perm = true) (hp : perm.map (fun i => (wr ++ w1)[i]?) = w2.map some)
    (hc : vwCl[ci]? = some (C, T, N)) (q0 : Nat) (he : w0[q0]? = some (b, .inr (ci, fs)))
    (hn : As.length = n) (hsize : ls.size = nL) (hst : st = As.reverse ++ .ref b :: rest) (hW : (rest.map fun v => v.category).sum ≤ 8) (hdg : decode cc pc = .ok (.invokevirtual index, 3)) (hf : cells + 0 ≤ R.cells ∧ slots + 0 ≤ R.slots)
    (kk : ∀ (H1 : Heap) (locs1 : List Loc), va_P D vwCl w2 H1 → va_D A0 w2 → va_S A0 H0 H1 locs1 → W p l e R s m args below meth c H1 locs1 cells slots Q (F0 m (pc + 3) ls (.int e0 :: rest))) : W p l e R s m args below meth c H locs cells slots Q (F0 m pc ls st) :=
  wcVi (w2 := fun _ => w2) S hM cw hK hP hD hS hA isC isR perm hnC hC hR hnR hdis hnp (fun _ => hp) hc q0 he hn hsize hst hW hdg hf (fun r _ H1 locs1 hr a b d => by have hr : r = e0 := hr; subst hr; exact kk H1 locs1 a b d)
theorem wcVl1 {e0 : Int64} {w1 w2 : va_W} (S : CallFix p m c cc nL s args Ts own) (hM : Met l y ws rm (gPw D cB cC cI (.ref b :: As) wc H.size) (QWl D e0 w1 (va_A wc H.size)) 0 0 (va_A wc H.size)) (cw : CallW R s args own C index y bytes maxL ret ws rm 0 0 n)
    (hK : gK D cB cC cI s) (hP : va_P D vwCl w0 H) (hD : va_D A0 w0) (hS : va_S A0 H0 H locs) (hA : ∀ q, H0.size ≤ q → A0 q) (isC isR perm : List Nat) (hnC : va_nd isC = true) (hC : isC.map (fun i => w0[i]?) = wc.map some) (hR : isR.map (fun i => w0[i]?) = wr.map some) (hnR : va_nd isR = true) (hdis : ∀ i ∈ isR, i ∉ isC) (hnp : va_nd perm = true) (hp : perm.map (fun i => (wr ++ w1)[i]?) = w2.map some)
    (hc : vwCl[ci]? = some (C, T, N)) (q0 : Nat) (he : w0[q0]? = some (b, .inr (ci, fs)))
    (hn : As.length = n) (hsize : ls.size = nL) (hst : st = As.reverse ++ .ref b :: rest) (hW : (rest.map fun v => v.category).sum ≤ 8) (hdg : decode cc pc = .ok (.invokevirtual index, 3)) (hf : cells + 0 ≤ R.cells ∧ slots + 0 ≤ R.slots)
    (kk : ∀ (H1 : Heap) (locs1 : List Loc), va_P D vwCl w2 H1 → va_D A0 w2 → va_S A0 H0 H1 locs1 → W p l e R s m args below meth c H1 locs1 cells slots Q (F0 m (pc + 3) ls (.long e0 :: rest))) : W p l e R s m args below meth c H locs cells slots Q (F0 m pc ls st) :=
  wcVl (w2 := fun _ => w2) S hM cw hK hP hD hS hA isC isR perm hnC hC hR hnR hdis hnp (fun _ => hp) hc q0 he hn hsize hst hW hdg hf (fun r _ H1 locs1 hr a b d => by have hr : r = e0 := hr; subst hr; exact kk H1 locs1 a b d)
theorem wcVv1 {w1 w2 : va_W} (S : CallFix p m c cc nL s args Ts own) (hM : Met l y ws rm (gPw D cB cC cI (.ref b :: As) wc H.size) (QWv D w1 (va_A wc H.size)) 0 0 (va_A wc H.size)) (cw : CallW R s args own C index y bytes maxL ret ws rm 0 0 n)
    (hK : gK D cB cC cI s) (hP : va_P D vwCl w0 H) (hD : va_D A0 w0) (hS : va_S A0 H0 H locs) (hA : ∀ q, H0.size ≤ q → A0 q) (isC isR perm : List Nat) (hnC : va_nd isC = true) (hC : isC.map (fun i => w0[i]?) = wc.map some) (hR : isR.map (fun i => w0[i]?) = wr.map some) (hnR : va_nd isR = true) (hdis : ∀ i ∈ isR, i ∉ isC) (hnp : va_nd perm = true) (hp : perm.map (fun i => (wr ++ w1)[i]?) = w2.map some)
    (hc : vwCl[ci]? = some (C, T, N)) (q0 : Nat) (he : w0[q0]? = some (b, .inr (ci, fs)))
    (hn : As.length = n) (hsize : ls.size = nL) (hst : st = As.reverse ++ .ref b :: rest) (hW : (rest.map fun v => v.category).sum ≤ 8) (hdg : decode cc pc = .ok (.invokevirtual index, 3)) (hf : cells + 0 ≤ R.cells ∧ slots + 0 ≤ R.slots)
    (kk : ∀ (H1 : Heap) (locs1 : List Loc), va_P D vwCl w2 H1 → va_D A0 w2 → va_S A0 H0 H1 locs1 → W p l e R s m args below meth c H1 locs1 cells slots Q (F0 m (pc + 3) ls rest)) : W p l e R s m args below meth c H locs cells slots Q (F0 m pc ls st) :=
  wcVv (w2 := fun _ => w2) S hM cw hK hP hD hS hA isC isR perm hnC hC hR hnR hdis hnp (fun _ => hp) hc q0 he hn hsize hst hW hdg hf (fun _ H1 locs1 _ a b d => kk H1 locs1 a b d)
theorem wcNv1 {w1 w2 : va_W} {host : String} (S : CallFix p m c cc nL s args Ts own) (hM : Met l y ws rm (gPw D cB cC cI As wc H.size) (QWv D w1 (va_A wc H.size)) 0 0 (va_A wc H.size)) (cw : va_CN R s args own index y host bytes maxL ret ws rm 0 0 n ∧ (Cond.static y).before args s = true ∧ True)
    (hK : gK D cB cC cI s) (hP : va_P D vwCl w0 H) (hD : va_D A0 w0) (hS : va_S A0 H0 H locs) (hA : ∀ q, H0.size ≤ q → A0 q) (isC isR perm : List Nat) (hnC : va_nd isC = true) (hC : isC.map (fun i => w0[i]?) = wc.map some) (hR : isR.map (fun i => w0[i]?) = wr.map some) (hnR : va_nd isR = true) (hdis : ∀ i ∈ isR, i ∉ isC) (hnp : va_nd perm = true) (hp : perm.map (fun i => (wr ++ w1)[i]?) = w2.map some)
    (hn : As.length = n) (hsize : ls.size = nL) (hst : st = As.reverse ++ rest) (hW : (rest.map fun v => v.category).sum ≤ 8) (hdg : decode cc pc = .ok (.invokestatic index, 3)) (hf : cells + 0 ≤ R.cells ∧ slots + 0 ≤ R.slots)
    (kk : ∀ (H1 : Heap) (locs1 : List Loc), va_P D vwCl w2 H1 → va_D A0 w2 → va_S A0 H0 H1 locs1 → W p l e R s m args below meth c H1 locs1 cells slots Q (F0 m (pc + 3) ls rest)) : W p l e R s m args below meth c H locs cells slots Q (F0 m pc ls st) :=
  wcNv (w2 := fun _ => w2) S hM cw hK hP hD hS hA isC isR perm hnC hC hR hnR hdis hnp (fun _ => hp) hn hsize hst hW hdg hf (fun _ H1 locs1 _ a b d => kk H1 locs1 a b d)
end MyCalls
end
section
/-! ===== the String constant that the class reads: "hrowm" ===== -/
def kLet (j : Nat) : Int32 := ([104, 114, 111, 119, 109] : List Int32).getD j 0
def gStr (ka va : Nat) (A : Nat → Prop) (U : State) (H : Heap) : Prop :=
  vk_R RX3 31 "hrowm" ka U ∧ vk_R RX5 97 "hrowm" ka U ∧ va_O "java/lang/String" ka A U H ∧ va_OF "java/lang/String" "coder" "B" (.int 0) ka A U H ∧ va_OF "java/lang/String" "value" "[B" (.ref va) ka A U H ∧ va_T .byte va 5 (fun j => .int (kLet j)) A U H ∧ va_Z "java/lang/String" "COMPACT_STRINGS" "Z" (.int 1) A U H
theorem gStr.same {ka va : Nat} {A : Nat → Prop} {u U : State} {H : Heap} (h : u.vm = U.vm) (q : gStr ka va A u H) : gStr ka va A U H := ⟨q.1.same h.symm, q.2.1.same h.symm, q.2.2.1.moved (h ▸ Vm.Alike.refl u.vm), q.2.2.2.1.moved (h ▸ Vm.Alike.refl u.vm), q.2.2.2.2.1.moved (h ▸ Vm.Alike.refl u.vm), q.2.2.2.2.2.1.moved (h ▸ Vm.Alike.refl u.vm), q.2.2.2.2.2.2.moved (h ▸ Vm.Alike.refl u.vm)⟩
theorem gStr.warm {ka va : Nat} {A : Nat → Prop} {s U : State} {H : Heap} (h : s.WarmedH U.vm) (q : gStr ka va A s H) : gStr ka va A U H := ⟨q.1.warm h, q.2.1.warm h, q.2.2.1.moved h.alike, q.2.2.2.1.moved h.alike, q.2.2.2.2.1.moved h.alike, q.2.2.2.2.2.1.moved h.alike, q.2.2.2.2.2.2.moved h.alike⟩
theorem gStr.kept {ka va : Nat} {A : Nat → Prop} {U : State} {H H1 : Heap} (q : gStr ka va A U H) (hq : ∀ a : Nat, a < H.size → ¬ A a → H1[a]? = H[a]?) : gStr ka va A U H1 := ⟨q.1, q.2.1, q.2.2.1.kept hq, q.2.2.2.1.kept hq, q.2.2.2.2.1.kept hq, q.2.2.2.2.2.1.kept hq, q.2.2.2.2.2.2.kept hq⟩
theorem gStr.narrow {ka va : Nat} {A B : Nat → Prop} {U : State} {H : Heap} (q : gStr ka va A U H) (hAB : ∀ q, B q → A q) : gStr ka va B U H := ⟨q.1, q.2.1, q.2.2.1.narrow hAB, q.2.2.2.1.narrow hAB, q.2.2.2.2.1.narrow hAB, q.2.2.2.2.2.1.narrow hAB, q.2.2.2.2.2.2.narrow hAB⟩
abbrev gF : Nat → Prop := fun _ => False
abbrev gPrS (D : va_G) (cB cC cI : ClassId) (ka va : Nat) (av : List Value) (wc : va_W) : Array Value → State → Prop := va_Pc av (fun U => va_P D vwCl wc U.heap ∧ gK D cB cC cI U ∧ gStr ka va gF U U.heap)
abbrev gPwS (D : va_G) (cB cC cI : ClassId) (ka va : Nat) (av : List Value) (wc : va_W) (sz : Nat) : Array Value → State → Prop := va_Pc av (fun U => U.heap.size = sz ∧ va_P D vwCl wc U.heap ∧ gK D cB cC cI U ∧ va_D (fun _ => True) wc ∧ gStr ka va (va_A wc sz) U U.heap)
theorem gPrS_blind {D : va_G} {cB cC cI : ClassId} {ka va : Nat} {av : List Value} {wc : va_W} : FrameBlind (gPrS D cB cC cI ka va av wc) := fun a U g mk q => ⟨q.1, q.2.1, gK.same (u := U) (U := U.calling g mk a) rfl q.2.2.1, gStr.same (u := U) (U := U.calling g mk a) rfl q.2.2.2⟩
theorem gPwS_blind {D : va_G} {cB cC cI : ClassId} {ka va : Nat} {av : List Value} {wc : va_W} {sz : Nat} : FrameBlind (gPwS D cB cC cI ka va av wc sz) := fun a U g mk q => ⟨q.1, q.2.1, q.2.2.1, gK.same (u := U) (U := U.calling g mk a) rfl q.2.2.2.1, q.2.2.2.2.1, gStr.same (u := U) (U := U.calling g mk a) rfl q.2.2.2.2.2⟩
theorem metRS {l : Launch} {y : MethodName} {ws ws' : List Cond} {rm : Room} {D : va_G} {cB cC cI : ClassId} {ka va : Nat} {av : List Value} {wc : va_W} {Qc : Array Value → State → Outcome → State → Prop} {cc : ByteArray} {maxL : Nat} {ret : Option FieldType} (own : String) (hown : y.cls = own)
    (hy : plainName y.cls = true) (hw : ws = Cond.code y cc maxL ret :: ws') (hlen : (lg_sl av).length ≤ maxL)
    (body : ∀ (p : Program) (e : Env) (s : State) (m : MethodId) (below : List Frame) (meth : Method) (c : Code), p.tables.exec = Jvm.exec → c.code = cc → meth.sig.returnType = ret → c.maxLocals = maxL → s.vm.findClass own = some m.cls → (∀ w ∈ ws, w.before av.toArray s = true) → meth.locks = false → va_P D vwCl wc s.heap → gK D cB cC cI s → gStr ka va gF s s.heap → ∀ ls : Array Slot, lv_has ls maxL (lv_args 0 av) →
      W p l e (headSpec ws rm).room s m av.toArray below meth c s.heap [] 0 0 (MQ below Qc av.toArray s 0 0 (fun _ => False)) (F0 m 0 ls [])) : Met l y ws rm (gPrS D cB cC cI ka va av wc) Qc 0 0 (fun _ => False) := by
  refine Met.ofW (cc := cc) (maxL := maxL) (ret := ret) hy hw ?_
  intro p e s m args below meth c s₁ B hml hv
  obtain ⟨rfl, hP, hK, hG⟩ := hv
  have hl := lv_entry av (n := maxL) hlen
  rw [lg_entry_eq]
  exact body p e s m below meth c B.exec B.bytes B.returns hml (hown ▸ findClass_of_methodNamed B.named) (atoms_spec (ws := ws) B.pre) B.notSynchronized hP hK hG _ hl
theorem metWS {l : Launch} {y : MethodName} {ws ws' : List Cond} {rm : Room} {D : va_G} {cB cC cI : ClassId} {ka va : Nat} {av : List Value} {wc : va_W} {sz mc ms : Nat} {QA : (Nat → Prop) → Array Value → State → Outcome → State → Prop} {cc : ByteArray} {maxL : Nat} {ret : Option FieldType} (own : String) (hown : y.cls = own)
    (hy : plainName y.cls = true) (hw : ws = Cond.code y cc maxL ret :: ws') (hlen : (lg_sl av).length ≤ maxL)
    (body : ∀ (p : Program) (e : Env) (s : State) (m : MethodId) (below : List Frame) (meth : Method) (c : Code) (A : Nat → Prop), p.tables.exec = Jvm.exec → c.code = cc → meth.sig.returnType = ret → c.maxLocals = maxL → s.vm.findClass own = some m.cls → (∀ w ∈ ws, w.before av.toArray s = true) → meth.locks = false → meth.name = y.name → va_P D vwCl wc s.heap → gK D cB cC cI s → va_D A wc → (∀ q : Nat, s.heap.size ≤ q → A q) → va_S A s.heap s.heap [] → gStr ka va A s s.heap → ∀ ls : Array Slot, lv_has ls maxL (lv_args 0 av) →
      W p l e (headSpec ws rm).room s m av.toArray below meth c s.heap [] 0 0 (MQ below (QA A) av.toArray s mc ms A) (F0 m 0 ls [])) : Met l y ws rm (gPwS D cB cC cI ka va av wc sz) (QA (va_A wc sz)) mc ms (va_A wc sz) := by
  refine Met.ofW (cc := cc) (maxL := maxL) (ret := ret) hy hw ?_
  intro p e s m args below meth c s₁ B hml hv
  obtain ⟨rfl, hsz, hP, hK, hD0, hG⟩ := hv
  subst hsz
  have hl := lv_entry av (n := maxL) hlen
  rw [lg_entry_eq]
  exact body p e s m below meth c (va_A wc s.heap.size) B.exec B.bytes B.returns hml (hown ▸ findClass_of_methodNamed B.named) (atoms_spec (ws := ws) B.pre) B.notSynchronized (name_of_methodNamed B.named B.method).1 hP hK (hD0.self (sz := s.heap.size)) (fun q h => Or.inr h) va_S.rf hG _ hl
section MyCallsS
variable {p : Program} {l : Launch} {e : Env} {R : Room} {s : State} {m : MethodId} {args : Array Value} {below : List Frame} {meth : Method} {c : Code} {H : Heap} {locs : List Loc} {cells slots : Nat} {Q : State → Prop}
variable {cc bytes : ByteArray} {pc nL maxL index n ci q0 N : Nat} {ls : Array Slot} {rest As st : List Value} {D : va_G} {cB cC cI : ClassId} {w0 wc wr : va_W} {own C : String} {y : MethodName} {ret : Option FieldType} {rm : Room} {Ts ws : List Cond} {b ka va : Nat} {T : u_T} {fs : List Value} {A0 : Nat → Prop} {H0 : Heap}
theorem gPrS_at (hG : gStr ka va gF s H) (hK : gK D cB cC cI s) (hP : va_P D vwCl w0 H) (is : List Nat) (hs : is.map (fun i => w0[i]?) = wc.map some) {av : List Value} (U : State) (hU : U.heap = H) (hW : s.WarmedH U.vm) : gPrS D cB cC cI ka va av wc av.toArray U := ⟨rfl, by rw [hU]; exact hP.sub is (fm_of_map hs), hK.warm hW, by rw [hU]; exact hG.warm hW⟩
theorem rcViS {e0 : Int32} (S : CallFix p m c cc nL s args Ts own) (hM : Met l y ws rm (gPrS D cB cC cI ka va (.ref b :: As) wc) (vp_Si (fun r => r = e0)) 0 0 (fun _ => False)) (cw : CallW R s args own C index y bytes maxL ret ws rm 0 0 n) (hG : gStr ka va gF s H)
    (hK : gK D cB cC cI s) (hP : va_P D vwCl w0 H) (is : List Nat) (hs : is.map (fun i => w0[i]?) = wc.map some) (hc : vwCl[ci]? = some (C, T, N)) (q0 : Nat) (he : w0[q0]? = some (b, .inr (ci, fs)))
    (hn : As.length = n) (hsize : ls.size = nL) (hst : st = As.reverse ++ .ref b :: rest) (hW : (rest.map fun v => v.category).sum ≤ 8) (hdg : decode cc pc = .ok (.invokevirtual index, 3)) (hf : cells + 0 ≤ R.cells ∧ slots + 0 ≤ R.slots)
    (kk : W p l e R s m args below meth c H locs cells slots Q (F0 m (pc + 3) ls (.int e0 :: rest))) : W p l e R s m args below meth c H locs cells slots Q (F0 m pc ls st) :=
  vp_callSi (W.runV (As := As) (rest := rest) (b := b) S hM cw ⟨gPrS_blind, va_recv hK.1 hP hc he, fun U hU hW => gPrS_at hG hK hP is hs U hU hW⟩ rfl hn hsize hst (lv_room hW) hdg hf) (fun r hr => hr ▸ kk)
theorem rcSiS {e0 : Int32} (S : CallFix p m c cc nL s args Ts own) (hM : Met l y ws rm (gPrS D cB cC cI ka va As wc) (vp_Si (fun r => r = e0)) 0 0 (fun _ => False)) (cw : CallB R s args own index y bytes maxL ret ws rm 0 0 n ∧ (Cond.static y).before args s = true) (hG : gStr ka va gF s H)
    (hK : gK D cB cC cI s) (hP : va_P D vwCl w0 H) (is : List Nat) (hs : is.map (fun i => w0[i]?) = wc.map some)
    (hn : As.length = n) (hsize : ls.size = nL) (hst : st = As.reverse ++ rest) (hW : (rest.map fun v => v.category).sum ≤ 8) (hdg : decode cc pc = .ok (.invokestatic index, 3)) (hf : cells + 0 ≤ R.cells ∧ slots + 0 ≤ R.slots)
    (kk : W p l e R s m args below meth c H locs cells slots Q (F0 m (pc + 3) ls (.int e0 :: rest))) : W p l e R s m args below meth c H locs cells slots Q (F0 m pc ls st) :=
  vp_callSi (W.runS (As := As) (rest := rest) S hM cw ⟨gPrS_blind, fun U hU hW => gPrS_at hG hK hP is hs U hU hW⟩ rfl hn hsize hst (lv_room hW) hdg hf) (fun r hr => hr ▸ kk)
/-- a call on the String itself -/
theorem rcTiS {e0 : Int32} (S : CallFix p m c cc nL s args Ts own) (hM : Met l y ws rm (gPrS D cB cC cI ka va (.ref ka :: As) wc) (vp_Si (fun r => r = e0)) 0 0 (fun _ => False)) (cw : CallW R s args own "java/lang/String" index y bytes maxL ret ws rm 0 0 n) (hG : gStr ka va gF s H)
    (hK : gK D cB cC cI s) (hP : va_P D vwCl w0 H) (is : List Nat) (hs : is.map (fun i => w0[i]?) = wc.map some)
    (hn : As.length = n) (hsize : ls.size = nL) (hst : st = As.reverse ++ .ref ka :: rest) (hW : (rest.map fun v => v.category).sum ≤ 8) (hdg : decode cc pc = .ok (.invokevirtual index, 3)) (hf : cells + 0 ≤ R.cells ∧ slots + 0 ≤ R.slots)
    (kk : W p l e R s m args below meth c H locs cells slots Q (F0 m (pc + 3) ls (.int e0 :: rest))) : W p l e R s m args below meth c H locs cells slots Q (F0 m pc ls st) :=
  vp_callSi (W.runV (As := As) (rest := rest) (b := ka) S hM cw ⟨gPrS_blind, (by obtain ⟨cell, h1, h2, h3, -⟩ := hG.2.2.1; exact ⟨cell, h1, h2, h3⟩), fun U hU hW => gPrS_at hG hK hP is hs U hU hW⟩ rfl hn hsize hst (lv_room hW) hdg hf) (fun r hr => hr ▸ kk)
theorem gPwS_at (hG : gStr ka va A0 s H) (hK : gK D cB cC cI s) (hP : va_P D vwCl w0 H) (hD : va_D A0 w0) (hF : ∀ q, va_A wc H.size q → A0 q) (is : List Nat) (hn : va_nd is = true) (hs : is.map (fun i => w0[i]?) = wc.map some) {av : List Value} (U : State) (hU : U.heap = H) (hW : s.WarmedH U.vm) : gPwS D cB cC cI ka va av wc H.size av.toArray U := ⟨rfl, by rw [hU], by rw [hU]; exact hP.sub is (fm_of_map hs), hK.warm hW, (hD.sub is hn hs).weaken (fun _ _ _ _ => trivial), by rw [hU]; exact (hG.narrow hF).warm hW⟩
theorem wcVv1S {w1 w2 : va_W} (S : CallFix p m c cc nL s args Ts own) (hM : Met l y ws rm (gPwS D cB cC cI ka va (.ref b :: As) wc H.size) (QWv D w1 (va_A wc H.size)) 0 0 (va_A wc H.size)) (cw : CallW R s args own C index y bytes maxL ret ws rm 0 0 n) (hG : gStr ka va A0 s H)
    (hK : gK D cB cC cI s) (hP : va_P D vwCl w0 H) (hD : va_D A0 w0) (hS : va_S A0 H0 H locs) (hA : ∀ q, H0.size ≤ q → A0 q) (isC isR perm : List Nat) (hnC : va_nd isC = true) (hC : isC.map (fun i => w0[i]?) = wc.map some) (hR : isR.map (fun i => w0[i]?) = wr.map some) (hnR : va_nd isR = true) (hdis : ∀ i ∈ isR, i ∉ isC) (hnp : va_nd perm = true) (hp : perm.map (fun i => (wr ++ w1)[i]?) = w2.map some)
    (hc : vwCl[ci]? = some (C, T, N)) (q0 : Nat) (he : w0[q0]? = some (b, .inr (ci, fs)))
    (hn : As.length = n) (hsize : ls.size = nL) (hst : st = As.reverse ++ .ref b :: rest) (hW : (rest.map fun v => v.category).sum ≤ 8) (hdg : decode cc pc = .ok (.invokevirtual index, 3)) (hf : cells + 0 ≤ R.cells ∧ slots + 0 ≤ R.slots)
    (kk : ∀ (H1 : Heap) (locs1 : List Loc), va_P D vwCl w2 H1 → va_D A0 w2 → va_S A0 H0 H1 locs1 → W p l e R s m args below meth c H1 locs1 cells slots Q (F0 m (pc + 3) ls rest)) : W p l e R s m args below meth c H locs cells slots Q (F0 m pc ls st) := by
  have hF := va_free (wc := wc) hD hS hA isC hC
  refine va_callv (va_runV (As := As) (rest := rest) (b := b) S hM cw ⟨gPwS_blind, va_recv hK.1 hP hc he, fun U hU hW => gPwS_at hG hK hP hD hF isC hnC hC U hU hW⟩ rfl hn hsize hst (lv_room hW) hdg hf) hS (fun q _ h => hF q h) hF (fun u t H1 locs1 ht _ hw hB _ hk1 hS1 => ?_)
  obtain ⟨hP1, hD1⟩ := hB
  rw [ht] at hP1
  obtain ⟨a, b⟩ := gBack hP hD isC isR perm hC hR hnR hdis hnp hp hk1 hF hP1 hD1
  exact kk H1 locs1 a b hS1
theorem wcVi1S {e0 : Int32} {w1 w2 : va_W} (S : CallFix p m c cc nL s args Ts own) (hM : Met l y ws rm (gPwS D cB cC cI ka va (.ref b :: As) wc H.size) (QWi D e0 w1 (va_A wc H.size)) 0 0 (va_A wc H.size)) (cw : CallW R s args own C index y bytes maxL ret ws rm 0 0 n) (hG : gStr ka va A0 s H)
    (hK : gK D cB cC cI s) (hP : va_P D vwCl w0 H) (hD : va_D A0 w0) (hS : va_S A0 H0 H locs) (hA : ∀ q, H0.size ≤ q → A0 q) (isC isR perm : List Nat) (hnC : va_nd isC = true) (hC : isC.map (fun i => w0[i]?) = wc.map some) (hR : isR.map (fun i => w0[i]?) = wr.map some) (hnR : va_nd isR = true) (hdis : ∀ i ∈ isR, i ∉ isC) (hnp : va_nd perm = true) (hp : perm.map (fun i => (wr ++ w1)[i]?) = w2.map some)
    (hc : vwCl[ci]? = some (C, T, N)) (q0 : Nat) (he : w0[q0]? = some (b, .inr (ci, fs)))
    (hn : As.length = n) (hsize : ls.size = nL) (hst : st = As.reverse ++ .ref b :: rest) (hW : (rest.map fun v => v.category).sum ≤ 8) (hdg : decode cc pc = .ok (.invokevirtual index, 3)) (hf : cells + 0 ≤ R.cells ∧ slots + 0 ≤ R.slots)
    (kk : ∀ (H1 : Heap) (locs1 : List Loc), va_P D vwCl w2 H1 → va_D A0 w2 → va_S A0 H0 H1 locs1 → W p l e R s m args below meth c H1 locs1 cells slots Q (F0 m (pc + 3) ls (.int e0 :: rest))) : W p l e R s m args below meth c H locs cells slots Q (F0 m pc ls st) := by
  have hF := va_free (wc := wc) hD hS hA isC hC
  refine va_calli (va_runV (As := As) (rest := rest) (b := b) S hM cw ⟨gPwS_blind, va_recv hK.1 hP hc he, fun U hU hW => gPwS_at hG hK hP hD hF isC hnC hC U hU hW⟩ rfl hn hsize hst (lv_room hW) hdg hf) hS (fun q _ h => hF q h) hF (fun r u t H1 locs1 ht _ hw hB _ hk1 hS1 => ?_)
  obtain ⟨hP1, hD1⟩ := hB
  rw [ht] at hP1
  obtain ⟨a, b⟩ := gBack hP hD isC isR perm hC hR hnR hdis hnp hp hk1 hF hP1 hD1
  have hw : r = e0 := hw
  subst hw
  exact kk H1 locs1 a b hS1
end MyCallsS
theorem nb01 {v : Int32} (h : v = 0 ∨ v = 1) : narrow .boolean (.int v) = .int v := by rcases h with rfl | rfl <;> rfl
def fillN (f g : Nat → Int32) (j : Nat) : Nat → Int32 := fun i => if i < j then f i else g i
theorem fillN_0 (f g : Nat → Int32) : fillN f g 0 = g := by funext i; exact if_neg (Nat.not_lt_zero i)
theorem fillN_s (f g : Nat → Int32) (j : Nat) : upd (fillN f g j) j (f j) = fillN f g (j + 1) := by
  funext i
  by_cases h : i = j
  · subst h
    rw [pk_us]
    exact (if_pos (Nat.lt_succ_self i)).symm
  · rw [pk_un h]
    by_cases h2 : i < j
    · rw [fillN, fillN, if_pos h2, if_pos (by omega)]
    · rw [fillN, fillN, if_neg h2, if_neg (by omega)]
end
section
def sumL (f : Nat → Int32) : Nat → Int32
  | 0 => 0
  | k + 1 => sumL f k + f k
def f_X2_isOpen (n : Nat) : Int32 := if (nI n) ≤ 0 then 0 else 1
set_option maxHeartbeats 4000000 in
set_option maxRecDepth 100000 in
theorem c_X2_isOpen (l : Launch) (D : va_G) (cB cC cI : ClassId) (mh : Nat) (m0 : Nat) (m1 : Nat) (m2 : Nat) (m3 : Nat) (m4 : Nat) (m5 : Nat) (m6 : Nat) (kd : Nat → Int32) (st : Nat → Int32) (co : Nat → Int32) (gt : Nat → Int32) (pd : Nat → Int32) (de : Nat → Int32) (us : Nat → Int32) (n : Nat) (tl : Int32) (ho : Int32) (sl : Int32)  : Met l yX2_isOpen wsX2_isOpen ({ frames := 0, cells := 0, slots := 0, locals := 0 }) (gPr D cB cC cI [.ref mh] [(mh, .inr (2, [.ref m0, .ref m1, .ref m2, .ref m3, .ref m4, .ref m5, .ref m6, .int (nI n), .int tl, .int ho, .int sl])), (m0, .inl (cI, 4, .inl kd)), (m1, .inl (cI, 4, .inl st)), (m2, .inl (cI, 4, .inl co)), (m3, .inl (cI, 4, .inl gt)), (m4, .inl (cI, 4, .inl pd)), (m5, .inl (cI, 4, .inl de)), (m6, .inl (cI, 4, .inl us))]) (vp_Si (fun r => r = (f_X2_isOpen n))) 0 0 (fun _ => False) := by
  refine metR (cc := cX2_isOpen) (maxL := 1) (ret := (some .boolean)) RX2 rfl (by decide) rfl (Nat.le_of_ble_eq_true rfl) ?_
  intro p e s m below meth c hx hb hr hml hown hts hlocks hP hK ls hl
  have iwX2 : ∀ w ∈ wsX20, w ∈ wsX2_isOpen := by decide +kernel
  have fk33 := hts (.fieldLink RX2 33 "BuyersWeights$Market" "houses" "I") (by decide +kernel)
  have hl : lv_has ls 1 [(0, .ref mh)] := hl
  refine lv_aload_n hx hb dX2_isOpen_0 rfl (lv_at hl 0 rfl) ?_
  refine va_get (D := D) (ci := 2) (v := .int (nI n)) (C := RX2) (T := TX2) (N := 11) hx hb hts iwX2 hown hK.1 hP 0 rfl rfl 7 (by decide) fk33 (fun _ h9 => h9) rfl dX2_isOpen_1 ?_
  refine lv_if_le (tgt := 11) hx hb dX2_isOpen_4 (by decide) (fun c_1 => ?_) (fun c_1 => ?_)
  · refine lv_iconst (v := 0) hx hb dX2_isOpen_11 (by decide) ?_
    have eG : f_X2_isOpen n = 0 := if_pos c_1
    exact retRz hx hb hr hlocks rfl eG.symm dX2_isOpen_12
  · refine lv_iconst (v := 1) hx hb dX2_isOpen_7 (by decide) ?_
    refine lv_goto (tgt := 12) hx hb dX2_isOpen_8 (by decide) ?_
    have eG : f_X2_isOpen n = 1 := if_neg c_1
    exact retRz hx hb hr hlocks rfl eG.symm dX2_isOpen_12
def f_X2_has (n : Nat) (b : Int32) : Int32 := if b < 0 then 0 else if (nI n) ≤ b then 0 else 1
set_option maxHeartbeats 4000000 in
set_option maxRecDepth 100000 in
theorem c_X2_has (l : Launch) (D : va_G) (cB cC cI : ClassId) (mh : Nat) (m0 : Nat) (m1 : Nat) (m2 : Nat) (m3 : Nat) (m4 : Nat) (m5 : Nat) (m6 : Nat) (kd : Nat → Int32) (st : Nat → Int32) (co : Nat → Int32) (gt : Nat → Int32) (pd : Nat → Int32) (de : Nat → Int32) (us : Nat → Int32) (n : Nat) (tl : Int32) (ho : Int32) (sl : Int32) (b : Int32)  : Met l yX2_has wsX2_has ({ frames := 0, cells := 0, slots := 0, locals := 0 }) (gPr D cB cC cI [.ref mh, .int b] [(mh, .inr (2, [.ref m0, .ref m1, .ref m2, .ref m3, .ref m4, .ref m5, .ref m6, .int (nI n), .int tl, .int ho, .int sl])), (m0, .inl (cI, 4, .inl kd)), (m1, .inl (cI, 4, .inl st)), (m2, .inl (cI, 4, .inl co)), (m3, .inl (cI, 4, .inl gt)), (m4, .inl (cI, 4, .inl pd)), (m5, .inl (cI, 4, .inl de)), (m6, .inl (cI, 4, .inl us))]) (vp_Si (fun r => r = (f_X2_has n b))) 0 0 (fun _ => False) := by
  refine metR (cc := cX2_has) (maxL := 2) (ret := (some .boolean)) RX2 rfl (by decide) rfl (Nat.le_of_ble_eq_true rfl) ?_
  intro p e s m below meth c hx hb hr hml hown hts hlocks hP hK ls hl
  have iwX2 : ∀ w ∈ wsX20, w ∈ wsX2_has := by decide +kernel
  have fk33 := hts (.fieldLink RX2 33 "BuyersWeights$Market" "houses" "I") (by decide +kernel)
  have hl : lv_has ls 2 [(0, .ref mh), (1, .int b)] := hl
  refine lv_iload_n hx hb dX2_has_0 rfl (lv_at hl 1 rfl) ?_
  refine lv_if_lt (tgt := 16) hx hb dX2_has_1 (by decide) (fun c_1 => ?_) (fun c_1 => ?_)
  · refine lv_iconst (v := 0) hx hb dX2_has_16 (by decide) ?_
    have eG : f_X2_has n b = 0 := if_pos c_1
    exact retRz hx hb hr hlocks rfl eG.symm dX2_has_17
  · refine lv_iload_n hx hb dX2_has_4 rfl (lv_at hl 1 rfl) ?_
    refine lv_aload_n hx hb dX2_has_5 rfl (lv_at hl 0 rfl) ?_
    refine va_get (D := D) (ci := 2) (v := .int (nI n)) (C := RX2) (T := TX2) (N := 11) hx hb hts iwX2 hown hK.1 hP 0 rfl rfl 7 (by decide) fk33 (fun _ h9 => h9) rfl dX2_has_6 ?_
    refine lv_icmp_ge (tgt := 16) hx hb dX2_has_9 (by decide) (fun c_2 => ?_) (fun c_2 => ?_)
    · refine lv_iconst (v := 0) hx hb dX2_has_16 (by decide) ?_
      have eG : f_X2_has n b = 0 := (if_neg c_1).trans (if_pos c_2)
      exact retRz hx hb hr hlocks rfl eG.symm dX2_has_17
    · refine lv_iconst (v := 1) hx hb dX2_has_12 (by decide) ?_
      refine lv_goto (tgt := 17) hx hb dX2_has_13 (by decide) ?_
      have eG : f_X2_has n b = 1 := (if_neg c_1).trans (if_neg c_2)
      exact retRz hx hb hr hlocks rfl eG.symm dX2_has_17
def f_X2_tell (kd : Nat → Int32) (st : Nat → Int32) (co : Nat → Int32) (gt : Nat → Int32) (pd : Nat → Int32) (de : Nat → Int32) (us : Nat → Int32) (j : Nat) (w : Int32) : Int32 := if w = 0 then kd j else if w = 1 then st j else if w = 2 then co j else if w = 3 then gt j else if w = 4 then pd j else if w = 5 then de j else us j
set_option maxHeartbeats 4000000 in
set_option maxRecDepth 100000 in
theorem c_X2_tell (l : Launch) (D : va_G) (cB cC cI : ClassId) (mh : Nat) (m0 : Nat) (m1 : Nat) (m2 : Nat) (m3 : Nat) (m4 : Nat) (m5 : Nat) (m6 : Nat) (kd : Nat → Int32) (st : Nat → Int32) (co : Nat → Int32) (gt : Nat → Int32) (pd : Nat → Int32) (de : Nat → Int32) (us : Nat → Int32) (n : Nat) (tl : Int32) (ho : Int32) (sl : Int32) (b : Int32) (j : Nat) (w : Int32) (hb4 : ix b j 4) : Met l yX2_tell wsX2_tell ({ frames := 0, cells := 0, slots := 0, locals := 0 }) (gPr D cB cC cI [.ref mh, .int b, .int w] [(mh, .inr (2, [.ref m0, .ref m1, .ref m2, .ref m3, .ref m4, .ref m5, .ref m6, .int (nI n), .int tl, .int ho, .int sl])), (m0, .inl (cI, 4, .inl kd)), (m1, .inl (cI, 4, .inl st)), (m2, .inl (cI, 4, .inl co)), (m3, .inl (cI, 4, .inl gt)), (m4, .inl (cI, 4, .inl pd)), (m5, .inl (cI, 4, .inl de)), (m6, .inl (cI, 4, .inl us))]) (vp_Si (fun r => r = (f_X2_tell kd st co gt pd de us j w))) 0 0 (fun _ => False) := by
  refine metR (cc := cX2_tell) (maxL := 3) (ret := (some .int)) RX2 rfl (by decide) rfl (Nat.le_of_ble_eq_true rfl) ?_
  intro p e s m below meth c hx hb hr hml hown hts hlocks hP hK ls hl
  have iwX2 : ∀ w ∈ wsX20, w ∈ wsX2_tell := by decide +kernel
  have fk9 := hts (.fieldLink RX2 9 "BuyersWeights$Market" "kinds" "[I") (by decide +kernel)
  have fk15 := hts (.fieldLink RX2 15 "BuyersWeights$Market" "stones" "[I") (by decide +kernel)
  have fk18 := hts (.fieldLink RX2 18 "BuyersWeights$Market" "coins" "[I") (by decide +kernel)
  have fk21 := hts (.fieldLink RX2 21 "BuyersWeights$Market" "got" "[I") (by decide +kernel)
  have fk24 := hts (.fieldLink RX2 24 "BuyersWeights$Market" "paid" "[I") (by decide +kernel)
  have fk27 := hts (.fieldLink RX2 27 "BuyersWeights$Market" "dealt" "[I") (by decide +kernel)
  have fk30 := hts (.fieldLink RX2 30 "BuyersWeights$Market" "used" "[I") (by decide +kernel)
  have hl : lv_has ls 3 [(0, .ref mh), (1, .int b), (2, .int w)] := hl
  refine lv_iload_n hx hb dX2_tell_0 rfl (lv_at hl 2 rfl) ?_
  by_cases k_1 : w = 0
  · refine lv_tableIn (off := 39) (tgt := 40) hx hb dX2_tell_1 (by rw [k_1]; decide) (by rw [k_1]; decide) (by rw [k_1]; decide +kernel) (by decide) ?_
    refine lv_aload_n hx hb dX2_tell_40 rfl (lv_at hl 0 rfl) ?_
    refine va_get (D := D) (ci := 2) (v := .ref m0) (C := RX2) (T := TX2) (N := 11) hx hb hts iwX2 hown hK.1 hP 0 rfl rfl 0 (by decide) fk9 (fun _ h9 => h9) rfl dX2_tell_41 ?_
    refine lv_iload_n hx hb dX2_tell_44 rfl (lv_at hl 1 rfl) ?_
    refine my_iald hx hb hK hP 1 rfl (j := j) hb4 dX2_tell_45 ?_
    have eG : f_X2_tell kd st co gt pd de us j w = kd j := if_pos k_1
    exact retRi hx hb hr hlocks eG.symm dX2_tell_46
  · by_cases k_2 : w = 1
    · refine lv_tableIn (off := 46) (tgt := 47) hx hb dX2_tell_1 (by rw [k_2]; decide) (by rw [k_2]; decide) (by rw [k_2]; decide +kernel) (by decide) ?_
      refine lv_aload_n hx hb dX2_tell_47 rfl (lv_at hl 0 rfl) ?_
      refine va_get (D := D) (ci := 2) (v := .ref m1) (C := RX2) (T := TX2) (N := 11) hx hb hts iwX2 hown hK.1 hP 0 rfl rfl 1 (by decide) fk15 (fun _ h9 => h9) rfl dX2_tell_48 ?_
      refine lv_iload_n hx hb dX2_tell_51 rfl (lv_at hl 1 rfl) ?_
      refine my_iald hx hb hK hP 2 rfl (j := j) hb4 dX2_tell_52 ?_
      have eG : f_X2_tell kd st co gt pd de us j w = st j := (if_neg k_1).trans (if_pos k_2)
      exact retRi hx hb hr hlocks eG.symm dX2_tell_53
    · by_cases k_3 : w = 2
      · refine lv_tableIn (off := 53) (tgt := 54) hx hb dX2_tell_1 (by rw [k_3]; decide) (by rw [k_3]; decide) (by rw [k_3]; decide +kernel) (by decide) ?_
        refine lv_aload_n hx hb dX2_tell_54 rfl (lv_at hl 0 rfl) ?_
        refine va_get (D := D) (ci := 2) (v := .ref m2) (C := RX2) (T := TX2) (N := 11) hx hb hts iwX2 hown hK.1 hP 0 rfl rfl 2 (by decide) fk18 (fun _ h9 => h9) rfl dX2_tell_55 ?_
        refine lv_iload_n hx hb dX2_tell_58 rfl (lv_at hl 1 rfl) ?_
        refine my_iald hx hb hK hP 3 rfl (j := j) hb4 dX2_tell_59 ?_
        have eG : f_X2_tell kd st co gt pd de us j w = co j := (if_neg k_1).trans ((if_neg k_2).trans (if_pos k_3))
        exact retRi hx hb hr hlocks eG.symm dX2_tell_60
      · by_cases k_4 : w = 3
        · refine lv_tableIn (off := 60) (tgt := 61) hx hb dX2_tell_1 (by rw [k_4]; decide) (by rw [k_4]; decide) (by rw [k_4]; decide +kernel) (by decide) ?_
          refine lv_aload_n hx hb dX2_tell_61 rfl (lv_at hl 0 rfl) ?_
          refine va_get (D := D) (ci := 2) (v := .ref m3) (C := RX2) (T := TX2) (N := 11) hx hb hts iwX2 hown hK.1 hP 0 rfl rfl 3 (by decide) fk21 (fun _ h9 => h9) rfl dX2_tell_62 ?_
          refine lv_iload_n hx hb dX2_tell_65 rfl (lv_at hl 1 rfl) ?_
          refine my_iald hx hb hK hP 4 rfl (j := j) hb4 dX2_tell_66 ?_
          have eG : f_X2_tell kd st co gt pd de us j w = gt j := (if_neg k_1).trans ((if_neg k_2).trans ((if_neg k_3).trans (if_pos k_4)))
          exact retRi hx hb hr hlocks eG.symm dX2_tell_67
        · by_cases k_5 : w = 4
          · refine lv_tableIn (off := 67) (tgt := 68) hx hb dX2_tell_1 (by rw [k_5]; decide) (by rw [k_5]; decide) (by rw [k_5]; decide +kernel) (by decide) ?_
            refine lv_aload_n hx hb dX2_tell_68 rfl (lv_at hl 0 rfl) ?_
            refine va_get (D := D) (ci := 2) (v := .ref m4) (C := RX2) (T := TX2) (N := 11) hx hb hts iwX2 hown hK.1 hP 0 rfl rfl 4 (by decide) fk24 (fun _ h9 => h9) rfl dX2_tell_69 ?_
            refine lv_iload_n hx hb dX2_tell_72 rfl (lv_at hl 1 rfl) ?_
            refine my_iald hx hb hK hP 5 rfl (j := j) hb4 dX2_tell_73 ?_
            have eG : f_X2_tell kd st co gt pd de us j w = pd j := (if_neg k_1).trans ((if_neg k_2).trans ((if_neg k_3).trans ((if_neg k_4).trans (if_pos k_5))))
            exact retRi hx hb hr hlocks eG.symm dX2_tell_74
          · by_cases k_6 : w = 5
            · refine lv_tableIn (off := 74) (tgt := 75) hx hb dX2_tell_1 (by rw [k_6]; decide) (by rw [k_6]; decide) (by rw [k_6]; decide +kernel) (by decide) ?_
              refine lv_aload_n hx hb dX2_tell_75 rfl (lv_at hl 0 rfl) ?_
              refine va_get (D := D) (ci := 2) (v := .ref m5) (C := RX2) (T := TX2) (N := 11) hx hb hts iwX2 hown hK.1 hP 0 rfl rfl 5 (by decide) fk27 (fun _ h9 => h9) rfl dX2_tell_76 ?_
              refine lv_iload_n hx hb dX2_tell_79 rfl (lv_at hl 1 rfl) ?_
              refine my_iald hx hb hK hP 6 rfl (j := j) hb4 dX2_tell_80 ?_
              have eG : f_X2_tell kd st co gt pd de us j w = de j := (if_neg k_1).trans ((if_neg k_2).trans ((if_neg k_3).trans ((if_neg k_4).trans ((if_neg k_5).trans (if_pos k_6)))))
              exact retRi hx hb hr hlocks eG.symm dX2_tell_81
            · have hout : w.toInt < 0 ∨ 5 < w.toInt := by
                have q0 := lv_neT (a := 0) k_1 (by decide)
                have q1 := lv_neT (a := 1) k_2 (by decide)
                have q2 := lv_neT (a := 2) k_3 (by decide)
                have q3 := lv_neT (a := 3) k_4 (by decide)
                have q4 := lv_neT (a := 4) k_5 (by decide)
                have q5 := lv_neT (a := 5) k_6 (by decide)
                omega
              refine lv_tableOut (tgt := 82) hx hb dX2_tell_1 hout (by decide) ?_
              refine lv_aload_n hx hb dX2_tell_82 rfl (lv_at hl 0 rfl) ?_
              refine va_get (D := D) (ci := 2) (v := .ref m6) (C := RX2) (T := TX2) (N := 11) hx hb hts iwX2 hown hK.1 hP 0 rfl rfl 6 (by decide) fk30 (fun _ h9 => h9) rfl dX2_tell_83 ?_
              refine lv_iload_n hx hb dX2_tell_86 rfl (lv_at hl 1 rfl) ?_
              refine my_iald hx hb hK hP 7 rfl (j := j) hb4 dX2_tell_87 ?_
              have eG : f_X2_tell kd st co gt pd de us j w = us j := (if_neg k_1).trans ((if_neg k_2).trans ((if_neg k_3).trans ((if_neg k_4).trans ((if_neg k_5).trans (if_neg k_6)))))
              exact retRi hx hb hr hlocks eG.symm dX2_tell_88
def f_X2_ounces (kd : Nat → Int32) (tl : Int32) (w : Int32) (j : Nat) (q : Int32) : Int32 := if (q - q / 2 * 2) = 0 then (if (kd j) = 3 then (if ((w - tl) + 1) < 0 then 0 else ((w - tl) + 1)) else if (w - tl) < 0 then 0 else (w - tl)) else if (kd j) = 3 then (if ((w + tl) + 1) < 0 then 0 else ((w + tl) + 1)) else if (w + tl) < 0 then 0 else (w + tl)
set_option maxHeartbeats 4000000 in
set_option maxRecDepth 100000 in
theorem c_X2_ounces (l : Launch) (D : va_G) (cB cC cI : ClassId) (mh : Nat) (m0 : Nat) (m1 : Nat) (m2 : Nat) (m3 : Nat) (m4 : Nat) (m5 : Nat) (m6 : Nat) (kd : Nat → Int32) (st : Nat → Int32) (co : Nat → Int32) (gt : Nat → Int32) (pd : Nat → Int32) (de : Nat → Int32) (us : Nat → Int32) (n : Nat) (tl : Int32) (ho : Int32) (sl : Int32) (w : Int32) (b : Int32) (j : Nat) (q : Int32) (hb4 : ix b j 4) : Met l yX2_ounces wsX2_ounces ({ frames := 1, cells := 0, slots := 0, locals := 13 }) (gPr D cB cC cI [.ref mh, .int w, .int b, .int q] [(mh, .inr (2, [.ref m0, .ref m1, .ref m2, .ref m3, .ref m4, .ref m5, .ref m6, .int (nI n), .int tl, .int ho, .int sl])), (m0, .inl (cI, 4, .inl kd)), (m1, .inl (cI, 4, .inl st)), (m2, .inl (cI, 4, .inl co)), (m3, .inl (cI, 4, .inl gt)), (m4, .inl (cI, 4, .inl pd)), (m5, .inl (cI, 4, .inl de)), (m6, .inl (cI, 4, .inl us))]) (vp_Si (fun r => r = (f_X2_ounces kd tl w j q))) 0 0 (fun _ => False) := by
  refine metR (cc := cX2_ounces) (maxL := 6) (ret := (some .int)) RX2 rfl (by decide) rfl (Nat.le_of_ble_eq_true rfl) ?_
  intro p e s m below meth c hx hb hr hml hown hts hlocks hP hK ls hl
  have iwX2 : ∀ w ∈ wsX20, w ∈ wsX2_ounces := by decide +kernel
  have fk37 := hts (.fieldLink RX2 37 "BuyersWeights$Market" "tilt" "I") (by decide +kernel)
  have fk9 := hts (.fieldLink RX2 9 "BuyersWeights$Market" "kinds" "[I") (by decide +kernel)
  have hl : lv_has ls 6 [(0, .ref mh), (1, .int w), (2, .int b), (3, .int q)] := hl
  refine lv_iload_n hx hb dX2_ounces_0 rfl (lv_at hl 3 rfl) ?_
  refine lv_iconst (v := 2) hx hb dX2_ounces_1 (by decide) ?_
  refine lv_irem hx hb dX2_ounces_2 (by decide) ?_
  refine lv_if_ne (tgt := 15) hx hb dX2_ounces_3 (by decide) (fun c_1 => ?_) (fun c_1 => ?_)
  · refine lv_iload_n hx hb dX2_ounces_15 rfl (lv_at hl 1 rfl) ?_
    refine lv_aload_n hx hb dX2_ounces_16 rfl (lv_at hl 0 rfl) ?_
    refine va_get (D := D) (ci := 2) (v := .int tl) (C := RX2) (T := TX2) (N := 11) hx hb hts iwX2 hown hK.1 hP 0 rfl rfl 8 (by decide) fk37 (fun _ h9 => h9) rfl dX2_ounces_17 ?_
    refine lv_iadd hx hb dX2_ounces_20 ?_
    refine lv_istore (lv' := [(4, .int (w + tl)), (0, .ref mh), (1, .int w), (2, .int b), (3, .int q)]) hx hb dX2_ounces_21 hl (by decide) rfl (fun ls hl => ?_)
    refine lv_aload_n hx hb dX2_ounces_23 rfl (lv_at hl 1 rfl) ?_
    refine va_get (D := D) (ci := 2) (v := .ref m0) (C := RX2) (T := TX2) (N := 11) hx hb hts iwX2 hown hK.1 hP 0 rfl rfl 0 (by decide) fk9 (fun _ h9 => h9) rfl dX2_ounces_24 ?_
    refine lv_iload_n hx hb dX2_ounces_27 rfl (lv_at hl 3 rfl) ?_
    refine my_iald hx hb hK hP 1 rfl (j := j) hb4 dX2_ounces_28 ?_
    refine lv_iconst (v := 3) hx hb dX2_ounces_29 (by decide) ?_
    refine lv_icmp_ne (tgt := 40) hx hb dX2_ounces_30 (by decide) (fun c_2 => ?_) (fun c_2 => ?_)
    · refine lv_iload hx hb dX2_ounces_40 (lv_at hl 0 rfl) ?_
      refine lv_istore (lv' := [(5, .int (w + tl)), (4, .int (w + tl)), (0, .ref mh), (1, .int w), (2, .int b), (3, .int q)]) hx hb dX2_ounces_42 hl (by decide) rfl (fun ls hl => ?_)
      refine lv_iload hx hb dX2_ounces_44 (lv_at hl 0 rfl) ?_
      refine lv_iconst (v := 0) hx hb dX2_ounces_46 (by decide) ?_
      refine va_mmax hx hb (hml.trans hl.1.symm) hown (hts (.methodLink RX2 62 Lib.Math.max.name) (by decide +kernel)) (hts (.static Lib.Math.max.name) (by decide +kernel)) (hts (.initialized "java/lang/Math") (by decide +kernel)) (hts (.code Lib.Math.max.name Lib.Math.max.code 2 (some .int)) (by decide +kernel)) (Nat.le_of_ble_eq_true rfl) (Nat.le_of_ble_eq_true rfl) (Nat.zero_le _) (Nat.zero_le _) dX2_ounces_47 ?_
      have eG : f_X2_ounces kd tl w j q = if (w + tl) < 0 then 0 else (w + tl) := (if_neg c_1).trans (if_neg c_2)
      exact retRi hx hb hr hlocks eG.symm dX2_ounces_50
    · refine lv_iload hx hb dX2_ounces_33 (lv_at hl 0 rfl) ?_
      refine lv_iconst (v := 1) hx hb dX2_ounces_35 (by decide) ?_
      refine lv_iadd hx hb dX2_ounces_36 ?_
      refine lv_goto (tgt := 42) hx hb dX2_ounces_37 (by decide) ?_
      refine lv_istore (lv' := [(5, .int ((w + tl) + 1)), (4, .int (w + tl)), (0, .ref mh), (1, .int w), (2, .int b), (3, .int q)]) hx hb dX2_ounces_42 hl (by decide) rfl (fun ls hl => ?_)
      refine lv_iload hx hb dX2_ounces_44 (lv_at hl 0 rfl) ?_
      refine lv_iconst (v := 0) hx hb dX2_ounces_46 (by decide) ?_
      refine va_mmax hx hb (hml.trans hl.1.symm) hown (hts (.methodLink RX2 62 Lib.Math.max.name) (by decide +kernel)) (hts (.static Lib.Math.max.name) (by decide +kernel)) (hts (.initialized "java/lang/Math") (by decide +kernel)) (hts (.code Lib.Math.max.name Lib.Math.max.code 2 (some .int)) (by decide +kernel)) (Nat.le_of_ble_eq_true rfl) (Nat.le_of_ble_eq_true rfl) (Nat.zero_le _) (Nat.zero_le _) dX2_ounces_47 ?_
      have eG : f_X2_ounces kd tl w j q = if ((w + tl) + 1) < 0 then 0 else ((w + tl) + 1) := (if_neg c_1).trans (if_pos c_2)
      exact retRi hx hb hr hlocks eG.symm dX2_ounces_50
  · refine lv_iload_n hx hb dX2_ounces_6 rfl (lv_at hl 1 rfl) ?_
    refine lv_aload_n hx hb dX2_ounces_7 rfl (lv_at hl 0 rfl) ?_
    refine va_get (D := D) (ci := 2) (v := .int tl) (C := RX2) (T := TX2) (N := 11) hx hb hts iwX2 hown hK.1 hP 0 rfl rfl 8 (by decide) fk37 (fun _ h9 => h9) rfl dX2_ounces_8 ?_
    refine lv_isub hx hb dX2_ounces_11 ?_
    refine lv_goto (tgt := 21) hx hb dX2_ounces_12 (by decide) ?_
    refine lv_istore (lv' := [(4, .int (w - tl)), (0, .ref mh), (1, .int w), (2, .int b), (3, .int q)]) hx hb dX2_ounces_21 hl (by decide) rfl (fun ls hl => ?_)
    refine lv_aload_n hx hb dX2_ounces_23 rfl (lv_at hl 1 rfl) ?_
    refine va_get (D := D) (ci := 2) (v := .ref m0) (C := RX2) (T := TX2) (N := 11) hx hb hts iwX2 hown hK.1 hP 0 rfl rfl 0 (by decide) fk9 (fun _ h9 => h9) rfl dX2_ounces_24 ?_
    refine lv_iload_n hx hb dX2_ounces_27 rfl (lv_at hl 3 rfl) ?_
    refine my_iald hx hb hK hP 1 rfl (j := j) hb4 dX2_ounces_28 ?_
    refine lv_iconst (v := 3) hx hb dX2_ounces_29 (by decide) ?_
    refine lv_icmp_ne (tgt := 40) hx hb dX2_ounces_30 (by decide) (fun c_3 => ?_) (fun c_3 => ?_)
    · refine lv_iload hx hb dX2_ounces_40 (lv_at hl 0 rfl) ?_
      refine lv_istore (lv' := [(5, .int (w - tl)), (4, .int (w - tl)), (0, .ref mh), (1, .int w), (2, .int b), (3, .int q)]) hx hb dX2_ounces_42 hl (by decide) rfl (fun ls hl => ?_)
      refine lv_iload hx hb dX2_ounces_44 (lv_at hl 0 rfl) ?_
      refine lv_iconst (v := 0) hx hb dX2_ounces_46 (by decide) ?_
      refine va_mmax hx hb (hml.trans hl.1.symm) hown (hts (.methodLink RX2 62 Lib.Math.max.name) (by decide +kernel)) (hts (.static Lib.Math.max.name) (by decide +kernel)) (hts (.initialized "java/lang/Math") (by decide +kernel)) (hts (.code Lib.Math.max.name Lib.Math.max.code 2 (some .int)) (by decide +kernel)) (Nat.le_of_ble_eq_true rfl) (Nat.le_of_ble_eq_true rfl) (Nat.zero_le _) (Nat.zero_le _) dX2_ounces_47 ?_
      have eG : f_X2_ounces kd tl w j q = if (w - tl) < 0 then 0 else (w - tl) := (if_pos c_1).trans (if_neg c_3)
      exact retRi hx hb hr hlocks eG.symm dX2_ounces_50
    · refine lv_iload hx hb dX2_ounces_33 (lv_at hl 0 rfl) ?_
      refine lv_iconst (v := 1) hx hb dX2_ounces_35 (by decide) ?_
      refine lv_iadd hx hb dX2_ounces_36 ?_
      refine lv_goto (tgt := 42) hx hb dX2_ounces_37 (by decide) ?_
      refine lv_istore (lv' := [(5, .int ((w - tl) + 1)), (4, .int (w - tl)), (0, .ref mh), (1, .int w), (2, .int b), (3, .int q)]) hx hb dX2_ounces_42 hl (by decide) rfl (fun ls hl => ?_)
      refine lv_iload hx hb dX2_ounces_44 (lv_at hl 0 rfl) ?_
      refine lv_iconst (v := 0) hx hb dX2_ounces_46 (by decide) ?_
      refine va_mmax hx hb (hml.trans hl.1.symm) hown (hts (.methodLink RX2 62 Lib.Math.max.name) (by decide +kernel)) (hts (.static Lib.Math.max.name) (by decide +kernel)) (hts (.initialized "java/lang/Math") (by decide +kernel)) (hts (.code Lib.Math.max.name Lib.Math.max.code 2 (some .int)) (by decide +kernel)) (Nat.le_of_ble_eq_true rfl) (Nat.le_of_ble_eq_true rfl) (Nat.zero_le _) (Nat.zero_le _) dX2_ounces_47 ?_
      have eG : f_X2_ounces kd tl w j q = if ((w - tl) + 1) < 0 then 0 else ((w - tl) + 1) := (if_pos c_1).trans (if_pos c_3)
      exact retRi hx hb hr hlocks eG.symm dX2_ounces_50
def f_X2_weightAfter (kd : Nat → Int32) (w : Int32) (j : Nat) (k : Nat) : Int32 := if (kd j) = 2 then (if (kd k) = 4 then (if ((w - 1) - 2) < 1 then 1 else ((w - 1) - 2)) else if (kd k) = 1 then (if ((w - 1) - 1) < 1 then 1 else ((w - 1) - 1)) else if ((w - 1) - 0) < 1 then 1 else ((w - 1) - 0)) else if (kd k) = 4 then (if ((w - 0) - 2) < 1 then 1 else ((w - 0) - 2)) else if (kd k) = 1 then (if ((w - 0) - 1) < 1 then 1 else ((w - 0) - 1)) else if ((w - 0) - 0) < 1 then 1 else ((w - 0) - 0)
set_option maxHeartbeats 4000000 in
set_option maxRecDepth 100000 in
theorem c_X2_weightAfter (l : Launch) (D : va_G) (cB cC cI : ClassId) (mh : Nat) (m0 : Nat) (m1 : Nat) (m2 : Nat) (m3 : Nat) (m4 : Nat) (m5 : Nat) (m6 : Nat) (kd : Nat → Int32) (st : Nat → Int32) (co : Nat → Int32) (gt : Nat → Int32) (pd : Nat → Int32) (de : Nat → Int32) (us : Nat → Int32) (n : Nat) (tl : Int32) (ho : Int32) (sl : Int32) (w : Int32) (b : Int32) (j : Nat) (q : Int32) (k : Nat) (hb4 : ix b j 4) (hq4 : ix q k 4) : Met l yX2_weightAfter wsX2_weightAfter ({ frames := 1, cells := 0, slots := 0, locals := 13 }) (gPr D cB cC cI [.ref mh, .int w, .int b, .int q] [(mh, .inr (2, [.ref m0, .ref m1, .ref m2, .ref m3, .ref m4, .ref m5, .ref m6, .int (nI n), .int tl, .int ho, .int sl])), (m0, .inl (cI, 4, .inl kd)), (m1, .inl (cI, 4, .inl st)), (m2, .inl (cI, 4, .inl co)), (m3, .inl (cI, 4, .inl gt)), (m4, .inl (cI, 4, .inl pd)), (m5, .inl (cI, 4, .inl de)), (m6, .inl (cI, 4, .inl us))]) (vp_Si (fun r => r = (f_X2_weightAfter kd w j k))) 0 0 (fun _ => False) := by
  refine metR (cc := cX2_weightAfter) (maxL := 6) (ret := (some .int)) RX2 rfl (by decide) rfl (Nat.le_of_ble_eq_true rfl) ?_
  intro p e s m below meth c hx hb hr hml hown hts hlocks hP hK ls hl
  have iwX2 : ∀ w ∈ wsX20, w ∈ wsX2_weightAfter := by decide +kernel
  have fk9 := hts (.fieldLink RX2 9 "BuyersWeights$Market" "kinds" "[I") (by decide +kernel)
  have hl : lv_has ls 6 [(0, .ref mh), (1, .int w), (2, .int b), (3, .int q)] := hl
  refine lv_aload_n hx hb dX2_weightAfter_0 rfl (lv_at hl 0 rfl) ?_
  refine va_get (D := D) (ci := 2) (v := .ref m0) (C := RX2) (T := TX2) (N := 11) hx hb hts iwX2 hown hK.1 hP 0 rfl rfl 0 (by decide) fk9 (fun _ h9 => h9) rfl dX2_weightAfter_1 ?_
  refine lv_iload_n hx hb dX2_weightAfter_4 rfl (lv_at hl 2 rfl) ?_
  refine my_iald hx hb hK hP 1 rfl (j := j) hb4 dX2_weightAfter_5 ?_
  refine lv_iconst (v := 2) hx hb dX2_weightAfter_6 (by decide) ?_
  refine lv_icmp_ne (tgt := 14) hx hb dX2_weightAfter_7 (by decide) (fun c_1 => ?_) (fun c_1 => ?_)
  · refine lv_iconst (v := 0) hx hb dX2_weightAfter_14 (by decide) ?_
    refine lv_istore (lv' := [(4, .int 0), (0, .ref mh), (1, .int w), (2, .int b), (3, .int q)]) hx hb dX2_weightAfter_15 hl (by decide) rfl (fun ls hl => ?_)
    refine lv_aload_n hx hb dX2_weightAfter_17 rfl (lv_at hl 1 rfl) ?_
    refine va_get (D := D) (ci := 2) (v := .ref m0) (C := RX2) (T := TX2) (N := 11) hx hb hts iwX2 hown hK.1 hP 0 rfl rfl 0 (by decide) fk9 (fun _ h9 => h9) rfl dX2_weightAfter_18 ?_
    refine lv_iload_n hx hb dX2_weightAfter_21 rfl (lv_at hl 4 rfl) ?_
    refine my_iald hx hb hK hP 1 rfl (j := k) hq4 dX2_weightAfter_22 ?_
    refine lv_iconst (v := 4) hx hb dX2_weightAfter_23 (by decide) ?_
    refine lv_icmp_ne (tgt := 31) hx hb dX2_weightAfter_24 (by decide) (fun c_2 => ?_) (fun c_2 => ?_)
    · refine lv_aload_n hx hb dX2_weightAfter_31 rfl (lv_at hl 1 rfl) ?_
      refine va_get (D := D) (ci := 2) (v := .ref m0) (C := RX2) (T := TX2) (N := 11) hx hb hts iwX2 hown hK.1 hP 0 rfl rfl 0 (by decide) fk9 (fun _ h9 => h9) rfl dX2_weightAfter_32 ?_
      refine lv_iload_n hx hb dX2_weightAfter_35 rfl (lv_at hl 4 rfl) ?_
      refine my_iald hx hb hK hP 1 rfl (j := k) hq4 dX2_weightAfter_36 ?_
      refine lv_iconst (v := 1) hx hb dX2_weightAfter_37 (by decide) ?_
      refine lv_icmp_ne (tgt := 45) hx hb dX2_weightAfter_38 (by decide) (fun c_3 => ?_) (fun c_3 => ?_)
      · refine lv_iconst (v := 0) hx hb dX2_weightAfter_45 (by decide) ?_
        refine lv_istore (lv' := [(5, .int 0), (4, .int 0), (0, .ref mh), (1, .int w), (2, .int b), (3, .int q)]) hx hb dX2_weightAfter_46 hl (by decide) rfl (fun ls hl => ?_)
        refine lv_iload_n hx hb dX2_weightAfter_48 rfl (lv_at hl 3 rfl) ?_
        refine lv_iload hx hb dX2_weightAfter_49 (lv_at hl 1 rfl) ?_
        refine lv_isub hx hb dX2_weightAfter_51 ?_
        refine lv_iload hx hb dX2_weightAfter_52 (lv_at hl 0 rfl) ?_
        refine lv_isub hx hb dX2_weightAfter_54 ?_
        refine lv_iconst (v := 1) hx hb dX2_weightAfter_55 (by decide) ?_
        refine va_mmax hx hb (hml.trans hl.1.symm) hown (hts (.methodLink RX2 62 Lib.Math.max.name) (by decide +kernel)) (hts (.static Lib.Math.max.name) (by decide +kernel)) (hts (.initialized "java/lang/Math") (by decide +kernel)) (hts (.code Lib.Math.max.name Lib.Math.max.code 2 (some .int)) (by decide +kernel)) (Nat.le_of_ble_eq_true rfl) (Nat.le_of_ble_eq_true rfl) (Nat.zero_le _) (Nat.zero_le _) dX2_weightAfter_56 ?_
        have eG : f_X2_weightAfter kd w j k = if ((w - 0) - 0) < 1 then 1 else ((w - 0) - 0) := (if_neg c_1).trans ((if_neg c_2).trans (if_neg c_3))
        exact retRi hx hb hr hlocks eG.symm dX2_weightAfter_59
      · refine lv_iconst (v := 1) hx hb dX2_weightAfter_41 (by decide) ?_
        refine lv_goto (tgt := 46) hx hb dX2_weightAfter_42 (by decide) ?_
        refine lv_istore (lv' := [(5, .int 1), (4, .int 0), (0, .ref mh), (1, .int w), (2, .int b), (3, .int q)]) hx hb dX2_weightAfter_46 hl (by decide) rfl (fun ls hl => ?_)
        refine lv_iload_n hx hb dX2_weightAfter_48 rfl (lv_at hl 3 rfl) ?_
        refine lv_iload hx hb dX2_weightAfter_49 (lv_at hl 1 rfl) ?_
        refine lv_isub hx hb dX2_weightAfter_51 ?_
        refine lv_iload hx hb dX2_weightAfter_52 (lv_at hl 0 rfl) ?_
        refine lv_isub hx hb dX2_weightAfter_54 ?_
        refine lv_iconst (v := 1) hx hb dX2_weightAfter_55 (by decide) ?_
        refine va_mmax hx hb (hml.trans hl.1.symm) hown (hts (.methodLink RX2 62 Lib.Math.max.name) (by decide +kernel)) (hts (.static Lib.Math.max.name) (by decide +kernel)) (hts (.initialized "java/lang/Math") (by decide +kernel)) (hts (.code Lib.Math.max.name Lib.Math.max.code 2 (some .int)) (by decide +kernel)) (Nat.le_of_ble_eq_true rfl) (Nat.le_of_ble_eq_true rfl) (Nat.zero_le _) (Nat.zero_le _) dX2_weightAfter_56 ?_
        have eG : f_X2_weightAfter kd w j k = if ((w - 0) - 1) < 1 then 1 else ((w - 0) - 1) := (if_neg c_1).trans ((if_neg c_2).trans (if_pos c_3))
        exact retRi hx hb hr hlocks eG.symm dX2_weightAfter_59
    · refine lv_iconst (v := 2) hx hb dX2_weightAfter_27 (by decide) ?_
      refine lv_goto (tgt := 46) hx hb dX2_weightAfter_28 (by decide) ?_
      refine lv_istore (lv' := [(5, .int 2), (4, .int 0), (0, .ref mh), (1, .int w), (2, .int b), (3, .int q)]) hx hb dX2_weightAfter_46 hl (by decide) rfl (fun ls hl => ?_)
      refine lv_iload_n hx hb dX2_weightAfter_48 rfl (lv_at hl 3 rfl) ?_
      refine lv_iload hx hb dX2_weightAfter_49 (lv_at hl 1 rfl) ?_
      refine lv_isub hx hb dX2_weightAfter_51 ?_
      refine lv_iload hx hb dX2_weightAfter_52 (lv_at hl 0 rfl) ?_
      refine lv_isub hx hb dX2_weightAfter_54 ?_
      refine lv_iconst (v := 1) hx hb dX2_weightAfter_55 (by decide) ?_
      refine va_mmax hx hb (hml.trans hl.1.symm) hown (hts (.methodLink RX2 62 Lib.Math.max.name) (by decide +kernel)) (hts (.static Lib.Math.max.name) (by decide +kernel)) (hts (.initialized "java/lang/Math") (by decide +kernel)) (hts (.code Lib.Math.max.name Lib.Math.max.code 2 (some .int)) (by decide +kernel)) (Nat.le_of_ble_eq_true rfl) (Nat.le_of_ble_eq_true rfl) (Nat.zero_le _) (Nat.zero_le _) dX2_weightAfter_56 ?_
      have eG : f_X2_weightAfter kd w j k = if ((w - 0) - 2) < 1 then 1 else ((w - 0) - 2) := (if_neg c_1).trans (if_pos c_2)
      exact retRi hx hb hr hlocks eG.symm dX2_weightAfter_59
  · refine lv_iconst (v := 1) hx hb dX2_weightAfter_10 (by decide) ?_
    refine lv_goto (tgt := 15) hx hb dX2_weightAfter_11 (by decide) ?_
    refine lv_istore (lv' := [(4, .int 1), (0, .ref mh), (1, .int w), (2, .int b), (3, .int q)]) hx hb dX2_weightAfter_15 hl (by decide) rfl (fun ls hl => ?_)
    refine lv_aload_n hx hb dX2_weightAfter_17 rfl (lv_at hl 1 rfl) ?_
    refine va_get (D := D) (ci := 2) (v := .ref m0) (C := RX2) (T := TX2) (N := 11) hx hb hts iwX2 hown hK.1 hP 0 rfl rfl 0 (by decide) fk9 (fun _ h9 => h9) rfl dX2_weightAfter_18 ?_
    refine lv_iload_n hx hb dX2_weightAfter_21 rfl (lv_at hl 4 rfl) ?_
    refine my_iald hx hb hK hP 1 rfl (j := k) hq4 dX2_weightAfter_22 ?_
    refine lv_iconst (v := 4) hx hb dX2_weightAfter_23 (by decide) ?_
    refine lv_icmp_ne (tgt := 31) hx hb dX2_weightAfter_24 (by decide) (fun c_4 => ?_) (fun c_4 => ?_)
    · refine lv_aload_n hx hb dX2_weightAfter_31 rfl (lv_at hl 1 rfl) ?_
      refine va_get (D := D) (ci := 2) (v := .ref m0) (C := RX2) (T := TX2) (N := 11) hx hb hts iwX2 hown hK.1 hP 0 rfl rfl 0 (by decide) fk9 (fun _ h9 => h9) rfl dX2_weightAfter_32 ?_
      refine lv_iload_n hx hb dX2_weightAfter_35 rfl (lv_at hl 4 rfl) ?_
      refine my_iald hx hb hK hP 1 rfl (j := k) hq4 dX2_weightAfter_36 ?_
      refine lv_iconst (v := 1) hx hb dX2_weightAfter_37 (by decide) ?_
      refine lv_icmp_ne (tgt := 45) hx hb dX2_weightAfter_38 (by decide) (fun c_5 => ?_) (fun c_5 => ?_)
      · refine lv_iconst (v := 0) hx hb dX2_weightAfter_45 (by decide) ?_
        refine lv_istore (lv' := [(5, .int 0), (4, .int 1), (0, .ref mh), (1, .int w), (2, .int b), (3, .int q)]) hx hb dX2_weightAfter_46 hl (by decide) rfl (fun ls hl => ?_)
        refine lv_iload_n hx hb dX2_weightAfter_48 rfl (lv_at hl 3 rfl) ?_
        refine lv_iload hx hb dX2_weightAfter_49 (lv_at hl 1 rfl) ?_
        refine lv_isub hx hb dX2_weightAfter_51 ?_
        refine lv_iload hx hb dX2_weightAfter_52 (lv_at hl 0 rfl) ?_
        refine lv_isub hx hb dX2_weightAfter_54 ?_
        refine lv_iconst (v := 1) hx hb dX2_weightAfter_55 (by decide) ?_
        refine va_mmax hx hb (hml.trans hl.1.symm) hown (hts (.methodLink RX2 62 Lib.Math.max.name) (by decide +kernel)) (hts (.static Lib.Math.max.name) (by decide +kernel)) (hts (.initialized "java/lang/Math") (by decide +kernel)) (hts (.code Lib.Math.max.name Lib.Math.max.code 2 (some .int)) (by decide +kernel)) (Nat.le_of_ble_eq_true rfl) (Nat.le_of_ble_eq_true rfl) (Nat.zero_le _) (Nat.zero_le _) dX2_weightAfter_56 ?_
        have eG : f_X2_weightAfter kd w j k = if ((w - 1) - 0) < 1 then 1 else ((w - 1) - 0) := (if_pos c_1).trans ((if_neg c_4).trans (if_neg c_5))
        exact retRi hx hb hr hlocks eG.symm dX2_weightAfter_59
      · refine lv_iconst (v := 1) hx hb dX2_weightAfter_41 (by decide) ?_
        refine lv_goto (tgt := 46) hx hb dX2_weightAfter_42 (by decide) ?_
        refine lv_istore (lv' := [(5, .int 1), (4, .int 1), (0, .ref mh), (1, .int w), (2, .int b), (3, .int q)]) hx hb dX2_weightAfter_46 hl (by decide) rfl (fun ls hl => ?_)
        refine lv_iload_n hx hb dX2_weightAfter_48 rfl (lv_at hl 3 rfl) ?_
        refine lv_iload hx hb dX2_weightAfter_49 (lv_at hl 1 rfl) ?_
        refine lv_isub hx hb dX2_weightAfter_51 ?_
        refine lv_iload hx hb dX2_weightAfter_52 (lv_at hl 0 rfl) ?_
        refine lv_isub hx hb dX2_weightAfter_54 ?_
        refine lv_iconst (v := 1) hx hb dX2_weightAfter_55 (by decide) ?_
        refine va_mmax hx hb (hml.trans hl.1.symm) hown (hts (.methodLink RX2 62 Lib.Math.max.name) (by decide +kernel)) (hts (.static Lib.Math.max.name) (by decide +kernel)) (hts (.initialized "java/lang/Math") (by decide +kernel)) (hts (.code Lib.Math.max.name Lib.Math.max.code 2 (some .int)) (by decide +kernel)) (Nat.le_of_ble_eq_true rfl) (Nat.le_of_ble_eq_true rfl) (Nat.zero_le _) (Nat.zero_le _) dX2_weightAfter_56 ?_
        have eG : f_X2_weightAfter kd w j k = if ((w - 1) - 1) < 1 then 1 else ((w - 1) - 1) := (if_pos c_1).trans ((if_neg c_4).trans (if_pos c_5))
        exact retRi hx hb hr hlocks eG.symm dX2_weightAfter_59
    · refine lv_iconst (v := 2) hx hb dX2_weightAfter_27 (by decide) ?_
      refine lv_goto (tgt := 46) hx hb dX2_weightAfter_28 (by decide) ?_
      refine lv_istore (lv' := [(5, .int 2), (4, .int 1), (0, .ref mh), (1, .int w), (2, .int b), (3, .int q)]) hx hb dX2_weightAfter_46 hl (by decide) rfl (fun ls hl => ?_)
      refine lv_iload_n hx hb dX2_weightAfter_48 rfl (lv_at hl 3 rfl) ?_
      refine lv_iload hx hb dX2_weightAfter_49 (lv_at hl 1 rfl) ?_
      refine lv_isub hx hb dX2_weightAfter_51 ?_
      refine lv_iload hx hb dX2_weightAfter_52 (lv_at hl 0 rfl) ?_
      refine lv_isub hx hb dX2_weightAfter_54 ?_
      refine lv_iconst (v := 1) hx hb dX2_weightAfter_55 (by decide) ?_
      refine va_mmax hx hb (hml.trans hl.1.symm) hown (hts (.methodLink RX2 62 Lib.Math.max.name) (by decide +kernel)) (hts (.static Lib.Math.max.name) (by decide +kernel)) (hts (.initialized "java/lang/Math") (by decide +kernel)) (hts (.code Lib.Math.max.name Lib.Math.max.code 2 (some .int)) (by decide +kernel)) (Nat.le_of_ble_eq_true rfl) (Nat.le_of_ble_eq_true rfl) (Nat.zero_le _) (Nat.zero_le _) dX2_weightAfter_56 ?_
      have eG : f_X2_weightAfter kd w j k = if ((w - 1) - 2) < 1 then 1 else ((w - 1) - 2) := (if_pos c_1).trans (if_pos c_4)
      exact retRi hx hb hr hlocks eG.symm dX2_weightAfter_59
set_option maxHeartbeats 4000000 in
set_option maxRecDepth 100000 in
theorem c_X2_sum (l : Launch) (D : va_G) (cB cC cI : ClassId) (mh : Nat) (m0 : Nat) (m1 : Nat) (m2 : Nat) (m3 : Nat) (m4 : Nat) (m5 : Nat) (m6 : Nat) (ra : Nat) (rf : Nat → Int32) (n : Nat) (tl : Int32) (ho : Int32) (sl : Int32) (hn : n ≤ 4) : Met l yX2_sum wsX2_sum ({ frames := 0, cells := 0, slots := 0, locals := 0 }) (gPr D cB cC cI [.ref mh, .ref ra] [(mh, .inr (2, [.ref m0, .ref m1, .ref m2, .ref m3, .ref m4, .ref m5, .ref m6, .int (nI n), .int tl, .int ho, .int sl])), (ra, .inl (cI, 4, .inl rf))]) (vp_Si (fun r => r = sumL rf n)) 0 0 (fun _ => False) := by
  refine metR (cc := cX2_sum) (maxL := 4) (ret := (some .int)) RX2 rfl (by decide) rfl (Nat.le_of_ble_eq_true rfl) ?_
  intro p e s m below meth c hx hb hr hml hown hts hlocks hP hK ls hl
  have iwX2 : ∀ w ∈ wsX20, w ∈ wsX2_sum := by decide +kernel
  have fk33 := hts (.fieldLink RX2 33 "BuyersWeights$Market" "houses" "I") (by decide +kernel)
  have cut_4 : ∀ (fu : Nat) (j : Nat), j ≤ n → n - j < fu → ∀ (ls : Array Slot), lv_has ls 4 [(0, .ref mh), (1, .ref ra), (3, .int (nI j)), (2, .int (sumL rf j))] → W p l e (headSpec wsX2_sum ({ frames := 0, cells := 0, slots := 0, locals := 0 })).room s m ([.ref mh, .ref ra] : List Value).toArray below meth c s.heap [] 0 0 (MQ below (vp_Si (fun r => r = sumL rf n)) ([.ref mh, .ref ra] : List Value).toArray s 0 0 (fun _ => False)) (F0 m 4 ls []) := by
    intro fu
    induction fu with
    | zero => intro j hj hfu; exact absurd hfu (Nat.not_lt_zero _)
    | succ fu ih_4 =>
      intro j hj hfu ls hl
      refine lv_iload_n hx hb dX2_sum_4 rfl (lv_at hl 2 rfl) ?_
      refine lv_aload_n hx hb dX2_sum_5 rfl (lv_at hl 0 rfl) ?_
      refine va_get (D := D) (ci := 2) (v := .int (nI n)) (C := RX2) (T := TX2) (N := 11) hx hb hts iwX2 hown hK.1 hP 0 rfl rfl 7 (by decide) fk33 (fun _ h9 => h9) rfl dX2_sum_6 ?_
      refine lv_icmp_ge (tgt := 24) hx hb dX2_sum_9 (by decide) (fun c_1 => ?_) (fun c_1 => ?_)
      · have hge : n ≤ j := (nI_leI (by omega) (by omega)).mp c_1
        refine lv_iload_n hx hb dX2_sum_24 rfl (lv_at hl 3 rfl) ?_
        exact retRi hx hb hr hlocks (by rw [show j = n from by omega]) dX2_sum_25
      · have hlt : j < n := Nat.lt_of_not_le fun z => c_1 ((nI_leI (by omega) (by omega)).mpr z)
        refine lv_iload_n hx hb dX2_sum_12 rfl (lv_at hl 3 rfl) ?_
        refine lv_aload_n hx hb dX2_sum_13 rfl (lv_at hl 1 rfl) ?_
        refine lv_iload_n hx hb dX2_sum_14 rfl (lv_at hl 2 rfl) ?_
        refine my_iald hx hb hK hP 1 rfl (j := j) (ix_nI (by omega) (by decide)) dX2_sum_15 ?_
        refine lv_iadd hx hb dX2_sum_16 ?_
        refine lv_istore_n (lv' := [(2, .int ((sumL rf j) + (rf j))), (0, .ref mh), (1, .ref ra), (3, .int (nI j))]) hx hb dX2_sum_17 rfl hl (by decide) rfl (fun ls hl => ?_)
        refine lv_iinc (v := nI (j + 1)) (lv' := [(3, .int (nI (j + 1))), (2, .int ((sumL rf j) + (rf j))), (0, .ref mh), (1, .ref ra)]) hx hb dX2_sum_18 hl (k := 3) rfl (nI_1 j) (by decide) rfl (fun ls hl => ?_)
        refine lv_goto (tgt := 4) hx hb dX2_sum_21 (by decide) ?_
        exact ih_4 (j + 1) (by first | assumption | omega | rfl | exact Nat.zero_le _ | decide) (by omega) ls (lv_sub hl [2, 3, 0, 1] rfl)
  have hl : lv_has ls 4 [(0, .ref mh), (1, .ref ra)] := hl
  refine lv_iconst (v := 0) hx hb dX2_sum_0 (by decide) ?_
  refine lv_istore_n (lv' := [(2, .int 0), (0, .ref mh), (1, .ref ra)]) hx hb dX2_sum_1 rfl hl (by decide) rfl (fun ls hl => ?_)
  refine lv_iconst (v := 0) hx hb dX2_sum_2 (by decide) ?_
  refine lv_istore_n (lv' := [(3, .int 0), (2, .int 0), (0, .ref mh), (1, .ref ra)]) hx hb dX2_sum_3 rfl hl (by decide) rfl (fun ls hl => ?_)
  exact cut_4 ((n - 0) + 1) 0 (by first | assumption | omega | rfl | exact Nat.zero_le _ | decide) (Nat.lt_succ_self _) ls (lv_sub hl [2, 3, 0, 1] rfl)
def f_X5_isOfKind (a1 : Int32) (a2 : Int32) : Int32 := if a2 = 0 then 1 else if a1 = a2 then 1 else if a1 = 4 then (if a2 = 1 then 1 else 0) else 0
set_option maxHeartbeats 4000000 in
set_option maxRecDepth 100000 in
theorem c_X5_isOfKind (l : Launch) (D : va_G) (cB cC cI : ClassId) (a1 : Int32) (a2 : Int32)  : Met l yX5_isOfKind wsX5_isOfKind ({ frames := 0, cells := 0, slots := 0, locals := 0 }) (gPr D cB cC cI [.int a1, .int a2] []) (vp_Si (fun r => r = (f_X5_isOfKind a1 a2))) 0 0 (fun _ => False) := by
  refine metR (cc := cX5_isOfKind) (maxL := 2) (ret := (some .boolean)) RX5 rfl (by decide) rfl (Nat.le_of_ble_eq_true rfl) ?_
  intro p e s m below meth c hx hb hr hml hown hts hlocks hP hK ls hl
  have hl : lv_has ls 2 [(0, .int a1), (1, .int a2)] := hl
  refine lv_iload_n hx hb dX5_isOfKind_0 rfl (lv_at hl 1 rfl) ?_
  refine lv_if_eq (tgt := 19) hx hb dX5_isOfKind_1 (by decide) (fun c_1 => ?_) (fun c_1 => ?_)
  · refine lv_iconst (v := 1) hx hb dX5_isOfKind_19 (by decide) ?_
    refine lv_goto (tgt := 24) hx hb dX5_isOfKind_20 (by decide) ?_
    have eG : f_X5_isOfKind a1 a2 = 1 := if_pos c_1
    exact retRz hx hb hr hlocks rfl eG.symm dX5_isOfKind_24
  · refine lv_iload_n hx hb dX5_isOfKind_4 rfl (lv_at hl 0 rfl) ?_
    refine lv_iload_n hx hb dX5_isOfKind_5 rfl (lv_at hl 1 rfl) ?_
    refine lv_icmp_eq (tgt := 19) hx hb dX5_isOfKind_6 (by decide) (fun c_2 => ?_) (fun c_2 => ?_)
    · refine lv_iconst (v := 1) hx hb dX5_isOfKind_19 (by decide) ?_
      refine lv_goto (tgt := 24) hx hb dX5_isOfKind_20 (by decide) ?_
      have eG : f_X5_isOfKind a1 a2 = 1 := (if_neg c_1).trans (if_pos c_2)
      exact retRz hx hb hr hlocks rfl eG.symm dX5_isOfKind_24
    · refine lv_iload_n hx hb dX5_isOfKind_9 rfl (lv_at hl 0 rfl) ?_
      refine lv_iconst (v := 4) hx hb dX5_isOfKind_10 (by decide) ?_
      refine lv_icmp_ne (tgt := 23) hx hb dX5_isOfKind_11 (by decide) (fun c_3 => ?_) (fun c_3 => ?_)
      · refine lv_iconst (v := 0) hx hb dX5_isOfKind_23 (by decide) ?_
        have eG : f_X5_isOfKind a1 a2 = 0 := (if_neg c_1).trans ((if_neg c_2).trans (if_neg c_3))
        exact retRz hx hb hr hlocks rfl eG.symm dX5_isOfKind_24
      · refine lv_iload_n hx hb dX5_isOfKind_14 rfl (lv_at hl 1 rfl) ?_
        refine lv_iconst (v := 1) hx hb dX5_isOfKind_15 (by decide) ?_
        refine lv_icmp_ne (tgt := 23) hx hb dX5_isOfKind_16 (by decide) (fun c_4 => ?_) (fun c_4 => ?_)
        · refine lv_iconst (v := 0) hx hb dX5_isOfKind_23 (by decide) ?_
          have eG : f_X5_isOfKind a1 a2 = 0 := (if_neg c_1).trans ((if_neg c_2).trans ((if_pos c_3).trans (if_neg c_4)))
          exact retRz hx hb hr hlocks rfl eG.symm dX5_isOfKind_24
        · refine lv_iconst (v := 1) hx hb dX5_isOfKind_19 (by decide) ?_
          refine lv_goto (tgt := 24) hx hb dX5_isOfKind_20 (by decide) ?_
          have eG : f_X5_isOfKind a1 a2 = 1 := (if_neg c_1).trans ((if_neg c_2).trans ((if_pos c_3).trans (if_pos c_4)))
          exact retRz hx hb hr hlocks rfl eG.symm dX5_isOfKind_24
def f_X5_isPlanQuestion (a1 : Int32) : Int32 := if a1 = 0 then 1 else if a1 = 1 then 1 else if a1 < 10 then 0 else if 13 ≤ a1 then 0 else 1
set_option maxHeartbeats 4000000 in
set_option maxRecDepth 100000 in
theorem c_X5_isPlanQuestion (l : Launch) (D : va_G) (cB cC cI : ClassId) (a1 : Int32)  : Met l yX5_isPlanQuestion wsX5_isPlanQuestion ({ frames := 0, cells := 0, slots := 0, locals := 0 }) (gPr D cB cC cI [.int a1] []) (vp_Si (fun r => r = (f_X5_isPlanQuestion a1))) 0 0 (fun _ => False) := by
  refine metR (cc := cX5_isPlanQuestion) (maxL := 1) (ret := (some .boolean)) RX5 rfl (by decide) rfl (Nat.le_of_ble_eq_true rfl) ?_
  intro p e s m below meth c hx hb hr hml hown hts hlocks hP hK ls hl
  have hl : lv_has ls 1 [(0, .int a1)] := hl
  refine lv_iload_n hx hb dX5_isPlanQuestion_0 rfl (lv_at hl 0 rfl) ?_
  refine lv_if_eq (tgt := 21) hx hb dX5_isPlanQuestion_1 (by decide) (fun c_1 => ?_) (fun c_1 => ?_)
  · refine lv_iconst (v := 1) hx hb dX5_isPlanQuestion_21 (by decide) ?_
    refine lv_goto (tgt := 26) hx hb dX5_isPlanQuestion_22 (by decide) ?_
    have eG : f_X5_isPlanQuestion a1 = 1 := if_pos c_1
    exact retRz hx hb hr hlocks rfl eG.symm dX5_isPlanQuestion_26
  · refine lv_iload_n hx hb dX5_isPlanQuestion_4 rfl (lv_at hl 0 rfl) ?_
    refine lv_iconst (v := 1) hx hb dX5_isPlanQuestion_5 (by decide) ?_
    refine lv_icmp_eq (tgt := 21) hx hb dX5_isPlanQuestion_6 (by decide) (fun c_2 => ?_) (fun c_2 => ?_)
    · refine lv_iconst (v := 1) hx hb dX5_isPlanQuestion_21 (by decide) ?_
      refine lv_goto (tgt := 26) hx hb dX5_isPlanQuestion_22 (by decide) ?_
      have eG : f_X5_isPlanQuestion a1 = 1 := (if_neg c_1).trans (if_pos c_2)
      exact retRz hx hb hr hlocks rfl eG.symm dX5_isPlanQuestion_26
    · refine lv_iload_n hx hb dX5_isPlanQuestion_9 rfl (lv_at hl 0 rfl) ?_
      refine lv_bipush (v := 10) hx hb dX5_isPlanQuestion_10 (by decide) ?_
      refine lv_icmp_lt (tgt := 25) hx hb dX5_isPlanQuestion_12 (by decide) (fun c_3 => ?_) (fun c_3 => ?_)
      · refine lv_iconst (v := 0) hx hb dX5_isPlanQuestion_25 (by decide) ?_
        have eG : f_X5_isPlanQuestion a1 = 0 := (if_neg c_1).trans ((if_neg c_2).trans (if_pos c_3))
        exact retRz hx hb hr hlocks rfl eG.symm dX5_isPlanQuestion_26
      · refine lv_iload_n hx hb dX5_isPlanQuestion_15 rfl (lv_at hl 0 rfl) ?_
        refine lv_bipush (v := 13) hx hb dX5_isPlanQuestion_16 (by decide) ?_
        refine lv_icmp_ge (tgt := 25) hx hb dX5_isPlanQuestion_18 (by decide) (fun c_4 => ?_) (fun c_4 => ?_)
        · refine lv_iconst (v := 0) hx hb dX5_isPlanQuestion_25 (by decide) ?_
          have eG : f_X5_isPlanQuestion a1 = 0 := (if_neg c_1).trans ((if_neg c_2).trans ((if_neg c_3).trans (if_pos c_4)))
          exact retRz hx hb hr hlocks rfl eG.symm dX5_isPlanQuestion_26
        · refine lv_iconst (v := 1) hx hb dX5_isPlanQuestion_21 (by decide) ?_
          refine lv_goto (tgt := 26) hx hb dX5_isPlanQuestion_22 (by decide) ?_
          have eG : f_X5_isPlanQuestion a1 = 1 := (if_neg c_1).trans ((if_neg c_2).trans ((if_neg c_3).trans (if_neg c_4)))
          exact retRz hx hb hr hlocks rfl eG.symm dX5_isPlanQuestion_26
set_option maxHeartbeats 4000000 in
set_option maxRecDepth 100000 in
theorem c_X5_fold (l : Launch) (D : va_G) (cB cC cI : ClassId) (a1 : Int64) (a2 : Int64)  : Met l yX5_fold wsX5_fold ({ frames := 0, cells := 0, slots := 0, locals := 0 }) (gPr D cB cC cI [.long a1, .long a2] []) (vp_Sl (fun r => r = (31 * a1) + a2)) 0 0 (fun _ => False) := by
  refine metR (cc := cX5_fold) (maxL := 4) (ret := (some .long)) RX5 rfl (by decide) rfl (Nat.le_of_ble_eq_true rfl) ?_
  intro p e s m below meth c hx hb hr hml hown hts hlocks hP hK ls hl
  have hl : lv_has ls 4 [(0, .long a1), (2, .long a2)] := hl
  refine lv_ldc2 (v := 31) hx hb hown (hts (.constantLong RX5 231 (31)) (by decide +kernel)) dX5_fold_0 ?_
  refine lv_lload_n hx hb dX5_fold_3 rfl (lv_at hl 0 rfl) ?_
  refine lv_lmul hx hb dX5_fold_4 ?_
  refine lv_lload_n hx hb dX5_fold_5 rfl (lv_at hl 1 rfl) ?_
  refine lv_ladd hx hb dX5_fold_6 ?_
  exact retRl hx hb hr hlocks rfl dX5_fold_7
end
section
def b2 (b : Bool) : Int32 := if b = true then 1 else 0
theorem b2_0 {b : Bool} : b2 b = 0 ↔ b = false := by cases b <;> decide
def rubL (tm : Nat → Int32) (sb : Int32) : Nat → Int32
  | 0 => 0
  | k + 1 => if (sb >>> (nI k &&& 31)) &&& 1 = 1 then rubL tm sb k + tm k else rubL tm sb k
/-- whether the set q makes it so -/
def EX (tm : Nat → Int32) (lo : Int32) (n q : Nat) : Bool := decide (rubL tm (nI q) n = lo)
def cntN (p : Nat → Bool) : Nat → Nat
  | 0 => 0
  | k + 1 => if p k = true then cntN p k + 1 else cntN p k
theorem cntN_le (p : Nat → Bool) : ∀ k, cntN p k ≤ k
  | 0 => Nat.le_refl 0
  | k + 1 => by
    have := cntN_le p k
    unfold cntN
    split <;> omega
/-- the first from j on, of k -/
def leastL (p : Nat → Bool) : Nat → Nat → Int32
  | 0, _ => -1
  | k + 1, j => if p j = true then nI j else leastL p k (j + 1)
def andU (p : Nat → Bool) : Nat → Int32
  | 0 => -1
  | k + 1 => if p k = true then andU p k &&& nI k else andU p k
def watL (W : Nat → Int32) (al : Int32) : Nat → Int32 × Int32
  | 0 => (-1, al + 1)
  | k + 1 => if (watL W al k).2 ≤ (if W k < al - W k then al - W k else W k) then watL W al k else (nI k, (if W k < al - W k then al - W k else W k))
def CPm (tm : Nat → Int32) (lo : Int32) (n : Nat) (mb : Int32) (i : Nat) : Bool := decide (nI i &&& mb = mb) && EX tm lo n i
def hms (tm : Nat → Int32) (lo : Int32) (n : Nat) (mb : Int32) : Int32 := nI (cntN (CPm tm lo n mb) (2 ^ n))
def hmsW (tm : Nat → Int32) (lo : Int32) (n : Nat) (i : Nat) : Int32 := hms tm lo n ((1 : Int32) <<< (nI i &&& 31))
theorem shl1 : ∀ n, n ≤ 4 → (1 : Int32) <<< (nI n &&& 31) = nI (2 ^ n) := by decide
theorem pow4 : ∀ n, n ≤ 4 → 2 ^ n ≤ 16 := by decide
set_option maxHeartbeats 4000000 in
set_option maxRecDepth 100000 in
theorem c_X1_explains (l : Launch) (D : va_G) (cB cC cI : ClassId) (lh : Nat) (l0 : Nat) (tm : Nat → Int32) (hd : Int32) (lo : Int32) (q : Nat) (n : Nat) (hn : n ≤ 4) : Met l yX1_explains wsX1_explains ({ frames := 0, cells := 0, slots := 0, locals := 0 }) (gPr D cB cC cI [.ref lh, .int (nI q), .int (nI n)] [(lh, .inr (1, [.ref l0, .int hd, .int lo])), (l0, .inl (cI, 4, .inl tm))]) (vp_Si (fun r => r = b2 (EX tm lo n q))) 0 0 (fun _ => False) := by
  refine metR (cc := cX1_explains) (maxL := 5) (ret := (some .boolean)) RX1 rfl (by decide) rfl (Nat.le_of_ble_eq_true rfl) ?_
  intro p e s m below meth c hx hb hr hml hown hts hlocks hP hK ls hl
  have iwX1 : ∀ w ∈ wsX10, w ∈ wsX1_explains := by decide +kernel
  have fk19 := hts (.fieldLink RX1 19 "BuyersWeights$Ledger" "lost" "I") (by decide +kernel)
  have fk9 := hts (.fieldLink RX1 9 "BuyersWeights$Ledger" "times" "[I") (by decide +kernel)
  have cut_5 : ∀ (fu : Nat) (j : Nat), j ≤ n → n - j < fu → ∀ (ls : Array Slot), lv_has ls 5 [(0, .ref lh), (1, .int (nI q)), (2, .int (nI n)), (4, .int (nI j)), (3, .int (rubL tm (nI q) j))] → W p l e (headSpec wsX1_explains ({ frames := 0, cells := 0, slots := 0, locals := 0 })).room s m ([.ref lh, .int (nI q), .int (nI n)] : List Value).toArray below meth c s.heap [] 0 0 (MQ below (vp_Si (fun r => r = b2 (EX tm lo n q))) ([.ref lh, .int (nI q), .int (nI n)] : List Value).toArray s 0 0 (fun _ => False)) (F0 m 5 ls []) := by
    intro fu
    induction fu with
    | zero => intro j hj hfu; exact absurd hfu (Nat.not_lt_zero _)
    | succ fu ih_5 =>
      intro j hj hfu ls hl
      refine lv_iload hx hb dX1_explains_5 (lv_at hl 3 rfl) ?_
      refine lv_iload_n hx hb dX1_explains_7 rfl (lv_at hl 2 rfl) ?_
      refine lv_icmp_ge (tgt := 37) hx hb dX1_explains_8 (by decide) (fun c_1 => ?_) (fun c_1 => ?_)
      · have hge : n ≤ j := (nI_leI (by omega) (by omega)).mp c_1
        refine lv_iload_n hx hb dX1_explains_37 rfl (lv_at hl 4 rfl) ?_
        refine lv_aload_n hx hb dX1_explains_38 rfl (lv_at hl 0 rfl) ?_
        refine va_get (D := D) (ci := 1) (v := .int lo) (C := RX1) (T := TX1) (N := 3) hx hb hts iwX1 hown hK.1 hP 0 rfl rfl 2 (by decide) fk19 (fun _ h9 => h9) rfl dX1_explains_39 ?_
        refine lv_icmp_ne (tgt := 49) hx hb dX1_explains_42 (by decide) (fun c_2 => ?_) (fun c_2 => ?_)
        · have ex : EX tm lo n q = false := by rw [show n = j from by omega]; exact decide_eq_false c_2
          refine lv_iconst (v := 0) hx hb dX1_explains_49 (by decide) ?_
          exact retRz hx hb hr hlocks rfl (by rw [ex]; rfl) dX1_explains_50
        · have ex : EX tm lo n q = true := by rw [show n = j from by omega]; exact decide_eq_true c_2
          refine lv_iconst (v := 1) hx hb dX1_explains_45 (by decide) ?_
          refine lv_goto (tgt := 50) hx hb dX1_explains_46 (by decide) ?_
          exact retRz hx hb hr hlocks rfl (by rw [ex]; rfl) dX1_explains_50
      · have hlt : j < n := Nat.lt_of_not_le fun z => c_1 ((nI_leI (by omega) (by omega)).mpr z)
        refine lv_iload_n hx hb dX1_explains_11 rfl (lv_at hl 1 rfl) ?_
        refine lv_iload hx hb dX1_explains_12 (lv_at hl 3 rfl) ?_
        refine lv_ishr hx hb dX1_explains_14 ?_
        refine lv_iconst (v := 1) hx hb dX1_explains_15 (by decide) ?_
        refine lv_iand hx hb dX1_explains_16 ?_
        refine lv_iconst (v := 1) hx hb dX1_explains_17 (by decide) ?_
        refine lv_icmp_ne (tgt := 31) hx hb dX1_explains_18 (by decide) (fun c_3 => ?_) (fun c_3 => ?_)
        · have er : rubL tm (nI q) (j + 1) = rubL tm (nI q) j := if_neg c_3
          refine lv_iinc (v := nI (j + 1)) (lv' := [(4, .int (nI (j + 1))), (0, .ref lh), (1, .int (nI q)), (2, .int (nI n)), (3, .int (rubL tm (nI q) j))]) hx hb dX1_explains_31 hl (k := 3) rfl (nI_1 j) (by decide) rfl (fun ls hl => ?_)
          refine lv_goto (tgt := 5) hx hb dX1_explains_34 (by decide) ?_
          exact ih_5 (j + 1) (by first | assumption | omega | rfl | exact Nat.zero_le _ | decide) (by omega) ls (by rw [er]; exact lv_sub hl [1, 2, 3, 0, 4] rfl)
        · have er : rubL tm (nI q) (j + 1) = rubL tm (nI q) j + tm j := if_pos c_3
          refine lv_iload_n hx hb dX1_explains_21 rfl (lv_at hl 4 rfl) ?_
          refine lv_aload_n hx hb dX1_explains_22 rfl (lv_at hl 0 rfl) ?_
          refine va_get (D := D) (ci := 1) (v := .ref l0) (C := RX1) (T := TX1) (N := 3) hx hb hts iwX1 hown hK.1 hP 0 rfl rfl 0 (by decide) fk9 (fun _ h9 => h9) rfl dX1_explains_23 ?_
          refine lv_iload hx hb dX1_explains_26 (lv_at hl 3 rfl) ?_
          refine my_iald hx hb hK hP 1 rfl (j := j) (ix_nI (by omega) (by decide)) dX1_explains_28 ?_
          refine lv_iadd hx hb dX1_explains_29 ?_
          refine lv_istore_n (lv' := [(3, .int ((rubL tm (nI q) j) + (tm j))), (0, .ref lh), (1, .int (nI q)), (2, .int (nI n)), (4, .int (nI j))]) hx hb dX1_explains_30 rfl hl (by decide) rfl (fun ls hl => ?_)
          refine lv_iinc (v := nI (j + 1)) (lv' := [(4, .int (nI (j + 1))), (3, .int ((rubL tm (nI q) j) + (tm j))), (0, .ref lh), (1, .int (nI q)), (2, .int (nI n))]) hx hb dX1_explains_31 hl (k := 4) rfl (nI_1 j) (by decide) rfl (fun ls hl => ?_)
          refine lv_goto (tgt := 5) hx hb dX1_explains_34 (by decide) ?_
          exact ih_5 (j + 1) (by first | assumption | omega | rfl | exact Nat.zero_le _ | decide) (by omega) ls (by rw [er]; exact lv_sub hl [2, 3, 4, 0, 1] rfl)
  have hl : lv_has ls 5 [(0, .ref lh), (1, .int (nI q)), (2, .int (nI n))] := hl
  refine lv_iconst (v := 0) hx hb dX1_explains_0 (by decide) ?_
  refine lv_istore_n (lv' := [(3, .int 0), (0, .ref lh), (1, .int (nI q)), (2, .int (nI n))]) hx hb dX1_explains_1 rfl hl (by decide) rfl (fun ls hl => ?_)
  refine lv_iconst (v := 0) hx hb dX1_explains_2 (by decide) ?_
  refine lv_istore (lv' := [(4, .int 0), (3, .int 0), (0, .ref lh), (1, .int (nI q)), (2, .int (nI n))]) hx hb dX1_explains_3 hl (by decide) rfl (fun ls hl => ?_)
  exact cut_5 ((n - 0) + 1) 0 (by first | assumption | omega | rfl | exact Nat.zero_le _ | decide) (Nat.lt_succ_self _) ls (lv_sub hl [2, 3, 4, 0, 1] rfl)
set_option maxHeartbeats 4000000 in
set_option maxRecDepth 100000 in
theorem c_X1_leastSet (l : Launch) (D : va_G) (cB cC cI : ClassId) (lh : Nat) (l0 : Nat) (tm : Nat → Int32) (hd : Int32) (lo : Int32) (n : Nat) (hn : n ≤ 4) : Met l yX1_leastSet wsX1_leastSet ({ frames := 1, cells := 0, slots := 0, locals := 24 }) (gPr D cB cC cI [.ref lh, .int (nI n)] [(lh, .inr (1, [.ref l0, .int hd, .int lo])), (l0, .inl (cI, 4, .inl tm))]) (vp_Si (fun r => r = leastL (EX tm lo n) (2 ^ n) 0)) 0 0 (fun _ => False) := by
  refine metR (cc := cX1_leastSet) (maxL := 3) (ret := (some .int)) RX1 rfl (by decide) rfl (Nat.le_of_ble_eq_true rfl) ?_
  intro p e s m below meth c hx hb hr hml hown hts hlocks hP hK ls hl
  have cut_2 : ∀ (fu : Nat) (j : Nat), j ≤ 2 ^ n → leastL (EX tm lo n) (2 ^ n - j) j = leastL (EX tm lo n) (2 ^ n) 0 → 2 ^ n - j < fu → ∀ (ls : Array Slot), lv_has ls 3 [(0, .ref lh), (1, .int (nI n)), (2, .int (nI j))] → W p l e (headSpec wsX1_leastSet ({ frames := 1, cells := 0, slots := 0, locals := 24 })).room s m ([.ref lh, .int (nI n)] : List Value).toArray below meth c s.heap [] 0 0 (MQ below (vp_Si (fun r => r = leastL (EX tm lo n) (2 ^ n) 0)) ([.ref lh, .int (nI n)] : List Value).toArray s 0 0 (fun _ => False)) (F0 m 2 ls []) := by
    intro fu
    induction fu with
    | zero => intro j hj he hfu; exact absurd hfu (Nat.not_lt_zero _)
    | succ fu ih_2 =>
      intro j hj he hfu ls hl
      have h16 := pow4 n hn
      refine lv_iload_n hx hb dX1_leastSet_2 rfl (lv_at hl 2 rfl) ?_
      refine lv_iconst (v := 1) hx hb dX1_leastSet_3 (by decide) ?_
      refine lv_iload_n hx hb dX1_leastSet_4 rfl (lv_at hl 1 rfl) ?_
      refine lv_ishl hx hb dX1_leastSet_5 ?_
      refine my_top (y := nI (2 ^ n)) (shl1 n hn) ?_
      refine lv_icmp_ge (tgt := 26) hx hb dX1_leastSet_6 (by decide) (fun c_1 => ?_) (fun c_1 => ?_)
      · have hge : 2 ^ n ≤ j := (nI_leI (by omega) (by omega)).mp c_1
        refine lv_iconst (v := (-1)) hx hb dX1_leastSet_26 (by decide) ?_
        exact retRi hx hb hr hlocks (by rw [← he, show 2 ^ n - j = 0 from by omega]; rfl) dX1_leastSet_27
      · have hlt : j < 2 ^ n := Nat.lt_of_not_le fun z => c_1 ((nI_leI (by omega) (by omega)).mpr z)
        refine lv_aload_n hx hb dX1_leastSet_9 rfl (lv_at hl 0 rfl) ?_
        refine lv_iload_n hx hb dX1_leastSet_10 rfl (lv_at hl 2 rfl) ?_
        refine lv_iload_n hx hb dX1_leastSet_11 rfl (lv_at hl 1 rfl) ?_
        refine rcVi (As := [.int (nI j), .int (nI n)]) (rest := []) ⟨hx, hb, hml, hown, hts⟩ (c_X1_explains l D cB cC cI lh l0 tm hd lo j n (by first | assumption | omega | decide)) (cwV 2 hts gX1_leastSet_X1_explains rfl rfl rfl (by decide +kernel) ⟨Nat.le_of_ble_eq_true rfl, Nat.le_of_ble_eq_true rfl⟩) hK hP [0, 1] rfl rfl 0 rfl rfl hl.1 rfl (Nat.le_of_ble_eq_true rfl) dX1_leastSet_12 ⟨Nat.zero_le _, Nat.zero_le _⟩ ?_
        refine lv_if_eq (tgt := 20) hx hb dX1_leastSet_15 (by decide) (fun c_2 => ?_) (fun c_2 => ?_)
        · have hr1 : leastL (EX tm lo n) (2 ^ n - (j + 1)) (j + 1) = leastL (EX tm lo n) (2 ^ n) 0 := by
            rw [← he, show 2 ^ n - j = (2 ^ n - (j + 1)) + 1 from by omega]
            exact (if_neg (by rw [b2_0.mp c_2]; decide)).symm
          refine lv_iinc (v := nI (j + 1)) (lv' := [(2, .int (nI (j + 1))), (0, .ref lh), (1, .int (nI n))]) hx hb dX1_leastSet_20 hl (k := 2) rfl (nI_1 j) (by decide) rfl (fun ls hl => ?_)
          refine lv_goto (tgt := 2) hx hb dX1_leastSet_23 (by decide) ?_
          exact ih_2 (j + 1) (by first | assumption | omega | rfl | exact Nat.zero_le _ | decide) hr1 (by omega) ls (lv_sub hl [1, 2, 0] rfl)
        · have hr1 : leastL (EX tm lo n) (2 ^ n) 0 = nI j := by
            rw [← he, show 2 ^ n - j = (2 ^ n - (j + 1)) + 1 from by omega]
            exact if_pos (by rcases Bool.eq_false_or_eq_true (EX tm lo n j) with h | h; exact h; exact absurd (b2_0.mpr h) c_2)
          refine lv_iload_n hx hb dX1_leastSet_18 rfl (lv_at hl 2 rfl) ?_
          exact retRi hx hb hr hlocks (hr1.symm) dX1_leastSet_19
  have hl : lv_has ls 3 [(0, .ref lh), (1, .int (nI n))] := hl
  refine lv_iconst (v := 0) hx hb dX1_leastSet_0 (by decide) ?_
  refine lv_istore_n (lv' := [(2, .int 0), (0, .ref lh), (1, .int (nI n))]) hx hb dX1_leastSet_1 rfl hl (by decide) rfl (fun ls hl => ?_)
  exact cut_2 ((2 ^ n - 0) + 1) 0 (by first | assumption | omega | rfl | exact Nat.zero_le _ | decide) rfl (Nat.lt_succ_self _) ls (lv_sub hl [1, 2, 0] rfl)
set_option maxHeartbeats 4000000 in
set_option maxRecDepth 100000 in
theorem c_X1_inAllSets (l : Launch) (D : va_G) (cB cC cI : ClassId) (lh : Nat) (l0 : Nat) (tm : Nat → Int32) (hd : Int32) (lo : Int32) (n : Nat) (hn : n ≤ 4) : Met l yX1_inAllSets wsX1_inAllSets ({ frames := 1, cells := 0, slots := 0, locals := 24 }) (gPr D cB cC cI [.ref lh, .int (nI n)] [(lh, .inr (1, [.ref l0, .int hd, .int lo])), (l0, .inl (cI, 4, .inl tm))]) (vp_Si (fun r => r = andU (EX tm lo n) (2 ^ n))) 0 0 (fun _ => False) := by
  refine metR (cc := cX1_inAllSets) (maxL := 4) (ret := (some .int)) RX1 rfl (by decide) rfl (Nat.le_of_ble_eq_true rfl) ?_
  intro p e s m below meth c hx hb hr hml hown hts hlocks hP hK ls hl
  have cut_4 : ∀ (fu : Nat) (j : Nat), j ≤ 2 ^ n → 2 ^ n - j < fu → ∀ (ls : Array Slot), lv_has ls 4 [(0, .ref lh), (1, .int (nI n)), (3, .int (nI j)), (2, .int (andU (EX tm lo n) j))] → W p l e (headSpec wsX1_inAllSets ({ frames := 1, cells := 0, slots := 0, locals := 24 })).room s m ([.ref lh, .int (nI n)] : List Value).toArray below meth c s.heap [] 0 0 (MQ below (vp_Si (fun r => r = andU (EX tm lo n) (2 ^ n))) ([.ref lh, .int (nI n)] : List Value).toArray s 0 0 (fun _ => False)) (F0 m 4 ls []) := by
    intro fu
    induction fu with
    | zero => intro j hj hfu; exact absurd hfu (Nat.not_lt_zero _)
    | succ fu ih_4 =>
      intro j hj hfu ls hl
      have h16 := pow4 n hn
      refine lv_iload_n hx hb dX1_inAllSets_4 rfl (lv_at hl 2 rfl) ?_
      refine lv_iconst (v := 1) hx hb dX1_inAllSets_5 (by decide) ?_
      refine lv_iload_n hx hb dX1_inAllSets_6 rfl (lv_at hl 1 rfl) ?_
      refine lv_ishl hx hb dX1_inAllSets_7 ?_
      refine my_top (y := nI (2 ^ n)) (shl1 n hn) ?_
      refine lv_icmp_ge (tgt := 30) hx hb dX1_inAllSets_8 (by decide) (fun c_1 => ?_) (fun c_1 => ?_)
      · have hge : 2 ^ n ≤ j := (nI_leI (by omega) (by omega)).mp c_1
        refine lv_iload_n hx hb dX1_inAllSets_30 rfl (lv_at hl 3 rfl) ?_
        exact retRi hx hb hr hlocks (by rw [show 2 ^ n = j from by omega]) dX1_inAllSets_31
      · have hlt : j < 2 ^ n := Nat.lt_of_not_le fun z => c_1 ((nI_leI (by omega) (by omega)).mpr z)
        refine lv_aload_n hx hb dX1_inAllSets_11 rfl (lv_at hl 0 rfl) ?_
        refine lv_iload_n hx hb dX1_inAllSets_12 rfl (lv_at hl 2 rfl) ?_
        refine lv_iload_n hx hb dX1_inAllSets_13 rfl (lv_at hl 1 rfl) ?_
        refine rcVi (As := [.int (nI j), .int (nI n)]) (rest := []) ⟨hx, hb, hml, hown, hts⟩ (c_X1_explains l D cB cC cI lh l0 tm hd lo j n (by first | assumption | omega | decide)) (cwV 2 hts gX1_inAllSets_X1_explains rfl rfl rfl (by decide +kernel) ⟨Nat.le_of_ble_eq_true rfl, Nat.le_of_ble_eq_true rfl⟩) hK hP [0, 1] rfl rfl 0 rfl rfl hl.1 rfl (Nat.le_of_ble_eq_true rfl) dX1_inAllSets_14 ⟨Nat.zero_le _, Nat.zero_le _⟩ ?_
        refine lv_if_eq (tgt := 24) hx hb dX1_inAllSets_17 (by decide) (fun c_2 => ?_) (fun c_2 => ?_)
        · have er : andU (EX tm lo n) (j + 1) = andU (EX tm lo n) j := if_neg (by rw [b2_0.mp c_2]; decide)
          refine lv_iinc (v := nI (j + 1)) (lv' := [(3, .int (nI (j + 1))), (0, .ref lh), (1, .int (nI n)), (2, .int (andU (EX tm lo n) j))]) hx hb dX1_inAllSets_24 hl (k := 2) rfl (nI_1 j) (by decide) rfl (fun ls hl => ?_)
          refine lv_goto (tgt := 4) hx hb dX1_inAllSets_27 (by decide) ?_
          exact ih_4 (j + 1) (by first | assumption | omega | rfl | exact Nat.zero_le _ | decide) (by omega) ls (by rw [er]; exact lv_sub hl [1, 2, 0, 3] rfl)
        · have er : andU (EX tm lo n) (j + 1) = andU (EX tm lo n) j &&& nI j := if_pos (by rcases Bool.eq_false_or_eq_true (EX tm lo n j) with h | h; exact h; exact absurd (b2_0.mpr h) c_2)
          refine lv_iload_n hx hb dX1_inAllSets_20 rfl (lv_at hl 3 rfl) ?_
          refine lv_iload_n hx hb dX1_inAllSets_21 rfl (lv_at hl 2 rfl) ?_
          refine lv_iand hx hb dX1_inAllSets_22 ?_
          refine lv_istore_n (lv' := [(2, .int ((andU (EX tm lo n) j) &&& (nI j))), (0, .ref lh), (1, .int (nI n)), (3, .int (nI j))]) hx hb dX1_inAllSets_23 rfl hl (by decide) rfl (fun ls hl => ?_)
          refine lv_iinc (v := nI (j + 1)) (lv' := [(3, .int (nI (j + 1))), (2, .int ((andU (EX tm lo n) j) &&& (nI j))), (0, .ref lh), (1, .int (nI n))]) hx hb dX1_inAllSets_24 hl (k := 3) rfl (nI_1 j) (by decide) rfl (fun ls hl => ?_)
          refine lv_goto (tgt := 4) hx hb dX1_inAllSets_27 (by decide) ?_
          exact ih_4 (j + 1) (by first | assumption | omega | rfl | exact Nat.zero_le _ | decide) (by omega) ls (by rw [er]; exact lv_sub hl [2, 3, 0, 1] rfl)
  have hl : lv_has ls 4 [(0, .ref lh), (1, .int (nI n))] := hl
  refine lv_iconst (v := (-1)) hx hb dX1_inAllSets_0 (by decide) ?_
  refine lv_istore_n (lv' := [(2, .int (-1)), (0, .ref lh), (1, .int (nI n))]) hx hb dX1_inAllSets_1 rfl hl (by decide) rfl (fun ls hl => ?_)
  refine lv_iconst (v := 0) hx hb dX1_inAllSets_2 (by decide) ?_
  refine lv_istore_n (lv' := [(3, .int 0), (2, .int (-1)), (0, .ref lh), (1, .int (nI n))]) hx hb dX1_inAllSets_3 rfl hl (by decide) rfl (fun ls hl => ?_)
  exact cut_4 ((2 ^ n - 0) + 1) 0 (by first | assumption | omega | rfl | exact Nat.zero_le _ | decide) (Nat.lt_succ_self _) ls (lv_sub hl [2, 3, 0, 1] rfl)
set_option maxHeartbeats 4000000 in
set_option maxRecDepth 100000 in
theorem c_X1_howManySetsWith (l : Launch) (D : va_G) (cB cC cI : ClassId) (lh : Nat) (l0 : Nat) (tm : Nat → Int32) (hd : Int32) (lo : Int32) (mb : Int32) (n : Nat) (hn : n ≤ 4) : Met l yX1_howManySetsWith wsX1_howManySetsWith ({ frames := 1, cells := 0, slots := 0, locals := 24 }) (gPr D cB cC cI [.ref lh, .int mb, .int (nI n)] [(lh, .inr (1, [.ref l0, .int hd, .int lo])), (l0, .inl (cI, 4, .inl tm))]) (vp_Si (fun r => r = hms tm lo n mb)) 0 0 (fun _ => False) := by
  refine metR (cc := cX1_howManySetsWith) (maxL := 5) (ret := (some .int)) RX1 rfl (by decide) rfl (Nat.le_of_ble_eq_true rfl) ?_
  intro p e s m below meth c hx hb hr hml hown hts hlocks hP hK ls hl
  have cut_5 : ∀ (fu : Nat) (j : Nat), j ≤ 2 ^ n → 2 ^ n - j < fu → ∀ (ls : Array Slot), lv_has ls 5 [(0, .ref lh), (1, .int mb), (2, .int (nI n)), (4, .int (nI j)), (3, .int (nI (cntN (CPm tm lo n mb) j)))] → W p l e (headSpec wsX1_howManySetsWith ({ frames := 1, cells := 0, slots := 0, locals := 24 })).room s m ([.ref lh, .int mb, .int (nI n)] : List Value).toArray below meth c s.heap [] 0 0 (MQ below (vp_Si (fun r => r = hms tm lo n mb)) ([.ref lh, .int mb, .int (nI n)] : List Value).toArray s 0 0 (fun _ => False)) (F0 m 5 ls []) := by
    intro fu
    induction fu with
    | zero => intro j hj hfu; exact absurd hfu (Nat.not_lt_zero _)
    | succ fu ih_5 =>
      intro j hj hfu ls hl
      have h16 := pow4 n hn
      refine lv_iload hx hb dX1_howManySetsWith_5 (lv_at hl 3 rfl) ?_
      refine lv_iconst (v := 1) hx hb dX1_howManySetsWith_7 (by decide) ?_
      refine lv_iload_n hx hb dX1_howManySetsWith_8 rfl (lv_at hl 2 rfl) ?_
      refine lv_ishl hx hb dX1_howManySetsWith_9 ?_
      refine my_top (y := nI (2 ^ n)) (shl1 n hn) ?_
      refine lv_icmp_ge (tgt := 40) hx hb dX1_howManySetsWith_10 (by decide) (fun c_1 => ?_) (fun c_1 => ?_)
      · have hge : 2 ^ n ≤ j := (nI_leI (by omega) (by omega)).mp c_1
        refine lv_iload_n hx hb dX1_howManySetsWith_40 rfl (lv_at hl 4 rfl) ?_
        exact retRi hx hb hr hlocks (by rw [hms, show 2 ^ n = j from by omega]) dX1_howManySetsWith_41
      · have hlt : j < 2 ^ n := Nat.lt_of_not_le fun z => c_1 ((nI_leI (by omega) (by omega)).mpr z)
        refine lv_iload hx hb dX1_howManySetsWith_13 (lv_at hl 3 rfl) ?_
        refine lv_iload_n hx hb dX1_howManySetsWith_15 rfl (lv_at hl 1 rfl) ?_
        refine lv_iand hx hb dX1_howManySetsWith_16 ?_
        refine lv_iload_n hx hb dX1_howManySetsWith_17 rfl (lv_at hl 1 rfl) ?_
        refine lv_icmp_ne (tgt := 34) hx hb dX1_howManySetsWith_18 (by decide) (fun c_2 => ?_) (fun c_2 => ?_)
        · have er : cntN (CPm tm lo n mb) (j + 1) = cntN (CPm tm lo n mb) j := if_neg (by simp [CPm, c_2])
          refine lv_iinc (v := nI (j + 1)) (lv' := [(4, .int (nI (j + 1))), (0, .ref lh), (1, .int mb), (2, .int (nI n)), (3, .int (nI (cntN (CPm tm lo n mb) j)))]) hx hb dX1_howManySetsWith_34 hl (k := 3) rfl (nI_1 j) (by decide) rfl (fun ls hl => ?_)
          refine lv_goto (tgt := 5) hx hb dX1_howManySetsWith_37 (by decide) ?_
          exact ih_5 (j + 1) (by first | assumption | omega | rfl | exact Nat.zero_le _ | decide) (by omega) ls (by rw [er]; exact lv_sub hl [1, 2, 3, 0, 4] rfl)
        · have hm := c_2
          refine lv_aload_n hx hb dX1_howManySetsWith_21 rfl (lv_at hl 0 rfl) ?_
          refine lv_iload hx hb dX1_howManySetsWith_22 (lv_at hl 3 rfl) ?_
          refine lv_iload_n hx hb dX1_howManySetsWith_24 rfl (lv_at hl 2 rfl) ?_
          refine rcVi (As := [.int (nI j), .int (nI n)]) (rest := []) ⟨hx, hb, hml, hown, hts⟩ (c_X1_explains l D cB cC cI lh l0 tm hd lo j n (by first | assumption | omega | decide)) (cwV 2 hts gX1_howManySetsWith_X1_explains rfl rfl rfl (by decide +kernel) ⟨Nat.le_of_ble_eq_true rfl, Nat.le_of_ble_eq_true rfl⟩) hK hP [0, 1] rfl rfl 0 rfl rfl hl.1 rfl (Nat.le_of_ble_eq_true rfl) dX1_howManySetsWith_25 ⟨Nat.zero_le _, Nat.zero_le _⟩ ?_
          refine lv_if_eq (tgt := 34) hx hb dX1_howManySetsWith_28 (by decide) (fun c_3 => ?_) (fun c_3 => ?_)
          · have er : cntN (CPm tm lo n mb) (j + 1) = cntN (CPm tm lo n mb) j := if_neg (by simp [CPm, b2_0.mp c_3])
            refine lv_iinc (v := nI (j + 1)) (lv' := [(4, .int (nI (j + 1))), (0, .ref lh), (1, .int mb), (2, .int (nI n)), (3, .int (nI (cntN (CPm tm lo n mb) j)))]) hx hb dX1_howManySetsWith_34 hl (k := 3) rfl (nI_1 j) (by decide) rfl (fun ls hl => ?_)
            refine lv_goto (tgt := 5) hx hb dX1_howManySetsWith_37 (by decide) ?_
            exact ih_5 (j + 1) (by first | assumption | omega | rfl | exact Nat.zero_le _ | decide) (by omega) ls (by rw [er]; exact lv_sub hl [1, 2, 3, 0, 4] rfl)
          · have er : cntN (CPm tm lo n mb) (j + 1) = cntN (CPm tm lo n mb) j + 1 := if_pos (by rcases Bool.eq_false_or_eq_true (EX tm lo n j) with h | h; simp [CPm, hm, h]; exact absurd (b2_0.mpr h) c_3)
            refine lv_iinc (v := nI (cntN (CPm tm lo n mb) j + 1)) (lv' := [(3, .int (nI (cntN (CPm tm lo n mb) j + 1))), (0, .ref lh), (1, .int mb), (2, .int (nI n)), (4, .int (nI j))]) hx hb dX1_howManySetsWith_31 hl (k := 4) rfl (nI_1 _) (by decide) rfl (fun ls hl => ?_)
            refine lv_iinc (v := nI (j + 1)) (lv' := [(4, .int (nI (j + 1))), (3, .int (nI (cntN (CPm tm lo n mb) j + 1))), (0, .ref lh), (1, .int mb), (2, .int (nI n))]) hx hb dX1_howManySetsWith_34 hl (k := 4) rfl (nI_1 j) (by decide) rfl (fun ls hl => ?_)
            refine lv_goto (tgt := 5) hx hb dX1_howManySetsWith_37 (by decide) ?_
            exact ih_5 (j + 1) (by first | assumption | omega | rfl | exact Nat.zero_le _ | decide) (by omega) ls (by rw [er]; exact lv_sub hl [2, 3, 4, 0, 1] rfl)
  have hl : lv_has ls 5 [(0, .ref lh), (1, .int mb), (2, .int (nI n))] := hl
  refine lv_iconst (v := 0) hx hb dX1_howManySetsWith_0 (by decide) ?_
  refine lv_istore_n (lv' := [(3, .int 0), (0, .ref lh), (1, .int mb), (2, .int (nI n))]) hx hb dX1_howManySetsWith_1 rfl hl (by decide) rfl (fun ls hl => ?_)
  refine lv_iconst (v := 0) hx hb dX1_howManySetsWith_2 (by decide) ?_
  refine lv_istore (lv' := [(4, .int 0), (3, .int 0), (0, .ref lh), (1, .int mb), (2, .int (nI n))]) hx hb dX1_howManySetsWith_3 hl (by decide) rfl (fun ls hl => ?_)
  exact cut_5 ((2 ^ n - 0) + 1) 0 (by first | assumption | omega | rfl | exact Nat.zero_le _ | decide) (Nat.lt_succ_self _) ls (lv_sub hl [2, 3, 4, 0, 1] rfl)
set_option maxHeartbeats 4000000 in
set_option maxRecDepth 100000 in
theorem c_X1_howManySets (l : Launch) (D : va_G) (cB cC cI : ClassId) (lh : Nat) (l0 : Nat) (tm : Nat → Int32) (hd : Int32) (lo : Int32) (n : Nat) (hn : n ≤ 4) : Met l yX1_howManySets wsX1_howManySets ({ frames := 2, cells := 0, slots := 0, locals := 48 }) (gPr D cB cC cI [.ref lh, .int (nI n)] [(lh, .inr (1, [.ref l0, .int hd, .int lo])), (l0, .inl (cI, 4, .inl tm))]) (vp_Si (fun r => r = hms tm lo n 0)) 0 0 (fun _ => False) := by
  refine metR (cc := cX1_howManySets) (maxL := 2) (ret := (some .int)) RX1 rfl (by decide) rfl (Nat.le_of_ble_eq_true rfl) ?_
  intro p e s m below meth c hx hb hr hml hown hts hlocks hP hK ls hl
  have hl : lv_has ls 2 [(0, .ref lh), (1, .int (nI n))] := hl
  refine lv_aload_n hx hb dX1_howManySets_0 rfl (lv_at hl 0 rfl) ?_
  refine lv_iconst (v := 0) hx hb dX1_howManySets_1 (by decide) ?_
  refine lv_iload_n hx hb dX1_howManySets_2 rfl (lv_at hl 1 rfl) ?_
  refine rcVi (As := [.int 0, .int (nI n)]) (rest := []) ⟨hx, hb, hml, hown, hts⟩ (c_X1_howManySetsWith l D cB cC cI lh l0 tm hd lo 0 n (by first | assumption | omega | decide)) (cwV 2 hts gX1_howManySets_X1_howManySetsWith rfl rfl rfl (by decide +kernel) ⟨Nat.le_of_ble_eq_true rfl, Nat.le_of_ble_eq_true rfl⟩) hK hP [0, 1] rfl rfl 0 rfl rfl hl.1 rfl (Nat.le_of_ble_eq_true rfl) dX1_howManySets_3 ⟨Nat.zero_le _, Nat.zero_le _⟩ ?_
  exact retRi hx hb hr hlocks (rfl) dX1_howManySets_6
def watR (tm : Nat → Int32) (lo : Int32) (n : Nat) : Int32 := if (hms tm lo n 0) = 0 then -1 else (watL (hmsW tm lo n) (hms tm lo n 0) n).1
set_option maxHeartbeats 4000000 in
set_option maxRecDepth 100000 in
theorem c_X1_houseToWatch (l : Launch) (D : va_G) (cB cC cI : ClassId) (lh : Nat) (l0 : Nat) (tm : Nat → Int32) (hd : Int32) (lo : Int32) (n : Nat) (hn : n ≤ 4) : Met l yX1_houseToWatch wsX1_houseToWatch ({ frames := 3, cells := 0, slots := 0, locals := 69 }) (gPr D cB cC cI [.ref lh, .int (nI n)] [(lh, .inr (1, [.ref l0, .int hd, .int lo])), (l0, .inl (cI, 4, .inl tm))]) (vp_Si (fun r => r = watR tm lo n)) 0 0 (fun _ => False) := by
  refine metR (cc := cX1_houseToWatch) (maxL := 8) (ret := (some .int)) RX1 rfl (by decide) rfl (Nat.le_of_ble_eq_true rfl) ?_
  intro p e s m below meth c hx hb hr hml hown hts hlocks hP hK ls hl
  have cut_22 : ∀ (fu : Nat) (j : Nat), j ≤ n → ¬ (hms tm lo n 0) = 0 → n - j < fu → ∀ (ls : Array Slot), lv_has ls 8 [(0, .ref lh), (1, .int (nI n)), (2, .int (hms tm lo n 0)), (5, .int (nI j)), (3, .int ((watL (hmsW tm lo n) (hms tm lo n 0) j).1)), (4, .int ((watL (hmsW tm lo n) (hms tm lo n 0) j).2))] → W p l e (headSpec wsX1_houseToWatch ({ frames := 3, cells := 0, slots := 0, locals := 69 })).room s m ([.ref lh, .int (nI n)] : List Value).toArray below meth c s.heap [] 0 0 (MQ below (vp_Si (fun r => r = watR tm lo n)) ([.ref lh, .int (nI n)] : List Value).toArray s 0 0 (fun _ => False)) (F0 m 22 ls []) := by
    intro fu
    induction fu with
    | zero => intro j hj ha hfu; exact absurd hfu (Nat.not_lt_zero _)
    | succ fu ih_22 =>
      intro j hj ha hfu ls hl
      refine lv_iload hx hb dX1_houseToWatch_22 (lv_at hl 3 rfl) ?_
      refine lv_iload_n hx hb dX1_houseToWatch_24 rfl (lv_at hl 1 rfl) ?_
      refine lv_icmp_ge (tgt := 70) hx hb dX1_houseToWatch_25 (by decide) (fun c_1 => ?_) (fun c_1 => ?_)
      · have hge : n ≤ j := (nI_leI (by omega) (by omega)).mp c_1
        refine lv_iload_n hx hb dX1_houseToWatch_70 rfl (lv_at hl 4 rfl) ?_
        exact retRi hx hb hr hlocks (by rw [show j = n from by omega]; exact (if_neg ha).symm) dX1_houseToWatch_71
      · have hlt : j < n := Nat.lt_of_not_le fun z => c_1 ((nI_leI (by omega) (by omega)).mpr z)
        refine lv_aload_n hx hb dX1_houseToWatch_28 rfl (lv_at hl 0 rfl) ?_
        refine lv_iconst (v := 1) hx hb dX1_houseToWatch_29 (by decide) ?_
        refine lv_iload hx hb dX1_houseToWatch_30 (lv_at hl 3 rfl) ?_
        refine lv_ishl hx hb dX1_houseToWatch_32 ?_
        refine lv_iload_n hx hb dX1_houseToWatch_33 rfl (lv_at hl 1 rfl) ?_
        refine rcVi (As := [.int (1 <<< ((nI j) &&& 31)), .int (nI n)]) (rest := []) ⟨hx, hb, hml, hown, hts⟩ (c_X1_howManySetsWith l D cB cC cI lh l0 tm hd lo (1 <<< ((nI j) &&& 31)) n (by first | assumption | omega | decide)) (cwV 2 hts gX1_houseToWatch_X1_howManySetsWith rfl rfl rfl (by decide +kernel) ⟨Nat.le_of_ble_eq_true rfl, Nat.le_of_ble_eq_true rfl⟩) hK hP [0, 1] rfl rfl 0 rfl rfl hl.1 rfl (Nat.le_of_ble_eq_true rfl) dX1_houseToWatch_34 ⟨Nat.zero_le _, Nat.zero_le _⟩ ?_
        refine lv_istore (lv' := [(6, .int (hms tm lo n (1 <<< ((nI j) &&& 31)))), (0, .ref lh), (1, .int (nI n)), (2, .int (hms tm lo n 0)), (5, .int (nI j)), (3, .int ((watL (hmsW tm lo n) (hms tm lo n 0) j).1)), (4, .int ((watL (hmsW tm lo n) (hms tm lo n 0) j).2))]) hx hb dX1_houseToWatch_37 hl (by decide) rfl (fun ls hl => ?_)
        refine lv_iload hx hb dX1_houseToWatch_39 (lv_at hl 0 rfl) ?_
        refine lv_iload_n hx hb dX1_houseToWatch_41 rfl (lv_at hl 3 rfl) ?_
        refine lv_iload hx hb dX1_houseToWatch_42 (lv_at hl 0 rfl) ?_
        refine lv_isub hx hb dX1_houseToWatch_44 ?_
        refine va_mmax hx hb (hml.trans hl.1.symm) hown (hts (.methodLink RX1 38 Lib.Math.max.name) (by decide +kernel)) (hts (.static Lib.Math.max.name) (by decide +kernel)) (hts (.initialized "java/lang/Math") (by decide +kernel)) (hts (.code Lib.Math.max.name Lib.Math.max.code 2 (some .int)) (by decide +kernel)) (Nat.le_of_ble_eq_true rfl) (Nat.le_of_ble_eq_true rfl) (Nat.zero_le _) (Nat.zero_le _) dX1_houseToWatch_45 ?_
        refine lv_istore (lv' := [(7, .int (if (hms tm lo n (1 <<< ((nI j) &&& 31))) < ((hms tm lo n 0) - (hms tm lo n (1 <<< ((nI j) &&& 31)))) then ((hms tm lo n 0) - (hms tm lo n (1 <<< ((nI j) &&& 31)))) else (hms tm lo n (1 <<< ((nI j) &&& 31))))), (6, .int (hms tm lo n (1 <<< ((nI j) &&& 31)))), (0, .ref lh), (1, .int (nI n)), (2, .int (hms tm lo n 0)), (5, .int (nI j)), (3, .int ((watL (hmsW tm lo n) (hms tm lo n 0) j).1)), (4, .int ((watL (hmsW tm lo n) (hms tm lo n 0) j).2))]) hx hb dX1_houseToWatch_48 hl (by decide) rfl (fun ls hl => ?_)
        refine lv_iload hx hb dX1_houseToWatch_50 (lv_at hl 0 rfl) ?_
        refine lv_iload hx hb dX1_houseToWatch_52 (lv_at hl 7 rfl) ?_
        refine lv_icmp_ge (tgt := 64) hx hb dX1_houseToWatch_54 (by decide) (fun c_2 => ?_) (fun c_2 => ?_)
        · have er : watL (hmsW tm lo n) (hms tm lo n 0) (j + 1) = watL (hmsW tm lo n) (hms tm lo n 0) j := if_pos c_2
          refine lv_iinc (v := nI (j + 1)) (lv' := [(5, .int (nI (j + 1))), (7, .int (if (hms tm lo n (1 <<< ((nI j) &&& 31))) < ((hms tm lo n 0) - (hms tm lo n (1 <<< ((nI j) &&& 31)))) then ((hms tm lo n 0) - (hms tm lo n (1 <<< ((nI j) &&& 31)))) else (hms tm lo n (1 <<< ((nI j) &&& 31))))), (6, .int (hms tm lo n (1 <<< ((nI j) &&& 31)))), (0, .ref lh), (1, .int (nI n)), (2, .int (hms tm lo n 0)), (3, .int ((watL (hmsW tm lo n) (hms tm lo n 0) j).1)), (4, .int ((watL (hmsW tm lo n) (hms tm lo n 0) j).2))]) hx hb dX1_houseToWatch_64 hl (k := 5) rfl (nI_1 j) (by decide) rfl (fun ls hl => ?_)
          refine lv_goto (tgt := 22) hx hb dX1_houseToWatch_67 (by decide) ?_
          exact ih_22 (j + 1) (by first | assumption | omega | rfl | exact Nat.zero_le _ | decide) (by first | assumption | omega | rfl | exact Nat.zero_le _ | decide) (by omega) ls (by rw [er]; exact lv_sub hl [3, 4, 5, 0, 6, 7] rfl)
        · have er : watL (hmsW tm lo n) (hms tm lo n 0) (j + 1) = (nI j, (if (hmsW tm lo n) j < (hms tm lo n 0) - (hmsW tm lo n) j then (hms tm lo n 0) - (hmsW tm lo n) j else (hmsW tm lo n) j)) := if_neg c_2
          refine lv_iload hx hb dX1_houseToWatch_57 (lv_at hl 5 rfl) ?_
          refine lv_istore_n (lv' := [(3, .int (nI j)), (7, .int (if (hms tm lo n (1 <<< ((nI j) &&& 31))) < ((hms tm lo n 0) - (hms tm lo n (1 <<< ((nI j) &&& 31)))) then ((hms tm lo n 0) - (hms tm lo n (1 <<< ((nI j) &&& 31)))) else (hms tm lo n (1 <<< ((nI j) &&& 31))))), (6, .int (hms tm lo n (1 <<< ((nI j) &&& 31)))), (0, .ref lh), (1, .int (nI n)), (2, .int (hms tm lo n 0)), (5, .int (nI j)), (4, .int ((watL (hmsW tm lo n) (hms tm lo n 0) j).2))]) hx hb dX1_houseToWatch_59 rfl hl (by decide) rfl (fun ls hl => ?_)
          refine lv_iload hx hb dX1_houseToWatch_60 (lv_at hl 1 rfl) ?_
          refine lv_istore (lv' := [(4, .int (if (hms tm lo n (1 <<< ((nI j) &&& 31))) < ((hms tm lo n 0) - (hms tm lo n (1 <<< ((nI j) &&& 31)))) then ((hms tm lo n 0) - (hms tm lo n (1 <<< ((nI j) &&& 31)))) else (hms tm lo n (1 <<< ((nI j) &&& 31))))), (3, .int (nI j)), (7, .int (if (hms tm lo n (1 <<< ((nI j) &&& 31))) < ((hms tm lo n 0) - (hms tm lo n (1 <<< ((nI j) &&& 31)))) then ((hms tm lo n 0) - (hms tm lo n (1 <<< ((nI j) &&& 31)))) else (hms tm lo n (1 <<< ((nI j) &&& 31))))), (6, .int (hms tm lo n (1 <<< ((nI j) &&& 31)))), (0, .ref lh), (1, .int (nI n)), (2, .int (hms tm lo n 0)), (5, .int (nI j))]) hx hb dX1_houseToWatch_62 hl (by decide) rfl (fun ls hl => ?_)
          refine lv_iinc (v := nI (j + 1)) (lv' := [(5, .int (nI (j + 1))), (4, .int (if (hms tm lo n (1 <<< ((nI j) &&& 31))) < ((hms tm lo n 0) - (hms tm lo n (1 <<< ((nI j) &&& 31)))) then ((hms tm lo n 0) - (hms tm lo n (1 <<< ((nI j) &&& 31)))) else (hms tm lo n (1 <<< ((nI j) &&& 31))))), (3, .int (nI j)), (7, .int (if (hms tm lo n (1 <<< ((nI j) &&& 31))) < ((hms tm lo n 0) - (hms tm lo n (1 <<< ((nI j) &&& 31)))) then ((hms tm lo n 0) - (hms tm lo n (1 <<< ((nI j) &&& 31)))) else (hms tm lo n (1 <<< ((nI j) &&& 31))))), (6, .int (hms tm lo n (1 <<< ((nI j) &&& 31)))), (0, .ref lh), (1, .int (nI n)), (2, .int (hms tm lo n 0))]) hx hb dX1_houseToWatch_64 hl (k := 7) rfl (nI_1 j) (by decide) rfl (fun ls hl => ?_)
          refine lv_goto (tgt := 22) hx hb dX1_houseToWatch_67 (by decide) ?_
          exact ih_22 (j + 1) (by first | assumption | omega | rfl | exact Nat.zero_le _ | decide) (by first | assumption | omega | rfl | exact Nat.zero_le _ | decide) (by omega) ls (by rw [er]; exact lv_sub hl [5, 6, 7, 0, 2, 1] rfl)
  have hl : lv_has ls 8 [(0, .ref lh), (1, .int (nI n))] := hl
  refine lv_aload_n hx hb dX1_houseToWatch_0 rfl (lv_at hl 0 rfl) ?_
  refine lv_iload_n hx hb dX1_houseToWatch_1 rfl (lv_at hl 1 rfl) ?_
  refine rcVi (As := [.int (nI n)]) (rest := []) ⟨hx, hb, hml, hown, hts⟩ (c_X1_howManySets l D cB cC cI lh l0 tm hd lo n (by first | assumption | omega | decide)) (cwV 1 hts gX1_houseToWatch_X1_howManySets rfl rfl rfl (by decide +kernel) ⟨Nat.le_of_ble_eq_true rfl, Nat.le_of_ble_eq_true rfl⟩) hK hP [0, 1] rfl rfl 0 rfl rfl hl.1 rfl (Nat.le_of_ble_eq_true rfl) dX1_houseToWatch_2 ⟨Nat.zero_le _, Nat.zero_le _⟩ ?_
  refine lv_istore_n (lv' := [(2, .int (hms tm lo n 0)), (0, .ref lh), (1, .int (nI n))]) hx hb dX1_houseToWatch_5 rfl hl (by decide) rfl (fun ls hl => ?_)
  refine lv_iload_n hx hb dX1_houseToWatch_6 rfl (lv_at hl 0 rfl) ?_
  refine lv_if_ne (tgt := 12) hx hb dX1_houseToWatch_7 (by decide) (fun c_3 => ?_) (fun c_3 => ?_)
  · have ha := c_3
    refine lv_iconst (v := (-1)) hx hb dX1_houseToWatch_12 (by decide) ?_
    refine lv_istore_n (lv' := [(3, .int (-1)), (2, .int (hms tm lo n 0)), (0, .ref lh), (1, .int (nI n))]) hx hb dX1_houseToWatch_13 rfl hl (by decide) rfl (fun ls hl => ?_)
    refine lv_iload_n hx hb dX1_houseToWatch_14 rfl (lv_at hl 1 rfl) ?_
    refine lv_iconst (v := 1) hx hb dX1_houseToWatch_15 (by decide) ?_
    refine lv_iadd hx hb dX1_houseToWatch_16 ?_
    refine lv_istore (lv' := [(4, .int ((hms tm lo n 0) + 1)), (3, .int (-1)), (2, .int (hms tm lo n 0)), (0, .ref lh), (1, .int (nI n))]) hx hb dX1_houseToWatch_17 hl (by decide) rfl (fun ls hl => ?_)
    refine lv_iconst (v := 0) hx hb dX1_houseToWatch_19 (by decide) ?_
    refine lv_istore (lv' := [(5, .int 0), (4, .int ((hms tm lo n 0) + 1)), (3, .int (-1)), (2, .int (hms tm lo n 0)), (0, .ref lh), (1, .int (nI n))]) hx hb dX1_houseToWatch_20 hl (by decide) rfl (fun ls hl => ?_)
    exact cut_22 ((n - 0) + 1) 0 (by first | assumption | omega | rfl | exact Nat.zero_le _ | decide) (by first | assumption | omega | rfl | exact Nat.zero_le _ | decide) (Nat.lt_succ_self _) ls (lv_sub hl [4, 5, 3, 0, 2, 1] rfl)
  · have hz := c_3
    refine lv_iconst (v := (-1)) hx hb dX1_houseToWatch_10 (by decide) ?_
    exact retRi hx hb hr hlocks ((if_pos hz).symm) dX1_houseToWatch_11
set_option maxHeartbeats 4000000 in
set_option maxRecDepth 100000 in
theorem c_X5_copyRow (l : Launch) (D : va_G) (cB cC cI : ClassId) (a0 : Nat) (a1 : Nat) (sf : Nat → Int32) (df : Nat → Int32) (sz : Nat)  : Met l yX5_copyRow wsX5_copyRow ({ frames := 1, cells := 0, slots := 0, locals := 30 }) (gPw D cB cC cI [.ref a0, .ref a1] [(a0, .inl (cI, 4, .inl sf)), (a1, .inl (cI, 4, .inl df))] sz) (QWv D [(a0, .inl (cI, 4, .inl sf)), (a1, .inl (cI, 4, .inl sf))] (va_A [(a0, .inl (cI, 4, .inl sf)), (a1, .inl (cI, 4, .inl df))] sz)) 0 0 (va_A [(a0, .inl (cI, 4, .inl sf)), (a1, .inl (cI, 4, .inl df))] sz) := by
  refine metW (cc := cX5_copyRow) (maxL := 2) (ret := none) (QA := fun A => (QWv D [(a0, .inl (cI, 4, .inl sf)), (a1, .inl (cI, 4, .inl sf))] A)) RX5 rfl (by decide) rfl (Nat.le_of_ble_eq_true rfl) ?_
  intro p e s m below meth c A hx hb hr hml hown hts hlocks hin hP hK hD hA hS ls hl
  have hl : lv_has ls 2 [(0, .ref a0), (1, .ref a1)] := hl
  refine lv_aload_n hx hb dX5_copyRow_0 rfl (lv_at hl 0 rfl) ?_
  refine lv_iconst (v := 0) hx hb dX5_copyRow_1 (by decide) ?_
  refine lv_aload_n hx hb dX5_copyRow_2 rfl (lv_at hl 1 rfl) ?_
  refine lv_iconst (v := 0) hx hb dX5_copyRow_3 (by decide) ?_
  refine lv_iconst (v := 4) hx hb dX5_copyRow_4 (by decide) ?_
  refine va_copyi (ty := .int) hx hb (hml.trans hl.1.symm) hown (hts (.methodLink RX5 233 arraycopyName) (by decide +kernel)) (hts (.native arraycopyName) (by decide +kernel)) (hts (.static arraycopyName) (by decide +kernel)) (hts (.initialized "java/lang/System") (by decide +kernel)) hK.1 hP hD hS 0 1 0 0 rfl rfl rfl rfl rfl (by decide) (by decide) (by decide) (by decide) (by decide) (fun _ _ => rfl) (Nat.le_of_ble_eq_true rfl) (Nat.le_of_ble_eq_true rfl) dX5_copyRow_5 (fun H locs hP hD hS => ?_)
  have hP : va_P D vwCl [(a0, .inl (cI, 4, .inl sf)), (a1, .inl (cI, 4, .inl (va_cpy sf df ((0 : Int32).toNatClampNeg) ((0 : Int32).toNatClampNeg) ((4 : Int32).toNatClampNeg))))] H := hP
  have hD : va_D A [(a0, .inl (cI, 4, .inl sf)), (a1, .inl (cI, 4, .inl (va_cpy sf df ((0 : Int32).toNatClampNeg) ((0 : Int32).toNatClampNeg) ((4 : Int32).toNatClampNeg))))] := hD
  have hP := va_P.arr (g := sf) hP 1 rfl (fun j hj => co_4 (P := fun j => (va_cpy sf df ((0 : Int32).toNatClampNeg) ((0 : Int32).toNatClampNeg) ((4 : Int32).toNatClampNeg)) j = sf j) rfl rfl rfl rfl hj)
  have hD := va_D.set (p := 1) (e := .inl (cI, 4, .inl sf)) hD rfl
  have hP : va_P D vwCl [(a0, .inl (cI, 4, .inl sf)), (a1, .inl (cI, 4, .inl sf))] H := hP
  have hD : va_D A [(a0, .inl (cI, 4, .inl sf)), (a1, .inl (cI, 4, .inl sf))] := hD
  exact retWv (u := ()) hx hb hr hlocks trivial hP hD hS dX5_copyRow_8
set_option maxHeartbeats 4000000 in
set_option maxRecDepth 100000 in
theorem c_X1_add (l : Launch) (D : va_G) (cB cC cI : ClassId) (lh : Nat) (l0 : Nat) (tm : Nat → Int32) (hd : Int32) (lo : Int32) (b : Int32) (j : Nat) (sz : Nat) (hb4 : ix b j 4) : Met l yX1_add wsX1_add ({ frames := 0, cells := 0, slots := 0, locals := 0 }) (gPw D cB cC cI [.ref lh, .int b] [(lh, .inr (1, [.ref l0, .int hd, .int lo])), (l0, .inl (cI, 4, .inl tm))] sz) (QWv D [(lh, .inr (1, [.ref l0, .int (hd + 1), .int lo])), (l0, .inl (cI, 4, .inl (upd tm j ((tm j) + 1))))] (va_A [(lh, .inr (1, [.ref l0, .int hd, .int lo])), (l0, .inl (cI, 4, .inl tm))] sz)) 0 0 (va_A [(lh, .inr (1, [.ref l0, .int hd, .int lo])), (l0, .inl (cI, 4, .inl tm))] sz) := by
  refine metW (cc := cX1_add) (maxL := 2) (ret := none) (QA := fun A => (QWv D [(lh, .inr (1, [.ref l0, .int (hd + 1), .int lo])), (l0, .inl (cI, 4, .inl (upd tm j ((tm j) + 1))))] A)) RX1 rfl (by decide) rfl (Nat.le_of_ble_eq_true rfl) ?_
  intro p e s m below meth c A hx hb hr hml hown hts hlocks hin hP hK hD hA hS ls hl
  have iwX1 : ∀ w ∈ wsX10, w ∈ wsX1_add := by decide +kernel
  have fk9 := hts (.fieldLink RX1 9 "BuyersWeights$Ledger" "times" "[I") (by decide +kernel)
  have fk15 := hts (.fieldLink RX1 15 "BuyersWeights$Ledger" "hands" "I") (by decide +kernel)
  have hl : lv_has ls 2 [(0, .ref lh), (1, .int b)] := hl
  refine lv_aload_n hx hb dX1_add_0 rfl (lv_at hl 0 rfl) ?_
  refine va_get (D := D) (ci := 1) (v := .ref l0) (C := RX1) (T := TX1) (N := 3) hx hb hts iwX1 hown hK.1 hP 0 rfl rfl 0 (by decide) fk9 (fun _ h9 => h9) rfl dX1_add_1 ?_
  refine lv_iload_n hx hb dX1_add_4 rfl (lv_at hl 1 rfl) ?_
  refine lv_dup2_11 hx hb dX1_add_5 rfl rfl ?_
  refine my_iald hx hb hK hP 1 rfl (j := j) hb4 dX1_add_6 ?_
  refine lv_iconst (v := 1) hx hb dX1_add_7 (by decide) ?_
  refine lv_iadd hx hb dX1_add_8 ?_
  refine my_iast hx hb hK hP hD hS 1 rfl (j := j) hb4 dX1_add_9 (fun H locs hP hD hS => ?_)
  have hP : va_P D vwCl [(lh, .inr (1, [.ref l0, .int hd, .int lo])), (l0, .inl (cI, 4, .inl (upd tm j ((tm j) + 1))))] H := hP
  have hD : va_D A [(lh, .inr (1, [.ref l0, .int hd, .int lo])), (l0, .inl (cI, 4, .inl (upd tm j ((tm j) + 1))))] := hD
  refine lv_aload_n hx hb dX1_add_10 rfl (lv_at hl 0 rfl) ?_
  refine lv_dup hx hb dX1_add_11 rfl ?_
  refine va_get (D := D) (ci := 1) (v := .int hd) (C := RX1) (T := TX1) (N := 3) hx hb hts iwX1 hown hK.1 hP 0 rfl rfl 1 (by decide) fk15 (fun _ h9 => h9) rfl dX1_add_12 ?_
  refine lv_iconst (v := 1) hx hb dX1_add_15 (by decide) ?_
  refine lv_iadd hx hb dX1_add_16 ?_
  refine va_put (D := D) (ci := 1) (v := .int (hd + 1)) (ty := .int) (C := RX1) (T := TX1) (N := 3) hx hb hts iwX1 tyX1 tyX1_ok nmX1 hown hK.1 hP hD hS 0 rfl rfl 1 (by decide) fk15 (fun _ h9 => h9) rfl (by decide +kernel) rfl rfl (Nat.le_of_ble_eq_true rfl) dX1_add_17 (fun H locs hP hD hS => ?_)
  have hP : va_P D vwCl [(lh, .inr (1, [.ref l0, .int (hd + 1), .int lo])), (l0, .inl (cI, 4, .inl (upd tm j ((tm j) + 1))))] H := hP
  have hD : va_D A [(lh, .inr (1, [.ref l0, .int (hd + 1), .int lo])), (l0, .inl (cI, 4, .inl (upd tm j ((tm j) + 1))))] := hD
  exact retWv (u := ()) hx hb hr hlocks trivial hP hD hS dX1_add_20
set_option maxHeartbeats 4000000 in
set_option maxRecDepth 100000 in
theorem c_X1_forget (l : Launch) (D : va_G) (cB cC cI : ClassId) (lh : Nat) (l0 : Nat) (tm : Nat → Int32) (hd : Int32) (lo : Int32) (sz : Nat)  : Met l yX1_forget wsX1_forget ({ frames := 0, cells := 0, slots := 0, locals := 0 }) (gPw D cB cC cI [.ref lh] [(lh, .inr (1, [.ref l0, .int hd, .int lo])), (l0, .inl (cI, 4, .inl tm))] sz) (QWv D [(lh, .inr (1, [.ref l0, .int 0, .int 0])), (l0, .inl (cI, 4, .inl (fun _ => 0)))] (va_A [(lh, .inr (1, [.ref l0, .int hd, .int lo])), (l0, .inl (cI, 4, .inl tm))] sz)) 0 0 (va_A [(lh, .inr (1, [.ref l0, .int hd, .int lo])), (l0, .inl (cI, 4, .inl tm))] sz) := by
  refine metW (cc := cX1_forget) (maxL := 2) (ret := none) (QA := fun A => (QWv D [(lh, .inr (1, [.ref l0, .int 0, .int 0])), (l0, .inl (cI, 4, .inl (fun _ => 0)))] A)) RX1 rfl (by decide) rfl (Nat.le_of_ble_eq_true rfl) ?_
  intro p e s m below meth c A hx hb hr hml hown hts hlocks hin hP hK hD hA hS ls hl
  have iwX1 : ∀ w ∈ wsX10, w ∈ wsX1_forget := by decide +kernel
  have fk9 := hts (.fieldLink RX1 9 "BuyersWeights$Ledger" "times" "[I") (by decide +kernel)
  have fk15 := hts (.fieldLink RX1 15 "BuyersWeights$Ledger" "hands" "I") (by decide +kernel)
  have fk19 := hts (.fieldLink RX1 19 "BuyersWeights$Ledger" "lost" "I") (by decide +kernel)
  have hl : lv_has ls 2 [(0, .ref lh)] := hl
  refine lv_iconst (v := 0) hx hb dX1_forget_0 (by decide) ?_
  refine lv_istore_n (lv' := [(1, .int 0), (0, .ref lh)]) hx hb dX1_forget_1 rfl hl (by decide) rfl (fun ls hl => ?_)
  refine lv_iload_n hx hb dX1_forget_2 rfl (lv_at hl 0 rfl) ?_
  refine lv_iconst (v := 4) hx hb dX1_forget_3 (by decide) ?_
  refine lv_icmp_ge (tgt := 20) hx hb dX1_forget_4 (by decide) (fun c_1 => absurd c_1 (by decide)) (fun c_1 => ?_)
  refine lv_aload_n hx hb dX1_forget_7 rfl (lv_at hl 1 rfl) ?_
  refine va_get (D := D) (ci := 1) (v := .ref l0) (C := RX1) (T := TX1) (N := 3) hx hb hts iwX1 hown hK.1 hP 0 rfl rfl 0 (by decide) fk9 (fun _ h9 => h9) rfl dX1_forget_8 ?_
  refine lv_iload_n hx hb dX1_forget_11 rfl (lv_at hl 0 rfl) ?_
  refine lv_iconst (v := 0) hx hb dX1_forget_12 (by decide) ?_
  refine my_iast hx hb hK hP hD hS 1 rfl (j := 0) (ix_nI (j := 0) (by decide) (by decide)) dX1_forget_13 (fun H locs hP hD hS => ?_)
  have hP : va_P D vwCl [(lh, .inr (1, [.ref l0, .int hd, .int lo])), (l0, .inl (cI, 4, .inl (upd tm 0 0)))] H := hP
  have hD : va_D A [(lh, .inr (1, [.ref l0, .int hd, .int lo])), (l0, .inl (cI, 4, .inl (upd tm 0 0)))] := hD
  refine lv_iinc (v := 1) (lv' := [(1, .int 1), (0, .ref lh)]) hx hb dX1_forget_14 hl (k := 0) rfl (by decide) (by decide) rfl (fun ls hl => ?_)
  refine lv_goto (tgt := 2) hx hb dX1_forget_17 (by decide) ?_
  refine lv_iload_n hx hb dX1_forget_2 rfl (lv_at hl 0 rfl) ?_
  refine lv_iconst (v := 4) hx hb dX1_forget_3 (by decide) ?_
  refine lv_icmp_ge (tgt := 20) hx hb dX1_forget_4 (by decide) (fun c_2 => absurd c_2 (by decide)) (fun c_2 => ?_)
  refine lv_aload_n hx hb dX1_forget_7 rfl (lv_at hl 1 rfl) ?_
  refine va_get (D := D) (ci := 1) (v := .ref l0) (C := RX1) (T := TX1) (N := 3) hx hb hts iwX1 hown hK.1 hP 0 rfl rfl 0 (by decide) fk9 (fun _ h9 => h9) rfl dX1_forget_8 ?_
  refine lv_iload_n hx hb dX1_forget_11 rfl (lv_at hl 0 rfl) ?_
  refine lv_iconst (v := 0) hx hb dX1_forget_12 (by decide) ?_
  refine my_iast hx hb hK hP hD hS 1 rfl (j := 1) (ix_nI (j := 1) (by decide) (by decide)) dX1_forget_13 (fun H locs hP hD hS => ?_)
  have hP : va_P D vwCl [(lh, .inr (1, [.ref l0, .int hd, .int lo])), (l0, .inl (cI, 4, .inl (upd (upd tm 0 0) 1 0)))] H := hP
  have hD : va_D A [(lh, .inr (1, [.ref l0, .int hd, .int lo])), (l0, .inl (cI, 4, .inl (upd (upd tm 0 0) 1 0)))] := hD
  refine lv_iinc (v := 2) (lv' := [(1, .int 2), (0, .ref lh)]) hx hb dX1_forget_14 hl (k := 0) rfl (by decide) (by decide) rfl (fun ls hl => ?_)
  refine lv_goto (tgt := 2) hx hb dX1_forget_17 (by decide) ?_
  refine lv_iload_n hx hb dX1_forget_2 rfl (lv_at hl 0 rfl) ?_
  refine lv_iconst (v := 4) hx hb dX1_forget_3 (by decide) ?_
  refine lv_icmp_ge (tgt := 20) hx hb dX1_forget_4 (by decide) (fun c_3 => absurd c_3 (by decide)) (fun c_3 => ?_)
  refine lv_aload_n hx hb dX1_forget_7 rfl (lv_at hl 1 rfl) ?_
  refine va_get (D := D) (ci := 1) (v := .ref l0) (C := RX1) (T := TX1) (N := 3) hx hb hts iwX1 hown hK.1 hP 0 rfl rfl 0 (by decide) fk9 (fun _ h9 => h9) rfl dX1_forget_8 ?_
  refine lv_iload_n hx hb dX1_forget_11 rfl (lv_at hl 0 rfl) ?_
  refine lv_iconst (v := 0) hx hb dX1_forget_12 (by decide) ?_
  refine my_iast hx hb hK hP hD hS 1 rfl (j := 2) (ix_nI (j := 2) (by decide) (by decide)) dX1_forget_13 (fun H locs hP hD hS => ?_)
  have hP : va_P D vwCl [(lh, .inr (1, [.ref l0, .int hd, .int lo])), (l0, .inl (cI, 4, .inl (upd (upd (upd tm 0 0) 1 0) 2 0)))] H := hP
  have hD : va_D A [(lh, .inr (1, [.ref l0, .int hd, .int lo])), (l0, .inl (cI, 4, .inl (upd (upd (upd tm 0 0) 1 0) 2 0)))] := hD
  refine lv_iinc (v := 3) (lv' := [(1, .int 3), (0, .ref lh)]) hx hb dX1_forget_14 hl (k := 0) rfl (by decide) (by decide) rfl (fun ls hl => ?_)
  refine lv_goto (tgt := 2) hx hb dX1_forget_17 (by decide) ?_
  refine lv_iload_n hx hb dX1_forget_2 rfl (lv_at hl 0 rfl) ?_
  refine lv_iconst (v := 4) hx hb dX1_forget_3 (by decide) ?_
  refine lv_icmp_ge (tgt := 20) hx hb dX1_forget_4 (by decide) (fun c_4 => absurd c_4 (by decide)) (fun c_4 => ?_)
  refine lv_aload_n hx hb dX1_forget_7 rfl (lv_at hl 1 rfl) ?_
  refine va_get (D := D) (ci := 1) (v := .ref l0) (C := RX1) (T := TX1) (N := 3) hx hb hts iwX1 hown hK.1 hP 0 rfl rfl 0 (by decide) fk9 (fun _ h9 => h9) rfl dX1_forget_8 ?_
  refine lv_iload_n hx hb dX1_forget_11 rfl (lv_at hl 0 rfl) ?_
  refine lv_iconst (v := 0) hx hb dX1_forget_12 (by decide) ?_
  refine my_iast hx hb hK hP hD hS 1 rfl (j := 3) (ix_nI (j := 3) (by decide) (by decide)) dX1_forget_13 (fun H locs hP hD hS => ?_)
  have hP : va_P D vwCl [(lh, .inr (1, [.ref l0, .int hd, .int lo])), (l0, .inl (cI, 4, .inl (upd (upd (upd (upd tm 0 0) 1 0) 2 0) 3 0)))] H := hP
  have hD : va_D A [(lh, .inr (1, [.ref l0, .int hd, .int lo])), (l0, .inl (cI, 4, .inl (upd (upd (upd (upd tm 0 0) 1 0) 2 0) 3 0)))] := hD
  refine lv_iinc (v := 4) (lv' := [(1, .int 4), (0, .ref lh)]) hx hb dX1_forget_14 hl (k := 0) rfl (by decide) (by decide) rfl (fun ls hl => ?_)
  refine lv_goto (tgt := 2) hx hb dX1_forget_17 (by decide) ?_
  refine lv_iload_n hx hb dX1_forget_2 rfl (lv_at hl 0 rfl) ?_
  refine lv_iconst (v := 4) hx hb dX1_forget_3 (by decide) ?_
  refine lv_icmp_ge (tgt := 20) hx hb dX1_forget_4 (by decide) (fun c_5 => ?_) (fun c_5 => absurd c_5 (by decide))
  refine lv_aload_n hx hb dX1_forget_20 rfl (lv_at hl 1 rfl) ?_
  refine lv_iconst (v := 0) hx hb dX1_forget_21 (by decide) ?_
  refine va_put (D := D) (ci := 1) (v := .int 0) (ty := .int) (C := RX1) (T := TX1) (N := 3) hx hb hts iwX1 tyX1 tyX1_ok nmX1 hown hK.1 hP hD hS 0 rfl rfl 1 (by decide) fk15 (fun _ h9 => h9) rfl (by decide +kernel) rfl rfl (Nat.le_of_ble_eq_true rfl) dX1_forget_22 (fun H locs hP hD hS => ?_)
  have hP : va_P D vwCl [(lh, .inr (1, [.ref l0, .int 0, .int lo])), (l0, .inl (cI, 4, .inl (upd (upd (upd (upd tm 0 0) 1 0) 2 0) 3 0)))] H := hP
  have hD : va_D A [(lh, .inr (1, [.ref l0, .int 0, .int lo])), (l0, .inl (cI, 4, .inl (upd (upd (upd (upd tm 0 0) 1 0) 2 0) 3 0)))] := hD
  refine lv_aload_n hx hb dX1_forget_25 rfl (lv_at hl 1 rfl) ?_
  refine lv_iconst (v := 0) hx hb dX1_forget_26 (by decide) ?_
  refine va_put (D := D) (ci := 1) (v := .int 0) (ty := .int) (C := RX1) (T := TX1) (N := 3) hx hb hts iwX1 tyX1 tyX1_ok nmX1 hown hK.1 hP hD hS 0 rfl rfl 2 (by decide) fk19 (fun _ h9 => h9) rfl (by decide +kernel) rfl rfl (Nat.le_of_ble_eq_true rfl) dX1_forget_27 (fun H locs hP hD hS => ?_)
  have hP : va_P D vwCl [(lh, .inr (1, [.ref l0, .int 0, .int 0])), (l0, .inl (cI, 4, .inl (upd (upd (upd (upd tm 0 0) 1 0) 2 0) 3 0)))] H := hP
  have hD : va_D A [(lh, .inr (1, [.ref l0, .int 0, .int 0])), (l0, .inl (cI, 4, .inl (upd (upd (upd (upd tm 0 0) 1 0) 2 0) 3 0)))] := hD
  have hP := va_P.arr (g := (fun _ => 0)) hP 1 rfl (fun j hj => co_4 (P := fun j => (upd (upd (upd (upd tm 0 0) 1 0) 2 0) 3 0) j = 0) rfl rfl rfl rfl hj)
  have hD := va_D.set (p := 1) (e := .inl (cI, 4, .inl (fun _ => 0))) hD rfl
  have hP : va_P D vwCl [(lh, .inr (1, [.ref l0, .int 0, .int 0])), (l0, .inl (cI, 4, .inl (fun _ => 0)))] H := hP
  have hD : va_D A [(lh, .inr (1, [.ref l0, .int 0, .int 0])), (l0, .inl (cI, 4, .inl (fun _ => 0)))] := hD
  exact retWv (u := ()) hx hb hr hlocks trivial hP hD hS dX1_forget_30
set_option maxHeartbeats 4000000 in
set_option maxRecDepth 100000 in
theorem c_X1_copyFrom (l : Launch) (D : va_G) (cB cC cI : ClassId) (lh : Nat) (l0 : Nat) (tm : Nat → Int32) (hd : Int32) (lo : Int32) (jh : Nat) (j0 : Nat) (jm : Nat → Int32) (jd : Int32) (jo : Int32) (sz : Nat)  : Met l yX1_copyFrom wsX1_copyFrom ({ frames := 2, cells := 0, slots := 0, locals := 51 }) (gPw D cB cC cI [.ref lh, .ref jh] [(lh, .inr (1, [.ref l0, .int hd, .int lo])), (l0, .inl (cI, 4, .inl tm)), (jh, .inr (1, [.ref j0, .int jd, .int jo])), (j0, .inl (cI, 4, .inl jm))] sz) (QWv D [(lh, .inr (1, [.ref l0, .int jd, .int jo])), (l0, .inl (cI, 4, .inl jm)), (jh, .inr (1, [.ref j0, .int jd, .int jo])), (j0, .inl (cI, 4, .inl jm))] (va_A [(lh, .inr (1, [.ref l0, .int hd, .int lo])), (l0, .inl (cI, 4, .inl tm)), (jh, .inr (1, [.ref j0, .int jd, .int jo])), (j0, .inl (cI, 4, .inl jm))] sz)) 0 0 (va_A [(lh, .inr (1, [.ref l0, .int hd, .int lo])), (l0, .inl (cI, 4, .inl tm)), (jh, .inr (1, [.ref j0, .int jd, .int jo])), (j0, .inl (cI, 4, .inl jm))] sz) := by
  refine metW (cc := cX1_copyFrom) (maxL := 2) (ret := none) (QA := fun A => (QWv D [(lh, .inr (1, [.ref l0, .int jd, .int jo])), (l0, .inl (cI, 4, .inl jm)), (jh, .inr (1, [.ref j0, .int jd, .int jo])), (j0, .inl (cI, 4, .inl jm))] A)) RX1 rfl (by decide) rfl (Nat.le_of_ble_eq_true rfl) ?_
  intro p e s m below meth c A hx hb hr hml hown hts hlocks hin hP hK hD hA hS ls hl
  have iwX1 : ∀ w ∈ wsX10, w ∈ wsX1_copyFrom := by decide +kernel
  have fk9 := hts (.fieldLink RX1 9 "BuyersWeights$Ledger" "times" "[I") (by decide +kernel)
  have fk15 := hts (.fieldLink RX1 15 "BuyersWeights$Ledger" "hands" "I") (by decide +kernel)
  have fk19 := hts (.fieldLink RX1 19 "BuyersWeights$Ledger" "lost" "I") (by decide +kernel)
  have hl : lv_has ls 2 [(0, .ref lh), (1, .ref jh)] := hl
  refine lv_aload_n hx hb dX1_copyFrom_0 rfl (lv_at hl 1 rfl) ?_
  refine va_get (D := D) (ci := 1) (v := .ref j0) (C := RX1) (T := TX1) (N := 3) hx hb hts iwX1 hown hK.1 hP 2 rfl rfl 0 (by decide) fk9 (fun _ h9 => h9) rfl dX1_copyFrom_1 ?_
  refine lv_aload_n hx hb dX1_copyFrom_4 rfl (lv_at hl 0 rfl) ?_
  refine va_get (D := D) (ci := 1) (v := .ref l0) (C := RX1) (T := TX1) (N := 3) hx hb hts iwX1 hown hK.1 hP 0 rfl rfl 0 (by decide) fk9 (fun _ h9 => h9) rfl dX1_copyFrom_5 ?_
  refine wcNv1 (As := [.ref j0, .ref l0]) (rest := []) (wr := [(lh, .inr (1, [.ref l0, .int hd, .int lo])), (jh, .inr (1, [.ref j0, .int jd, .int jo]))]) (w2 := [(lh, .inr (1, [.ref l0, .int hd, .int lo])), (l0, .inl (cI, 4, .inl jm)), (jh, .inr (1, [.ref j0, .int jd, .int jo])), (j0, .inl (cI, 4, .inl jm))]) ⟨hx, hb, hml, hown, hts⟩ (c_X5_copyRow l D cB cC cI j0 l0 jm tm _) ⟨va_cnB 2 hts gX1_copyFrom_X5_copyRow_n22 rfl rfl rfl hK.2.2.2.2.2.2.2.2.2 (hts (.initialized RX5) (by decide +kernel)) (by decide +kernel) ⟨Nat.le_of_ble_eq_true rfl, Nat.le_of_ble_eq_true rfl⟩, hts (.static yX5_copyRow) (by decide +kernel), trivial⟩ hK hP hD hS hA [3, 1] [0, 2] [0, 3, 1, 2] (by decide) rfl rfl (by decide) (by decide) (by decide) rfl rfl hl.1 rfl (Nat.le_of_ble_eq_true rfl) dX1_copyFrom_8 ⟨Nat.zero_le _, Nat.zero_le _⟩ (fun H locs hP hD hS => ?_)
  refine lv_aload_n hx hb dX1_copyFrom_11 rfl (lv_at hl 0 rfl) ?_
  refine lv_aload_n hx hb dX1_copyFrom_12 rfl (lv_at hl 1 rfl) ?_
  refine va_get (D := D) (ci := 1) (v := .int jd) (C := RX1) (T := TX1) (N := 3) hx hb hts iwX1 hown hK.1 hP 2 rfl rfl 1 (by decide) fk15 (fun _ h9 => h9) rfl dX1_copyFrom_13 ?_
  refine va_put (D := D) (ci := 1) (v := .int jd) (ty := .int) (C := RX1) (T := TX1) (N := 3) hx hb hts iwX1 tyX1 tyX1_ok nmX1 hown hK.1 hP hD hS 0 rfl rfl 1 (by decide) fk15 (fun _ h9 => h9) rfl (by decide +kernel) rfl rfl (Nat.le_of_ble_eq_true rfl) dX1_copyFrom_16 (fun H locs hP hD hS => ?_)
  have hP : va_P D vwCl [(lh, .inr (1, [.ref l0, .int jd, .int lo])), (l0, .inl (cI, 4, .inl jm)), (jh, .inr (1, [.ref j0, .int jd, .int jo])), (j0, .inl (cI, 4, .inl jm))] H := hP
  have hD : va_D A [(lh, .inr (1, [.ref l0, .int jd, .int lo])), (l0, .inl (cI, 4, .inl jm)), (jh, .inr (1, [.ref j0, .int jd, .int jo])), (j0, .inl (cI, 4, .inl jm))] := hD
  refine lv_aload_n hx hb dX1_copyFrom_19 rfl (lv_at hl 0 rfl) ?_
  refine lv_aload_n hx hb dX1_copyFrom_20 rfl (lv_at hl 1 rfl) ?_
  refine va_get (D := D) (ci := 1) (v := .int jo) (C := RX1) (T := TX1) (N := 3) hx hb hts iwX1 hown hK.1 hP 2 rfl rfl 2 (by decide) fk19 (fun _ h9 => h9) rfl dX1_copyFrom_21 ?_
  refine va_put (D := D) (ci := 1) (v := .int jo) (ty := .int) (C := RX1) (T := TX1) (N := 3) hx hb hts iwX1 tyX1 tyX1_ok nmX1 hown hK.1 hP hD hS 0 rfl rfl 2 (by decide) fk19 (fun _ h9 => h9) rfl (by decide +kernel) rfl rfl (Nat.le_of_ble_eq_true rfl) dX1_copyFrom_24 (fun H locs hP hD hS => ?_)
  have hP : va_P D vwCl [(lh, .inr (1, [.ref l0, .int jd, .int jo])), (l0, .inl (cI, 4, .inl jm)), (jh, .inr (1, [.ref j0, .int jd, .int jo])), (j0, .inl (cI, 4, .inl jm))] H := hP
  have hD : va_D A [(lh, .inr (1, [.ref l0, .int jd, .int jo])), (l0, .inl (cI, 4, .inl jm)), (jh, .inr (1, [.ref j0, .int jd, .int jo])), (j0, .inl (cI, 4, .inl jm))] := hD
  exact retWv (u := ()) hx hb hr hlocks trivial hP hD hS dX1_copyFrom_27
end
section
set_option maxHeartbeats 4000000 in
set_option maxRecDepth 100000 in
theorem c_J0_isLatin1_aae02 (l : Launch) (D : va_G) (cB cC cI : ClassId) (ka va : Nat)   : Met l yJ0_isLatin1_aae02 wsJ0_isLatin1_aae02 ({ frames := 0, cells := 0, slots := 0, locals := 0 }) (gPrS D cB cC cI ka va [.ref ka] []) (vp_Si (fun r => r = 1)) 0 0 (fun _ => False) := by
  refine metRS (cc := cJ0_isLatin1_aae02) (maxL := 1) (ret := (some .boolean)) RJ0 rfl (by decide) rfl (Nat.le_of_ble_eq_true rfl) ?_
  intro p e s m below meth c hx hb hr hml hown hts hlocks hP hK hG ls hl
  have fk38 := hts (.fieldLink RJ0 38 "java/lang/String" "COMPACT_STRINGS" "Z") (by decide +kernel)
  have fk15 := hts (.fieldLink RJ0 15 "java/lang/String" "coder" "B") (by decide +kernel)
  have hl : lv_has ls 1 [(0, .ref ka)] := hl
  refine va_gets hx hb hG.2.2.2.2.2.2 va_S.rf hown fk38 (fun _ h9 => h9) dJ0_isLatin1_aae02_0 ?_
  refine lv_if_eq (tgt := 17) hx hb dJ0_isLatin1_aae02_3 (by decide) (fun c_1 => absurd c_1 (by decide)) (fun c_1 => ?_)
  refine lv_aload_n hx hb dJ0_isLatin1_aae02_6 rfl (lv_at hl 0 rfl) ?_
  refine vk_getf hx hb hG.2.2.2.1 va_S.rf hown fk15 (fun _ h9 => h9) dJ0_isLatin1_aae02_7 ?_
  refine lv_if_ne (tgt := 17) hx hb dJ0_isLatin1_aae02_10 (by decide) (fun c_2 => absurd c_2 (by decide)) (fun c_2 => ?_)
  refine lv_iconst (v := 1) hx hb dJ0_isLatin1_aae02_13 (by decide) ?_
  refine lv_goto (tgt := 18) hx hb dJ0_isLatin1_aae02_14 (by decide) ?_
  exact retRz hx hb hr hlocks rfl rfl dJ0_isLatin1_aae02_18
set_option maxHeartbeats 4000000 in
set_option maxRecDepth 100000 in
theorem c_J0_coder_7d493 (l : Launch) (D : va_G) (cB cC cI : ClassId) (ka va : Nat)   : Met l yJ0_coder_7d493 wsJ0_coder_7d493 ({ frames := 0, cells := 0, slots := 0, locals := 0 }) (gPrS D cB cC cI ka va [.ref ka] []) (vp_Si (fun r => r = 0)) 0 0 (fun _ => False) := by
  refine metRS (cc := cJ0_coder_7d493) (maxL := 1) (ret := (some .byte)) RJ0 rfl (by decide) rfl (Nat.le_of_ble_eq_true rfl) ?_
  intro p e s m below meth c hx hb hr hml hown hts hlocks hP hK hG ls hl
  have fk38 := hts (.fieldLink RJ0 38 "java/lang/String" "COMPACT_STRINGS" "Z") (by decide +kernel)
  have fk15 := hts (.fieldLink RJ0 15 "java/lang/String" "coder" "B") (by decide +kernel)
  have hl : lv_has ls 1 [(0, .ref ka)] := hl
  refine va_gets hx hb hG.2.2.2.2.2.2 va_S.rf hown fk38 (fun _ h9 => h9) dJ0_coder_7d493_0 ?_
  refine lv_if_eq (tgt := 13) hx hb dJ0_coder_7d493_3 (by decide) (fun c_1 => absurd c_1 (by decide)) (fun c_1 => ?_)
  refine lv_aload_n hx hb dJ0_coder_7d493_6 rfl (lv_at hl 0 rfl) ?_
  refine vk_getf hx hb hG.2.2.2.1 va_S.rf hown fk15 (fun _ h9 => h9) dJ0_coder_7d493_7 ?_
  refine lv_goto (tgt := 14) hx hb dJ0_coder_7d493_10 (by decide) ?_
  exact retRz hx hb hr hlocks rfl rfl dJ0_coder_7d493_14
set_option maxHeartbeats 4000000 in
set_option maxRecDepth 100000 in
theorem c_J0_length_8abf5 (l : Launch) (D : va_G) (cB cC cI : ClassId) (ka va : Nat)   : Met l yJ0_length_8abf5 wsJ0_length_8abf5 ({ frames := 1, cells := 0, slots := 0, locals := 20 }) (gPrS D cB cC cI ka va [.ref ka] []) (vp_Si (fun r => r = 5)) 0 0 (fun _ => False) := by
  refine metRS (cc := cJ0_length_8abf5) (maxL := 1) (ret := (some .int)) RJ0 rfl (by decide) rfl (Nat.le_of_ble_eq_true rfl) ?_
  intro p e s m below meth c hx hb hr hml hown hts hlocks hP hK hG ls hl
  have fk9 := hts (.fieldLink RJ0 9 "java/lang/String" "value" "[B") (by decide +kernel)
  have hl : lv_has ls 1 [(0, .ref ka)] := hl
  refine lv_aload_n hx hb dJ0_length_8abf5_0 rfl (lv_at hl 0 rfl) ?_
  refine vk_getf hx hb hG.2.2.2.2.1 va_S.rf hown fk9 (fun _ h9 => h9) dJ0_length_8abf5_1 ?_
  refine va_tlen (v := 5) hx hb hG.2.2.2.2.2.1 va_S.rf rfl dJ0_length_8abf5_4 ?_
  refine lv_aload_n hx hb dJ0_length_8abf5_5 rfl (lv_at hl 0 rfl) ?_
  refine rcTiS (As := []) (rest := [.int 5]) ⟨hx, hb, hml, hown, hts⟩ (c_J0_coder_7d493 l D cB cC cI ka va ) (cwV 0 hts gJ0_length_8abf5_J0_coder_7d493 rfl rfl rfl (by decide +kernel) ⟨Nat.le_of_ble_eq_true rfl, Nat.le_of_ble_eq_true rfl⟩) hG hK hP [] rfl rfl hl.1 rfl (Nat.le_of_ble_eq_true rfl) dJ0_length_8abf5_6 ⟨Nat.zero_le _, Nat.zero_le _⟩ ?_
  refine lv_ishr hx hb dJ0_length_8abf5_9 ?_
  refine my_top (y := 5) (by decide) ?_
  exact retRi hx hb hr hlocks rfl dJ0_length_8abf5_10
def f_J1_canEncode_9a6ad (ch : Int32) : Int32 := if ch < 0 then 0 else if 255 < ch then 0 else 1
set_option maxHeartbeats 4000000 in
set_option maxRecDepth 100000 in
theorem c_J1_canEncode_9a6ad (l : Launch) (D : va_G) (cB cC cI : ClassId) (ch : Int32)  : Met l yJ1_canEncode_9a6ad wsJ1_canEncode_9a6ad ({ frames := 0, cells := 0, slots := 0, locals := 0 }) (gPr D cB cC cI [.int ch] []) (vp_Si (fun r => r = (f_J1_canEncode_9a6ad ch))) 0 0 (fun _ => False) := by
  refine metR (cc := cJ1_canEncode_9a6ad) (maxL := 1) (ret := (some .boolean)) RJ1 rfl (by decide) rfl (Nat.le_of_ble_eq_true rfl) ?_
  intro p e s m below meth c hx hb hr hml hown hts hlocks hP hK ls hl
  have hl : lv_has ls 1 [(0, .int ch)] := hl
  refine lv_iload_n hx hb dJ1_canEncode_9a6ad_0 rfl (lv_at hl 0 rfl) ?_
  refine lv_if_lt (tgt := 15) hx hb dJ1_canEncode_9a6ad_1 (by decide) (fun c_1 => ?_) (fun c_1 => ?_)
  · refine lv_iconst (v := 0) hx hb dJ1_canEncode_9a6ad_15 (by decide) ?_
    have eG : f_J1_canEncode_9a6ad ch = 0 := if_pos c_1
    exact retRz hx hb hr hlocks rfl eG.symm dJ1_canEncode_9a6ad_16
  · refine lv_iload_n hx hb dJ1_canEncode_9a6ad_4 rfl (lv_at hl 0 rfl) ?_
    refine lv_sipush (v := 255) hx hb dJ1_canEncode_9a6ad_5 (by decide) ?_
    refine lv_icmp_gt (tgt := 15) hx hb dJ1_canEncode_9a6ad_8 (by decide) (fun c_2 => ?_) (fun c_2 => ?_)
    · refine lv_iconst (v := 0) hx hb dJ1_canEncode_9a6ad_15 (by decide) ?_
      have eG : f_J1_canEncode_9a6ad ch = 0 := (if_neg c_1).trans (if_pos c_2)
      exact retRz hx hb hr hlocks rfl eG.symm dJ1_canEncode_9a6ad_16
    · refine lv_iconst (v := 1) hx hb dJ1_canEncode_9a6ad_11 (by decide) ?_
      refine lv_goto (tgt := 16) hx hb dJ1_canEncode_9a6ad_12 (by decide) ?_
      have eG : f_J1_canEncode_9a6ad ch = 1 := (if_neg c_1).trans (if_neg c_2)
      exact retRz hx hb hr hlocks rfl eG.symm dJ1_canEncode_9a6ad_16
def f_J1_indexOfChar_4cfef (ch : Int32) : Int32 := if 104 = ch.toInt8.toInt32 then 0 else if 114 = ch.toInt8.toInt32 then 1 else if 111 = ch.toInt8.toInt32 then 2 else if 119 = ch.toInt8.toInt32 then 3 else if 109 = ch.toInt8.toInt32 then 4 else (-1)
set_option maxHeartbeats 4000000 in
set_option maxRecDepth 100000 in
theorem c_J1_indexOfChar_4cfef (l : Launch) (D : va_G) (cB cC cI : ClassId) (ka va : Nat) (ch : Int32)  : Met l yJ1_indexOfChar_4cfef wsJ1_indexOfChar_4cfef ({ frames := 0, cells := 0, slots := 0, locals := 0 }) (gPrS D cB cC cI ka va [.ref va, .int ch, .int 0, .int 5] []) (vp_Si (fun r => r = (f_J1_indexOfChar_4cfef ch))) 0 0 (fun _ => False) := by
  refine metRS (cc := cJ1_indexOfChar_4cfef) (maxL := 6) (ret := (some .int)) RJ1 rfl (by decide) rfl (Nat.le_of_ble_eq_true rfl) ?_
  intro p e s m below meth c hx hb hr hml hown hts hlocks hP hK hG ls hl
  have hl : lv_has ls 6 [(0, .ref va), (1, .int ch), (2, .int 0), (3, .int 5)] := hl
  refine lv_iload_n hx hb dJ1_indexOfChar_4cfef_0 rfl (lv_at hl 1 rfl) ?_
  refine lv_i2b (v := ch.toInt8.toInt32) hx hb dJ1_indexOfChar_4cfef_1 rfl ?_
  refine lv_istore (lv' := [(4, .int ch.toInt8.toInt32), (0, .ref va), (1, .int ch), (2, .int 0), (3, .int 5)]) hx hb dJ1_indexOfChar_4cfef_2 hl (by decide) rfl (fun ls hl => ?_)
  refine lv_iload_n hx hb dJ1_indexOfChar_4cfef_4 rfl (lv_at hl 3 rfl) ?_
  refine lv_istore (lv' := [(5, .int 0), (4, .int ch.toInt8.toInt32), (0, .ref va), (1, .int ch), (2, .int 0), (3, .int 5)]) hx hb dJ1_indexOfChar_4cfef_5 hl (by decide) rfl (fun ls hl => ?_)
  refine lv_iload hx hb dJ1_indexOfChar_4cfef_7 (lv_at hl 0 rfl) ?_
  refine lv_iload_n hx hb dJ1_indexOfChar_4cfef_9 rfl (lv_at hl 5 rfl) ?_
  refine lv_icmp_ge (tgt := 31) hx hb dJ1_indexOfChar_4cfef_10 (by decide) (fun c_1 => absurd c_1 (by decide)) (fun c_1 => ?_)
  refine lv_aload_n hx hb dJ1_indexOfChar_4cfef_13 rfl (lv_at hl 2 rfl) ?_
  refine lv_iload hx hb dJ1_indexOfChar_4cfef_14 (lv_at hl 0 rfl) ?_
  refine va_tb (v := .int 104) hx hb hG.2.2.2.2.2.1 va_S.rf (vp_in_nI (n := 0) (by decide) (by decide)) rfl dJ1_indexOfChar_4cfef_16 ?_
  refine lv_iload hx hb dJ1_indexOfChar_4cfef_17 (lv_at hl 1 rfl) ?_
  refine lv_icmp_ne (tgt := 25) hx hb dJ1_indexOfChar_4cfef_19 (by decide) (fun c_2 => ?_) (fun c_2 => ?_)
  · refine lv_iinc (v := 1) (lv' := [(5, .int 1), (4, .int ch.toInt8.toInt32), (0, .ref va), (1, .int ch), (2, .int 0), (3, .int 5)]) hx hb dJ1_indexOfChar_4cfef_25 hl (k := 0) rfl (by decide) (by decide) rfl (fun ls hl => ?_)
    refine lv_goto (tgt := 7) hx hb dJ1_indexOfChar_4cfef_28 (by decide) ?_
    refine lv_iload hx hb dJ1_indexOfChar_4cfef_7 (lv_at hl 0 rfl) ?_
    refine lv_iload_n hx hb dJ1_indexOfChar_4cfef_9 rfl (lv_at hl 5 rfl) ?_
    refine lv_icmp_ge (tgt := 31) hx hb dJ1_indexOfChar_4cfef_10 (by decide) (fun c_3 => absurd c_3 (by decide)) (fun c_3 => ?_)
    refine lv_aload_n hx hb dJ1_indexOfChar_4cfef_13 rfl (lv_at hl 2 rfl) ?_
    refine lv_iload hx hb dJ1_indexOfChar_4cfef_14 (lv_at hl 0 rfl) ?_
    refine va_tb (v := .int 114) hx hb hG.2.2.2.2.2.1 va_S.rf (vp_in_nI (n := 1) (by decide) (by decide)) rfl dJ1_indexOfChar_4cfef_16 ?_
    refine lv_iload hx hb dJ1_indexOfChar_4cfef_17 (lv_at hl 1 rfl) ?_
    refine lv_icmp_ne (tgt := 25) hx hb dJ1_indexOfChar_4cfef_19 (by decide) (fun c_4 => ?_) (fun c_4 => ?_)
    · refine lv_iinc (v := 2) (lv' := [(5, .int 2), (4, .int ch.toInt8.toInt32), (0, .ref va), (1, .int ch), (2, .int 0), (3, .int 5)]) hx hb dJ1_indexOfChar_4cfef_25 hl (k := 0) rfl (by decide) (by decide) rfl (fun ls hl => ?_)
      refine lv_goto (tgt := 7) hx hb dJ1_indexOfChar_4cfef_28 (by decide) ?_
      refine lv_iload hx hb dJ1_indexOfChar_4cfef_7 (lv_at hl 0 rfl) ?_
      refine lv_iload_n hx hb dJ1_indexOfChar_4cfef_9 rfl (lv_at hl 5 rfl) ?_
      refine lv_icmp_ge (tgt := 31) hx hb dJ1_indexOfChar_4cfef_10 (by decide) (fun c_5 => absurd c_5 (by decide)) (fun c_5 => ?_)
      refine lv_aload_n hx hb dJ1_indexOfChar_4cfef_13 rfl (lv_at hl 2 rfl) ?_
      refine lv_iload hx hb dJ1_indexOfChar_4cfef_14 (lv_at hl 0 rfl) ?_
      refine va_tb (v := .int 111) hx hb hG.2.2.2.2.2.1 va_S.rf (vp_in_nI (n := 2) (by decide) (by decide)) rfl dJ1_indexOfChar_4cfef_16 ?_
      refine lv_iload hx hb dJ1_indexOfChar_4cfef_17 (lv_at hl 1 rfl) ?_
      refine lv_icmp_ne (tgt := 25) hx hb dJ1_indexOfChar_4cfef_19 (by decide) (fun c_6 => ?_) (fun c_6 => ?_)
      · refine lv_iinc (v := 3) (lv' := [(5, .int 3), (4, .int ch.toInt8.toInt32), (0, .ref va), (1, .int ch), (2, .int 0), (3, .int 5)]) hx hb dJ1_indexOfChar_4cfef_25 hl (k := 0) rfl (by decide) (by decide) rfl (fun ls hl => ?_)
        refine lv_goto (tgt := 7) hx hb dJ1_indexOfChar_4cfef_28 (by decide) ?_
        refine lv_iload hx hb dJ1_indexOfChar_4cfef_7 (lv_at hl 0 rfl) ?_
        refine lv_iload_n hx hb dJ1_indexOfChar_4cfef_9 rfl (lv_at hl 5 rfl) ?_
        refine lv_icmp_ge (tgt := 31) hx hb dJ1_indexOfChar_4cfef_10 (by decide) (fun c_7 => absurd c_7 (by decide)) (fun c_7 => ?_)
        refine lv_aload_n hx hb dJ1_indexOfChar_4cfef_13 rfl (lv_at hl 2 rfl) ?_
        refine lv_iload hx hb dJ1_indexOfChar_4cfef_14 (lv_at hl 0 rfl) ?_
        refine va_tb (v := .int 119) hx hb hG.2.2.2.2.2.1 va_S.rf (vp_in_nI (n := 3) (by decide) (by decide)) rfl dJ1_indexOfChar_4cfef_16 ?_
        refine lv_iload hx hb dJ1_indexOfChar_4cfef_17 (lv_at hl 1 rfl) ?_
        refine lv_icmp_ne (tgt := 25) hx hb dJ1_indexOfChar_4cfef_19 (by decide) (fun c_8 => ?_) (fun c_8 => ?_)
        · refine lv_iinc (v := 4) (lv' := [(5, .int 4), (4, .int ch.toInt8.toInt32), (0, .ref va), (1, .int ch), (2, .int 0), (3, .int 5)]) hx hb dJ1_indexOfChar_4cfef_25 hl (k := 0) rfl (by decide) (by decide) rfl (fun ls hl => ?_)
          refine lv_goto (tgt := 7) hx hb dJ1_indexOfChar_4cfef_28 (by decide) ?_
          refine lv_iload hx hb dJ1_indexOfChar_4cfef_7 (lv_at hl 0 rfl) ?_
          refine lv_iload_n hx hb dJ1_indexOfChar_4cfef_9 rfl (lv_at hl 5 rfl) ?_
          refine lv_icmp_ge (tgt := 31) hx hb dJ1_indexOfChar_4cfef_10 (by decide) (fun c_9 => absurd c_9 (by decide)) (fun c_9 => ?_)
          refine lv_aload_n hx hb dJ1_indexOfChar_4cfef_13 rfl (lv_at hl 2 rfl) ?_
          refine lv_iload hx hb dJ1_indexOfChar_4cfef_14 (lv_at hl 0 rfl) ?_
          refine va_tb (v := .int 109) hx hb hG.2.2.2.2.2.1 va_S.rf (vp_in_nI (n := 4) (by decide) (by decide)) rfl dJ1_indexOfChar_4cfef_16 ?_
          refine lv_iload hx hb dJ1_indexOfChar_4cfef_17 (lv_at hl 1 rfl) ?_
          refine lv_icmp_ne (tgt := 25) hx hb dJ1_indexOfChar_4cfef_19 (by decide) (fun c_10 => ?_) (fun c_10 => ?_)
          · refine lv_iinc (v := 5) (lv' := [(5, .int 5), (4, .int ch.toInt8.toInt32), (0, .ref va), (1, .int ch), (2, .int 0), (3, .int 5)]) hx hb dJ1_indexOfChar_4cfef_25 hl (k := 0) rfl (by decide) (by decide) rfl (fun ls hl => ?_)
            refine lv_goto (tgt := 7) hx hb dJ1_indexOfChar_4cfef_28 (by decide) ?_
            refine lv_iload hx hb dJ1_indexOfChar_4cfef_7 (lv_at hl 0 rfl) ?_
            refine lv_iload_n hx hb dJ1_indexOfChar_4cfef_9 rfl (lv_at hl 5 rfl) ?_
            refine lv_icmp_ge (tgt := 31) hx hb dJ1_indexOfChar_4cfef_10 (by decide) (fun c_11 => ?_) (fun c_11 => absurd c_11 (by decide))
            refine lv_iconst (v := (-1)) hx hb dJ1_indexOfChar_4cfef_31 (by decide) ?_
            have eG : f_J1_indexOfChar_4cfef ch = (-1) := (if_neg c_2).trans ((if_neg c_4).trans ((if_neg c_6).trans ((if_neg c_8).trans (if_neg c_10))))
            exact retRi hx hb hr hlocks eG.symm dJ1_indexOfChar_4cfef_32
          · refine lv_iload hx hb dJ1_indexOfChar_4cfef_22 (lv_at hl 0 rfl) ?_
            have eG : f_J1_indexOfChar_4cfef ch = 4 := (if_neg c_2).trans ((if_neg c_4).trans ((if_neg c_6).trans ((if_neg c_8).trans (if_pos c_10))))
            exact retRi hx hb hr hlocks eG.symm dJ1_indexOfChar_4cfef_24
        · refine lv_iload hx hb dJ1_indexOfChar_4cfef_22 (lv_at hl 0 rfl) ?_
          have eG : f_J1_indexOfChar_4cfef ch = 3 := (if_neg c_2).trans ((if_neg c_4).trans ((if_neg c_6).trans (if_pos c_8)))
          exact retRi hx hb hr hlocks eG.symm dJ1_indexOfChar_4cfef_24
      · refine lv_iload hx hb dJ1_indexOfChar_4cfef_22 (lv_at hl 0 rfl) ?_
        have eG : f_J1_indexOfChar_4cfef ch = 2 := (if_neg c_2).trans ((if_neg c_4).trans (if_pos c_6))
        exact retRi hx hb hr hlocks eG.symm dJ1_indexOfChar_4cfef_24
    · refine lv_iload hx hb dJ1_indexOfChar_4cfef_22 (lv_at hl 0 rfl) ?_
      have eG : f_J1_indexOfChar_4cfef ch = 1 := (if_neg c_2).trans (if_pos c_4)
      exact retRi hx hb hr hlocks eG.symm dJ1_indexOfChar_4cfef_24
  · refine lv_iload hx hb dJ1_indexOfChar_4cfef_22 (lv_at hl 0 rfl) ?_
    have eG : f_J1_indexOfChar_4cfef ch = 0 := if_pos c_2
    exact retRi hx hb hr hlocks eG.symm dJ1_indexOfChar_4cfef_24
def f_J1_indexOf_4cfef (ch : Int32) : Int32 := if (f_J1_canEncode_9a6ad ch) = 0 then (-1) else (f_J1_indexOfChar_4cfef ch)
set_option maxHeartbeats 4000000 in
set_option maxRecDepth 100000 in
theorem c_J1_indexOf_4cfef (l : Launch) (D : va_G) (cB cC cI : ClassId) (ka va : Nat) (ch : Int32)  : Met l yJ1_indexOf_4cfef wsJ1_indexOf_4cfef ({ frames := 1, cells := 0, slots := 0, locals := 25 }) (gPrS D cB cC cI ka va [.ref va, .int ch, .int 0, .int 5] []) (vp_Si (fun r => r = (f_J1_indexOf_4cfef ch))) 0 0 (fun _ => False) := by
  refine metRS (cc := cJ1_indexOf_4cfef) (maxL := 4) (ret := (some .int)) RJ1 rfl (by decide) rfl (Nat.le_of_ble_eq_true rfl) ?_
  intro p e s m below meth c hx hb hr hml hown hts hlocks hP hK hG ls hl
  have hl : lv_has ls 4 [(0, .ref va), (1, .int ch), (2, .int 0), (3, .int 5)] := hl
  refine lv_iload_n hx hb dJ1_indexOf_4cfef_0 rfl (lv_at hl 1 rfl) ?_
  refine rcSi (As := [.int ch]) (rest := []) ⟨hx, hb, hml, hown, hts⟩ (c_J1_canEncode_9a6ad l D cB cC cI ch) (va_cwS 1 hts gJ1_indexOf_4cfef_J1_canEncode_9a6ad rfl rfl rfl (by decide +kernel) ⟨Nat.le_of_ble_eq_true rfl, Nat.le_of_ble_eq_true rfl⟩) hK hP [] rfl rfl hl.1 rfl (Nat.le_of_ble_eq_true rfl) dJ1_indexOf_4cfef_1 ⟨Nat.zero_le _, Nat.zero_le _⟩ ?_
  refine lv_if_ne (tgt := 9) hx hb dJ1_indexOf_4cfef_4 (by decide) (fun c_1 => ?_) (fun c_1 => ?_)
  · refine lv_iload_n hx hb dJ1_indexOf_4cfef_9 rfl (lv_at hl 2 rfl) ?_
    refine lv_iconst (v := 0) hx hb dJ1_indexOf_4cfef_10 (by decide) ?_
    refine va_mmax hx hb (hml.trans hl.1.symm) hown (hts (.methodLink RJ1 92 Lib.Math.max.name) (by decide +kernel)) (hts (.static Lib.Math.max.name) (by decide +kernel)) (hts (.initialized "java/lang/Math") (by decide +kernel)) (hts (.code Lib.Math.max.name Lib.Math.max.code 2 (some .int)) (by decide +kernel)) (Nat.le_of_ble_eq_true rfl) (Nat.le_of_ble_eq_true rfl) (Nat.zero_le _) (Nat.zero_le _) dJ1_indexOf_4cfef_11 ?_
    refine my_top (y := 0) (by decide) ?_
    refine lv_istore_n (lv' := [(2, .int 0), (0, .ref va), (1, .int ch), (3, .int 5)]) hx hb dJ1_indexOf_4cfef_14 rfl hl (by decide) rfl (fun ls hl => ?_)
    refine lv_iload_n hx hb dJ1_indexOf_4cfef_15 rfl (lv_at hl 3 rfl) ?_
    refine lv_aload_n hx hb dJ1_indexOf_4cfef_16 rfl (lv_at hl 1 rfl) ?_
    refine va_tlen (v := 5) hx hb hG.2.2.2.2.2.1 va_S.rf rfl dJ1_indexOf_4cfef_17 ?_
    refine va_mmin hx hb (hml.trans hl.1.symm) hown (hts (.methodLink RJ1 38 Lib.Math.min.name) (by decide +kernel)) (hts (.static Lib.Math.min.name) (by decide +kernel)) (hts (.initialized "java/lang/Math") (by decide +kernel)) (hts (.code Lib.Math.min.name Lib.Math.min.code 2 (some .int)) (by decide +kernel)) (Nat.le_of_ble_eq_true rfl) (Nat.le_of_ble_eq_true rfl) (Nat.zero_le _) (Nat.zero_le _) dJ1_indexOf_4cfef_18 ?_
    refine my_top (y := 5) (by decide) ?_
    refine lv_istore_n (lv' := [(3, .int 5), (2, .int 0), (0, .ref va), (1, .int ch)]) hx hb dJ1_indexOf_4cfef_21 rfl hl (by decide) rfl (fun ls hl => ?_)
    refine lv_iload_n hx hb dJ1_indexOf_4cfef_22 rfl (lv_at hl 1 rfl) ?_
    refine lv_iload_n hx hb dJ1_indexOf_4cfef_23 rfl (lv_at hl 0 rfl) ?_
    refine lv_icmp_lt (tgt := 29) hx hb dJ1_indexOf_4cfef_24 (by decide) (fun c_2 => ?_) (fun c_2 => absurd c_2 (by decide))
    refine lv_aload_n hx hb dJ1_indexOf_4cfef_29 rfl (lv_at hl 2 rfl) ?_
    refine lv_iload_n hx hb dJ1_indexOf_4cfef_30 rfl (lv_at hl 3 rfl) ?_
    refine lv_iload_n hx hb dJ1_indexOf_4cfef_31 rfl (lv_at hl 1 rfl) ?_
    refine lv_iload_n hx hb dJ1_indexOf_4cfef_32 rfl (lv_at hl 0 rfl) ?_
    refine rcSiS (As := [.ref va, .int ch, .int 0, .int 5]) (rest := []) ⟨hx, hb, hml, hown, hts⟩ (c_J1_indexOfChar_4cfef l D cB cC cI ka va ch) (va_cwS 4 hts gJ1_indexOf_4cfef_J1_indexOfChar_4cfef rfl rfl rfl (by decide +kernel) ⟨Nat.le_of_ble_eq_true rfl, Nat.le_of_ble_eq_true rfl⟩) hG hK hP [] rfl rfl hl.1 rfl (Nat.le_of_ble_eq_true rfl) dJ1_indexOf_4cfef_33 ⟨Nat.zero_le _, Nat.zero_le _⟩ ?_
    have eG : f_J1_indexOf_4cfef ch = (f_J1_indexOfChar_4cfef ch) := if_neg c_1
    exact retRi hx hb hr hlocks eG.symm dJ1_indexOf_4cfef_36
  · refine lv_iconst (v := (-1)) hx hb dJ1_indexOf_4cfef_7 (by decide) ?_
    have eG : f_J1_indexOf_4cfef ch = (-1) := if_pos c_1
    exact retRi hx hb hr hlocks eG.symm dJ1_indexOf_4cfef_8
set_option maxHeartbeats 4000000 in
set_option maxRecDepth 100000 in
theorem c_J0_indexOf_7cf53 (l : Launch) (D : va_G) (cB cC cI : ClassId) (ka va : Nat) (ch : Int32)  : Met l yJ0_indexOf_7cf53 wsJ0_indexOf_7cf53 ({ frames := 2, cells := 0, slots := 0, locals := 48 }) (gPrS D cB cC cI ka va [.ref ka, .int ch, .int 0] []) (vp_Si (fun r => r = (f_J1_indexOf_4cfef ch))) 0 0 (fun _ => False) := by
  refine metRS (cc := cJ0_indexOf_7cf53) (maxL := 3) (ret := (some .int)) RJ0 rfl (by decide) rfl (Nat.le_of_ble_eq_true rfl) ?_
  intro p e s m below meth c hx hb hr hml hown hts hlocks hP hK hG ls hl
  have fk9 := hts (.fieldLink RJ0 9 "java/lang/String" "value" "[B") (by decide +kernel)
  have hl : lv_has ls 3 [(0, .ref ka), (1, .int ch), (2, .int 0)] := hl
  refine lv_aload_n hx hb dJ0_indexOf_7cf53_0 rfl (lv_at hl 0 rfl) ?_
  refine rcTiS (As := []) (rest := []) ⟨hx, hb, hml, hown, hts⟩ (c_J0_isLatin1_aae02 l D cB cC cI ka va ) (cwV 0 hts gJ0_indexOf_7cf53_J0_isLatin1_aae02 rfl rfl rfl (by decide +kernel) ⟨Nat.le_of_ble_eq_true rfl, Nat.le_of_ble_eq_true rfl⟩) hG hK hP [] rfl rfl hl.1 rfl (Nat.le_of_ble_eq_true rfl) dJ0_indexOf_7cf53_1 ⟨Nat.zero_le _, Nat.zero_le _⟩ ?_
  refine lv_if_eq (tgt := 23) hx hb dJ0_indexOf_7cf53_4 (by decide) (fun c_1 => absurd c_1 (by decide)) (fun c_1 => ?_)
  refine lv_aload_n hx hb dJ0_indexOf_7cf53_7 rfl (lv_at hl 0 rfl) ?_
  refine vk_getf hx hb hG.2.2.2.2.1 va_S.rf hown fk9 (fun _ h9 => h9) dJ0_indexOf_7cf53_8 ?_
  refine lv_iload_n hx hb dJ0_indexOf_7cf53_11 rfl (lv_at hl 1 rfl) ?_
  refine lv_iload_n hx hb dJ0_indexOf_7cf53_12 rfl (lv_at hl 2 rfl) ?_
  refine lv_aload_n hx hb dJ0_indexOf_7cf53_13 rfl (lv_at hl 0 rfl) ?_
  refine rcTiS (As := []) (rest := [.int 0, .int ch, .ref va]) ⟨hx, hb, hml, hown, hts⟩ (c_J0_length_8abf5 l D cB cC cI ka va ) (cwV 0 hts gJ0_indexOf_7cf53_J0_length_8abf5 rfl rfl rfl (by decide +kernel) ⟨Nat.le_of_ble_eq_true rfl, Nat.le_of_ble_eq_true rfl⟩) hG hK hP [] rfl rfl hl.1 rfl (Nat.le_of_ble_eq_true rfl) dJ0_indexOf_7cf53_14 ⟨Nat.zero_le _, Nat.zero_le _⟩ ?_
  refine rcSiS (As := [.ref va, .int ch, .int 0, .int 5]) (rest := []) ⟨hx, hb, hml, hown, hts⟩ (c_J1_indexOf_4cfef l D cB cC cI ka va ch) (va_cwS 4 hts gJ0_indexOf_7cf53_J1_indexOf_4cfef rfl rfl rfl (by decide +kernel) ⟨Nat.le_of_ble_eq_true rfl, Nat.le_of_ble_eq_true rfl⟩) hG hK hP [] rfl rfl hl.1 rfl (Nat.le_of_ble_eq_true rfl) dJ0_indexOf_7cf53_17 ⟨Nat.zero_le _, Nat.zero_le _⟩ ?_
  refine lv_goto (tgt := 36) hx hb dJ0_indexOf_7cf53_20 (by decide) ?_
  exact retRi hx hb hr hlocks rfl dJ0_indexOf_7cf53_36
set_option maxHeartbeats 4000000 in
set_option maxRecDepth 100000 in
theorem c_J0_indexOf_0f7a4 (l : Launch) (D : va_G) (cB cC cI : ClassId) (ka va : Nat) (ch : Int32)  : Met l yJ0_indexOf_0f7a4 wsJ0_indexOf_0f7a4 ({ frames := 3, cells := 0, slots := 0, locals := 70 }) (gPrS D cB cC cI ka va [.ref ka, .int ch] []) (vp_Si (fun r => r = (f_J1_indexOf_4cfef ch))) 0 0 (fun _ => False) := by
  refine metRS (cc := cJ0_indexOf_0f7a4) (maxL := 2) (ret := (some .int)) RJ0 rfl (by decide) rfl (Nat.le_of_ble_eq_true rfl) ?_
  intro p e s m below meth c hx hb hr hml hown hts hlocks hP hK hG ls hl
  have hl : lv_has ls 2 [(0, .ref ka), (1, .int ch)] := hl
  refine lv_aload_n hx hb dJ0_indexOf_0f7a4_0 rfl (lv_at hl 0 rfl) ?_
  refine lv_iload_n hx hb dJ0_indexOf_0f7a4_1 rfl (lv_at hl 1 rfl) ?_
  refine lv_iconst (v := 0) hx hb dJ0_indexOf_0f7a4_2 (by decide) ?_
  refine rcTiS (As := [.int ch, .int 0]) (rest := []) ⟨hx, hb, hml, hown, hts⟩ (c_J0_indexOf_7cf53 l D cB cC cI ka va ch) (cwV 2 hts gJ0_indexOf_0f7a4_J0_indexOf_7cf53 rfl rfl rfl (by decide +kernel) ⟨Nat.le_of_ble_eq_true rfl, Nat.le_of_ble_eq_true rfl⟩) hG hK hP [] rfl rfl hl.1 rfl (Nat.le_of_ble_eq_true rfl) dJ0_indexOf_0f7a4_3 ⟨Nat.zero_le _, Nat.zero_le _⟩ ?_
  exact retRi hx hb hr hlocks rfl dJ0_indexOf_0f7a4_6
def f_X3_isBetween (lt : Nat → Int32) (j : Nat) (u : Int32) (w : Int32) : Int32 := if (lt j) < u then 0 else if w < (lt j) then 0 else 1
set_option maxHeartbeats 4000000 in
set_option maxRecDepth 100000 in
theorem c_X3_isBetween (l : Launch) (D : va_G) (cB cC cI : ClassId) (ph : Nat) (p0 : Nat) (lt : Nat → Int32) (k : Nat) (b : Int32) (j : Nat) (u : Int32) (w : Int32) (hb18 : ix b j 18) : Met l yX3_isBetween wsX3_isBetween ({ frames := 0, cells := 0, slots := 0, locals := 0 }) (gPr D cB cC cI [.ref ph, .int b, .int u, .int w] [(ph, .inr (3, [.ref p0, .int (nI k)])), (p0, .inl (cC, 18, .inl lt))]) (vp_Si (fun r => r = (f_X3_isBetween lt j u w))) 0 0 (fun _ => False) := by
  refine metR (cc := cX3_isBetween) (maxL := 4) (ret := (some .boolean)) RX3 rfl (by decide) rfl (Nat.le_of_ble_eq_true rfl) ?_
  intro p e s m below meth c hx hb hr hml hown hts hlocks hP hK ls hl
  have iwX3 : ∀ w ∈ wsX30, w ∈ wsX3_isBetween := by decide +kernel
  have fk9 := hts (.fieldLink RX3 9 "BuyersWeights$Page" "letters" "[C") (by decide +kernel)
  have hl : lv_has ls 4 [(0, .ref ph), (1, .int b), (2, .int u), (3, .int w)] := hl
  refine lv_aload_n hx hb dX3_isBetween_0 rfl (lv_at hl 0 rfl) ?_
  refine va_get (D := D) (ci := 3) (v := .ref p0) (C := RX3) (T := TX3) (N := 2) hx hb hts iwX3 hown hK.1 hP 0 rfl rfl 0 (by decide) fk9 (fun _ h9 => h9) rfl dX3_isBetween_1 ?_
  refine lv_iload_n hx hb dX3_isBetween_4 rfl (lv_at hl 1 rfl) ?_
  refine my_cald hx hb hK hP 1 rfl (j := j) hb18 dX3_isBetween_5 ?_
  refine lv_iload_n hx hb dX3_isBetween_6 rfl (lv_at hl 2 rfl) ?_
  refine lv_icmp_lt (tgt := 24) hx hb dX3_isBetween_7 (by decide) (fun c_1 => ?_) (fun c_1 => ?_)
  · refine lv_iconst (v := 0) hx hb dX3_isBetween_24 (by decide) ?_
    have eG : f_X3_isBetween lt j u w = 0 := if_pos c_1
    exact retRz hx hb hr hlocks rfl eG.symm dX3_isBetween_25
  · refine lv_aload_n hx hb dX3_isBetween_10 rfl (lv_at hl 0 rfl) ?_
    refine va_get (D := D) (ci := 3) (v := .ref p0) (C := RX3) (T := TX3) (N := 2) hx hb hts iwX3 hown hK.1 hP 0 rfl rfl 0 (by decide) fk9 (fun _ h9 => h9) rfl dX3_isBetween_11 ?_
    refine lv_iload_n hx hb dX3_isBetween_14 rfl (lv_at hl 1 rfl) ?_
    refine my_cald hx hb hK hP 1 rfl (j := j) hb18 dX3_isBetween_15 ?_
    refine lv_iload_n hx hb dX3_isBetween_16 rfl (lv_at hl 3 rfl) ?_
    refine lv_icmp_gt (tgt := 24) hx hb dX3_isBetween_17 (by decide) (fun c_2 => ?_) (fun c_2 => ?_)
    · refine lv_iconst (v := 0) hx hb dX3_isBetween_24 (by decide) ?_
      have eG : f_X3_isBetween lt j u w = 0 := (if_neg c_1).trans (if_pos c_2)
      exact retRz hx hb hr hlocks rfl eG.symm dX3_isBetween_25
    · refine lv_iconst (v := 1) hx hb dX3_isBetween_20 (by decide) ?_
      refine lv_goto (tgt := 25) hx hb dX3_isBetween_21 (by decide) ?_
      have eG : f_X3_isBetween lt j u w = 1 := (if_neg c_1).trans (if_neg c_2)
      exact retRz hx hb hr hlocks rfl eG.symm dX3_isBetween_25
theorem nbB (lt : Nat → Int32) (j : Nat) (u w : Int32) : narrow .boolean (.int (f_X3_isBetween lt j u w)) = .int (f_X3_isBetween lt j u w) := nb01 (by unfold f_X3_isBetween; split; exact Or.inl rfl; split; exact Or.inl rfl; exact Or.inr rfl)
def f_X3_fitsHouses (lt : Nat → Int32) (q : Nat) : Int32 := if (nI (q % 4)) = 0 then (if (f_J1_indexOf_4cfef (lt q)) < 0 then 0 else 1) else if (nI (q % 4)) = 1 then (f_X3_isBetween lt q 48 57) else if (nI (q % 4)) = 2 then (f_X3_isBetween lt q 49 57) else if (lt q) = 44 then (if 4 ≤ ((nI (q / 4)) + 1) then 0 else 1) else if (lt q) = 59 then (if ((nI (q / 4)) + 1) < 2 then 0 else 1) else 0
set_option maxHeartbeats 4000000 in
set_option maxRecDepth 100000 in
theorem c_X3_fitsHouses (l : Launch) (D : va_G) (cB cC cI : ClassId) (ka va : Nat) (ph : Nat) (p0 : Nat) (lt : Nat → Int32) (k : Nat) (q : Nat) (hq : q < 18) : Met l yX3_fitsHouses wsX3_fitsHouses ({ frames := 4, cells := 0, slots := 0, locals := 91 }) (gPrS D cB cC cI ka va [.ref ph, .int (nI q)] [(ph, .inr (3, [.ref p0, .int (nI k)])), (p0, .inl (cC, 18, .inl lt))]) (vp_Si (fun r => r = (f_X3_fitsHouses lt q))) 0 0 (fun _ => False) := by
  refine metRS (cc := cX3_fitsHouses) (maxL := 4) (ret := (some .boolean)) RX3 rfl (by decide) rfl (Nat.le_of_ble_eq_true rfl) ?_
  intro p e s m below meth c hx hb hr hml hown hts hlocks hP hK hG ls hl
  have iwX3 : ∀ w ∈ wsX30, w ∈ wsX3_fitsHouses := by decide +kernel
  have fk9 := hts (.fieldLink RX3 9 "BuyersWeights$Page" "letters" "[C") (by decide +kernel)
  have hl : lv_has ls 4 [(0, .ref ph), (1, .int (nI q))] := hl
  refine lv_iload_n hx hb dX3_fitsHouses_0 rfl (lv_at hl 1 rfl) ?_
  refine lv_iconst (v := 4) hx hb dX3_fitsHouses_1 (by decide) ?_
  refine lv_irem hx hb dX3_fitsHouses_2 (by decide) ?_
  refine my_top (y := nI (q % 4)) (pk_rem (a := q) (d := 4) (by omega) (by decide) (by decide)) ?_
  refine lv_istore_n (lv' := [(2, .int (nI (q % 4))), (0, .ref ph), (1, .int (nI q))]) hx hb dX3_fitsHouses_3 rfl hl (by decide) rfl (fun ls hl => ?_)
  refine lv_iload_n hx hb dX3_fitsHouses_4 rfl (lv_at hl 0 rfl) ?_
  refine lv_if_ne (tgt := 28) hx hb dX3_fitsHouses_5 (by decide) (fun c_1 => ?_) (fun c_1 => ?_)
  · refine lv_iload_n hx hb dX3_fitsHouses_28 rfl (lv_at hl 0 rfl) ?_
    refine lv_iconst (v := 1) hx hb dX3_fitsHouses_29 (by decide) ?_
    refine lv_icmp_ne (tgt := 43) hx hb dX3_fitsHouses_30 (by decide) (fun c_2 => ?_) (fun c_2 => ?_)
    · refine lv_iload_n hx hb dX3_fitsHouses_43 rfl (lv_at hl 0 rfl) ?_
      refine lv_iconst (v := 2) hx hb dX3_fitsHouses_44 (by decide) ?_
      refine lv_icmp_ne (tgt := 58) hx hb dX3_fitsHouses_45 (by decide) (fun c_3 => ?_) (fun c_3 => ?_)
      · refine lv_iload_n hx hb dX3_fitsHouses_58 rfl (lv_at hl 2 rfl) ?_
        refine lv_iconst (v := 4) hx hb dX3_fitsHouses_59 (by decide) ?_
        refine lv_idiv hx hb dX3_fitsHouses_60 (by decide) ?_
        refine my_top (y := nI (q / 4)) (pk_div (a := q) (d := 4) (by omega) (by decide) (by decide)) ?_
        refine lv_iconst (v := 1) hx hb dX3_fitsHouses_61 (by decide) ?_
        refine lv_iadd hx hb dX3_fitsHouses_62 ?_
        refine lv_istore_n (lv' := [(3, .int ((nI (q / 4)) + 1)), (2, .int (nI (q % 4))), (0, .ref ph), (1, .int (nI q))]) hx hb dX3_fitsHouses_63 rfl hl (by decide) rfl (fun ls hl => ?_)
        refine lv_aload_n hx hb dX3_fitsHouses_64 rfl (lv_at hl 2 rfl) ?_
        refine va_get (D := D) (ci := 3) (v := .ref p0) (C := RX3) (T := TX3) (N := 2) hx hb hts iwX3 hown hK.1 hP 0 rfl rfl 0 (by decide) fk9 (fun _ h9 => h9) rfl dX3_fitsHouses_65 ?_
        refine lv_iload_n hx hb dX3_fitsHouses_68 rfl (lv_at hl 3 rfl) ?_
        refine my_cald hx hb hK hP 1 rfl (j := q) (ix_nI hq (by decide)) dX3_fitsHouses_69 ?_
        refine lv_bipush (v := 44) hx hb dX3_fitsHouses_70 (by decide) ?_
        refine lv_icmp_ne (tgt := 88) hx hb dX3_fitsHouses_72 (by decide) (fun c_4 => ?_) (fun c_4 => ?_)
        · refine lv_aload_n hx hb dX3_fitsHouses_88 rfl (lv_at hl 2 rfl) ?_
          refine va_get (D := D) (ci := 3) (v := .ref p0) (C := RX3) (T := TX3) (N := 2) hx hb hts iwX3 hown hK.1 hP 0 rfl rfl 0 (by decide) fk9 (fun _ h9 => h9) rfl dX3_fitsHouses_89 ?_
          refine lv_iload_n hx hb dX3_fitsHouses_92 rfl (lv_at hl 3 rfl) ?_
          refine my_cald hx hb hK hP 1 rfl (j := q) (ix_nI hq (by decide)) dX3_fitsHouses_93 ?_
          refine lv_bipush (v := 59) hx hb dX3_fitsHouses_94 (by decide) ?_
          refine lv_icmp_ne (tgt := 108) hx hb dX3_fitsHouses_96 (by decide) (fun c_5 => ?_) (fun c_5 => ?_)
          · refine lv_iconst (v := 0) hx hb dX3_fitsHouses_108 (by decide) ?_
            have eG : f_X3_fitsHouses lt q = 0 := (if_neg c_1).trans ((if_neg c_2).trans ((if_neg c_3).trans ((if_neg c_4).trans (if_neg c_5))))
            exact retRz hx hb hr hlocks rfl eG.symm dX3_fitsHouses_109
          · refine lv_iload_n hx hb dX3_fitsHouses_99 rfl (lv_at hl 0 rfl) ?_
            refine lv_iconst (v := 2) hx hb dX3_fitsHouses_100 (by decide) ?_
            refine lv_icmp_lt (tgt := 108) hx hb dX3_fitsHouses_101 (by decide) (fun c_6 => ?_) (fun c_6 => ?_)
            · refine lv_iconst (v := 0) hx hb dX3_fitsHouses_108 (by decide) ?_
              have eG : f_X3_fitsHouses lt q = 0 := (if_neg c_1).trans ((if_neg c_2).trans ((if_neg c_3).trans ((if_neg c_4).trans ((if_pos c_5).trans (if_pos c_6)))))
              exact retRz hx hb hr hlocks rfl eG.symm dX3_fitsHouses_109
            · refine lv_iconst (v := 1) hx hb dX3_fitsHouses_104 (by decide) ?_
              refine lv_goto (tgt := 109) hx hb dX3_fitsHouses_105 (by decide) ?_
              have eG : f_X3_fitsHouses lt q = 1 := (if_neg c_1).trans ((if_neg c_2).trans ((if_neg c_3).trans ((if_neg c_4).trans ((if_pos c_5).trans (if_neg c_6)))))
              exact retRz hx hb hr hlocks rfl eG.symm dX3_fitsHouses_109
        · refine lv_iload_n hx hb dX3_fitsHouses_75 rfl (lv_at hl 0 rfl) ?_
          refine lv_iconst (v := 4) hx hb dX3_fitsHouses_76 (by decide) ?_
          refine lv_icmp_ge (tgt := 84) hx hb dX3_fitsHouses_77 (by decide) (fun c_7 => ?_) (fun c_7 => ?_)
          · refine lv_iconst (v := 0) hx hb dX3_fitsHouses_84 (by decide) ?_
            refine lv_goto (tgt := 109) hx hb dX3_fitsHouses_85 (by decide) ?_
            have eG : f_X3_fitsHouses lt q = 0 := (if_neg c_1).trans ((if_neg c_2).trans ((if_neg c_3).trans ((if_pos c_4).trans (if_pos c_7))))
            exact retRz hx hb hr hlocks rfl eG.symm dX3_fitsHouses_109
          · refine lv_iconst (v := 1) hx hb dX3_fitsHouses_80 (by decide) ?_
            refine lv_goto (tgt := 109) hx hb dX3_fitsHouses_81 (by decide) ?_
            have eG : f_X3_fitsHouses lt q = 1 := (if_neg c_1).trans ((if_neg c_2).trans ((if_neg c_3).trans ((if_pos c_4).trans (if_neg c_7))))
            exact retRz hx hb hr hlocks rfl eG.symm dX3_fitsHouses_109
      · refine lv_aload_n hx hb dX3_fitsHouses_48 rfl (lv_at hl 1 rfl) ?_
        refine lv_iload_n hx hb dX3_fitsHouses_49 rfl (lv_at hl 2 rfl) ?_
        refine lv_bipush (v := 49) hx hb dX3_fitsHouses_50 (by decide) ?_
        refine lv_bipush (v := 57) hx hb dX3_fitsHouses_52 (by decide) ?_
        refine rcVi (As := [.int (nI q), .int 49, .int 57]) (rest := []) ⟨hx, hb, hml, hown, hts⟩ (c_X3_isBetween l D cB cC cI ph p0 lt k (nI q) q 49 57 (ix_nI hq (by decide))) (cwV 3 hts gX3_fitsHouses_X3_isBetween rfl rfl rfl (by decide +kernel) ⟨Nat.le_of_ble_eq_true rfl, Nat.le_of_ble_eq_true rfl⟩) hK hP [0, 1] rfl rfl 0 rfl rfl hl.1 rfl (Nat.le_of_ble_eq_true rfl) dX3_fitsHouses_54 ⟨Nat.zero_le _, Nat.zero_le _⟩ ?_
        have eG : f_X3_fitsHouses lt q = (f_X3_isBetween lt q 49 57) := (if_neg c_1).trans ((if_neg c_2).trans (if_pos c_3))
        exact retRz hx hb hr hlocks (nbB lt q 49 57) eG.symm dX3_fitsHouses_57
    · refine lv_aload_n hx hb dX3_fitsHouses_33 rfl (lv_at hl 1 rfl) ?_
      refine lv_iload_n hx hb dX3_fitsHouses_34 rfl (lv_at hl 2 rfl) ?_
      refine lv_bipush (v := 48) hx hb dX3_fitsHouses_35 (by decide) ?_
      refine lv_bipush (v := 57) hx hb dX3_fitsHouses_37 (by decide) ?_
      refine rcVi (As := [.int (nI q), .int 48, .int 57]) (rest := []) ⟨hx, hb, hml, hown, hts⟩ (c_X3_isBetween l D cB cC cI ph p0 lt k (nI q) q 48 57 (ix_nI hq (by decide))) (cwV 3 hts gX3_fitsHouses_X3_isBetween rfl rfl rfl (by decide +kernel) ⟨Nat.le_of_ble_eq_true rfl, Nat.le_of_ble_eq_true rfl⟩) hK hP [0, 1] rfl rfl 0 rfl rfl hl.1 rfl (Nat.le_of_ble_eq_true rfl) dX3_fitsHouses_39 ⟨Nat.zero_le _, Nat.zero_le _⟩ ?_
      have eG : f_X3_fitsHouses lt q = (f_X3_isBetween lt q 48 57) := (if_neg c_1).trans (if_pos c_2)
      exact retRz hx hb hr hlocks (nbB lt q 48 57) eG.symm dX3_fitsHouses_42
  · refine va_ldcS hx hb hown hG.1 dX3_fitsHouses_8 ?_
    refine lv_aload_n hx hb dX3_fitsHouses_10 rfl (lv_at hl 1 rfl) ?_
    refine va_get (D := D) (ci := 3) (v := .ref p0) (C := RX3) (T := TX3) (N := 2) hx hb hts iwX3 hown hK.1 hP 0 rfl rfl 0 (by decide) fk9 (fun _ h9 => h9) rfl dX3_fitsHouses_11 ?_
    refine lv_iload_n hx hb dX3_fitsHouses_14 rfl (lv_at hl 2 rfl) ?_
    refine my_cald hx hb hK hP 1 rfl (j := q) (ix_nI hq (by decide)) dX3_fitsHouses_15 ?_
    refine rcTiS (As := [.int (lt q)]) (rest := []) ⟨hx, hb, hml, hown, hts⟩ (c_J0_indexOf_0f7a4 l D cB cC cI ka va (lt q)) (cwV 1 hts gX3_fitsHouses_J0_indexOf_0f7a4 rfl rfl rfl (by decide +kernel) ⟨Nat.le_of_ble_eq_true rfl, Nat.le_of_ble_eq_true rfl⟩) hG hK hP [] rfl rfl hl.1 rfl (Nat.le_of_ble_eq_true rfl) dX3_fitsHouses_16 ⟨Nat.zero_le _, Nat.zero_le _⟩ ?_
    refine lv_if_lt (tgt := 26) hx hb dX3_fitsHouses_19 (by decide) (fun c_8 => ?_) (fun c_8 => ?_)
    · refine lv_iconst (v := 0) hx hb dX3_fitsHouses_26 (by decide) ?_
      have eG : f_X3_fitsHouses lt q = 0 := (if_pos c_1).trans (if_pos c_8)
      exact retRz hx hb hr hlocks rfl eG.symm dX3_fitsHouses_27
    · refine lv_iconst (v := 1) hx hb dX3_fitsHouses_22 (by decide) ?_
      refine lv_goto (tgt := 27) hx hb dX3_fitsHouses_23 (by decide) ?_
      have eG : f_X3_fitsHouses lt q = 1 := (if_pos c_1).trans (if_neg c_8)
      exact retRz hx hb hr hlocks rfl eG.symm dX3_fitsHouses_27
/-- whether the letter at j fits, behind a semicolon at sc (or none) -/
def ffS (lt : Nat → Int32) (j : Nat) (sc : Int32) : Int32 := if sc = -1 then f_X3_fitsHouses lt j else if nI j = sc + 1 then (if f_X3_isBetween lt j 48 51 = 0 then 0 else 1) else 0
def ffL (lt : Nat → Int32) : Nat → Nat → Int32 → Int32
  | 0, j, _ => nI j
  | f + 1, j, sc => if ffS lt j sc = 0 then nI j else ffL lt f (j + 1) (if lt j = 59 then nI j else sc)
set_option maxHeartbeats 4000000 in
set_option maxRecDepth 100000 in
theorem c_X3_firstFault (l : Launch) (D : va_G) (cB cC cI : ClassId) (ka va : Nat) (ph : Nat) (p0 : Nat) (lt : Nat → Int32) (k : Nat) (hk : k ≤ 18) : Met l yX3_firstFault wsX3_firstFault ({ frames := 5, cells := 0, slots := 0, locals := 114 }) (gPrS D cB cC cI ka va [.ref ph] [(ph, .inr (3, [.ref p0, .int (nI k)])), (p0, .inl (cC, 18, .inl lt))]) (vp_Si (fun r => r = ffL lt k 0 (-1))) 0 0 (fun _ => False) := by
  refine metRS (cc := cX3_firstFault) (maxL := 4) (ret := (some .int)) RX3 rfl (by decide) rfl (Nat.le_of_ble_eq_true rfl) ?_
  intro p e s m below meth c hx hb hr hml hown hts hlocks hP hK hG ls hl
  have iwX3 : ∀ w ∈ wsX30, w ∈ wsX3_firstFault := by decide +kernel
  have fk9 := hts (.fieldLink RX3 9 "BuyersWeights$Page" "letters" "[C") (by decide +kernel)
  have fk15 := hts (.fieldLink RX3 15 "BuyersWeights$Page" "length" "I") (by decide +kernel)
  have cut_4 : ∀ (fu : Nat) (j : Nat) (sc : Int32), j ≤ k → ffL lt (k - j) j sc = ffL lt k 0 (-1) → k - j < fu → ∀ (ls : Array Slot), lv_has ls 4 [(0, .ref ph), (2, .int (nI j)), (1, .int sc)] → W p l e (headSpec wsX3_firstFault ({ frames := 5, cells := 0, slots := 0, locals := 114 })).room s m ([.ref ph] : List Value).toArray below meth c s.heap [] 0 0 (MQ below (vp_Si (fun r => r = ffL lt k 0 (-1))) ([.ref ph] : List Value).toArray s 0 0 (fun _ => False)) (F0 m 4 ls []) := by
    intro fu
    induction fu with
    | zero => intro j sc hj he hfu; exact absurd hfu (Nat.not_lt_zero _)
    | succ fu ih_4 =>
      intro j sc hj he hfu ls hl
      have cut_49 : ∀ (v : Int32), j < k → v = ffS lt j sc → ∀ (ls : Array Slot), lv_has ls 4 [(0, .ref ph), (1, .int sc), (2, .int (nI j))] → W p l e (headSpec wsX3_firstFault ({ frames := 5, cells := 0, slots := 0, locals := 114 })).room s m ([.ref ph] : List Value).toArray below meth c s.heap [] 0 0 (MQ below (vp_Si (fun r => r = ffL lt k 0 (-1))) ([.ref ph] : List Value).toArray s 0 0 (fun _ => False)) (F0 m 49 ls [.int v]) := by
        intro v hlt hv ls hl
        refine lv_istore_n (lv' := [(3, .int v), (0, .ref ph), (1, .int sc), (2, .int (nI j))]) hx hb dX3_firstFault_49 rfl hl (by decide) rfl (fun ls hl => ?_)
        refine lv_iload_n hx hb dX3_firstFault_50 rfl (lv_at hl 0 rfl) ?_
        refine lv_if_ne (tgt := 56) hx hb dX3_firstFault_51 (by decide) (fun c_1 => ?_) (fun c_1 => ?_)
        · have hz : ¬ ffS lt j sc = 0 := hv ▸ c_1
          have hu : ffL lt (k - j) j sc = ffL lt (k - (j + 1)) (j + 1) (if lt j = 59 then nI j else sc) := by
            rw [show k - j = (k - (j + 1)) + 1 from by omega]
            exact if_neg hz
          refine lv_aload_n hx hb dX3_firstFault_56 rfl (lv_at hl 1 rfl) ?_
          refine va_get (D := D) (ci := 3) (v := .ref p0) (C := RX3) (T := TX3) (N := 2) hx hb hts iwX3 hown hK.1 hP 0 rfl rfl 0 (by decide) fk9 (fun _ h9 => h9) rfl dX3_firstFault_57 ?_
          refine lv_iload_n hx hb dX3_firstFault_60 rfl (lv_at hl 3 rfl) ?_
          refine my_cald hx hb hK hP 1 rfl (j := j) (ix_nI (by omega) (by decide)) dX3_firstFault_61 ?_
          refine lv_bipush (v := 59) hx hb dX3_firstFault_62 (by decide) ?_
          refine lv_icmp_ne (tgt := 69) hx hb dX3_firstFault_64 (by decide) (fun c_2 => ?_) (fun c_2 => ?_)
          · have hr1 : ffL lt (k - (j + 1)) (j + 1) sc = ffL lt k 0 (-1) := by rw [← he, hu, if_neg c_2]
            refine lv_iinc (v := nI (j + 1)) (lv' := [(2, .int (nI (j + 1))), (3, .int v), (0, .ref ph), (1, .int sc)]) hx hb dX3_firstFault_69 hl (k := 3) rfl (nI_1 j) (by decide) rfl (fun ls hl => ?_)
            refine lv_goto (tgt := 4) hx hb dX3_firstFault_72 (by decide) ?_
            exact ih_4 (j + 1) sc (by first | assumption | omega | rfl | exact Nat.zero_le _ | decide) hr1 (by omega) ls (lv_sub hl [2, 0, 3] rfl)
          · have hr1 : ffL lt (k - (j + 1)) (j + 1) (nI j) = ffL lt k 0 (-1) := by rw [← he, hu, if_pos c_2]
            refine lv_iload_n hx hb dX3_firstFault_67 rfl (lv_at hl 3 rfl) ?_
            refine lv_istore_n (lv' := [(1, .int (nI j)), (3, .int v), (0, .ref ph), (2, .int (nI j))]) hx hb dX3_firstFault_68 rfl hl (by decide) rfl (fun ls hl => ?_)
            refine lv_iinc (v := nI (j + 1)) (lv' := [(2, .int (nI (j + 1))), (1, .int (nI j)), (3, .int v), (0, .ref ph)]) hx hb dX3_firstFault_69 hl (k := 3) rfl (nI_1 j) (by decide) rfl (fun ls hl => ?_)
            refine lv_goto (tgt := 4) hx hb dX3_firstFault_72 (by decide) ?_
            exact ih_4 (j + 1) (nI j) (by first | assumption | omega | rfl | exact Nat.zero_le _ | decide) hr1 (by omega) ls (lv_sub hl [3, 0, 1] rfl)
        · have hz : ffS lt j sc = 0 := hv ▸ c_1
          refine lv_iload_n hx hb dX3_firstFault_54 rfl (lv_at hl 3 rfl) ?_
          exact retRi hx hb hr hlocks (by rw [← he, show k - j = (k - (j + 1)) + 1 from by omega]; exact (if_pos hz).symm) dX3_firstFault_55
      refine lv_iload_n hx hb dX3_firstFault_4 rfl (lv_at hl 1 rfl) ?_
      refine lv_aload_n hx hb dX3_firstFault_5 rfl (lv_at hl 0 rfl) ?_
      refine va_get (D := D) (ci := 3) (v := .int (nI k)) (C := RX3) (T := TX3) (N := 2) hx hb hts iwX3 hown hK.1 hP 0 rfl rfl 1 (by decide) fk15 (fun _ h9 => h9) rfl dX3_firstFault_6 ?_
      refine lv_icmp_ge (tgt := 75) hx hb dX3_firstFault_9 (by decide) (fun c_3 => ?_) (fun c_3 => ?_)
      · have hge : k ≤ j := (nI_leI (by omega) (by omega)).mp c_3
        refine lv_aload_n hx hb dX3_firstFault_75 rfl (lv_at hl 0 rfl) ?_
        refine va_get (D := D) (ci := 3) (v := .int (nI k)) (C := RX3) (T := TX3) (N := 2) hx hb hts iwX3 hown hK.1 hP 0 rfl rfl 1 (by decide) fk15 (fun _ h9 => h9) rfl dX3_firstFault_76 ?_
        exact retRi hx hb hr hlocks (by rw [← he, show k = j from by omega, Nat.sub_self]; rfl) dX3_firstFault_79
      · have hlt : j < k := Nat.lt_of_not_le fun z => c_3 ((nI_leI (by omega) (by omega)).mpr z)
        refine lv_iload_n hx hb dX3_firstFault_12 rfl (lv_at hl 2 rfl) ?_
        refine lv_iconst (v := (-1)) hx hb dX3_firstFault_13 (by decide) ?_
        refine lv_icmp_ne (tgt := 25) hx hb dX3_firstFault_14 (by decide) (fun c_4 => ?_) (fun c_4 => ?_)
        · have hs1 := c_4
          refine lv_iload_n hx hb dX3_firstFault_25 rfl (lv_at hl 1 rfl) ?_
          refine lv_iload_n hx hb dX3_firstFault_26 rfl (lv_at hl 2 rfl) ?_
          refine lv_iconst (v := 1) hx hb dX3_firstFault_27 (by decide) ?_
          refine lv_iadd hx hb dX3_firstFault_28 ?_
          refine lv_icmp_ne (tgt := 48) hx hb dX3_firstFault_29 (by decide) (fun c_5 => ?_) (fun c_5 => ?_)
          · have hs2 := c_5
            have hv0 := ((if_neg hs1).trans (if_neg hs2) : ffS lt j sc = 0).symm
            refine lv_iconst (v := 0) hx hb dX3_firstFault_48 (by decide) ?_
            exact cut_49 0 (by first | assumption | omega | rfl | exact Nat.zero_le _ | decide) hv0 ls (lv_sub hl [0, 2, 1] rfl)
          · have hs2 := c_5
            refine lv_aload_n hx hb dX3_firstFault_32 rfl (lv_at hl 0 rfl) ?_
            refine lv_iload_n hx hb dX3_firstFault_33 rfl (lv_at hl 1 rfl) ?_
            refine lv_bipush (v := 48) hx hb dX3_firstFault_34 (by decide) ?_
            refine lv_bipush (v := 51) hx hb dX3_firstFault_36 (by decide) ?_
            refine rcVi (As := [.int (nI j), .int 48, .int 51]) (rest := []) ⟨hx, hb, hml, hown, hts⟩ (c_X3_isBetween l D cB cC cI ph p0 lt k (nI j) j 48 51 (ix_nI (by omega) (by decide))) (cwV 3 hts gX3_firstFault_X3_isBetween rfl rfl rfl (by decide +kernel) ⟨Nat.le_of_ble_eq_true rfl, Nat.le_of_ble_eq_true rfl⟩) hK hP [0, 1] rfl rfl 0 rfl rfl hl.1 rfl (Nat.le_of_ble_eq_true rfl) dX3_firstFault_38 ⟨Nat.zero_le _, Nat.zero_le _⟩ ?_
            refine lv_if_eq (tgt := 48) hx hb dX3_firstFault_41 (by decide) (fun c_6 => ?_) (fun c_6 => ?_)
            · have hs3 := c_6
              have hv0 := ((if_neg hs1).trans ((if_pos hs2).trans (if_pos hs3)) : ffS lt j sc = 0).symm
              refine lv_iconst (v := 0) hx hb dX3_firstFault_48 (by decide) ?_
              exact cut_49 0 (by first | assumption | omega | rfl | exact Nat.zero_le _ | decide) hv0 ls (lv_sub hl [0, 2, 1] rfl)
            · have hs3 := c_6
              refine lv_iconst (v := 1) hx hb dX3_firstFault_44 (by decide) ?_
              refine lv_goto (tgt := 49) hx hb dX3_firstFault_45 (by decide) ?_
              exact cut_49 1 (by first | assumption | omega | rfl | exact Nat.zero_le _ | decide) ((if_neg hs1).trans ((if_pos hs2).trans (if_neg hs3))).symm ls (lv_sub hl [0, 2, 1] rfl)
        · have hs1 := c_4
          refine lv_aload_n hx hb dX3_firstFault_17 rfl (lv_at hl 0 rfl) ?_
          refine lv_iload_n hx hb dX3_firstFault_18 rfl (lv_at hl 1 rfl) ?_
          refine rcViS (As := [.int (nI j)]) (rest := []) ⟨hx, hb, hml, hown, hts⟩ (c_X3_fitsHouses l D cB cC cI ka va ph p0 lt k j (by first | assumption | omega | decide)) (cwV 1 hts gX3_firstFault_X3_fitsHouses rfl rfl rfl (by decide +kernel) ⟨Nat.le_of_ble_eq_true rfl, Nat.le_of_ble_eq_true rfl⟩) hG hK hP [0, 1] rfl rfl 0 rfl rfl hl.1 rfl (Nat.le_of_ble_eq_true rfl) dX3_firstFault_19 ⟨Nat.zero_le _, Nat.zero_le _⟩ ?_
          refine lv_goto (tgt := 49) hx hb dX3_firstFault_22 (by decide) ?_
          exact cut_49 (f_X3_fitsHouses lt j) (by first | assumption | omega | rfl | exact Nat.zero_le _ | decide) (if_pos hs1).symm ls (lv_sub hl [0, 2, 1] rfl)
  have hl : lv_has ls 4 [(0, .ref ph)] := hl
  refine lv_iconst (v := (-1)) hx hb dX3_firstFault_0 (by decide) ?_
  refine lv_istore_n (lv' := [(1, .int (-1)), (0, .ref ph)]) hx hb dX3_firstFault_1 rfl hl (by decide) rfl (fun ls hl => ?_)
  refine lv_iconst (v := 0) hx hb dX3_firstFault_2 (by decide) ?_
  refine lv_istore_n (lv' := [(2, .int 0), (1, .int (-1)), (0, .ref ph)]) hx hb dX3_firstFault_3 rfl hl (by decide) rfl (fun ls hl => ?_)
  exact cut_4 ((k - 0) + 1) 0 (-1) (by first | assumption | omega | rfl | exact Nat.zero_le _ | decide) rfl (Nat.lt_succ_self _) ls (lv_sub hl [2, 0, 1] rfl)
def f_X3_isMarket (lt : Nat → Int32) (k : Nat) : Int32 := if (nI k) < 2 then 0 else if (lt (k - 2)) = 59 then (if (ffL lt k 0 (-1)) = (nI k) then 1 else 0) else 0
set_option maxHeartbeats 4000000 in
set_option maxRecDepth 100000 in
theorem c_X3_isMarket (l : Launch) (D : va_G) (cB cC cI : ClassId) (ka va : Nat) (ph : Nat) (p0 : Nat) (lt : Nat → Int32) (k : Nat) (hk : k ≤ 18) : Met l yX3_isMarket wsX3_isMarket ({ frames := 6, cells := 0, slots := 0, locals := 137 }) (gPrS D cB cC cI ka va [.ref ph] [(ph, .inr (3, [.ref p0, .int (nI k)])), (p0, .inl (cC, 18, .inl lt))]) (vp_Si (fun r => r = (f_X3_isMarket lt k))) 0 0 (fun _ => False) := by
  refine metRS (cc := cX3_isMarket) (maxL := 1) (ret := (some .boolean)) RX3 rfl (by decide) rfl (Nat.le_of_ble_eq_true rfl) ?_
  intro p e s m below meth c hx hb hr hml hown hts hlocks hP hK hG ls hl
  have iwX3 : ∀ w ∈ wsX30, w ∈ wsX3_isMarket := by decide +kernel
  have fk15 := hts (.fieldLink RX3 15 "BuyersWeights$Page" "length" "I") (by decide +kernel)
  have fk9 := hts (.fieldLink RX3 9 "BuyersWeights$Page" "letters" "[C") (by decide +kernel)
  have hl : lv_has ls 1 [(0, .ref ph)] := hl
  refine lv_aload_n hx hb dX3_isMarket_0 rfl (lv_at hl 0 rfl) ?_
  refine va_get (D := D) (ci := 3) (v := .int (nI k)) (C := RX3) (T := TX3) (N := 2) hx hb hts iwX3 hown hK.1 hP 0 rfl rfl 1 (by decide) fk15 (fun _ h9 => h9) rfl dX3_isMarket_1 ?_
  refine lv_iconst (v := 2) hx hb dX3_isMarket_4 (by decide) ?_
  refine lv_icmp_lt (tgt := 39) hx hb dX3_isMarket_5 (by decide) (fun c_1 => ?_) (fun c_1 => ?_)
  · refine lv_iconst (v := 0) hx hb dX3_isMarket_39 (by decide) ?_
    have eG : f_X3_isMarket lt k = 0 := if_pos c_1
    exact retRz hx hb hr hlocks rfl eG.symm dX3_isMarket_40
  · have h2k : 2 ≤ k := Nat.le_of_not_lt fun z => c_1 (nI_lt (b := 2) z (by decide))
    refine lv_aload_n hx hb dX3_isMarket_8 rfl (lv_at hl 0 rfl) ?_
    refine va_get (D := D) (ci := 3) (v := .ref p0) (C := RX3) (T := TX3) (N := 2) hx hb hts iwX3 hown hK.1 hP 0 rfl rfl 0 (by decide) fk9 (fun _ h9 => h9) rfl dX3_isMarket_9 ?_
    refine lv_aload_n hx hb dX3_isMarket_12 rfl (lv_at hl 0 rfl) ?_
    refine va_get (D := D) (ci := 3) (v := .int (nI k)) (C := RX3) (T := TX3) (N := 2) hx hb hts iwX3 hown hK.1 hP 0 rfl rfl 1 (by decide) fk15 (fun _ h9 => h9) rfl dX3_isMarket_13 ?_
    refine lv_iconst (v := 2) hx hb dX3_isMarket_16 (by decide) ?_
    refine lv_isub hx hb dX3_isMarket_17 ?_
    refine my_top (y := nI (k - 2)) (pk_sub (a := k) (b := 2) (by omega)) ?_
    refine my_cald hx hb hK hP 1 rfl (j := (k - 2)) (ix_nI (by omega) (by decide)) dX3_isMarket_18 ?_
    refine lv_bipush (v := 59) hx hb dX3_isMarket_19 (by decide) ?_
    refine lv_icmp_ne (tgt := 39) hx hb dX3_isMarket_21 (by decide) (fun c_2 => ?_) (fun c_2 => ?_)
    · refine lv_iconst (v := 0) hx hb dX3_isMarket_39 (by decide) ?_
      have eG : f_X3_isMarket lt k = 0 := (if_neg c_1).trans (if_neg c_2)
      exact retRz hx hb hr hlocks rfl eG.symm dX3_isMarket_40
    · refine lv_aload_n hx hb dX3_isMarket_24 rfl (lv_at hl 0 rfl) ?_
      refine rcViS (As := []) (rest := []) ⟨hx, hb, hml, hown, hts⟩ (c_X3_firstFault l D cB cC cI ka va ph p0 lt k (by first | assumption | omega | decide)) (cwV 0 hts gX3_isMarket_X3_firstFault rfl rfl rfl (by decide +kernel) ⟨Nat.le_of_ble_eq_true rfl, Nat.le_of_ble_eq_true rfl⟩) hG hK hP [0, 1] rfl rfl 0 rfl rfl hl.1 rfl (Nat.le_of_ble_eq_true rfl) dX3_isMarket_25 ⟨Nat.zero_le _, Nat.zero_le _⟩ ?_
      refine lv_aload_n hx hb dX3_isMarket_28 rfl (lv_at hl 0 rfl) ?_
      refine va_get (D := D) (ci := 3) (v := .int (nI k)) (C := RX3) (T := TX3) (N := 2) hx hb hts iwX3 hown hK.1 hP 0 rfl rfl 1 (by decide) fk15 (fun _ h9 => h9) rfl dX3_isMarket_29 ?_
      refine lv_icmp_ne (tgt := 39) hx hb dX3_isMarket_32 (by decide) (fun c_3 => ?_) (fun c_3 => ?_)
      · refine lv_iconst (v := 0) hx hb dX3_isMarket_39 (by decide) ?_
        have eG : f_X3_isMarket lt k = 0 := (if_neg c_1).trans ((if_pos c_2).trans (if_neg c_3))
        exact retRz hx hb hr hlocks rfl eG.symm dX3_isMarket_40
      · refine lv_iconst (v := 1) hx hb dX3_isMarket_35 (by decide) ?_
        refine lv_goto (tgt := 40) hx hb dX3_isMarket_36 (by decide) ?_
        have eG : f_X3_isMarket lt k = 1 := (if_neg c_1).trans ((if_pos c_2).trans (if_pos c_3))
        exact retRz hx hb hr hlocks rfl eG.symm dX3_isMarket_40
set_option maxHeartbeats 4000000 in
set_option maxRecDepth 100000 in
theorem c_X3_howManyHouses (l : Launch) (D : va_G) (cB cC cI : ClassId) (ph : Nat) (p0 : Nat) (lt : Nat → Int32) (k : Nat) (hk : k ≤ 18) : Met l yX3_howManyHouses wsX3_howManyHouses ({ frames := 0, cells := 0, slots := 0, locals := 0 }) (gPr D cB cC cI [.ref ph] [(ph, .inr (3, [.ref p0, .int (nI k)])), (p0, .inl (cC, 18, .inl lt))]) (vp_Si (fun r => r = nI (k / 4))) 0 0 (fun _ => False) := by
  refine metR (cc := cX3_howManyHouses) (maxL := 1) (ret := (some .int)) RX3 rfl (by decide) rfl (Nat.le_of_ble_eq_true rfl) ?_
  intro p e s m below meth c hx hb hr hml hown hts hlocks hP hK ls hl
  have iwX3 : ∀ w ∈ wsX30, w ∈ wsX3_howManyHouses := by decide +kernel
  have fk15 := hts (.fieldLink RX3 15 "BuyersWeights$Page" "length" "I") (by decide +kernel)
  have hl : lv_has ls 1 [(0, .ref ph)] := hl
  refine lv_aload_n hx hb dX3_howManyHouses_0 rfl (lv_at hl 0 rfl) ?_
  refine va_get (D := D) (ci := 3) (v := .int (nI k)) (C := RX3) (T := TX3) (N := 2) hx hb hts iwX3 hown hK.1 hP 0 rfl rfl 1 (by decide) fk15 (fun _ h9 => h9) rfl dX3_howManyHouses_1 ?_
  refine lv_iconst (v := 4) hx hb dX3_howManyHouses_4 (by decide) ?_
  refine lv_idiv hx hb dX3_howManyHouses_5 (by decide) ?_
  refine my_top (y := nI (k / 4)) (pk_div (a := k) (d := 4) (by omega) (by decide) (by decide)) ?_
  exact retRi hx hb hr hlocks rfl dX3_howManyHouses_6
set_option maxHeartbeats 4000000 in
set_option maxRecDepth 100000 in
theorem c_X3_digit (l : Launch) (D : va_G) (cB cC cI : ClassId) (ph : Nat) (p0 : Nat) (lt : Nat → Int32) (k : Nat) (b : Int32) (j : Nat) (hb18 : ix b j 18) : Met l yX3_digit wsX3_digit ({ frames := 0, cells := 0, slots := 0, locals := 0 }) (gPr D cB cC cI [.ref ph, .int b] [(ph, .inr (3, [.ref p0, .int (nI k)])), (p0, .inl (cC, 18, .inl lt))]) (vp_Si (fun r => r = (lt j) - 48)) 0 0 (fun _ => False) := by
  refine metR (cc := cX3_digit) (maxL := 2) (ret := (some .int)) RX3 rfl (by decide) rfl (Nat.le_of_ble_eq_true rfl) ?_
  intro p e s m below meth c hx hb hr hml hown hts hlocks hP hK ls hl
  have iwX3 : ∀ w ∈ wsX30, w ∈ wsX3_digit := by decide +kernel
  have fk9 := hts (.fieldLink RX3 9 "BuyersWeights$Page" "letters" "[C") (by decide +kernel)
  have hl : lv_has ls 2 [(0, .ref ph), (1, .int b)] := hl
  refine lv_aload_n hx hb dX3_digit_0 rfl (lv_at hl 0 rfl) ?_
  refine va_get (D := D) (ci := 3) (v := .ref p0) (C := RX3) (T := TX3) (N := 2) hx hb hts iwX3 hown hK.1 hP 0 rfl rfl 0 (by decide) fk9 (fun _ h9 => h9) rfl dX3_digit_1 ?_
  refine lv_iload_n hx hb dX3_digit_4 rfl (lv_at hl 1 rfl) ?_
  refine my_cald hx hb hK hP 1 rfl (j := j) hb18 dX3_digit_5 ?_
  refine lv_bipush (v := 48) hx hb dX3_digit_6 (by decide) ?_
  refine lv_isub hx hb dX3_digit_8 ?_
  exact retRi hx hb hr hlocks rfl dX3_digit_9
set_option maxHeartbeats 4000000 in
set_option maxRecDepth 100000 in
theorem c_X3_kind (l : Launch) (D : va_G) (cB cC cI : ClassId) (ka va : Nat) (ph : Nat) (p0 : Nat) (lt : Nat → Int32) (k : Nat) (q : Nat) (hq : q < 4) : Met l yX3_kind wsX3_kind ({ frames := 4, cells := 0, slots := 0, locals := 91 }) (gPrS D cB cC cI ka va [.ref ph, .int (nI q)] [(ph, .inr (3, [.ref p0, .int (nI k)])), (p0, .inl (cC, 18, .inl lt))]) (vp_Si (fun r => r = (f_J1_indexOf_4cfef (lt (q * 4))))) 0 0 (fun _ => False) := by
  refine metRS (cc := cX3_kind) (maxL := 2) (ret := (some .int)) RX3 rfl (by decide) rfl (Nat.le_of_ble_eq_true rfl) ?_
  intro p e s m below meth c hx hb hr hml hown hts hlocks hP hK hG ls hl
  have iwX3 : ∀ w ∈ wsX30, w ∈ wsX3_kind := by decide +kernel
  have fk9 := hts (.fieldLink RX3 9 "BuyersWeights$Page" "letters" "[C") (by decide +kernel)
  have hl : lv_has ls 2 [(0, .ref ph), (1, .int (nI q))] := hl
  refine va_ldcS hx hb hown hG.1 dX3_kind_0 ?_
  refine lv_aload_n hx hb dX3_kind_2 rfl (lv_at hl 0 rfl) ?_
  refine va_get (D := D) (ci := 3) (v := .ref p0) (C := RX3) (T := TX3) (N := 2) hx hb hts iwX3 hown hK.1 hP 0 rfl rfl 0 (by decide) fk9 (fun _ h9 => h9) rfl dX3_kind_3 ?_
  refine lv_iload_n hx hb dX3_kind_6 rfl (lv_at hl 1 rfl) ?_
  refine lv_iconst (v := 4) hx hb dX3_kind_7 (by decide) ?_
  refine lv_imul hx hb dX3_kind_8 ?_
  refine my_top (y := nI (q * 4)) (pk_mul q 4) ?_
  refine my_cald hx hb hK hP 1 rfl (j := (q * 4)) (ix_nI (by omega) (by decide)) dX3_kind_9 ?_
  refine rcTiS (As := [.int (lt (q * 4))]) (rest := []) ⟨hx, hb, hml, hown, hts⟩ (c_J0_indexOf_0f7a4 l D cB cC cI ka va (lt (q * 4))) (cwV 1 hts gX3_kind_J0_indexOf_0f7a4 rfl rfl rfl (by decide +kernel) ⟨Nat.le_of_ble_eq_true rfl, Nat.le_of_ble_eq_true rfl⟩) hG hK hP [] rfl rfl hl.1 rfl (Nat.le_of_ble_eq_true rfl) dX3_kind_10 ⟨Nat.zero_le _, Nat.zero_le _⟩ ?_
  exact retRi hx hb hr hlocks rfl dX3_kind_13
set_option maxHeartbeats 4000000 in
set_option maxRecDepth 100000 in
theorem c_X3_empty (l : Launch) (D : va_G) (cB cC cI : ClassId) (ph : Nat) (p0 : Nat) (lt : Nat → Int32) (k : Nat) (sz : Nat)  : Met l yX3_empty wsX3_empty ({ frames := 0, cells := 0, slots := 0, locals := 0 }) (gPw D cB cC cI [.ref ph] [(ph, .inr (3, [.ref p0, .int (nI k)])), (p0, .inl (cC, 18, .inl lt))] sz) (QWv D [(ph, .inr (3, [.ref p0, .int 0])), (p0, .inl (cC, 18, .inl lt))] (va_A [(ph, .inr (3, [.ref p0, .int (nI k)])), (p0, .inl (cC, 18, .inl lt))] sz)) 0 0 (va_A [(ph, .inr (3, [.ref p0, .int (nI k)])), (p0, .inl (cC, 18, .inl lt))] sz) := by
  refine metW (cc := cX3_empty) (maxL := 1) (ret := none) (QA := fun A => (QWv D [(ph, .inr (3, [.ref p0, .int 0])), (p0, .inl (cC, 18, .inl lt))] A)) RX3 rfl (by decide) rfl (Nat.le_of_ble_eq_true rfl) ?_
  intro p e s m below meth c A hx hb hr hml hown hts hlocks hin hP hK hD hA hS ls hl
  have iwX3 : ∀ w ∈ wsX30, w ∈ wsX3_empty := by decide +kernel
  have fk15 := hts (.fieldLink RX3 15 "BuyersWeights$Page" "length" "I") (by decide +kernel)
  have hl : lv_has ls 1 [(0, .ref ph)] := hl
  refine lv_aload_n hx hb dX3_empty_0 rfl (lv_at hl 0 rfl) ?_
  refine lv_iconst (v := 0) hx hb dX3_empty_1 (by decide) ?_
  refine va_put (D := D) (ci := 3) (v := .int 0) (ty := .int) (C := RX3) (T := TX3) (N := 2) hx hb hts iwX3 tyX3 tyX3_ok nmX3 hown hK.1 hP hD hS 0 rfl rfl 1 (by decide) fk15 (fun _ h9 => h9) rfl (by decide +kernel) rfl rfl (Nat.le_of_ble_eq_true rfl) dX3_empty_2 (fun H locs hP hD hS => ?_)
  have hP : va_P D vwCl [(ph, .inr (3, [.ref p0, .int 0])), (p0, .inl (cC, 18, .inl lt))] H := hP
  have hD : va_D A [(ph, .inr (3, [.ref p0, .int 0])), (p0, .inl (cC, 18, .inl lt))] := hD
  exact retWv (u := ()) hx hb hr hlocks trivial hP hD hS dX3_empty_5
set_option maxHeartbeats 4000000 in
set_option maxRecDepth 100000 in
theorem c_X3_add (l : Launch) (D : va_G) (cB cC cI : ClassId) (ph : Nat) (p0 : Nat) (lt : Nat → Int32) (k : Nat) (x : Int32) (sz : Nat) (hk : k < 18) : Met l yX3_add wsX3_add ({ frames := 0, cells := 0, slots := 0, locals := 0 }) (gPw D cB cC cI [.ref ph, .int x] [(ph, .inr (3, [.ref p0, .int (nI k)])), (p0, .inl (cC, 18, .inl lt))] sz) (QWv D [(ph, .inr (3, [.ref p0, .int (nI (k + 1))])), (p0, .inl (cC, 18, .inl (upd lt k (vp_nar .char x))))] (va_A [(ph, .inr (3, [.ref p0, .int (nI k)])), (p0, .inl (cC, 18, .inl lt))] sz)) 0 0 (va_A [(ph, .inr (3, [.ref p0, .int (nI k)])), (p0, .inl (cC, 18, .inl lt))] sz) := by
  refine metW (cc := cX3_add) (maxL := 2) (ret := none) (QA := fun A => (QWv D [(ph, .inr (3, [.ref p0, .int (nI (k + 1))])), (p0, .inl (cC, 18, .inl (upd lt k (vp_nar .char x))))] A)) RX3 rfl (by decide) rfl (Nat.le_of_ble_eq_true rfl) ?_
  intro p e s m below meth c A hx hb hr hml hown hts hlocks hin hP hK hD hA hS ls hl
  have iwX3 : ∀ w ∈ wsX30, w ∈ wsX3_add := by decide +kernel
  have fk15 := hts (.fieldLink RX3 15 "BuyersWeights$Page" "length" "I") (by decide +kernel)
  have fk9 := hts (.fieldLink RX3 9 "BuyersWeights$Page" "letters" "[C") (by decide +kernel)
  have hl : lv_has ls 2 [(0, .ref ph), (1, .int x)] := hl
  refine lv_aload_n hx hb dX3_add_0 rfl (lv_at hl 0 rfl) ?_
  refine va_get (D := D) (ci := 3) (v := .int (nI k)) (C := RX3) (T := TX3) (N := 2) hx hb hts iwX3 hown hK.1 hP 0 rfl rfl 1 (by decide) fk15 (fun _ h9 => h9) rfl dX3_add_1 ?_
  refine lv_bipush (v := 18) hx hb dX3_add_4 (by decide) ?_
  refine lv_icmp_ge (tgt := 29) hx hb dX3_add_6 (by decide) (fun c_1 => absurd c_1 (nI_ge (b := 18) hk (by decide))) (fun c_1 => ?_)
  refine lv_aload_n hx hb dX3_add_9 rfl (lv_at hl 0 rfl) ?_
  refine va_get (D := D) (ci := 3) (v := .ref p0) (C := RX3) (T := TX3) (N := 2) hx hb hts iwX3 hown hK.1 hP 0 rfl rfl 0 (by decide) fk9 (fun _ h9 => h9) rfl dX3_add_10 ?_
  refine lv_aload_n hx hb dX3_add_13 rfl (lv_at hl 0 rfl) ?_
  refine va_get (D := D) (ci := 3) (v := .int (nI k)) (C := RX3) (T := TX3) (N := 2) hx hb hts iwX3 hown hK.1 hP 0 rfl rfl 1 (by decide) fk15 (fun _ h9 => h9) rfl dX3_add_14 ?_
  refine lv_iload_n hx hb dX3_add_17 rfl (lv_at hl 1 rfl) ?_
  refine my_cast hx hb hK hP hD hS 1 rfl (j := k) (ix_nI hk (by decide)) dX3_add_18 (fun H locs hP hD hS => ?_)
  have hP : va_P D vwCl [(ph, .inr (3, [.ref p0, .int (nI k)])), (p0, .inl (cC, 18, .inl (upd lt k (vp_nar .char x))))] H := hP
  have hD : va_D A [(ph, .inr (3, [.ref p0, .int (nI k)])), (p0, .inl (cC, 18, .inl (upd lt k (vp_nar .char x))))] := hD
  refine lv_aload_n hx hb dX3_add_19 rfl (lv_at hl 0 rfl) ?_
  refine lv_dup hx hb dX3_add_20 rfl ?_
  refine va_get (D := D) (ci := 3) (v := .int (nI k)) (C := RX3) (T := TX3) (N := 2) hx hb hts iwX3 hown hK.1 hP 0 rfl rfl 1 (by decide) fk15 (fun _ h9 => h9) rfl dX3_add_21 ?_
  refine lv_iconst (v := 1) hx hb dX3_add_24 (by decide) ?_
  refine lv_iadd hx hb dX3_add_25 ?_
  refine my_top (y := nI (k + 1)) (nI_1 k) ?_
  refine va_put (D := D) (ci := 3) (v := .int (nI (k + 1))) (ty := .int) (C := RX3) (T := TX3) (N := 2) hx hb hts iwX3 tyX3 tyX3_ok nmX3 hown hK.1 hP hD hS 0 rfl rfl 1 (by decide) fk15 (fun _ h9 => h9) rfl (by decide +kernel) rfl rfl (Nat.le_of_ble_eq_true rfl) dX3_add_26 (fun H locs hP hD hS => ?_)
  have hP : va_P D vwCl [(ph, .inr (3, [.ref p0, .int (nI (k + 1))])), (p0, .inl (cC, 18, .inl (upd lt k (vp_nar .char x))))] H := hP
  have hD : va_D A [(ph, .inr (3, [.ref p0, .int (nI (k + 1))])), (p0, .inl (cC, 18, .inl (upd lt k (vp_nar .char x))))] := hD
  exact retWv (u := ()) hx hb hr hlocks trivial hP hD hS dX3_add_29
end
section
/-! THE CLAIM OUT OF ONE WALK OF THE LAW'S BODY. Your part is whole_start (and what it stands on); all else here is the same for every law, but numbers. -/
def R_law : String := "BuyersWeightsLaw"
def lw_P (b : Addr) (xs : List Int32) (args : Array Value) (s : State) : Prop := args = #[.ref b] ∧ s.IntsAt b xs ∧ xs.length ≤ 256 ∧ (Jvm.Cond.and given_1 narrow_1).before args s = true
def lw_Q (_ : Array Value) (s : State) (o : Outcome) (t : State) : Prop := o = .returned (some (.int 1)) ∧ Framed s o t [] 694957 7017377
def lw_Z (below : List Frame) (a : Array Value) (s : State) : State → Prop := fun t => ∃ o, t.status = .running ∧ Ended t below o ∧ lw_Q a s o t
/-- the law's own end, with 1 on the stack, nothing written that was there before, its room as the claim has it -/
theorem lw_ret {p : Program} {l : Launch} {e : Env} {s : State} {m : MethodId} {below : List Frame} {meth : Method} {c : Code} {b : Nat} (hx : p.tables.exec = Jvm.exec) (hb : c.code = code) (hr : meth.sig.returnType = ret) (hlocks : meth.locks = false) {pc : Nat} {H : Heap} {ls : Array Slot} (hdg : decode code pc = .ok (.ireturn, 1)) : W p l e room_1 s m #[Value.ref b] below meth c H [] 694957 7017377 (lw_Z below #[Value.ref b] s) (F0 m pc ls [.int 1]) := by
  intro T hT X
  obtain ⟨fs, hret, hrun, hended, hW, hframe⟩ := X.leave (v := some (.int 1)) (hlocks := hlocks) (fun h => by rw [hr] at h; cases h)
  have hmeth' : T.vm.method? m = some meth := X.method'
  refine ⟨T.setFrames fs, ?_, .returned (some (.int 1)), hrun, hended, rfl, ⟨_, rfl⟩, hW, hframe⟩
  jvm_step X.here [X.here.top, hx, hb, hdg, hmeth', hr, ret, narrow_b1]
  (try refine ⟨rfl, ?_⟩); (try refine ⟨rfl, ?_⟩)
  first | (intro acts; rw [hret _ acts rfl rfl rfl]) | rw [hret _ _ rfl rfl rfl]
  exact Steps.refl _
/-- what holds at the law's entry: the machine, the code, the tables' words (any of lw_tbl by 'hts w (by decide +kernel)'), the script of L ints xs at the cell b, what the Statement gives of the start (any of its parts by flat_of_before) -/
def lw_At (p : Program) (s : State) (m : MethodId) (meth : Method) (c : Code) (b L : Nat) (xs : Nat → Int32) : Prop :=
  p.tables.exec = Jvm.exec ∧ c.code = code ∧ meth.sig.returnType = ret ∧ c.maxLocals = 4 ∧ s.vm.findClass R_law = some m.cls ∧ (∀ w ∈ lw_tbl, w.before #[Value.ref b] s = true) ∧ va_X b L xs s s.heap ∧ b < s.heap.size ∧ meth.locks = false ∧ (Jvm.Cond.and given_1 narrow_1).before #[Value.ref b] s = true
-- ===== YOUR PART BEGINS =====
/-- YOUR PART: from the entry, for every script of at most 256 ints, the law comes to its end with true -/
theorem whole_start {p : Program} {e : Env} {s : State} {m : MethodId} {below : List Frame} {meth : Method} {c : Code} (l : Launch) {b L : Nat} {xs : Nat → Int32} (hL : L ≤ 256) (C0 : lw_At p s m meth c b L xs) : W p l e room_1 s m #[Value.ref b] below meth c s.heap [] 0 0 (lw_Z below #[Value.ref b] s) (entryFrame m ([Value.ref b] : List Value).toArray 4) := by
  sorry
-- ===== YOUR PART ENDS =====
set_option maxHeartbeats 4000000 in
theorem lw_walk (l : Launch) (b : Addr) (xs : List Int32) : MetFree l x (headSpec (Jvm.Cond.code x code maxLocals ret :: tables_1) room_1) (lw_P b xs) (fun _ _ _ _ _ => True) lw_Q := by
  refine MetFree.of_bodyS (code := code) (maxLocals := maxLocals) (ret := ret) (by decide) ?_ ?_
  · intro args s m h hn
    obtain ⟨meth, c, h1, h2, h3, h4, h5, h6, -, -⟩ := Cond.code_spec hn (atoms_spec (ws := Jvm.Cond.code x code maxLocals ret :: tables_1) h _ List.mem_cons_self)
    exact ⟨meth, c, h1, h2, h3, h4, h5, h6⟩
  · intro p e s m args below meth c s₁ B hml0 hP _
    obtain ⟨rfl, hx, hbd, hgv⟩ := hP
    obtain ⟨scr, harrAt, hlist, hof, hsmall⟩ := hx
    obtain ⟨hcb, hkn, -, -⟩ := State.arrayAt?_spec harrAt
    have hown : s.vm.findClass R_law = some m.cls := findClass_of_methodNamed B.named
    have hts0 : ∀ c ∈ (Jvm.Cond.code x code maxLocals ret :: tables_1), c.before #[Value.ref b] s = true := atoms_spec (ws := Jvm.Cond.code x code maxLocals ret :: tables_1) B.pre
    have hts : ∀ w ∈ lw_tbl, w.before #[Value.ref b] s = true := k2_hts_sels lw_privs (fun w hw => hts0 w (List.mem_cons_of_mem _ hw)) lw_privs_ok
    have hml : c.maxLocals = 4 := B.maxLocals_eq (hts0 _ List.mem_cons_self)
    have X₀ : Stand p l e room_1 s m #[Value.ref b] below meth c s₁ [] 0 0 := Stand.of_body B
    have hh0 : s₁.heap = s.heap := by rw [B.state]; rfl
    have hsz : scr.slots.size = xs.length := by rw [← Array.length_toList, hlist, List.length_map]
    have hval : ∀ j : Nat, j < xs.length → scr.slots[j]? = some (.int (xs.getD j 0)) := fun j hj => by
      rw [← Array.getElem?_toList, hlist]
      simp [hj]
    have hbl : b < s.heap.size := (Array.getElem?_eq_some_iff.mp hcb).1
    have hX : va_X b xs.length (fun j => xs.getD j 0) s s.heap := ⟨scr, hcb, hof, hkn, hsz, hval⟩
    have K : W p l e room_1 s m #[Value.ref b] below meth c s₁.heap [] 0 0 (lw_Z below #[Value.ref b] s) (entryFrame m ([Value.ref b] : List Value).toArray 4) := by
      rw [hh0]
      exact whole_start l hbd ⟨B.exec, B.bytes, B.returns, hml, hown, hts, hX, hbl, B.notSynchronized, hgv⟩
    obtain ⟨t, a1, o, b1, b2, b3⟩ := K s₁ rfl X₀
    exact ⟨t, o, a1, b1, b2, b3⟩
theorem lw_pre_spec {args : Array Value} {s : State} (h : (Jvm.Cond.and given_1 narrow_1).before args s = true) (hr : rest_1_c.before args s = true) : ∃ (b : Addr) (xs : List Int32), lw_P b xs args s := by
  have hs := flat_of_before _ h
  have hq := flat_of_before _ hr
  have hc : (Cond.count 1).before args s = true := hs _ (by decide +kernel)
  have harr : (Cond.arrayOf (.arg 0) .int).before args s = true := hs _ (by decide +kernel)
  have hle : (Cond.le (.length (.arg 0)) (.int 256)).before args s = true := hs _ (by decide +kernel)
  have hlen : (Cond.isInt (.length (.arg 0))).before args s = true := hq _ (by decide +kernel)
  have hall : (Cond.all (.arg 0) (.isInt (.elem (.arg 0) (.index 0)))).before args s = true := hq _ (by decide +kernel)
  obtain ⟨b, xs, hb, hx⟩ := State.ints_of_pre rfl harr hlen hall
  have hsm : xs.length < 2 ^ 31 := hx.choose_spec.2.2.2
  have hev : (Term.length (.arg 0)).eval args s none [] s = some (.int xs.length.toInt32) := hx.length_eval hb
  have hv := Cond.le_ints hev (show (Term.int 256).eval args s none [] s = some (.int 256) from rfl)
  have hd : xs.length.toInt32 ≤ 256 := by
    simpa [Cond.before, Cond.holds, hv] using hle
  have hN : xs.length ≤ 256 := (Int32.ofNat_le_ofNat hsm (by decide)).mp (show Int32.ofNat xs.length ≤ Int32.ofNat 256 from hd)
  exact ⟨b, xs, Cond.one_arg hc (show args[0]? = some (.ref b) from hb), hx, hN, h⟩
theorem lw_comes (l : Launch) : Comes l x (Jvm.Cond.code x code maxLocals ret :: tables_1) room_1 (fun tb e args s => Calls_1 tb e args s ∧ rest_1 tb e args s ∧ Pre_1 tb e args s)
    (fun _ _ args s o t => lw_Q args s o t) := by
  intro p e ha hc hk s m args below hf hfit hheap happ hpre
  obtain ⟨b, xs, hP⟩ := lw_pre_spec hpre.2.2 hpre.2.1
  obtain ⟨k, o, h1, h2, h3, hQ⟩ := lw_walk l b xs p e ha hc hk s m args below hf ((Spec.applies_iff_loose hf).mp happ).1 hP trivial
  exact ⟨k, o, h1, h2, h3, hQ⟩
theorem lw_frame {s t : State} {o : Outcome} {args : Array Value} (h : Framed s o t [] 694957 7017377) :
    Framed s o t (fieldLocs frame_1_writes args s ++ arrayLocs frame_1_arrays args s ++ staticLocs frame_1_statics s) 694957 7017377 := h
theorem lw_limb (L : Cond) (hL : ∀ (args : Array Value) (s t : State), L.after args s (.returned (some (.int 1))) t = true) :
    ArmFor flags0 classFile x code maxLocals ret World_1 tables_1 room_1 Calls_1 rest_1 Pre_1
      (fun tb e a s o t => postC L tb e a s o t ∧ Framed s o t (fieldLocs frame_1_writes a s ++ arrayLocs frame_1_arrays a s ++ staticLocs frame_1_statics s) 694957 7017377) := by
  intro l _ _ _ p e ha hc hk s m args below hf hfit hheap happ hpre
  obtain ⟨k, o, h1, h2, h3, rfl, hF⟩ := lw_comes l p e ha hc hk s m args below hf hfit hheap happ hpre
  exact ⟨k, _, h1, h2, h3, hL args s _, lw_frame hF⟩
theorem i_vc : Claimed_1_1 ∧ Claimed_1_2 := ⟨lw_limb limb_1_1 (fun args s t => by simp [limb_1_1, Cond.after, Cond.holds, Cond.value]), lw_limb limb_1_2 (fun args s t => Cond.after_iff.mpr (by
  first | (rw [show limb_1_2 = Cond.eq .result (.int 1) from rfl, Cond.eq_ints (x := 1) (y := 1) rfl rfl]; simp; done) | (simp [limb_1_2, Cond.value, Term.eval]; done)))⟩
end
