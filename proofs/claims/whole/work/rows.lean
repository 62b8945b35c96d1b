section
-- ===== PART A: goes FIRST, ahead of the names: the tables' words, and 'selects' of the private methods out of them =====
/-- a private method of a class that the tables say can be made, by its rows of tables_1 -/
def lw_okq (q : MethodName × Nat) : Prop := (q.1.cls ≠ "java/lang/invoke/MethodHandle" ∧ q.1.cls ≠ "java/lang/invoke/VarHandle") ∧ Cond.instantiable q.1.cls q.2 ∈ tables_1 ∧ Cond.privateMethod q.1 ∈ tables_1 ∧ Cond.instanceMethod q.1 ∈ tables_1
theorem lw_p0 : lw_okq (⟨"DividendDesk$Dividend", "heldOfAll", "()J"⟩, 3) := ⟨⟨by decide +kernel, by decide +kernel⟩, List.mem_of_getElem? (i := 110) (by decide +kernel), List.mem_of_getElem? (i := 108) (by decide +kernel), List.mem_of_getElem? (i := 109) (by decide +kernel)⟩
theorem lw_p1 : lw_okq (⟨"java/lang/Throwable", "fillInStackTrace", "(I)Ljava/lang/Throwable;"⟩, 6) := ⟨⟨by decide +kernel, by decide +kernel⟩, List.mem_of_getElem? (i := 169) (by decide +kernel), List.mem_of_getElem? (i := 167) (by decide +kernel), List.mem_of_getElem? (i := 168) (by decide +kernel)⟩
theorem lw_p2 : lw_okq (⟨"java/util/ArrayList", "add", "(Ljava/lang/Object;[Ljava/lang/Object;I)V"⟩, 3) := ⟨⟨by decide +kernel, by decide +kernel⟩, List.mem_of_getElem? (i := 31) (by decide +kernel), List.mem_of_getElem? (i := 258) (by decide +kernel), List.mem_of_getElem? (i := 259) (by decide +kernel)⟩
theorem lw_p3 : lw_okq (⟨"java/util/ArrayList", "grow", "()[Ljava/lang/Object;"⟩, 3) := ⟨⟨by decide +kernel, by decide +kernel⟩, List.mem_of_getElem? (i := 31) (by decide +kernel), List.mem_of_getElem? (i := 262) (by decide +kernel), List.mem_of_getElem? (i := 263) (by decide +kernel)⟩
theorem lw_p4 : lw_okq (⟨"java/util/ArrayList", "grow", "(I)[Ljava/lang/Object;"⟩, 3) := ⟨⟨by decide +kernel, by decide +kernel⟩, List.mem_of_getElem? (i := 31) (by decide +kernel), List.mem_of_getElem? (i := 266) (by decide +kernel), List.mem_of_getElem? (i := 267) (by decide +kernel)⟩
theorem lw_p5 : lw_okq (⟨"DividendDesk", "holderAt", "(I)LDividendDesk$Holder;"⟩, 6) := ⟨⟨by decide +kernel, by decide +kernel⟩, List.mem_of_getElem? (i := 23) (by decide +kernel), List.mem_of_getElem? (i := 319) (by decide +kernel), List.mem_of_getElem? (i := 320) (by decide +kernel)⟩
theorem lw_p6 : lw_okq (⟨"DividendDesk", "isHolder", "(I)Z"⟩, 6) := ⟨⟨by decide +kernel, by decide +kernel⟩, List.mem_of_getElem? (i := 23) (by decide +kernel), List.mem_of_getElem? (i := 323) (by decide +kernel), List.mem_of_getElem? (i := 324) (by decide +kernel)⟩
theorem lw_p7 : lw_okq (⟨"DividendDesk$Holder", "partsOf", "(I)I"⟩, 6) := ⟨⟨by decide +kernel, by decide +kernel⟩, List.mem_of_getElem? (i := 225) (by decide +kernel), List.mem_of_getElem? (i := 344) (by decide +kernel), List.mem_of_getElem? (i := 345) (by decide +kernel)⟩
theorem lw_p8 : lw_okq (⟨"DividendDesk$Holder", "changeParts", "(II)V"⟩, 6) := ⟨⟨by decide +kernel, by decide +kernel⟩, List.mem_of_getElem? (i := 225) (by decide +kernel), List.mem_of_getElem? (i := 348) (by decide +kernel), List.mem_of_getElem? (i := 349) (by decide +kernel)⟩
theorem lw_p9 : lw_okq (⟨"DividendDesk", "sharesInAll", "()I"⟩, 6) := ⟨⟨by decide +kernel, by decide +kernel⟩, List.mem_of_getElem? (i := 23) (by decide +kernel), List.mem_of_getElem? (i := 361) (by decide +kernel), List.mem_of_getElem? (i := 362) (by decide +kernel)⟩
theorem lw_p10 : lw_okq (⟨"DividendDesk$Holder", "endDay", "(I)V"⟩, 6) := ⟨⟨by decide +kernel, by decide +kernel⟩, List.mem_of_getElem? (i := 225) (by decide +kernel), List.mem_of_getElem? (i := 382) (by decide +kernel), List.mem_of_getElem? (i := 383) (by decide +kernel)⟩
theorem lw_p11 : lw_okq (⟨"DividendDesk$Holder", "hasFormOn", "(I)Z"⟩, 6) := ⟨⟨by decide +kernel, by decide +kernel⟩, List.mem_of_getElem? (i := 225) (by decide +kernel), List.mem_of_getElem? (i := 401) (by decide +kernel), List.mem_of_getElem? (i := 402) (by decide +kernel)⟩
theorem lw_p12 : lw_okq (⟨"DividendDesk$Holder", "hasLargeHoldingOn", "(I)Z"⟩, 6) := ⟨⟨by decide +kernel, by decide +kernel⟩, List.mem_of_getElem? (i := 225) (by decide +kernel), List.mem_of_getElem? (i := 412) (by decide +kernel), List.mem_of_getElem? (i := 413) (by decide +kernel)⟩
theorem lw_p13 : lw_okq (⟨"DividendDesk", "ownRate", "(LDividendDesk$Holder;)I"⟩, 6) := ⟨⟨by decide +kernel, by decide +kernel⟩, List.mem_of_getElem? (i := 23) (by decide +kernel), List.mem_of_getElem? (i := 424) (by decide +kernel), List.mem_of_getElem? (i := 425) (by decide +kernel)⟩
theorem lw_p14 : lw_okq (⟨"DividendDesk", "validForms", "()I"⟩, 6) := ⟨⟨by decide +kernel, by decide +kernel⟩, List.mem_of_getElem? (i := 23) (by decide +kernel), List.mem_of_getElem? (i := 441) (by decide +kernel), List.mem_of_getElem? (i := 442) (by decide +kernel)⟩
theorem lw_p15 : lw_okq (⟨"DividendDesk", "makePayment", "(ILDividendDesk$Holder;I)LDividendDesk$Payment;"⟩, 6) := ⟨⟨by decide +kernel, by decide +kernel⟩, List.mem_of_getElem? (i := 23) (by decide +kernel), List.mem_of_getElem? (i := 466) (by decide +kernel), List.mem_of_getElem? (i := 467) (by decide +kernel)⟩
def lw_privs_1 : List (MethodName × Nat) := [(⟨"DividendDesk$Dividend", "heldOfAll", "()J"⟩, 3), (⟨"java/lang/Throwable", "fillInStackTrace", "(I)Ljava/lang/Throwable;"⟩, 6), (⟨"java/util/ArrayList", "add", "(Ljava/lang/Object;[Ljava/lang/Object;I)V"⟩, 3), (⟨"java/util/ArrayList", "grow", "()[Ljava/lang/Object;"⟩, 3), (⟨"java/util/ArrayList", "grow", "(I)[Ljava/lang/Object;"⟩, 3), (⟨"DividendDesk", "holderAt", "(I)LDividendDesk$Holder;"⟩, 6), (⟨"DividendDesk", "isHolder", "(I)Z"⟩, 6), (⟨"DividendDesk$Holder", "partsOf", "(I)I"⟩, 6), (⟨"DividendDesk$Holder", "changeParts", "(II)V"⟩, 6), (⟨"DividendDesk", "sharesInAll", "()I"⟩, 6), (⟨"DividendDesk$Holder", "endDay", "(I)V"⟩, 6), (⟨"DividendDesk$Holder", "hasFormOn", "(I)Z"⟩, 6), (⟨"DividendDesk$Holder", "hasLargeHoldingOn", "(I)Z"⟩, 6), (⟨"DividendDesk", "ownRate", "(LDividendDesk$Holder;)I"⟩, 6), (⟨"DividendDesk", "validForms", "()I"⟩, 6), (⟨"DividendDesk", "makePayment", "(ILDividendDesk$Holder;I)LDividendDesk$Payment;"⟩, 6)]
theorem lw_r1 : ∀ q ∈ lw_privs_1, lw_okq q := List.forall_mem_cons.mpr ⟨lw_p0, List.forall_mem_cons.mpr ⟨lw_p1, List.forall_mem_cons.mpr ⟨lw_p2, List.forall_mem_cons.mpr ⟨lw_p3, List.forall_mem_cons.mpr ⟨lw_p4, List.forall_mem_cons.mpr ⟨lw_p5, List.forall_mem_cons.mpr ⟨lw_p6, List.forall_mem_cons.mpr ⟨lw_p7, List.forall_mem_cons.mpr ⟨lw_p8, List.forall_mem_cons.mpr ⟨lw_p9, List.forall_mem_cons.mpr ⟨lw_p10, List.forall_mem_cons.mpr ⟨lw_p11, List.forall_mem_cons.mpr ⟨lw_p12, List.forall_mem_cons.mpr ⟨lw_p13, List.forall_mem_cons.mpr ⟨lw_p14, List.forall_mem_cons.mpr ⟨lw_p15, fun _ h => absurd h List.not_mem_nil⟩⟩⟩⟩⟩⟩⟩⟩⟩⟩⟩⟩⟩⟩⟩⟩
theorem lw_p16 : lw_okq (⟨"DividendDesk", "addPortions", "(LDividendDesk$Payment;ILDividendDesk$Holder;)V"⟩, 6) := ⟨⟨by decide +kernel, by decide +kernel⟩, List.mem_of_getElem? (i := 23) (by decide +kernel), List.mem_of_getElem? (i := 491) (by decide +kernel), List.mem_of_getElem? (i := 492) (by decide +kernel)⟩
theorem lw_p17 : lw_okq (⟨"DividendDesk$Holder", "partsInAll", "()I"⟩, 6) := ⟨⟨by decide +kernel, by decide +kernel⟩, List.mem_of_getElem? (i := 225) (by decide +kernel), List.mem_of_getElem? (i := 495) (by decide +kernel), List.mem_of_getElem? (i := 496) (by decide +kernel)⟩
theorem lw_p18 : lw_okq (⟨"DividendDesk$Payment", "add", "(LDividendDesk$Portion;)V"⟩, 3) := ⟨⟨by decide +kernel, by decide +kernel⟩, List.mem_of_getElem? (i := 470) (by decide +kernel), List.mem_of_getElem? (i := 515) (by decide +kernel), List.mem_of_getElem? (i := 516) (by decide +kernel)⟩
theorem lw_p19 : lw_okq (⟨"DividendDesk$Dividend", "enter", "(ILDividendDesk$Payment;)V"⟩, 3) := ⟨⟨by decide +kernel, by decide +kernel⟩, List.mem_of_getElem? (i := 110) (by decide +kernel), List.mem_of_getElem? (i := 523) (by decide +kernel), List.mem_of_getElem? (i := 524) (by decide +kernel)⟩
theorem lw_p20 : lw_okq (⟨"DividendDesk$Payment", "taxWith", "(I)I"⟩, 3) := ⟨⟨by decide +kernel, by decide +kernel⟩, List.mem_of_getElem? (i := 470) (by decide +kernel), List.mem_of_getElem? (i := 527) (by decide +kernel), List.mem_of_getElem? (i := 528) (by decide +kernel)⟩
theorem lw_p21 : lw_okq (⟨"DividendDesk$Portion", "tax", "(I)I"⟩, 3) := ⟨⟨by decide +kernel, by decide +kernel⟩, List.mem_of_getElem? (i := 499) (by decide +kernel), List.mem_of_getElem? (i := 534) (by decide +kernel), List.mem_of_getElem? (i := 535) (by decide +kernel)⟩
theorem lw_p22 : lw_okq (⟨"DividendDesk", "paymentAt", "(II)LDividendDesk$Payment;"⟩, 6) := ⟨⟨by decide +kernel, by decide +kernel⟩, List.mem_of_getElem? (i := 23) (by decide +kernel), List.mem_of_getElem? (i := 546) (by decide +kernel), List.mem_of_getElem? (i := 547) (by decide +kernel)⟩
theorem lw_p23 : lw_okq (⟨"DividendDesk", "dividendAt", "(I)LDividendDesk$Dividend;"⟩, 6) := ⟨⟨by decide +kernel, by decide +kernel⟩, List.mem_of_getElem? (i := 23) (by decide +kernel), List.mem_of_getElem? (i := 550) (by decide +kernel), List.mem_of_getElem? (i := 551) (by decide +kernel)⟩
theorem lw_p24 : lw_okq (⟨"DividendDesk$Dividend", "paymentTo", "(I)LDividendDesk$Payment;"⟩, 3) := ⟨⟨by decide +kernel, by decide +kernel⟩, List.mem_of_getElem? (i := 110) (by decide +kernel), List.mem_of_getElem? (i := 555) (by decide +kernel), List.mem_of_getElem? (i := 556) (by decide +kernel)⟩
theorem lw_p25 : lw_okq (⟨"DividendDesk", "refundablePayment", "(III)LDividendDesk$Payment;"⟩, 6) := ⟨⟨by decide +kernel, by decide +kernel⟩, List.mem_of_getElem? (i := 23) (by decide +kernel), List.mem_of_getElem? (i := 581) (by decide +kernel), List.mem_of_getElem? (i := 582) (by decide +kernel)⟩
theorem lw_p26 : lw_okq (⟨"DividendDesk", "giveBack", "(LDividendDesk$Payment;I)I"⟩, 6) := ⟨⟨by decide +kernel, by decide +kernel⟩, List.mem_of_getElem? (i := 23) (by decide +kernel), List.mem_of_getElem? (i := 586) (by decide +kernel), List.mem_of_getElem? (i := 587) (by decide +kernel)⟩
theorem lw_p27 : lw_okq (⟨"DividendDesk$Payment", "lowerTo", "(I)I"⟩, 3) := ⟨⟨by decide +kernel, by decide +kernel⟩, List.mem_of_getElem? (i := 470) (by decide +kernel), List.mem_of_getElem? (i := 590) (by decide +kernel), List.mem_of_getElem? (i := 591) (by decide +kernel)⟩
theorem lw_p28 : lw_okq (⟨"DividendDeskModel", "can", "(I)Z"⟩, 21) := ⟨⟨by decide +kernel, by decide +kernel⟩, List.mem_of_getElem? (i := 603) (by decide +kernel), List.mem_of_getElem? (i := 685) (by decide +kernel), List.mem_of_getElem? (i := 686) (by decide +kernel)⟩
theorem lw_p29 : lw_okq (⟨"DividendDeskModel", "isHolder", "(I)Z"⟩, 21) := ⟨⟨by decide +kernel, by decide +kernel⟩, List.mem_of_getElem? (i := 603) (by decide +kernel), List.mem_of_getElem? (i := 697) (by decide +kernel), List.mem_of_getElem? (i := 698) (by decide +kernel)⟩
theorem lw_p30 : lw_okq (⟨"DividendDeskModel", "allShares", "()I"⟩, 21) := ⟨⟨by decide +kernel, by decide +kernel⟩, List.mem_of_getElem? (i := 603) (by decide +kernel), List.mem_of_getElem? (i := 706) (by decide +kernel), List.mem_of_getElem? (i := 707) (by decide +kernel)⟩
theorem lw_p31 : lw_okq (⟨"DividendDeskModel", "isAsked", "(I)Z"⟩, 21) := ⟨⟨by decide +kernel, by decide +kernel⟩, List.mem_of_getElem? (i := 603) (by decide +kernel), List.mem_of_getElem? (i := 727) (by decide +kernel), List.mem_of_getElem? (i := 728) (by decide +kernel)⟩
def lw_privs_2 : List (MethodName × Nat) := [(⟨"DividendDesk", "addPortions", "(LDividendDesk$Payment;ILDividendDesk$Holder;)V"⟩, 6), (⟨"DividendDesk$Holder", "partsInAll", "()I"⟩, 6), (⟨"DividendDesk$Payment", "add", "(LDividendDesk$Portion;)V"⟩, 3), (⟨"DividendDesk$Dividend", "enter", "(ILDividendDesk$Payment;)V"⟩, 3), (⟨"DividendDesk$Payment", "taxWith", "(I)I"⟩, 3), (⟨"DividendDesk$Portion", "tax", "(I)I"⟩, 3), (⟨"DividendDesk", "paymentAt", "(II)LDividendDesk$Payment;"⟩, 6), (⟨"DividendDesk", "dividendAt", "(I)LDividendDesk$Dividend;"⟩, 6), (⟨"DividendDesk$Dividend", "paymentTo", "(I)LDividendDesk$Payment;"⟩, 3), (⟨"DividendDesk", "refundablePayment", "(III)LDividendDesk$Payment;"⟩, 6), (⟨"DividendDesk", "giveBack", "(LDividendDesk$Payment;I)I"⟩, 6), (⟨"DividendDesk$Payment", "lowerTo", "(I)I"⟩, 3), (⟨"DividendDeskModel", "can", "(I)Z"⟩, 21), (⟨"DividendDeskModel", "isHolder", "(I)Z"⟩, 21), (⟨"DividendDeskModel", "allShares", "()I"⟩, 21), (⟨"DividendDeskModel", "isAsked", "(I)Z"⟩, 21)]
theorem lw_r2 : ∀ q ∈ lw_privs_2, lw_okq q := List.forall_mem_cons.mpr ⟨lw_p16, List.forall_mem_cons.mpr ⟨lw_p17, List.forall_mem_cons.mpr ⟨lw_p18, List.forall_mem_cons.mpr ⟨lw_p19, List.forall_mem_cons.mpr ⟨lw_p20, List.forall_mem_cons.mpr ⟨lw_p21, List.forall_mem_cons.mpr ⟨lw_p22, List.forall_mem_cons.mpr ⟨lw_p23, List.forall_mem_cons.mpr ⟨lw_p24, List.forall_mem_cons.mpr ⟨lw_p25, List.forall_mem_cons.mpr ⟨lw_p26, List.forall_mem_cons.mpr ⟨lw_p27, List.forall_mem_cons.mpr ⟨lw_p28, List.forall_mem_cons.mpr ⟨lw_p29, List.forall_mem_cons.mpr ⟨lw_p30, List.forall_mem_cons.mpr ⟨lw_p31, fun _ h => absurd h List.not_mem_nil⟩⟩⟩⟩⟩⟩⟩⟩⟩⟩⟩⟩⟩⟩⟩⟩
theorem lw_p32 : lw_okq (⟨"DividendDeskModel", "hasForm", "(I)Z"⟩, 21) := ⟨⟨by decide +kernel, by decide +kernel⟩, List.mem_of_getElem? (i := 603) (by decide +kernel), List.mem_of_getElem? (i := 735) (by decide +kernel), List.mem_of_getElem? (i := 736) (by decide +kernel)⟩
theorem lw_p33 : lw_okq (⟨"DividendDeskModel", "holdsLarge", "(I)Z"⟩, 21) := ⟨⟨by decide +kernel, by decide +kernel⟩, List.mem_of_getElem? (i := 603) (by decide +kernel), List.mem_of_getElem? (i := 743) (by decide +kernel), List.mem_of_getElem? (i := 744) (by decide +kernel)⟩
theorem lw_p34 : lw_okq (⟨"DividendDeskModel", "rateOf", "(I)I"⟩, 21) := ⟨⟨by decide +kernel, by decide +kernel⟩, List.mem_of_getElem? (i := 603) (by decide +kernel), List.mem_of_getElem? (i := 751) (by decide +kernel), List.mem_of_getElem? (i := 752) (by decide +kernel)⟩
theorem lw_p35 : lw_okq (⟨"DividendDeskModel", "tax", "(IIZZ)I"⟩, 21) := ⟨⟨by decide +kernel, by decide +kernel⟩, List.mem_of_getElem? (i := 603) (by decide +kernel), List.mem_of_getElem? (i := 759) (by decide +kernel), List.mem_of_getElem? (i := 760) (by decide +kernel)⟩
theorem lw_p36 : lw_okq (⟨"DividendDeskModel", "partnersTax", "(IIZZ)I"⟩, 21) := ⟨⟨by decide +kernel, by decide +kernel⟩, List.mem_of_getElem? (i := 603) (by decide +kernel), List.mem_of_getElem? (i := 763) (by decide +kernel), List.mem_of_getElem? (i := 764) (by decide +kernel)⟩
theorem lw_p37 : lw_okq (⟨"DividendDeskModel", "counts", "(IIZZ)Z"⟩, 21) := ⟨⟨by decide +kernel, by decide +kernel⟩, List.mem_of_getElem? (i := 603) (by decide +kernel), List.mem_of_getElem? (i := 771) (by decide +kernel), List.mem_of_getElem? (i := 772) (by decide +kernel)⟩
theorem lw_p38 : lw_okq (⟨"DividendDeskModel", "areAsked", "(II)Z"⟩, 21) := ⟨⟨by decide +kernel, by decide +kernel⟩, List.mem_of_getElem? (i := 603) (by decide +kernel), List.mem_of_getElem? (i := 783) (by decide +kernel), List.mem_of_getElem? (i := 784) (by decide +kernel)⟩
theorem lw_p39 : lw_okq (⟨"DividendDeskModel", "isDividend", "(I)Z"⟩, 21) := ⟨⟨by decide +kernel, by decide +kernel⟩, List.mem_of_getElem? (i := 603) (by decide +kernel), List.mem_of_getElem? (i := 787) (by decide +kernel), List.mem_of_getElem? (i := 788) (by decide +kernel)⟩
theorem lw_p40 : lw_okq (⟨"DividendDeskModel", "isOver", "(III)Z"⟩, 21) := ⟨⟨by decide +kernel, by decide +kernel⟩, List.mem_of_getElem? (i := 603) (by decide +kernel), List.mem_of_getElem? (i := 811) (by decide +kernel), List.mem_of_getElem? (i := 812) (by decide +kernel)⟩
theorem lw_p41 : lw_okq (⟨"DividendDeskModel", "gives", "(III)I"⟩, 21) := ⟨⟨by decide +kernel, by decide +kernel⟩, List.mem_of_getElem? (i := 603) (by decide +kernel), List.mem_of_getElem? (i := 815) (by decide +kernel), List.mem_of_getElem? (i := 816) (by decide +kernel)⟩
def lw_privs_3 : List (MethodName × Nat) := [(⟨"DividendDeskModel", "hasForm", "(I)Z"⟩, 21), (⟨"DividendDeskModel", "holdsLarge", "(I)Z"⟩, 21), (⟨"DividendDeskModel", "rateOf", "(I)I"⟩, 21), (⟨"DividendDeskModel", "tax", "(IIZZ)I"⟩, 21), (⟨"DividendDeskModel", "partnersTax", "(IIZZ)I"⟩, 21), (⟨"DividendDeskModel", "counts", "(IIZZ)Z"⟩, 21), (⟨"DividendDeskModel", "areAsked", "(II)Z"⟩, 21), (⟨"DividendDeskModel", "isDividend", "(I)Z"⟩, 21), (⟨"DividendDeskModel", "isOver", "(III)Z"⟩, 21), (⟨"DividendDeskModel", "gives", "(III)I"⟩, 21)]
theorem lw_r3 : ∀ q ∈ lw_privs_3, lw_okq q := List.forall_mem_cons.mpr ⟨lw_p32, List.forall_mem_cons.mpr ⟨lw_p33, List.forall_mem_cons.mpr ⟨lw_p34, List.forall_mem_cons.mpr ⟨lw_p35, List.forall_mem_cons.mpr ⟨lw_p36, List.forall_mem_cons.mpr ⟨lw_p37, List.forall_mem_cons.mpr ⟨lw_p38, List.forall_mem_cons.mpr ⟨lw_p39, List.forall_mem_cons.mpr ⟨lw_p40, List.forall_mem_cons.mpr ⟨lw_p41, fun _ h => absurd h List.not_mem_nil⟩⟩⟩⟩⟩⟩⟩⟩⟩⟩
def lw_privs : List (MethodName × Nat) := lw_privs_1 ++ (lw_privs_2 ++ (lw_privs_3))
def lw_tbl : List Cond := k2_sels lw_privs ++ tables_1
theorem lw_privs_ok : ∀ q ∈ lw_privs, lw_okq q := by
  show ∀ q ∈ lw_privs_1 ++ (lw_privs_2 ++ (lw_privs_3)), lw_okq q
  exact List.forall_mem_append.mpr ⟨lw_r1, List.forall_mem_append.mpr ⟨lw_r2, lw_r3⟩⟩
end
section
/-! ===== BEGIN words of one list among another's, by their places ===== -/
theorem goodIn_r {big : List Cond} (ws : List Cond) (ps : List Nat) (hp : ws = ps.filterMap (fun i => big[i]?)) (h : ws.all goodWord = true) : GoodIn big ws := by
  intro w hw
  have h1 := List.all_eq_true.mp h w hw
  rw [hp] at hw
  obtain ⟨i, -, hi⟩ := List.mem_filterMap.mp hw
  have hm : w ∈ big := by first | exact List.mem_of_getElem? hi | exact List.getElem?_mem hi
  exact ⟨hm, good_of_word h1⟩
theorem goodIn_app {big a b : List Cond} (ha : GoodIn big a) (hb : GoodIn big b) : GoodIn big (a ++ b) := fun w h => (List.mem_append.mp h).elim (ha w) (hb w)
theorem goodIn_ca {big a b : List Cond} {c : Cond} (ha : GoodIn big (c :: a)) (hb : GoodIn big b) : GoodIn big (c :: (a ++ b)) := fun w h => (List.mem_cons.mp h).elim (fun e => ha w (List.mem_cons.mpr (Or.inl e))) (fun h => (List.mem_append.mp h).elim (fun h => ha w (List.mem_cons.mpr (Or.inr h))) (hb w))
theorem goodIn_sub {big ws : List Cond} (hm : ∀ w ∈ ws, w ∈ big) (h : ws.all goodWord = true) : GoodIn big ws := fun w hw => ⟨hm w hw, good_of_word (List.all_eq_true.mp h w hw)⟩
/-! ===== END ===== -/

/-! ===== BEGIN exceptions that leave a method, and their catching by the caller (launches without stack traces) ===== -/
section VXA
/-! The laws vx_back, vx_callV, vx_callS, vx_callSW, vx_throw0, vx_throwS follow proofs of the library, with one case more: JvmDerived/Free/Laws.lean (Back.of_free), Shelf42/LK1.lean (callV, callS), Shelf/KitTraced.lean (throwNew0V, throwNewS). -/
/-- where a method has thrown q: the class by its name, the cell, what was written, the world -/
def vx_T (XC : String → State → State → Prop) (st : State) (q : Addr) (t : State) (mc ms : Nat) (free : Addr → Prop) : Prop :=
  ∃ (E : String) (ce : Cell) (L : List Loc), XC E st t ∧ t.heap[q]? = some ce ∧ ce.vm = .none ∧ st.vm.findClass E = some ce.cls ∧ st.WarmedH t.vm ∧ st.sameButNew ({ t with vm := st.vm } : State) L mc ms ∧ ∀ z ∈ L, free z.base
def vx_Q (Qc : Array Value → State → Outcome → State → Prop) (XC : String → State → State → Prop) (mc ms : Nat) (free : Addr → Prop) : Array Value → State → Outcome → State → Prop := fun a st o t =>
  (Qc a st o t ∧ ∃ L, FrameEnd st o t L mc ms ∧ ∀ q ∈ L, free q.base) ∨ ∃ q, o = .threw q ∧ vx_T XC st q t mc ms free
/-- a callee that returns or throws -/
def vx_Met (l : Launch) (y : MethodName) (ws : List Cond) (rm : Room) (Pc : Array Value → State → Prop) (Qc : Array Value → State → Outcome → State → Prop) (XC : String → State → State → Prop) (mc ms : Nat) (free : Addr → Prop) : Prop :=
  MetFree l y (headSpec ws rm) Pc (fun _ _ _ _ _ => True) (vx_Q Qc XC mc ms free)
def vx_Post (XC : String → State → State → Prop) (mc ms : Nat) (free : Addr → Prop) : Pt → Array Value → Addr → Pt → Prop := fun A a q B =>
  ∃ (g : JFrame) (mk : MethodId) (t : State) (L : List Loc) (E : String) (ce : Cell), B.U.heap = t.heap ∧ B.U.vm = t.vm ∧ XC E (A.U.calling g mk a) t ∧ t.heap[q]? = some ce ∧ ce.vm = .none ∧ A.U.vm.findClass E = some ce.cls ∧ B.locs = A.locs ++ L ∧ (∀ z ∈ L, free z.base) ∧ B.cells = A.cells + mc ∧ B.slots = A.slots + ms
def vx_Back (l : Launch) (R : Room) (p : Program) (e : Env) (below : List Frame) (s : State) (sargs : Array Value) (y : MethodName) (len W9 : Nat)
    (Pre : Pt → Array Value → Prop) (Post : Pt → Array Value → Option Value → Pt → Prop) (PostX : Pt → Array Value → Addr → Pt → Prop) : Prop :=
  ∀ (m : MethodId) (meth : Method) (c : Code) (A : Pt) (g : JFrame) (ig : Instr) (mk : MethodId) (a : Array Value),
    Stand p l e R s m sargs below meth c A.U A.locs A.cells A.slots → g.method = m → g.locals.size = c.maxLocals → decode c.code g.pc = .ok (ig, len) →
    2 * g.monitorRoom + (g.stack.map fun v => v.category).sum ≤ W9 → A.U.methodNamed? y = some mk → Pre A a →
    (∃ (v : Option Value) (B : Pt), Stand p l e R s m sargs below meth c B.U B.locs B.cells B.slots ∧ Post A a v B ∧
      Steps p.tables e below (doInvoke e (A.U.setTop g) [] mk a).1 (B.U.setTop { g with pc := g.pc + len, stack := v.toList ++ g.stack })) ∨
    (∃ (q : Addr) (B : Pt), Stand p l e R s m sargs below meth c B.U B.locs B.cells B.slots ∧ PostX A a q B ∧
      Steps p.tables e below (doInvoke e (A.U.setTop g) [] mk a).1 ((B.U.setTop g).pushFrame (.throwing q)))
section Payer
variable {l : Launch} {R : Room} {p : Program} {e : Env} {below : List Frame} {s : State} {sargs : Array Value} {y : MethodName} {len W9 : Nat}
theorem vx_back {ws : List Cond} {rm : Room} {Pc : Array Value → State → Prop} {Qc : Array Value → State → Outcome → State → Prop} {XC : String → State → State → Prop} {mc ms : Nat} {free : Addr → Prop} {bytes : ByteArray} {maxL : Nat} {ret : Option FieldType}
    (hM : vx_Met l y ws rm Pc Qc XC mc ms free) (hblind : FrameBlind Pc) (hrc : rm.cells = mc) (hrs : rm.slots = ms)
    (hframes : rm.frames + 1 ≤ R.frames) (hlocals : W9 + (maxL + 11) + rm.locals ≤ R.locals)
    (hws : ∀ w ∈ ws, ∀ a' U, s.WarmedH U.vm → w.before a' U = true) (hcode : Cond.code y bytes maxL ret ∈ ws) (hinit : ∀ a' U, s.WarmedH U.vm → (Cond.initialized y.cls).before a' U = true) :
    vx_Back l R p e below s sargs y len W9 (PreOf R mc ms Pc) (PostOf Qc mc ms free) (vx_Post XC mc ms free) := by
  intro m meth c A g ig mk a X hg hsize hdg hW hn hp
  have h1 : (headSpec ws rm).pre.before a A.U = true := atoms_intro fun w hw => hws w hw _ _ X.warmed
  have h2 : (Cond.code y bytes maxL ret).before a A.U = true := hws _ hcode _ _ X.warmed
  have h3 : (Cond.initialized y.cls).before a A.U = true := hinit _ _ X.warmed
  have h4 : A.cells + (headSpec ws rm).room.cells ≤ R.cells := by rw [show (headSpec ws rm).room.cells = mc from hrc]; exact hp.1
  have h5 : A.slots + (headSpec ws rm).room.slots ≤ R.slots := by rw [show (headSpec ws rm).room.slots = ms from hrs]; exact hp.2.1
  have hPc : Pc a (A.U.calling g mk a) := hblind _ _ _ _ hp.2.2
  obtain ⟨U, Ls, c0, s0⟩ := A
  dsimp only [Pt.U, Pt.locs, Pt.cells, Pt.slots] at h1 h2 h3 h4 h5 X hn hPc ⊢
  obtain ⟨methY, cY, hmY, hcY, -, hlY, -, -, -, -⟩ := Cond.code_spec hn h2
  obtain ⟨kY, hkY, -⟩ := className_of_methodNamed hn
  have hinitY : kY.init = .initialized := Cond.initialized_spec (findClass_of_methodNamed hn) hkY h3
  have h : At U g.method c below := by rw [hg]; exact X.here
  have hlocals9 : W9 + (maxL + 11) + (headSpec ws rm).room.locals ≤ R.locals := hlocals
  have happ : (headSpec ws rm).appliesLoose y e.platform (U.calling g mk a) = true :=
    Spec.appliesLoose_calling (g := g) h hdg hn hkY hinitY
      (X.room_calling (g := g) (R' := (headSpec ws rm).room) hsize hmY hcY hframes (by rw [hlY]; omega) h4 h5) h1
  obtain ⟨mid, hmid⟩ := h.above
  have hfr : (U.setTop g).frames = (.java g :: mid) ++ below := by rw [State.frames_setTop' g h.top, hmid]; rfl
  obtain ⟨o, s₂, hsteps, -, hend, hq⟩ := Steps.callFree hM p X.admits X.cas X.clock (acts := []) hfr happ hPc trivial
  have hq' : vx_Q Qc XC mc ms free a (U.calling g mk a) o s₂ := hq
  rw [State.frames_setTop' g h.top] at hend
  obtain ⟨g₀, hg0⟩ := Option.isSome_iff_exists.mp h.top
  obtain ⟨r, hr⟩ := State.topJava?_eq_some.mp hg0
  have hr' : (({ U with heap := s₂.heap, slotsUsed := s₂.slotsUsed } : State).setVm s₂.vm).frames = .java g₀ :: r := hr
  rcases hq' with ⟨hqc, L, hfe, hL⟩ | ⟨q, rfl, E, ce, L, hx, hce, hcv, hcl, hW₂, hsm, hL⟩
  · obtain ⟨⟨v, rfl⟩, hW₂, e2, q2, q3, q4, q5, q6⟩ := id hfe
    have e3 : s₂ = ({ (U.calling g mk a).setFrames s₂.frames with heap := s₂.heap, slotsUsed := s₂.slotsUsed } : State).setVm s₂.vm := by
      have : s₂ = ({ s₂ with vm := (U.calling g mk a).vm } : State).setVm s₂.vm := rfl
      rw [e2] at this
      exact this
    obtain ⟨c₂, i₂, len₂, hc₂, hd₂, hf₂⟩ := hend
    have hW' : U.WarmedH s₂.vm := hW₂
    have hcc : c₂ = c := by
      have h1 : s₂.code? g.method = U.code? g.method := by
        rw [State.code?_eq, State.code?_eq, hW'.alike.method?]
      exact Option.some.inj (hc₂.symm.trans (h1.trans h.code))
    subst hcc
    have hlen : len₂ = len := by rw [hdg] at hd₂; cases hd₂; rfl
    subst hlen
    have hs₂ : s₂ = (({ U with heap := s₂.heap, slotsUsed := s₂.slotsUsed } : State).setVm s₂.vm).setTop { g with pc := g.pc + len₂, stack := v.toList ++ g.stack } := by
      refine e3.trans ?_
      rw [hf₂, State.calling_eq h.top, State.setFrames_setFrames, State.setTop_of_frames _ hr', hr]
      rfl
    have hsame : U.sameButNew ({ U with heap := s₂.heap, slotsUsed := s₂.slotsUsed } : State) L mc ms := by
      refine ⟨?_, q2, q3, q4, q5, q6⟩
      obtain ⟨t, ht, -⟩ := State.frames_cons hr
      show ({ U with heap := s₂.heap, slotsUsed := s₂.slotsUsed } : State) = { U.setFrames U.frames with heap := s₂.heap, slotsUsed := s₂.slotsUsed }
      rw [State.setFrames_self ht]
    subst hg
    refine Or.inl ⟨v, ⟨(({ U with heap := s₂.heap, slotsUsed := s₂.slotsUsed } : State).setVm s₂.vm), Ls ++ L, c0 + mc, s0 + ms⟩,
      ⟨X.admits, X.cas, X.clock, X.frames, X.room, X.hears, X.method, X.code, (X.here.setHeapUsed s₂.heap s₂.slotsUsed).setVm hW'.alike, X.tail, State.WarmedH.trans X.warmed hW', X.limits, X.bytes, X.same.trans (hsame.setVm s.vm)⟩,
      ⟨g, mk, s₂, L, rfl, rfl, hqc, rfl, hL, rfl, rfl⟩, ?_⟩
    show Steps p.tables e below _ ((({ U with heap := s₂.heap, slotsUsed := s₂.slotsUsed } : State).setVm s₂.vm).setTop { g with pc := g.pc + len₂, stack := v.toList ++ g.stack })
    rw [← hs₂]
    exact hsteps
  · obtain ⟨e2, q2, q3, q4, q5, q6⟩ := id hsm
    have e3 : s₂ = ({ (U.calling g mk a).setFrames s₂.frames with heap := s₂.heap, slotsUsed := s₂.slotsUsed } : State).setVm s₂.vm := by
      have : s₂ = ({ s₂ with vm := (U.calling g mk a).vm } : State).setVm s₂.vm := rfl
      rw [e2] at this
      exact this
    have hf₂ : s₂.frames = .throwing q :: .java g :: U.frames.tail := hend
    have hW' : U.WarmedH s₂.vm := hW₂
    have hs₂ : s₂ = ((({ U with heap := s₂.heap, slotsUsed := s₂.slotsUsed } : State).setVm s₂.vm).setTop g).pushFrame (.throwing q) := by
      refine e3.trans ?_
      rw [hf₂, State.calling_eq h.top, State.setFrames_setFrames, State.pushFrame, State.frames_setTop _ hr', State.setTop_of_frames _ hr', State.setFrames_setFrames, hr]
      rfl
    have hsame : U.sameButNew ({ U with heap := s₂.heap, slotsUsed := s₂.slotsUsed } : State) L mc ms := by
      refine ⟨?_, q2, q3, q4, q5, q6⟩
      obtain ⟨t, ht, -⟩ := State.frames_cons hr
      show ({ U with heap := s₂.heap, slotsUsed := s₂.slotsUsed } : State) = { U.setFrames U.frames with heap := s₂.heap, slotsUsed := s₂.slotsUsed }
      rw [State.setFrames_self ht]
    subst hg
    refine Or.inr ⟨q, ⟨(({ U with heap := s₂.heap, slotsUsed := s₂.slotsUsed } : State).setVm s₂.vm), Ls ++ L, c0 + mc, s0 + ms⟩,
      ⟨X.admits, X.cas, X.clock, X.frames, X.room, X.hears, X.method, X.code, (X.here.setHeapUsed s₂.heap s₂.slotsUsed).setVm hW'.alike, X.tail, State.WarmedH.trans X.warmed hW', X.limits, X.bytes, X.same.trans (hsame.setVm s.vm)⟩,
      ⟨g, mk, s₂, L, E, ce, rfl, rfl, hx, hce, hcv, hcl, rfl, hL, rfl, rfl⟩, ?_⟩
    show Steps p.tables e below _ (((({ U with heap := s₂.heap, slotsUsed := s₂.slotsUsed } : State).setVm s₂.vm).setTop g).pushFrame (.throwing q))
    rw [← hs₂]
    exact hsteps
end Payer
section Calls
variable {p : Program} {l : Launch} {e : Env} {R : Room} {s : State} {m : MethodId} {args : Array Value} {below : List Frame} {meth : Method} {c : Code} {T : State} {locs : List Loc} {cells slots : Nat}
theorem vx_callV (X : Stand p l e R s m args below meth c T locs cells slots) (hexec : p.tables.exec = Jvm.exec) {own C : String} {index : Nat} {y : MethodName} {bytes : ByteArray} {maxL : Nat} {ret : Option FieldType}
    (hown : s.vm.findClass own = some m.cls) (hlink : (Cond.methodLink own index y).before args s = true) (hinst : (Cond.instanceMethod y).before args s = true) (hsel : (Cond.selects C y y).before args s = true)
    (hcode : (Cond.code y bytes maxL ret).before args s = true) (hy : y.cls ≠ "java/lang/invoke/MethodHandle" ∧ y.cls ≠ "java/lang/invoke/VarHandle")
    {W9 : Nat} {Pre : Pt → Array Value → Prop} {Post : Pt → Array Value → Option Value → Pt → Prop} {PostX : Pt → Array Value → Addr → Pt → Prop} (hK : vx_Back l R p e below s args y 3 W9 Pre Post PostX)
    {b : Addr} {cellB : Cell} (hcell : T.heap[b]? = some cellB) (hobj : cellB.vm.isStatics = false) (hcls : s.vm.findClass C = some cellB.cls)
    {g : JFrame} (hg : g.method = m) (hsize : g.locals.size = c.maxLocals) {argsL rest : List Value} (hlen : ∀ sig, parseMethodDescriptor y.desc = some sig → argsL.length = sig.parameters.length)
    (hstack : g.stack = argsL.reverse ++ .ref b :: rest) (hW : 2 * g.monitorRoom + (rest.map fun v => v.category).sum ≤ W9) (hdg : decode c.code g.pc = .ok (.invokevirtual index, 3))
    (hpre : ∀ vm₁, s.WarmedH vm₁ → Pre ⟨T.setVm vm₁, locs, cells, slots⟩ (Value.ref b :: argsL).toArray) :
    (∃ (v : Option Value) (vm₁ : Vm) (B : Pt), s.WarmedH vm₁ ∧ Stand p l e R s m args below meth c B.U B.locs B.cells B.slots ∧ Post ⟨T.setVm vm₁, locs, cells, slots⟩ (Value.ref b :: argsL).toArray v B ∧
      ∀ target, Steps p.tables e below (B.U.setTop { g with pc := g.pc + 3, stack := v.toList ++ rest }) target → Steps p.tables e below (T.setTop g) target) ∨
    (∃ (q : Addr) (vm₁ : Vm) (B : Pt), s.WarmedH vm₁ ∧ Stand p l e R s m args below meth c B.U B.locs B.cells B.slots ∧ PostX ⟨T.setVm vm₁, locs, cells, slots⟩ (Value.ref b :: argsL).toArray q B ∧
      Steps p.tables e below (T.setTop g) ((B.U.setTop { g with stack := rest }).pushFrame (.throwing q))) := by
  obtain ⟨mk, methM, hnamed, hmethM, hstM, habM⟩ := Cond.instanceMethod_spec hinst
  obtain ⟨methM', cM, hmethM', -, -, -, -, -, -, hsigM⟩ := Cond.code_spec hnamed hcode
  cases hmethM.symm.trans hmethM'
  obtain ⟨c2, r2, m2, q1, q2, q3, q4, kP, hkP, hkPi⟩ := Cond.selects_spec hsel
  cases hcls.symm.trans q1
  cases (State.methodFound?_of_named hnamed hy).symm.trans q2
  cases hnamed.symm.trans q3
  have hselP : selectMethod e.platform s.vm cellB.cls mk = .method mk := by rw [Launch.admits_selectMethod X.admits]; exact q4
  obtain ⟨vm₁, X₁, hstep₁⟩ := X.invokevirtual hexec hown hlink hnamed hmethM hstM hkP hkPi hy (a := b) (cell := cellB) hcell
    (fun z h => by rw [h] at hobj; cases hobj) hselP hmethM habM hkP hkPi (g := g) hg (argsL := argsL) (rest := rest) (hlen _ hsigM) hstack hdg
  rcases hK m meth c ⟨T.setVm vm₁, locs, cells, slots⟩ { g with stack := rest } (.invokevirtual index) mk (Value.ref b :: argsL).toArray X₁ hg hsize hdg hW (X₁.named hnamed) (hpre vm₁ X₁.warmed) with ⟨v, B, X', hpost, hsteps⟩ | ⟨q, B, X', hpost, hsteps⟩
  · exact Or.inl ⟨v, vm₁, B, X₁.warmed, X', hpost, fun target h => hstep₁ _ fun acts => by rw [doInvoke_state]; exact hsteps.trans h⟩
  · exact Or.inr ⟨q, vm₁, B, X₁.warmed, X', hpost, hstep₁ _ fun acts => by rw [doInvoke_state]; exact hsteps⟩
theorem vx_callS (X : Stand p l e R s m args below meth c T locs cells slots) (hexec : p.tables.exec = Jvm.exec) {own : String} {index : Nat} {y : MethodName} {bytes : ByteArray} {maxL : Nat} {ret : Option FieldType}
    (hown : s.vm.findClass own = some m.cls) (hlink : (Cond.methodLink own index y).before args s = true) (hstat : (Cond.static y).before args s = true) (hinit : (Cond.initialized y.cls).before args s = true)
    (hcode : (Cond.code y bytes maxL ret).before args s = true) (hy : y.cls ≠ "java/lang/invoke/MethodHandle" ∧ y.cls ≠ "java/lang/invoke/VarHandle")
    {W9 : Nat} {Pre : Pt → Array Value → Prop} {Post : Pt → Array Value → Option Value → Pt → Prop} {PostX : Pt → Array Value → Addr → Pt → Prop} (hK : vx_Back l R p e below s args y 3 W9 Pre Post PostX)
    {g : JFrame} (hg : g.method = m) (hsize : g.locals.size = c.maxLocals) {argsL rest : List Value} (hlen : ∀ sig, parseMethodDescriptor y.desc = some sig → argsL.length = sig.parameters.length)
    (hstack : g.stack = argsL.reverse ++ rest) (hW : 2 * g.monitorRoom + (rest.map fun v => v.category).sum ≤ W9) (hdg : decode c.code g.pc = .ok (.invokestatic index, 3))
    (hpre : ∀ vm₁, s.WarmedH vm₁ → Pre ⟨T.setVm vm₁, locs, cells, slots⟩ argsL.toArray) :
    (∃ (v : Option Value) (vm₁ : Vm) (B : Pt), s.WarmedH vm₁ ∧ Stand p l e R s m args below meth c B.U B.locs B.cells B.slots ∧ Post ⟨T.setVm vm₁, locs, cells, slots⟩ argsL.toArray v B ∧
      ∀ target, Steps p.tables e below (B.U.setTop { g with pc := g.pc + 3, stack := v.toList ++ rest }) target → Steps p.tables e below (T.setTop g) target) ∨
    (∃ (q : Addr) (vm₁ : Vm) (B : Pt), s.WarmedH vm₁ ∧ Stand p l e R s m args below meth c B.U B.locs B.cells B.slots ∧ PostX ⟨T.setVm vm₁, locs, cells, slots⟩ argsL.toArray q B ∧
      Steps p.tables e below (T.setTop g) ((B.U.setTop { g with stack := rest }).pushFrame (.throwing q))) := by
  obtain ⟨mk, hnamed⟩ := Cond.code_named hcode
  obtain ⟨methM, cM, hmethM, -, -, -, -, -, -, hsigM⟩ := Cond.code_spec hnamed hcode
  have hstatic : methM.isStatic = true := Cond.static_spec hnamed hmethM hstat
  obtain ⟨kP, hkP, -⟩ := className_of_methodNamed hnamed
  have hinitP : kP.init = .initialized := Cond.initialized_spec (findClass_of_methodNamed hnamed) hkP hinit
  obtain ⟨vm₁, X₁, hstep₁⟩ := X.invokestatic hexec hown hlink hnamed hmethM hstatic hkP hinitP hy (g := g) hg (argsL := argsL) (rest := rest) (hlen _ hsigM) hstack hdg
  rcases hK m meth c ⟨T.setVm vm₁, locs, cells, slots⟩ { g with stack := rest } (.invokestatic index) mk argsL.toArray X₁ hg hsize hdg hW (X₁.named hnamed) (hpre vm₁ X₁.warmed) with ⟨v, B, X', hpost, hsteps⟩ | ⟨q, B, X', hpost, hsteps⟩
  · exact Or.inl ⟨v, vm₁, B, X₁.warmed, X', hpost, fun target h => hstep₁ _ fun acts => by rw [doInvoke_state]; exact hsteps.trans h⟩
  · exact Or.inr ⟨q, vm₁, B, X₁.warmed, X', hpost, hstep₁ _ fun acts => by rw [doInvoke_state]; exact hsteps⟩
end Calls
theorem vx_cls {s : State} {T : State} {vm₁ : Vm} {E : String} {k : ClassId} (hW : s.WarmedH vm₁) (h : (T.setVm vm₁).vm.findClass E = some k) : s.vm.findClass E = some k := by
  have h1 : vm₁.findClass E = some k := h
  rw [hW.alike.findClass] at h1
  exact h1
/-- the method's frame g, with q thrown over it -/
def vx_W (p : Program) (l : Launch) (e : Env) (R : Room) (s : State) (m : MethodId) (args : Array Value) (below : List Frame) (meth : Method) (c : Code) (H : Heap) (locs : List Loc) (cells slots : Nat) (Q : State → Prop) (g : JFrame) (q : Addr) : Prop :=
  ∀ T : State, T.heap = H → Stand p l e R s m args below meth c T locs cells slots → ∃ t, Steps p.tables e below ((T.setTop g).pushFrame (.throwing q)) t ∧ Q t
def vx_Run (p : Program) (l : Launch) (e : Env) (R : Room) (s : State) (m : MethodId) (args : Array Value) (below : List Frame) (meth : Method) (c : Code) (H : Heap) (locs : List Loc) (cells slots mc ms : Nat) (g : JFrame) (rest : List Value) (Qa : State → Outcome → State → Prop) (XC : String → State → State → Prop) (free : Addr → Prop) : Prop :=
  ∀ T : State, T.heap = H → Stand p l e R s m args below meth c T locs cells slots →
    (∃ (v : Option Value) (st₀ t T' : State) (L : List Loc), st₀.heap = H ∧ Stand p l e R s m args below meth c T' (locs ++ L) (cells + mc) (slots + ms) ∧ (∀ q ∈ L, free q.base) ∧ T'.heap = t.heap ∧ T'.vm = t.vm ∧ Qa st₀ (.returned v) t ∧
      Goes p e below T g T' { g with pc := g.pc + 3, stack := v.toList ++ rest }) ∨
    (∃ (q : Addr) (st₀ t T' : State) (L : List Loc) (E : String) (ce : Cell), st₀.heap = H ∧ Stand p l e R s m args below meth c T' (locs ++ L) (cells + mc) (slots + ms) ∧ (∀ z ∈ L, free z.base) ∧ T'.heap = t.heap ∧ T'.vm = t.vm ∧ XC E st₀ t ∧ t.heap[q]? = some ce ∧ ce.vm = .none ∧ s.vm.findClass E = some ce.cls ∧
      Steps p.tables e below (T.setTop g) ((T'.setTop { g with stack := rest }).pushFrame (.throwing q)))
def vx_X {S : Type} (px : S → Prop) (B : String → S → State → Prop) (A : Nat → Prop) : String → State → State → Prop := fun E st t => ∃ u : S, px u ∧ B E u t ∧ va_F A st t
section Runs
variable {p : Program} {l : Launch} {e : Env} {R : Room} {s : State} {m : MethodId} {args : Array Value} {below : List Frame} {meth : Method} {c : Code} {H : Heap} {locs : List Loc} {cells slots : Nat}
variable {y : MethodName} {bytes cc : ByteArray} {maxL nL mc ms n index : Nat} {ret : Option FieldType} {ws : List Cond} {rm : Room} {Pc : Array Value → State → Prop} {Qc : Array Value → State → Outcome → State → Prop} {XC : String → State → State → Prop} {free : Addr → Prop} {Ts : List Cond} {own C : String} {b : Addr} {As rest : List Value} {g : JFrame}
theorem vx_callBack (cb : CallB R s args own index y bytes maxL ret ws rm mc ms n) (hM : vx_Met l y ws rm Pc Qc XC mc ms free) (hbl : FrameBlind Pc) : vx_Back l R p e below s args y 3 8 (PreOf R mc ms Pc) (PostOf Qc mc ms free) (vx_Post XC mc ms free) := by
  obtain ⟨hrc, hrs, hfr, hlo, hws, hcw, -, hini, -⟩ := cb
  exact vx_back (bytes := bytes) (maxL := maxL) (ret := ret) hM hbl hrc hrs hfr hlo hws hcw (fun a' U hW => word_at hW (Or.inl (by first | rfl | simp [Cond.onTables, Cond.keeps, Cond.steady])) hini)
theorem vx_runV (S : CallFix p m c cc nL s args Ts own) (hM : vx_Met l y ws rm Pc Qc XC mc ms free) (cw : CallW R s args own C index y bytes maxL ret ws rm mc ms n) (hp : PreV s H C b Pc As)
    (hg : g.method = m) (hn : As.length = n) (hsize : g.locals.size = nL) (hstack : g.stack = As.reverse ++ .ref b :: rest) (hW : 2 * g.monitorRoom + (rest.map fun v => v.category).sum ≤ 8) (hdg : decode cc g.pc = .ok (.invokevirtual index, 3)) (hf : cells + mc ≤ R.cells ∧ slots + ms ≤ R.slots) :
    vx_Run p l e R s m args below meth c H locs cells slots mc ms g rest (Qc (Value.ref b :: As).toArray) XC free := by
  have hK : vx_Back l R p e below s args y 3 8 (PreOf R mc ms Pc) (PostOf Qc mc ms free) (vx_Post XC mc ms free) := vx_callBack cw.1 hM hp.1
  obtain ⟨⟨-, -, -, -, -, -, hcode, -, hy, hlen, hl⟩, hin, hse⟩ := cw
  obtain ⟨hx, hb, hml, ho, -⟩ := S
  obtain ⟨-, ⟨cellB, hcB, hoB, hclB⟩, hPc⟩ := hp
  intro T hT X
  rcases vx_callV X hx (C := C) (bytes := bytes) (maxL := maxL) (ret := ret) ho hl hin hse hcode hy hK (by rw [hT]; exact hcB) hoB hclB hg (hsize.trans hml.symm) (argsL := As) (rest := rest) (fun sig h => hn.trans (hlen sig h)) hstack hW (by rw [hb]; exact hdg)
    (fun vm₁ hW₁ => ⟨hf.1, hf.2, hPc (T.setVm vm₁) hT hW₁⟩) with ⟨v, vm₁, ⟨U', l2, c2, s2⟩, hW₁, X', ⟨g', mk, t, L, e1, e2, hq, h1, hL, h2, h3⟩, st⟩ | ⟨q, vm₁, ⟨U', l2, c2, s2⟩, hW₁, X', ⟨g', mk, t, L, E, ce, e1, e2, hq, hce, hcv, hcl, h1, hL, h2, h3⟩, st⟩
  · dsimp only [Pt.U, Pt.locs, Pt.cells, Pt.slots] at X' e1 e2 h1 h2 h3 st
    subst h1; subst h2; subst h3
    exact Or.inl ⟨v, (T.setVm vm₁).calling g' mk (Value.ref b :: As).toArray, t, U', L, hT, X', hL, e1, e2, hq, st⟩
  · dsimp only [Pt.U, Pt.locs, Pt.cells, Pt.slots] at X' e1 e2 h1 h2 h3 st hcl
    subst h1; subst h2; subst h3
    exact Or.inr ⟨q, (T.setVm vm₁).calling g' mk (Value.ref b :: As).toArray, t, U', L, E, ce, hT, X', hL, e1, e2, hq, hce, hcv, vx_cls hW₁ hcl, st⟩
theorem vx_runS (S : CallFix p m c cc nL s args Ts own) (hM : vx_Met l y ws rm Pc Qc XC mc ms free) (cw : CallB R s args own index y bytes maxL ret ws rm mc ms n ∧ (Cond.static y).before args s = true) (hp : PreS s H Pc As)
    (hg : g.method = m) (hn : As.length = n) (hsize : g.locals.size = nL) (hstack : g.stack = As.reverse ++ rest) (hW : 2 * g.monitorRoom + (rest.map fun v => v.category).sum ≤ 8) (hdg : decode cc g.pc = .ok (.invokestatic index, 3)) (hf : cells + mc ≤ R.cells ∧ slots + ms ≤ R.slots) :
    vx_Run p l e R s m args below meth c H locs cells slots mc ms g rest (Qc As.toArray) XC free := by
  have hK : vx_Back l R p e below s args y 3 8 (PreOf R mc ms Pc) (PostOf Qc mc ms free) (vx_Post XC mc ms free) := vx_callBack cw.1 hM hp.1
  obtain ⟨⟨-, -, -, -, -, -, hcode, hini, hy, hlen, hl⟩, hstt⟩ := cw
  obtain ⟨hx, hb, hml, ho, -⟩ := S
  intro T hT X
  rcases vx_callS X hx (bytes := bytes) (maxL := maxL) (ret := ret) ho hl hstt hini hcode hy hK hg (hsize.trans hml.symm) (argsL := As) (rest := rest) (fun sig h => hn.trans (hlen sig h)) hstack hW (by rw [hb]; exact hdg)
    (fun vm₁ hW₁ => ⟨hf.1, hf.2, hp.2 (T.setVm vm₁) hT hW₁⟩) with ⟨v, vm₁, ⟨U', l2, c2, s2⟩, hW₁, X', ⟨g', mk, t, L, e1, e2, hq, h1, hL, h2, h3⟩, st⟩ | ⟨q, vm₁, ⟨U', l2, c2, s2⟩, hW₁, X', ⟨g', mk, t, L, E, ce, e1, e2, hq, hce, hcv, hcl, h1, hL, h2, h3⟩, st⟩
  · dsimp only [Pt.U, Pt.locs, Pt.cells, Pt.slots] at X' e1 e2 h1 h2 h3 st
    subst h1; subst h2; subst h3
    exact Or.inl ⟨v, (T.setVm vm₁).calling g' mk As.toArray, t, U', L, hT, X', hL, e1, e2, hq, st⟩
  · dsimp only [Pt.U, Pt.locs, Pt.cells, Pt.slots] at X' e1 e2 h1 h2 h3 st hcl
    subst h1; subst h2; subst h3
    exact Or.inr ⟨q, (T.setVm vm₁).calling g' mk As.toArray, t, U', L, E, ce, hT, X', hL, e1, e2, hq, hce, hcv, vx_cls hW₁ hcl, st⟩
end Runs
section Rows
variable {p : Program} {l : Launch} {e : Env} {R : Room} {s : State} {m : MethodId} {args : Array Value} {below : List Frame} {meth : Method} {c : Code} {H : Heap} {locs : List Loc} {cells slots : Nat} {Q : State → Prop}
variable {mc ms : Nat} {free : Addr → Prop} {A0 A1 : Nat → Prop} {H0 : Heap} {a : Array Value} {pc : Nat} {ls : Array Slot} {st0 rest : List Value}
theorem vx_keep {st₀ t T' : State} {L : List Loc} (h0 : st₀.heap = H) (e1 : T'.heap = t.heap) (hS : va_S A0 H0 H locs) (hA : ∀ q, q < H.size → A1 q → A0 q) (hf : ∀ q, free q → A0 q) (hL : ∀ q ∈ L, free q.base) (hF : va_F A1 st₀ t) :
    H.size ≤ T'.heap.size ∧ (∀ q : Nat, q < H.size → ¬ A1 q → T'.heap[q]? = H[q]?) ∧ va_S A0 H0 T'.heap (locs ++ L) := by
  obtain ⟨hz, hk⟩ := hF
  rw [h0] at hz hk
  exact ⟨by rw [e1]; exact hz, fun q h1 h2 => by rw [e1]; exact hk q h1 h2,
    ⟨Nat.le_trans hS.1 (by rw [e1]; exact hz), fun q h1 h2 => by rw [e1, hk q (Nat.lt_of_lt_of_le h1 hS.1) (fun z => h2 (hA q (Nat.lt_of_lt_of_le h1 hS.1) z))]; exact hS.2.1 q h1 h2, fun q hq => by
      rcases List.mem_append.mp hq with h | h
      · exact hS.2.2 q h
      · exact hf _ (hL q h)⟩⟩
theorem vx_calli {S SX : Type} {post : Int32 → S → Prop} {px : SX → Prop} {B : S → State → Prop} {BX : String → SX → State → Prop} {AX : Nat → Prop} (hr : vx_Run p l e R s m args below meth c H locs cells slots mc ms (F0 m pc ls st0) rest (va_Qi post B A1 a) (vx_X px BX AX) free) (hS : va_S A0 H0 H locs) (hA : ∀ q, q < H.size → A1 q → A0 q) (hf : ∀ q, free q → A0 q) (hAX : ∀ q, q < H.size → AX q → A0 q)
    (kx : ∀ (E : String) (ce : Cell) (q9 : Addr) (u : SX) (t : State) (H1 : Heap) (locs1 : List Loc), t.heap = H1 → s.vm.Alike t.vm → px u → BX E u t → H.size ≤ H1.size → (∀ q : Nat, q < H.size → ¬ AX q → H1[q]? = H[q]?) → va_S A0 H0 H1 locs1 → H1[q9]? = some ce → ce.vm = .none → s.vm.findClass E = some ce.cls → vx_W p l e R s m args below meth c H1 locs1 (cells + mc) (slots + ms) Q (F0 m pc ls rest) q9)
    (kk : ∀ (r : Int32) (u : S) (t : State) (H1 : Heap) (locs1 : List Loc), t.heap = H1 → s.vm.Alike t.vm → post r u → B u t → H.size ≤ H1.size → (∀ q : Nat, q < H.size → ¬ A1 q → H1[q]? = H[q]?) → va_S A0 H0 H1 locs1 → W p l e R s m args below meth c H1 locs1 (cells + mc) (slots + ms) Q (F0 m (pc + 3) ls (.int r :: rest))) : W p l e R s m args below meth c H locs cells slots Q (F0 m pc ls st0) := by
  intro T hT X
  rcases hr T hT X with ⟨v, st₀, t, T', L, h0, X', hL, e1, e2, ⟨⟨r, u, hv, hp, hb⟩, hF⟩, st⟩ | ⟨q, st₀, t, T', L, E, ce, h0, X', hL, e1, e2, ⟨u, hp, hb, hF⟩, hce, hcv, hcl, st⟩
  · cases hv
    obtain ⟨k1, k2, k3⟩ := vx_keep h0 e1 hS hA hf hL hF
    obtain ⟨t2, a1, b1⟩ := kk r u t T'.heap (locs ++ L) e1.symm (by rw [← e2]; exact X'.warmed.alike) hp hb k1 k2 k3 T' rfl X'
    exact ⟨t2, st t2 a1, b1⟩
  · obtain ⟨k1, k2, k3⟩ := vx_keep h0 e1 hS hAX hf hL hF
    obtain ⟨t2, a1, b1⟩ := kx E ce q u t T'.heap (locs ++ L) e1.symm (by rw [← e2]; exact X'.warmed.alike) hp hb k1 k2 k3 (by rw [e1]; exact hce) hcv hcl T' rfl X'
    exact ⟨t2, st.trans a1, b1⟩
theorem vx_calll {S SX : Type} {post : Int64 → S → Prop} {px : SX → Prop} {B : S → State → Prop} {BX : String → SX → State → Prop} {AX : Nat → Prop} (hr : vx_Run p l e R s m args below meth c H locs cells slots mc ms (F0 m pc ls st0) rest (va_Ql post B A1 a) (vx_X px BX AX) free) (hS : va_S A0 H0 H locs) (hA : ∀ q, q < H.size → A1 q → A0 q) (hf : ∀ q, free q → A0 q) (hAX : ∀ q, q < H.size → AX q → A0 q)
    (kx : ∀ (E : String) (ce : Cell) (q9 : Addr) (u : SX) (t : State) (H1 : Heap) (locs1 : List Loc), t.heap = H1 → s.vm.Alike t.vm → px u → BX E u t → H.size ≤ H1.size → (∀ q : Nat, q < H.size → ¬ AX q → H1[q]? = H[q]?) → va_S A0 H0 H1 locs1 → H1[q9]? = some ce → ce.vm = .none → s.vm.findClass E = some ce.cls → vx_W p l e R s m args below meth c H1 locs1 (cells + mc) (slots + ms) Q (F0 m pc ls rest) q9)
    (kk : ∀ (r : Int64) (u : S) (t : State) (H1 : Heap) (locs1 : List Loc), t.heap = H1 → s.vm.Alike t.vm → post r u → B u t → H.size ≤ H1.size → (∀ q : Nat, q < H.size → ¬ A1 q → H1[q]? = H[q]?) → va_S A0 H0 H1 locs1 → W p l e R s m args below meth c H1 locs1 (cells + mc) (slots + ms) Q (F0 m (pc + 3) ls (.long r :: rest))) : W p l e R s m args below meth c H locs cells slots Q (F0 m pc ls st0) := by
  intro T hT X
  rcases hr T hT X with ⟨v, st₀, t, T', L, h0, X', hL, e1, e2, ⟨⟨r, u, hv, hp, hb⟩, hF⟩, st⟩ | ⟨q, st₀, t, T', L, E, ce, h0, X', hL, e1, e2, ⟨u, hp, hb, hF⟩, hce, hcv, hcl, st⟩
  · cases hv
    obtain ⟨k1, k2, k3⟩ := vx_keep h0 e1 hS hA hf hL hF
    obtain ⟨t2, a1, b1⟩ := kk r u t T'.heap (locs ++ L) e1.symm (by rw [← e2]; exact X'.warmed.alike) hp hb k1 k2 k3 T' rfl X'
    exact ⟨t2, st t2 a1, b1⟩
  · obtain ⟨k1, k2, k3⟩ := vx_keep h0 e1 hS hAX hf hL hF
    obtain ⟨t2, a1, b1⟩ := kx E ce q u t T'.heap (locs ++ L) e1.symm (by rw [← e2]; exact X'.warmed.alike) hp hb k1 k2 k3 (by rw [e1]; exact hce) hcv hcl T' rfl X'
    exact ⟨t2, st.trans a1, b1⟩
theorem vx_callf {S SX : Type} {post : UInt32 → S → Prop} {px : SX → Prop} {B : S → State → Prop} {BX : String → SX → State → Prop} {AX : Nat → Prop} (hr : vx_Run p l e R s m args below meth c H locs cells slots mc ms (F0 m pc ls st0) rest (va_Qf post B A1 a) (vx_X px BX AX) free) (hS : va_S A0 H0 H locs) (hA : ∀ q, q < H.size → A1 q → A0 q) (hf : ∀ q, free q → A0 q) (hAX : ∀ q, q < H.size → AX q → A0 q)
    (kx : ∀ (E : String) (ce : Cell) (q9 : Addr) (u : SX) (t : State) (H1 : Heap) (locs1 : List Loc), t.heap = H1 → s.vm.Alike t.vm → px u → BX E u t → H.size ≤ H1.size → (∀ q : Nat, q < H.size → ¬ AX q → H1[q]? = H[q]?) → va_S A0 H0 H1 locs1 → H1[q9]? = some ce → ce.vm = .none → s.vm.findClass E = some ce.cls → vx_W p l e R s m args below meth c H1 locs1 (cells + mc) (slots + ms) Q (F0 m pc ls rest) q9)
    (kk : ∀ (r : UInt32) (u : S) (t : State) (H1 : Heap) (locs1 : List Loc), t.heap = H1 → s.vm.Alike t.vm → post r u → B u t → H.size ≤ H1.size → (∀ q : Nat, q < H.size → ¬ A1 q → H1[q]? = H[q]?) → va_S A0 H0 H1 locs1 → W p l e R s m args below meth c H1 locs1 (cells + mc) (slots + ms) Q (F0 m (pc + 3) ls (.float r :: rest))) : W p l e R s m args below meth c H locs cells slots Q (F0 m pc ls st0) := by
  intro T hT X
  rcases hr T hT X with ⟨v, st₀, t, T', L, h0, X', hL, e1, e2, ⟨⟨r, u, hv, hp, hb⟩, hF⟩, st⟩ | ⟨q, st₀, t, T', L, E, ce, h0, X', hL, e1, e2, ⟨u, hp, hb, hF⟩, hce, hcv, hcl, st⟩
  · cases hv
    obtain ⟨k1, k2, k3⟩ := vx_keep h0 e1 hS hA hf hL hF
    obtain ⟨t2, a1, b1⟩ := kk r u t T'.heap (locs ++ L) e1.symm (by rw [← e2]; exact X'.warmed.alike) hp hb k1 k2 k3 T' rfl X'
    exact ⟨t2, st t2 a1, b1⟩
  · obtain ⟨k1, k2, k3⟩ := vx_keep h0 e1 hS hAX hf hL hF
    obtain ⟨t2, a1, b1⟩ := kx E ce q u t T'.heap (locs ++ L) e1.symm (by rw [← e2]; exact X'.warmed.alike) hp hb k1 k2 k3 (by rw [e1]; exact hce) hcv hcl T' rfl X'
    exact ⟨t2, st.trans a1, b1⟩
theorem vx_calld {S SX : Type} {post : UInt64 → S → Prop} {px : SX → Prop} {B : S → State → Prop} {BX : String → SX → State → Prop} {AX : Nat → Prop} (hr : vx_Run p l e R s m args below meth c H locs cells slots mc ms (F0 m pc ls st0) rest (va_Qd post B A1 a) (vx_X px BX AX) free) (hS : va_S A0 H0 H locs) (hA : ∀ q, q < H.size → A1 q → A0 q) (hf : ∀ q, free q → A0 q) (hAX : ∀ q, q < H.size → AX q → A0 q)
    (kx : ∀ (E : String) (ce : Cell) (q9 : Addr) (u : SX) (t : State) (H1 : Heap) (locs1 : List Loc), t.heap = H1 → s.vm.Alike t.vm → px u → BX E u t → H.size ≤ H1.size → (∀ q : Nat, q < H.size → ¬ AX q → H1[q]? = H[q]?) → va_S A0 H0 H1 locs1 → H1[q9]? = some ce → ce.vm = .none → s.vm.findClass E = some ce.cls → vx_W p l e R s m args below meth c H1 locs1 (cells + mc) (slots + ms) Q (F0 m pc ls rest) q9)
    (kk : ∀ (r : UInt64) (u : S) (t : State) (H1 : Heap) (locs1 : List Loc), t.heap = H1 → s.vm.Alike t.vm → post r u → B u t → H.size ≤ H1.size → (∀ q : Nat, q < H.size → ¬ A1 q → H1[q]? = H[q]?) → va_S A0 H0 H1 locs1 → W p l e R s m args below meth c H1 locs1 (cells + mc) (slots + ms) Q (F0 m (pc + 3) ls (.double r :: rest))) : W p l e R s m args below meth c H locs cells slots Q (F0 m pc ls st0) := by
  intro T hT X
  rcases hr T hT X with ⟨v, st₀, t, T', L, h0, X', hL, e1, e2, ⟨⟨r, u, hv, hp, hb⟩, hF⟩, st⟩ | ⟨q, st₀, t, T', L, E, ce, h0, X', hL, e1, e2, ⟨u, hp, hb, hF⟩, hce, hcv, hcl, st⟩
  · cases hv
    obtain ⟨k1, k2, k3⟩ := vx_keep h0 e1 hS hA hf hL hF
    obtain ⟨t2, a1, b1⟩ := kk r u t T'.heap (locs ++ L) e1.symm (by rw [← e2]; exact X'.warmed.alike) hp hb k1 k2 k3 T' rfl X'
    exact ⟨t2, st t2 a1, b1⟩
  · obtain ⟨k1, k2, k3⟩ := vx_keep h0 e1 hS hAX hf hL hF
    obtain ⟨t2, a1, b1⟩ := kx E ce q u t T'.heap (locs ++ L) e1.symm (by rw [← e2]; exact X'.warmed.alike) hp hb k1 k2 k3 (by rw [e1]; exact hce) hcv hcl T' rfl X'
    exact ⟨t2, st.trans a1, b1⟩
theorem vx_callv {S SX : Type} {post : S → Prop} {px : SX → Prop} {B : S → State → Prop} {BX : String → SX → State → Prop} {AX : Nat → Prop} (hr : vx_Run p l e R s m args below meth c H locs cells slots mc ms (F0 m pc ls st0) rest (va_Qv post B A1 a) (vx_X px BX AX) free) (hS : va_S A0 H0 H locs) (hA : ∀ q, q < H.size → A1 q → A0 q) (hf : ∀ q, free q → A0 q) (hAX : ∀ q, q < H.size → AX q → A0 q)
    (kx : ∀ (E : String) (ce : Cell) (q9 : Addr) (u : SX) (t : State) (H1 : Heap) (locs1 : List Loc), t.heap = H1 → s.vm.Alike t.vm → px u → BX E u t → H.size ≤ H1.size → (∀ q : Nat, q < H.size → ¬ AX q → H1[q]? = H[q]?) → va_S A0 H0 H1 locs1 → H1[q9]? = some ce → ce.vm = .none → s.vm.findClass E = some ce.cls → vx_W p l e R s m args below meth c H1 locs1 (cells + mc) (slots + ms) Q (F0 m pc ls rest) q9)
    (kk : ∀ (u : S) (t : State) (H1 : Heap) (locs1 : List Loc), t.heap = H1 → s.vm.Alike t.vm → post u → B u t → H.size ≤ H1.size → (∀ q : Nat, q < H.size → ¬ A1 q → H1[q]? = H[q]?) → va_S A0 H0 H1 locs1 → W p l e R s m args below meth c H1 locs1 (cells + mc) (slots + ms) Q (F0 m (pc + 3) ls (rest))) : W p l e R s m args below meth c H locs cells slots Q (F0 m pc ls st0) := by
  intro T hT X
  rcases hr T hT X with ⟨v, st₀, t, T', L, h0, X', hL, e1, e2, ⟨⟨u, hv, hp, hb⟩, hF⟩, st⟩ | ⟨q, st₀, t, T', L, E, ce, h0, X', hL, e1, e2, ⟨u, hp, hb, hF⟩, hce, hcv, hcl, st⟩
  · cases hv
    obtain ⟨k1, k2, k3⟩ := vx_keep h0 e1 hS hA hf hL hF
    obtain ⟨t2, a1, b1⟩ := kk u t T'.heap (locs ++ L) e1.symm (by rw [← e2]; exact X'.warmed.alike) hp hb k1 k2 k3 T' rfl X'
    exact ⟨t2, st t2 a1, b1⟩
  · obtain ⟨k1, k2, k3⟩ := vx_keep h0 e1 hS hAX hf hL hF
    obtain ⟨t2, a1, b1⟩ := kx E ce q u t T'.heap (locs ++ L) e1.symm (by rw [← e2]; exact X'.warmed.alike) hp hb k1 k2 k3 (by rw [e1]; exact hce) hcv hcl T' rfl X'
    exact ⟨t2, st.trans a1, b1⟩
/-- caught by the row x of this method's table; the rows ahead don't take it -/
theorem vx_catch {own name : String} {E : String} {ce : Cell} {q : Addr} (hown : s.vm.findClass own = some m.cls) (pre : List ExceptionTableEntry) (x : ExceptionTableEntry) (suf : List ExceptionTableEntry) (hsplit : c.exceptionTable.toList = pre ++ x :: suf)
    (hpass : ∀ z ∈ pre, covers z pc = false ∨ (z.catchType ≠ 0 ∧ ∃ nm : String, (Cond.classLink own z.catchType nm).before args s = true ∧ va_Nc E nm s)) (hx : covers x pc = true) (h0 : x.catchType ≠ 0)
    (hlink : (Cond.classLink own x.catchType name).before args s = true) (hcast : (Cond.castable E name).before args s = true) (hcell : H[q]? = some ce) (hv : ce.vm = .none) (hcl : s.vm.findClass E = some ce.cls)
    (kk : W p l e R s m args below meth c H locs cells slots Q (F0 m x.handlerPc ls [.ref q])) : vx_W p l e R s m args below meth c H locs cells slots Q (F0 m pc ls rest) q := by
  intro T hT X
  have hpl : e.platform.magicAccessors = ({} : Platform).magicAccessors := by rw [X.admits.platform]
  obtain ⟨c3, c4, hc3, hc4, hasg⟩ := Cond.castable_spec hcast
  cases Option.some.inj (hc3.symm.trans hcl)
  obtain ⟨c5, hc5, hcl5⟩ := Cond.classLink_spec hown hlink e.platform hpl
  cases Option.some.inj (hc4.symm.trans hc5)
  obtain ⟨vm', X', st⟩ := X.thenCaughtThrough q (g := F0 m pc ls rest) rfl (Steps.refl _) (by rw [hT]; exact hcell) (by rw [hv]; rfl) (by obtain ⟨k9, h9, -⟩ := Vm.findClass_spec hcl; exact ⟨k9, h9⟩) pre x suf hsplit
    (fun z hz => by
      rcases hpass z hz with h | ⟨hz0, nm, hl1, hn1⟩
      · exact Or.inl h
      · obtain ⟨c6, hc6, hcl6⟩ := Cond.classLink_spec hown hl1 e.platform hpl
        obtain ⟨a8, b8, h1, h2, h3⟩ := hn1
        cases Option.some.inj (h1.symm.trans hcl)
        cases Option.some.inj (h2.symm.trans hc6)
        exact Or.inr ⟨hz0, _, hcl6, h3⟩) hx (Or.inr ⟨h0, c4, hcl5, hasg⟩)
  obtain ⟨t, a1, b1⟩ := kk (T.setVm vm') hT X'
  exact ⟨t, st.trans a1, b1⟩
end Rows
section Ends
variable {p : Program} {l : Launch} {e : Env} {R : Room} {s : State} {m : MethodId} {args : Array Value} {below : List Frame} {meth : Method} {c : Code} {H : Heap} {locs : List Loc} {cells slots : Nat} {Q : State → Prop}
variable {mc ms : Nat} {free : Addr → Prop} {A0 A1 : Nat → Prop} {H0 : Heap} {a : Array Value} {ls : Array Slot} {st0 rest : List Value}
variable {Qc : Array Value → State → Outcome → State → Prop} {XC : String → State → State → Prop}
/-- what a body that may throw owes at its end -/
def vx_MQ (below : List Frame) (Qc : Array Value → State → Outcome → State → Prop) (XC : String → State → State → Prop) (a : Array Value) (s : State) (mc ms : Nat) (free : Addr → Prop) : State → Prop := fun t =>
  ∃ o, t.status = .running ∧ Ended t below o ∧ vx_Q Qc XC mc ms free a s o t
theorem vx_ret {g : JFrame} {mc ms : Nat} (k : W p l e R s m args below meth c H locs cells slots (MQ below Qc args s mc ms free) g) : W p l e R s m args below meth c H locs cells slots (vx_MQ below Qc XC args s mc ms free) g := by
  intro T hT X
  obtain ⟨t, a1, o, b1, b2, b3, b4⟩ := k T hT X
  exact ⟨t, a1, o, b1, b2, Or.inl ⟨b3, b4⟩⟩
/-- not caught here: it goes on to the caller -/
theorem vx_widen {g : JFrame} {q : Addr} {k n : Nat} (h1 : cells ≤ k) (h2 : slots ≤ n) (kk : vx_W p l e R s m args below meth c H locs k n Q g q) : vx_W p l e R s m args below meth c H locs cells slots Q g q := fun T hT X => kk T hT (stand_widen X h1 h2)
theorem vx_out {pc : Nat} {E : String} {ce : Cell} {q : Addr} {mc ms : Nat} (hout : ∀ x ∈ c.exceptionTable.toList, covers x pc = false) (hlocks : meth.locks = false) (hcell : H[q]? = some ce) (hv : ce.vm = .none) (hcl : s.vm.findClass E = some ce.cls)
    (hx : ∀ t : State, t.heap = H → s.vm.Alike t.vm → XC E s t) (hf : ∀ z ∈ locs, free z.base) (hc : cells ≤ mc) (hs : slots ≤ ms) :
    vx_W p l e R s m args below meth c H locs cells slots (vx_MQ below Qc XC args s mc ms free) (F0 m pc ls rest) q := by
  intro T hT X
  obtain ⟨st1, hrun, hend, hW, hsm⟩ := X.leaveThrown q (g := F0 m pc ls rest) rfl rfl rfl hout hlocks
  have hcell9 : (T.setFrames (.throwing q :: below)).heap[q]? = some ce := by
    show T.heap[q]? = some ce
    rw [hT]; exact hcell
  exact ⟨_, st1, .threw q, hrun, hend, Or.inr ⟨q, rfl, E, ce, locs, hx _ hT hW.alike, hcell9, hv, hcl, hW, hsm.mono hc hs, hf⟩⟩
theorem vx_frame {U : State} {k n : Nat} (h : s.sameButNew ({ U with vm := s.vm } : State) locs k n) : s.heap.size ≤ U.heap.size ∧ ∀ q : Nat, q < s.heap.size → (∀ z ∈ locs, z.base ≠ q) → U.heap[q]? = s.heap[q]? := by
  obtain ⟨-, h2, -, -, -, h6⟩ := h
  refine ⟨h2, fun q hq hz => ?_⟩
  obtain ⟨c9, e1, e2, e3, e4⟩ := h6 q _ (Array.getElem?_eq_getElem hq)
  have hs : c9.slots = (s.heap[q]).slots := Array.ext_getElem? fun i => e4 i fun hm => hz _ hm rfl
  have h9 : c9 = s.heap[q] := by
    rw [hs] at e2
    exact e2
  have e5 : U.heap[q]? = some c9 := e1
  rw [e5, h9, Array.getElem?_eq_getElem hq]
/-- the words of a throw but the four that speak of the heap -/
def vx_no (w : Cond) : Bool := decide (w ≠ .isRef (.static Bundle.tN "UNASSIGNED_STACK" Bundle.steD)) && decide (w ≠ .isRef (.static Bundle.tN "SUPPRESSED_SENTINEL" Bundle.listD)) && decide (w ≠ .laysStatic Bundle.tN "UNASSIGNED_STACK" Bundle.steD) && decide (w ≠ .laysStatic Bundle.tN "SUPPRESSED_SENTINEL" Bundle.listD)
def vx_at0 (own : String) (ic : Nat) (X : String) (names : List String) : List Cond := (Bundle.ownAtoms0 own ic X names).filter vx_no
def vx_atS (own : String) (ic : Nat) (X : String) (names : List String) : List Cond := (Bundle.ownAtoms own ic X names).filter vx_no
/-- a word that the tables alone decide, or a good one -/
def vx_ot (w : Cond) : Bool := w.onTables || goodWord w
theorem vx_ot_at {args a' : Array Value} {s U : State} {w : Cond} (hW : s.WarmedH U.vm) (hvm : s.vm = U.vm) (hg : vx_ot w = true) (h : w.before args s = true) : w.before a' U = true := by
  simp only [vx_ot, Bool.or_eq_true] at hg
  rcases hg with hg | hg
  · exact va_tabs hg hvm h
  · exact word_at hW (good_of_word hg) h
/-- a list's words: the good ones out of the method's own list, the others by premises of their own -/
theorem vx_hat {args : Array Value} {s : State} {L B : List Cond} (h1 : ∀ w ∈ L.filter goodWord, w.before args s = true) (h2 : ∀ w ∈ L.filter (fun w => !goodWord w), w ∈ B) (h3 : ∀ w ∈ B, w.before args s = true) : ∀ w ∈ L, w.before args s = true := by
  intro w hw
  by_cases g : goodWord w = true
  · exact h1 w (List.mem_filter.mpr ⟨hw, g⟩)
  · refine h3 w (h2 w (List.mem_filter.mpr ⟨hw, ?_⟩))
    show (!goodWord w) = true
    cases hgw : goodWord w
    · rfl
    · exact absurd hgw g
theorem vx_c {args : Array Value} {s : State} {w : Cond} {B : List Cond} (h : w.before args s = true) (t : ∀ w ∈ B, w.before args s = true) : ∀ w' ∈ w :: B, w'.before args s = true := fun w' h' => (List.mem_cons.mp h').elim (fun e => by rw [e]; exact h) (t w')
theorem vx_n {args : Array Value} {s : State} : ∀ w ∈ ([] : List Cond), w.before args s = true := fun _ h => nomatch h
theorem vx_own {args : Array Value} {s : State} {L : List Cond} (h1 : ∀ w ∈ L.filter vx_no, w.before args s = true)
    (hU : (Cond.isRef (.static Bundle.tN "UNASSIGNED_STACK" Bundle.steD)).before args s = true) (hN : (Cond.isRef (.static Bundle.tN "SUPPRESSED_SENTINEL" Bundle.listD)).before args s = true)
    (lU : (Cond.laysStatic Bundle.tN "UNASSIGNED_STACK" Bundle.steD).before args s = true) (lN : (Cond.laysStatic Bundle.tN "SUPPRESSED_SENTINEL" Bundle.listD).before args s = true) : ∀ w ∈ L, w.before args s = true := by
  intro w hw
  by_cases e1 : w = .isRef (.static Bundle.tN "UNASSIGNED_STACK" Bundle.steD)
  · rw [e1]; exact hU
  · by_cases e2 : w = .isRef (.static Bundle.tN "SUPPRESSED_SENTINEL" Bundle.listD)
    · rw [e2]; exact hN
    · by_cases e3 : w = .laysStatic Bundle.tN "UNASSIGNED_STACK" Bundle.steD
      · rw [e3]; exact lU
      · by_cases e4 : w = .laysStatic Bundle.tN "SUPPRESSED_SENTINEL" Bundle.listD
        · rw [e4]; exact lN
        · exact h1 w (List.mem_filter.mpr ⟨hw, by unfold vx_no; rw [decide_eq_true e1, decide_eq_true e2, decide_eq_true e3, decide_eq_true e4]; rfl⟩)
/-- where a static field lies, its class's statics cell in H -/
def vx_L (C n d : String) (A : Nat → Prop) (U : State) (H : Heap) : Prop := ∃ (c : ClassId) (k : Class) (i : Nat) (f : Field) (a : Nat) (cell : Cell), U.vm.findClass C = some c ∧ U.fieldFound? C n d = some (c, k, i, f) ∧ f.isStatic = true ∧ k.statics = some a ∧ H[a]? = some cell ∧ cell.vm.isStatics = true ∧ cell.cls = c ∧ f.slot < cell.slots.size ∧ k.staticTypes[f.slot]? = some f.type ∧ ¬ A a
theorem vx_L.moved {C n d : String} {A : Nat → Prop} {u U : State} {H : Heap} (hvm : u.vm.Alike U.vm) (h : vx_L C n d A u H) : vx_L C n d A U H := by
  obtain ⟨c, k, i, f, a, cell, h1, h2, h3, h4, h5, h6, h7, h8, h9, h10⟩ := h
  obtain ⟨k', hi', he⟩ := State.fieldFound?_setVm hvm h2
  exact ⟨c, k', i, f, a, cell, by rw [hvm.findClass]; exact h1, hi', h3, by rw [he]; exact h4, h5, h6, h7, h8, by rw [he]; exact h9, h10⟩
theorem vx_L.kept {C n d : String} {A : Nat → Prop} {U : State} {H H1 : Heap} (h : vx_L C n d A U H) (hq : ∀ a : Nat, a < H.size → ¬ A a → H1[a]? = H[a]?) : vx_L C n d A U H1 := by
  obtain ⟨c, k, i, f, a, cell, h1, h2, h3, h4, h5, h6, h7, h8, h9, h10⟩ := h
  exact ⟨c, k, i, f, a, cell, h1, h2, h3, h4, by rw [hq a (Array.getElem?_eq_some_iff.mp h5).1 h10]; exact h5, h6, h7, h8, h9, h10⟩
theorem vx_L.narrow {C n d : String} {A B : Nat → Prop} {U : State} {H : Heap} (h : vx_L C n d A U H) (hAB : ∀ q, B q → A q) : vx_L C n d B U H := by
  obtain ⟨c, k, i, f, a, cell, h1, h2, h3, h4, h5, h6, h7, h8, h9, h10⟩ := h
  exact ⟨c, k, i, f, a, cell, h1, h2, h3, h4, h5, h6, h7, h8, h9, fun z => h10 (hAB _ z)⟩
theorem vx_L.word {C n d : String} {A : Nat → Prop} {s : State} {args : Array Value} (h : vx_L C n d A s s.heap) : (Cond.laysStatic C n d).before args s = true := by
  obtain ⟨c, k, i, f, a, cell, h1, h2, h3, h4, h5, h6, h7, h8, h9, -⟩ := h
  show (Cond.laysStatic C n d).holds args s none s [] = true
  exact Cond.laysStatic_of h1 h2 h3 h4 h5 h6 h7 h8 h9
/-- .. and what it holds: null or some reference -/
def vx_Zq (C n d : String) (A : Nat → Prop) (U : State) (H : Heap) : Prop := va_Zq C n d A U H ∧ vx_L C n d A U H
theorem vx_Zq.moved {C n d : String} {A : Nat → Prop} {u U : State} {H : Heap} (hvm : u.vm.Alike U.vm) (h : vx_Zq C n d A u H) : vx_Zq C n d A U H := ⟨va_Zq.moved hvm h.1, vx_L.moved hvm h.2⟩
theorem vx_Zq.kept {C n d : String} {A : Nat → Prop} {U : State} {H H1 : Heap} (h : vx_Zq C n d A U H) (hq : ∀ a : Nat, a < H.size → ¬ A a → H1[a]? = H[a]?) : vx_Zq C n d A U H1 := ⟨va_Zq.kept h.1 hq, vx_L.kept h.2 hq⟩
theorem vx_Zq.narrow {C n d : String} {A B : Nat → Prop} {U : State} {H : Heap} (h : vx_Zq C n d A U H) (hAB : ∀ q, B q → A q) : vx_Zq C n d B U H := ⟨va_Zq.narrow h.1 hAB, vx_L.narrow h.2 hAB⟩
theorem vx_Zqof {args : Array Value} {s : State} {C n d : String} {A : Nat → Prop} (hl : (Cond.laysStatic C n d).before args s = true) (hini : (Cond.initialized C).before args s = true) (h : (Cond.isRef (.static C n d)).before args s = true) (hA : ∀ a : Nat, a < s.heap.size → ¬ A a) : vx_Zq C n d A s s.heap := by
  refine ⟨va_Zqof hl hini h hA, ?_⟩
  obtain ⟨c, k, i, f, a, cell, h1, h2, h3, h4, h5, h6, h7, h8, h9⟩ := Cond.laysStatic_spec hl
  exact ⟨c, k, i, f, a, cell, h1, h2, h3, h4, h5, h6, h7, h8, h9, hA a (Array.getElem?_eq_some_iff.mp h5).1⟩
theorem vx_isRef {C n d : String} {v : Value} {A : Nat → Prop} {s : State} {args : Array Value} (h : va_Z C n d v A s s.heap) (hv : v.isRef = true) : (Cond.isRef (.static C n d)).before args s = true := by
  obtain ⟨cf, kf, fi, f, a, cell, h1, h2, h3, h4, h5, h6, h7, -⟩ := h
  have he : (Term.static C n d).eval args s none [] s = some v := by
    simp [Term.eval, State.fieldNamed?, h1, h2, h4, h5, h6, h7]
  simp only [Cond.before, Cond.holds, Cond.value, he]
  cases v <;> simp_all [Value.isRef]
theorem vx_isRefq {C n d : String} {A : Nat → Prop} {s : State} {args : Array Value} (h : va_Zq C n d A s s.heap) : (Cond.isRef (.static C n d)).before args s = true := by
  rcases h with h | ⟨t, h⟩
  · exact vx_isRef h rfl
  · exact vx_isRef h rfl
/-- the same frame, seen from here: as if the method were called anew in this heap -/
theorem vx_rebase {T : State} (X : Stand p l e R s m args below meth c T locs cells slots) {R' : Room} (hf : R'.frames ≤ R.frames) (hl : R'.locals ≤ R.locals) (hc : cells + R'.cells ≤ R.cells) (hs : slots + R'.slots ≤ R.slots) :
    Stand p l e R' ((T.setVm s.vm).setFrames (.invoking m args :: below)) m args below meth c T [] 0 0 := by
  have htop : (T.setVm s.vm).topJava?.isSome := X.here.top
  have hF : ((T.setVm s.vm).setFrames (.invoking m args :: below)).frames = .invoking m args :: below := State.frames_setFrames _ (State.cur_lt_of_top htop)
  obtain ⟨g₀, hg0⟩ := Option.isSome_iff_exists.mp htop
  obtain ⟨r, hr⟩ := State.topJava?_eq_some.mp hg0
  have hl9 : e.platform.stackLimits (T.setVm s.vm).me = e.platform.stackLimits s.me := X.limits
  have hb9 : (T.setVm s.vm).me.stackBytes = s.me.stackBytes := X.bytes
  refine ⟨X.admits, X.cas, X.clock, hF, ?_, X.hears, X.method, X.code, X.here, X.tail, X.warmed, ?_, ?_, ?_⟩
  · have h := X.room
    have hU : ((T.setVm s.vm).setFrames (.invoking m args :: below)).localsInUse = s.localsInUse := by
      rw [State.localsInUse_invoking hF (meth := meth) (c := c) X.method X.code, State.localsInUse_invoking X.frames X.method X.code]
    simp only [State.hasRoom, Bool.and_eq_true, decide_eq_true_eq] at h ⊢
    obtain ⟨⟨⟨⟨h1, h2, h3, h4, h5, h6⟩, h7⟩, h8⟩, h9⟩ := h
    rw [X.frames, List.length_cons] at h2 h3
    have q1 := X.heapSize
    have q2 := X.used
    simp only [hF, hU, List.length_cons, State.stackLimits_setFrames, State.stackBytes_setFrames, hl9, hb9]
    refine ⟨⟨⟨⟨by omega, by omega, by omega, by omega, by omega, h6⟩, ?_⟩, ?_⟩, X.book⟩
    · show T.heap.size + R'.cells ≤ e.platform.maxCells
      omega
    · show T.slotsUsed + R'.slots ≤ e.platform.maxSlots
      omega
  · rw [State.stackLimits_setFrames]; rfl
  · rw [State.stackBytes_setFrames]; rfl
  · refine ⟨?_, Nat.le_refl _, Nat.le_refl _, ?_, ?_, fun a c9 h9 => ⟨c9, h9, rfl, rfl, fun _ _ => rfl⟩⟩
    · obtain ⟨t, ht, -⟩ := State.frames_cons hr
      show T.setVm s.vm = { ((T.setVm s.vm).setFrames (.invoking m args :: below)).setFrames (T.setVm s.vm).frames with heap := T.heap, slotsUsed := T.slotsUsed }
      rw [State.setFrames_setFrames, State.setFrames_self ht]
      rfl
    · show T.slotsUsed = T.slotsUsed + ((T.heap.toList.drop T.heap.size).map (·.slots.size)).sum
      rw [List.drop_eq_nil_of_le (Nat.le_of_eq Array.length_toList)]
      rfl
    · show ((T.heap.toList.drop T.heap.size).map (·.slots.size)).sum ≤ 0
      rw [List.drop_eq_nil_of_le (Nat.le_of_eq Array.length_toList)]
      exact Nat.le_refl _
/-- 'throw new E()': new; dup; invokespecial; athrow -/
theorem vx_throw0 {cc : ByteArray} {pc : Nat} (hexec : p.tables.exec = Jvm.exec) (hb : c.code = cc) (hl : l.stackTraces = false) {own cls : String} {names : List String} {ik ic mc ms : Nat} {A : Nat → Prop}
    (hown : s.vm.findClass own = some m.cls) (hcls : Bundle.fit cls = true) (hnames : ∀ n ∈ names, Bundle.fit n = true)
    (hk : (Cond.classLink own ik cls).before args s = true) (hini : (Cond.initialized cls).before args s = true) (hat : ∀ w ∈ vx_at0 own ic cls names, w.before args s = true)
    (hgood : ∀ w ∈ Cond.classLink own ik cls :: Cond.initialized cls :: vx_at0 own ic cls names, vx_ot w = true)
    (hU : vx_Zq Bundle.tN "UNASSIGNED_STACK" Bundle.steD A s s.heap) (hN : vx_Zq Bundle.tN "SUPPRESSED_SENTINEL" Bundle.listD A s s.heap) (hS : va_S A s.heap H locs) (hsize : ls.size = c.maxLocals)
    (d0 : decode cc pc = .ok (.new ik, 3)) (d3 : decode cc (pc + 3) = .ok (.dup, 1)) (d4 : decode cc (pc + 4) = .ok (.invokespecial ic, 3)) (d7 : decode cc (pc + 7) = .ok (.athrow, 1))
    (hout : ∀ x ∈ c.exceptionTable.toList, covers x (pc + 7) = false)
    (hRframes : names.length + 3 < R.frames) (hRlocals : (rest.map fun v => v.category).sum + (13 * (names.length + 1) + 42) ≤ R.locals) (hRcells : cells + 1 ≤ R.cells) (hRslots : slots + 6 ≤ R.slots) (hlocks : meth.locks = false)
    (hx : ∀ t : State, s.vm.Alike t.vm → H.size ≤ t.heap.size → (∀ q : Nat, q < H.size → t.heap[q]? = H[q]?) → XC cls s t)
    (hf : ∀ z ∈ locs, free z.base) (hc : cells + 1 ≤ mc) (hs : slots + 6 ≤ ms) :
    W p l e R s m args below meth c H locs cells slots (vx_MQ below Qc XC args s mc ms free) (F0 m pc ls rest) := by
  intro T hT X
  have htr : e.platform.stackTraces = false := (show e.platform.stackTraces = l.stackTraces by rw [X.admits.platform]).trans hl
  have Y := vx_rebase X (R' := { frames := R.frames, locals := R.locals, cells := 1, slots := 6 }) (Nat.le_refl _) (Nat.le_refl _) hRcells hRslots
  obtain ⟨s', hA⟩ : ∃ z, z = (T.setVm s.vm).setFrames (.invoking m args :: below) := ⟨_, rfl⟩
  rw [← hA] at Y
  have hvm : s'.vm = s.vm := by rw [hA]; rfl
  have hhp : s'.heap = H := by rw [hA]; exact hT
  have hW0 : s.WarmedH s'.vm := by rw [hvm]; exact State.WarmedH.refl s
  have hat' : ∀ w ∈ vx_at0 own ic cls names, w.before args s' = true := fun w hw => vx_ot_at hW0 hvm.symm (hgood w (List.mem_cons_of_mem _ (List.mem_cons_of_mem _ hw))) (hat w hw)
  have hk' : (Cond.classLink own ik cls).before args s' = true := vx_ot_at hW0 hvm.symm (hgood _ List.mem_cons_self) hk
  have hini' : (Cond.initialized cls).before args s' = true := vx_ot_at hW0 hvm.symm (hgood _ (List.mem_cons_of_mem _ List.mem_cons_self)) hini
  have hU' : vx_Zq Bundle.tN "UNASSIGNED_STACK" Bundle.steD A s' s'.heap := by rw [hhp]; exact vx_Zq.moved hW0.alike (hU.kept hS.2.1)
  have hN' : vx_Zq Bundle.tN "SUPPRESSED_SENTINEL" Bundle.listD A s' s'.heap := by rw [hhp]; exact vx_Zq.moved hW0.alike (hN.kept hS.2.1)
  have h : ∀ w ∈ Bundle.ownAtoms0 own ic cls names, w.before args s' = true := vx_own hat' (vx_isRefq hU'.1) (vx_isRefq hN'.1) hU'.2.word hN'.2.word
  have hown' : s'.vm.findClass own = some m.cls := by rw [hvm]; exact hown
  have hins : (Cond.instantiable cls 6).before args s' = true := h _ (by simp [Bundle.ownAtoms0])
  obtain ⟨vm₁, cX, kX, hfX, hkX, -, -, X₁, st1⟩ := Y.newCold hexec (own := own) (C := cls) (index := ik) (n := 6) hown' hk' hins hini'
    (g := F0 m pc ls rest) rfl (by rw [hb]; exact d0) (Nat.le_refl _) (Nat.le_refl _)
  generalize hT1 : (T.setVm vm₁).pushCell { cls := cX, slots := kX.instanceTypes.map defaultValue, vm := .none } = T1 at X₁ st1
  have hcat : (Value.ref T.heap.size).category = 1 := rfl
  have hcellA : T1.heap[T.heap.size]? = some (freshCell cX kX) := by rw [← hT1]; exact State.heap_pushCell_size _ _
  have d3' : decode c.code (pc + 3) = .ok (.dup, 1) := by rw [hb]; exact d3
  obtain ⟨U, hsteps, hrun, hend, hW, hsame, ce, hce, hO⟩ := X₁.ctorThrow0 hexec htr (own := own) (cls := cls) (names := names) (ic := ic) hown' hcls hnames h (fun x hx => nomatch hx) hfX hkX hcellA (by rw [hhp, hT]; exact Nat.le_refl _)
    (g := { method := m, pc := pc + 4, locals := ls, stack := .ref T.heap.size :: .ref T.heap.size :: rest, locked := none }) rfl hsize rfl rfl (rest := rest) rfl
    (by rw [hb]; exact d4) (by rw [hb]; exact d7) hout hRframes (by simp only [List.map_cons, List.sum_cons, hcat]; omega) hlocks
  obtain ⟨f1, f2⟩ := vx_frame hsame
  rw [hhp] at f1 f2
  have hWs : s.WarmedH U.vm := State.WarmedH.trans hW0 hW
  have hcl : s.vm.findClass cls = some ce.cls := by
    have h9 := hO.cls
    rw [hvm] at h9
    exact h9
  have hall : s.sameButNew ({ U with vm := s.vm } : State) locs mc ms := by
    subst hA
    obtain ⟨e1, e2⟩ := hsame
    rw [State.setFrames_setFrames] at e1
    have h2 : (T.setVm s.vm).sameButNew ({ U with vm := s.vm } : State) [] (0 + 1) (0 + 6) := ⟨e1, e2⟩
    have h3 := X.same.trans h2
    rw [List.append_nil] at h3
    exact h3.mono hc hs
  refine ⟨U, ?_, .threw T.heap.size, hrun, hend, Or.inr ⟨T.heap.size, rfl, cls, ce, locs, hx U hWs.alike f1 (fun q hq => f2 q hq (fun z hz => nomatch hz)), hce, hO.vm, hcl, hWs, hall, hf⟩⟩
  refine st1 _ ?_
  show Steps p.tables e below (T1.setTop { method := m, pc := pc + 3, locals := ls, stack := .ref T.heap.size :: rest, locked := none }) _
  jvm_step X₁.here [X₁.here.top, hexec, d3', Value.category]
  exact hsteps
/-- 'throw new E("text")': new; dup; ldc; invokespecial; athrow -/
theorem vx_throwS {cc : ByteArray} {pc : Nat} (hexec : p.tables.exec = Jvm.exec) (hb : c.code = cc) (hl : l.stackTraces = false) {own cls text : String} {names : List String} {ik is ic mc ms sa : Nat} {A : Nat → Prop}
    (hown : s.vm.findClass own = some m.cls) (hcls : Bundle.fit cls = true) (hnames : ∀ n ∈ names, Bundle.fit n = true)
    (hk : (Cond.classLink own ik cls).before args s = true) (hini : (Cond.initialized cls).before args s = true) (hstr : vk_R own is text sa s) (hat : ∀ w ∈ vx_atS own ic cls names, w.before args s = true)
    (hgood : ∀ w ∈ Cond.classLink own ik cls :: Cond.initialized cls :: vx_atS own ic cls names, vx_ot w = true)
    (hU : vx_Zq Bundle.tN "UNASSIGNED_STACK" Bundle.steD A s s.heap) (hN : vx_Zq Bundle.tN "SUPPRESSED_SENTINEL" Bundle.listD A s s.heap) (hS : va_S A s.heap H locs) (hsize : ls.size = c.maxLocals)
    (d0 : decode cc pc = .ok (.new ik, 3)) (d3 : decode cc (pc + 3) = .ok (.dup, 1)) (d4 : decode cc (pc + 4) = .ok (.ldc is, 2)) (d6 : decode cc (pc + 6) = .ok (.invokespecial ic, 3)) (d9 : decode cc (pc + 9) = .ok (.athrow, 1))
    (hout : ∀ x ∈ c.exceptionTable.toList, covers x (pc + 9) = false)
    (hRframes : names.length + 3 < R.frames) (hRlocals : (rest.map fun v => v.category).sum + (13 * (names.length + 1) + 43) ≤ R.locals) (hRcells : cells + 1 ≤ R.cells) (hRslots : slots + 6 ≤ R.slots) (hlocks : meth.locks = false)
    (hx : ∀ t : State, s.vm.Alike t.vm → H.size ≤ t.heap.size → (∀ q : Nat, q < H.size → t.heap[q]? = H[q]?) → XC cls s t)
    (hf : ∀ z ∈ locs, free z.base) (hc : cells + 1 ≤ mc) (hs : slots + 6 ≤ ms) :
    W p l e R s m args below meth c H locs cells slots (vx_MQ below Qc XC args s mc ms free) (F0 m pc ls rest) := by
  intro T hT X
  have htr : e.platform.stackTraces = false := (show e.platform.stackTraces = l.stackTraces by rw [X.admits.platform]).trans hl
  have Y := vx_rebase X (R' := { frames := R.frames, locals := R.locals, cells := 1, slots := 6 }) (Nat.le_refl _) (Nat.le_refl _) hRcells hRslots
  obtain ⟨s', hA⟩ : ∃ z, z = (T.setVm s.vm).setFrames (.invoking m args :: below) := ⟨_, rfl⟩
  rw [← hA] at Y
  have hvm : s'.vm = s.vm := by rw [hA]; rfl
  have hhp : s'.heap = H := by rw [hA]; exact hT
  have hW0 : s.WarmedH s'.vm := by rw [hvm]; exact State.WarmedH.refl s
  have hat' : ∀ w ∈ vx_atS own ic cls names, w.before args s' = true := fun w hw => vx_ot_at hW0 hvm.symm (hgood w (List.mem_cons_of_mem _ (List.mem_cons_of_mem _ hw))) (hat w hw)
  have hk' : (Cond.classLink own ik cls).before args s' = true := vx_ot_at hW0 hvm.symm (hgood _ List.mem_cons_self) hk
  have hini' : (Cond.initialized cls).before args s' = true := vx_ot_at hW0 hvm.symm (hgood _ (List.mem_cons_of_mem _ List.mem_cons_self)) hini
  have hU' : vx_Zq Bundle.tN "UNASSIGNED_STACK" Bundle.steD A s' s'.heap := by rw [hhp]; exact vx_Zq.moved hW0.alike (hU.kept hS.2.1)
  have hN' : vx_Zq Bundle.tN "SUPPRESSED_SENTINEL" Bundle.listD A s' s'.heap := by rw [hhp]; exact vx_Zq.moved hW0.alike (hN.kept hS.2.1)
  have h : ∀ w ∈ Bundle.ownAtoms own ic cls names, w.before args s' = true := vx_own hat' (vx_isRefq hU'.1) (vx_isRefq hN'.1) hU'.2.word hN'.2.word
  have hown' : s'.vm.findClass own = some m.cls := by rw [hvm]; exact hown
  have hins : (Cond.instantiable cls 6).before args s' = true := h _ (by simp [Bundle.ownAtoms])
  obtain ⟨vm₁, cX, kX, hfX, hkX, -, -, X₁, st1⟩ := Y.newCold hexec (own := own) (C := cls) (index := ik) (n := 6) hown' hk' hins hini'
    (g := F0 m pc ls rest) rfl (by rw [hb]; exact d0) (Nat.le_refl _) (Nat.le_refl _)
  generalize hT1 : (T.setVm vm₁).pushCell { cls := cX, slots := kX.instanceTypes.map defaultValue, vm := .none } = T1 at X₁ st1
  have hcat : (Value.ref T.heap.size).category = 1 := rfl
  have hcellA : T1.heap[T.heap.size]? = some (freshCell cX kX) := by rw [← hT1]; exact State.heap_pushCell_size _ _
  have d3' : decode c.code (pc + 3) = .ok (.dup, 1) := by rw [hb]; exact d3
  have d4' : decode c.code (pc + 4) = .ok (.ldc is, 2) := by rw [hb]; exact d4
  have hstr' : vk_R own is text sa s' := vk_R.warm hW0 hstr
  obtain ⟨U, hsteps, hrun, hend, hW, hsame, ce, hce, hO⟩ := X₁.ctorThrowS hexec htr (own := own) (cls := cls) (names := names) (ic := ic) hown' hcls hnames h (fun x hx => nomatch hx) hfX hkX hcellA (by rw [hhp, hT]; exact Nat.le_refl _) (msg := .ref sa) rfl
    (g := { method := m, pc := pc + 6, locals := ls, stack := .ref sa :: .ref T.heap.size :: .ref T.heap.size :: rest, locked := none }) rfl hsize rfl rfl (rest := rest) rfl
    (by rw [hb]; exact d6) (by rw [hb]; exact d9) hout hRframes (by simp only [List.map_cons, List.sum_cons, hcat]; omega) hlocks
  obtain ⟨f1, f2⟩ := vx_frame hsame
  rw [hhp] at f1 f2
  have hWs : s.WarmedH U.vm := State.WarmedH.trans hW0 hW
  have hcl : s.vm.findClass cls = some ce.cls := by
    have h9 := hO.cls
    rw [hvm] at h9
    exact h9
  have hall : s.sameButNew ({ U with vm := s.vm } : State) locs mc ms := by
    subst hA
    obtain ⟨e1, e2⟩ := hsame
    rw [State.setFrames_setFrames] at e1
    have h2 : (T.setVm s.vm).sameButNew ({ U with vm := s.vm } : State) [] (0 + 1) (0 + 6) := ⟨e1, e2⟩
    have h3 := X.same.trans h2
    rw [List.append_nil] at h3
    exact h3.mono hc hs
  refine ⟨U, ?_, .threw T.heap.size, hrun, hend, Or.inr ⟨T.heap.size, rfl, cls, ce, locs, hx U hWs.alike f1 (fun q hq => f2 q hq (fun z hz => nomatch hz)), hce, hO.vm, hcl, hWs, hall, hf⟩⟩
  refine st1 _ ?_
  show Steps p.tables e below (T1.setTop { method := m, pc := pc + 3, locals := ls, stack := .ref T.heap.size :: rest, locked := none }) _
  jvm_step X₁.here [X₁.here.top, hexec, d3', Value.category]
  exact X₁.ldcString hexec (own := own) (text := text) (index := is) (a := sa) hown' hstr'.1 hstr'.2
    (g := { method := m, pc := pc + 4, locals := ls, stack := .ref T.heap.size :: .ref T.heap.size :: rest, locked := none }) rfl d4' _ hsteps
/-- 'throw new E("text")', the text by a wide index -/
theorem vx_throwSW {cc : ByteArray} {pc : Nat} (hexec : p.tables.exec = Jvm.exec) (hb : c.code = cc) (hl : l.stackTraces = false) {own cls text : String} {names : List String} {ik is ic mc ms sa : Nat} {A : Nat → Prop}
    (hown : s.vm.findClass own = some m.cls) (hcls : Bundle.fit cls = true) (hnames : ∀ n ∈ names, Bundle.fit n = true)
    (hk : (Cond.classLink own ik cls).before args s = true) (hini : (Cond.initialized cls).before args s = true) (hstr : vk_R own is text sa s) (hat : ∀ w ∈ vx_atS own ic cls names, w.before args s = true)
    (hgood : ∀ w ∈ Cond.classLink own ik cls :: Cond.initialized cls :: vx_atS own ic cls names, vx_ot w = true)
    (hU : vx_Zq Bundle.tN "UNASSIGNED_STACK" Bundle.steD A s s.heap) (hN : vx_Zq Bundle.tN "SUPPRESSED_SENTINEL" Bundle.listD A s s.heap) (hS : va_S A s.heap H locs) (hsize : ls.size = c.maxLocals)
    (d0 : decode cc pc = .ok (.new ik, 3)) (d3 : decode cc (pc + 3) = .ok (.dup, 1)) (d4 : decode cc (pc + 4) = .ok (.ldc_w is, 3)) (d7 : decode cc (pc + 7) = .ok (.invokespecial ic, 3)) (d10 : decode cc (pc + 10) = .ok (.athrow, 1))
    (hout : ∀ x ∈ c.exceptionTable.toList, covers x (pc + 10) = false)
    (hRframes : names.length + 3 < R.frames) (hRlocals : (rest.map fun v => v.category).sum + (13 * (names.length + 1) + 43) ≤ R.locals) (hRcells : cells + 1 ≤ R.cells) (hRslots : slots + 6 ≤ R.slots) (hlocks : meth.locks = false)
    (hx : ∀ t : State, s.vm.Alike t.vm → H.size ≤ t.heap.size → (∀ q : Nat, q < H.size → t.heap[q]? = H[q]?) → XC cls s t)
    (hf : ∀ z ∈ locs, free z.base) (hc : cells + 1 ≤ mc) (hs : slots + 6 ≤ ms) :
    W p l e R s m args below meth c H locs cells slots (vx_MQ below Qc XC args s mc ms free) (F0 m pc ls rest) := by
  intro T hT X
  have htr : e.platform.stackTraces = false := (show e.platform.stackTraces = l.stackTraces by rw [X.admits.platform]).trans hl
  have Y := vx_rebase X (R' := { frames := R.frames, locals := R.locals, cells := 1, slots := 6 }) (Nat.le_refl _) (Nat.le_refl _) hRcells hRslots
  obtain ⟨s', hA⟩ : ∃ z, z = (T.setVm s.vm).setFrames (.invoking m args :: below) := ⟨_, rfl⟩
  rw [← hA] at Y
  have hvm : s'.vm = s.vm := by rw [hA]; rfl
  have hhp : s'.heap = H := by rw [hA]; exact hT
  have hW0 : s.WarmedH s'.vm := by rw [hvm]; exact State.WarmedH.refl s
  have hat' : ∀ w ∈ vx_atS own ic cls names, w.before args s' = true := fun w hw => vx_ot_at hW0 hvm.symm (hgood w (List.mem_cons_of_mem _ (List.mem_cons_of_mem _ hw))) (hat w hw)
  have hk' : (Cond.classLink own ik cls).before args s' = true := vx_ot_at hW0 hvm.symm (hgood _ List.mem_cons_self) hk
  have hini' : (Cond.initialized cls).before args s' = true := vx_ot_at hW0 hvm.symm (hgood _ (List.mem_cons_of_mem _ List.mem_cons_self)) hini
  have hU' : vx_Zq Bundle.tN "UNASSIGNED_STACK" Bundle.steD A s' s'.heap := by rw [hhp]; exact vx_Zq.moved hW0.alike (hU.kept hS.2.1)
  have hN' : vx_Zq Bundle.tN "SUPPRESSED_SENTINEL" Bundle.listD A s' s'.heap := by rw [hhp]; exact vx_Zq.moved hW0.alike (hN.kept hS.2.1)
  have h : ∀ w ∈ Bundle.ownAtoms own ic cls names, w.before args s' = true := vx_own hat' (vx_isRefq hU'.1) (vx_isRefq hN'.1) hU'.2.word hN'.2.word
  have hown' : s'.vm.findClass own = some m.cls := by rw [hvm]; exact hown
  have hins : (Cond.instantiable cls 6).before args s' = true := h _ (by simp [Bundle.ownAtoms])
  obtain ⟨vm₁, cX, kX, hfX, hkX, -, -, X₁, st1⟩ := Y.newCold hexec (own := own) (C := cls) (index := ik) (n := 6) hown' hk' hins hini'
    (g := F0 m pc ls rest) rfl (by rw [hb]; exact d0) (Nat.le_refl _) (Nat.le_refl _)
  generalize hT1 : (T.setVm vm₁).pushCell { cls := cX, slots := kX.instanceTypes.map defaultValue, vm := .none } = T1 at X₁ st1
  have hcat : (Value.ref T.heap.size).category = 1 := rfl
  have hcellA : T1.heap[T.heap.size]? = some (freshCell cX kX) := by rw [← hT1]; exact State.heap_pushCell_size _ _
  have d3' : decode c.code (pc + 3) = .ok (.dup, 1) := by rw [hb]; exact d3
  have d4' : decode c.code (pc + 4) = .ok (.ldc_w is, 3) := by rw [hb]; exact d4
  have hstr' : vk_R own is text sa s' := vk_R.warm hW0 hstr
  obtain ⟨U, hsteps, hrun, hend, hW, hsame, ce, hce, hO⟩ := X₁.ctorThrowS hexec htr (own := own) (cls := cls) (names := names) (ic := ic) hown' hcls hnames h (fun x hx => nomatch hx) hfX hkX hcellA (by rw [hhp, hT]; exact Nat.le_refl _) (msg := .ref sa) rfl
    (g := { method := m, pc := pc + 7, locals := ls, stack := .ref sa :: .ref T.heap.size :: .ref T.heap.size :: rest, locked := none }) rfl hsize rfl rfl (rest := rest) rfl
    (by rw [hb]; exact d7) (by rw [hb]; exact d10) hout hRframes (by simp only [List.map_cons, List.sum_cons, hcat]; omega) hlocks
  obtain ⟨f1, f2⟩ := vx_frame hsame
  rw [hhp] at f1 f2
  have hWs : s.WarmedH U.vm := State.WarmedH.trans hW0 hW
  have hcl : s.vm.findClass cls = some ce.cls := by
    have h9 := hO.cls
    rw [hvm] at h9
    exact h9
  have hall : s.sameButNew ({ U with vm := s.vm } : State) locs mc ms := by
    subst hA
    obtain ⟨e1, e2⟩ := hsame
    rw [State.setFrames_setFrames] at e1
    have h2 : (T.setVm s.vm).sameButNew ({ U with vm := s.vm } : State) [] (0 + 1) (0 + 6) := ⟨e1, e2⟩
    have h3 := X.same.trans h2
    rw [List.append_nil] at h3
    exact h3.mono hc hs
  refine ⟨U, ?_, .threw T.heap.size, hrun, hend, Or.inr ⟨T.heap.size, rfl, cls, ce, locs, hx U hWs.alike f1 (fun q hq => f2 q hq (fun z hz => nomatch hz)), hce, hO.vm, hcl, hWs, hall, hf⟩⟩
  refine st1 _ ?_
  show Steps p.tables e below (T1.setTop { method := m, pc := pc + 3, locals := ls, stack := .ref T.heap.size :: rest, locked := none }) _
  jvm_step X₁.here [X₁.here.top, hexec, d3', Value.category]
  exact X₁.ldcStringW hexec (own := own) (text := text) (index := is) (a := sa) hown' hstr'.1 hstr'.2
    (g := { method := m, pc := pc + 4, locals := ls, stack := .ref T.heap.size :: .ref T.heap.size :: rest, locked := none }) rfl d4' _ hsteps
end Ends
section Bodies
variable {l : Launch}
theorem vx_ofW {y : MethodName} {ws ws' : List Cond} {rm : Room} {Pc : Array Value → State → Prop} {Qc : Array Value → State → Outcome → State → Prop} {XC : String → State → State → Prop} {mc ms : Nat} {free : Addr → Prop} {cc : ByteArray} {maxL : Nat} {ret : Option FieldType}
    (hy : plainName y.cls = true) (hw : ws = Cond.code y cc maxL ret :: ws')
    (body : ∀ p e s m args below meth c s₁, BodyLoose p l y (headSpec ws rm) cc maxL ret e s m args below meth c s₁ → c.maxLocals = maxL → (∀ x ∈ c.exceptionTable.toList, False) → Pc args s →
      W p l e (headSpec ws rm).room s m args below meth c s.heap [] 0 0 (vx_MQ below Qc XC args s mc ms free) (entryFrame m args maxL)) : vx_Met l y ws rm Pc Qc XC mc ms free := by
  refine MetFree.of_bodyS (code := cc) (maxLocals := maxL) (ret := ret) hy ?_ ?_
  · intro args s m h hn
    obtain ⟨meth, c, h1, h2, h3, h4, h5, h6, -, -⟩ := Cond.code_spec hn (atoms_spec (ws := ws) h _ (by rw [hw]; exact List.mem_cons_self))
    exact ⟨meth, c, h1, h2, h3, h4, h5, h6⟩
  · intro p e s m args below meth c s₁ B hml hP _
    have hh0 : s₁.heap = s.heap := by rw [B.state]; rfl
    have ht : ∀ x ∈ c.exceptionTable.toList, False := by
      obtain ⟨meth9, c9, h1, h2, -, -, -, -, h7, -⟩ := Cond.code_spec B.named (atoms_spec (ws := ws) B.pre _ (by rw [hw]; exact List.mem_cons_self))
      cases Option.some.inj (h1.symm.trans B.method)
      cases Option.some.inj (h2.symm.trans (Stand.of_body B).code)
      intro x hx
      rw [Array.isEmpty_iff.mp h7] at hx
      cases hx
    obtain ⟨t, a1, o, b1, b2, b3⟩ := body p e s m args below meth c s₁ B hml ht hP s₁ hh0 (Stand.of_body B)
    exact ⟨t, o, a1, b1, b2, b3⟩
/-- the table of a body with handlers -/
theorem vx_table {p : Program} {x y : MethodName} {S : Spec} {cc bytes : ByteArray} {maxL maxL' : Nat} {ret ret' : Option FieldType} {e : Env} {s s₁ : State} {m : MethodId} {args : Array Value} {below : List Frame} {meth : Method} {c : Code} {hh : List (Nat × Nat × Nat × Nat)}
    (B : BodyLoose p l y S cc maxL ret e s m args below meth c s₁) (h : (Cond.codeWith y bytes maxL' ret' hh).before args s = true) : c.exceptionTable.toList = tableOf hh := by
  obtain ⟨m9, meth9, c9, hn9, h1, h2, -, -, h6, -⟩ := Cond.codeWith_spec h
  cases Option.some.inj (hn9.symm.trans B.named)
  cases Option.some.inj (h1.symm.trans B.method)
  cases Option.some.inj (h2.symm.trans (Stand.of_body B).code)
  rw [← h6, table_eq]
end Bodies
end VXA
/-! ===== END ===== -/
/-! ===== BEGIN a static call of a method with an exception table ===== -/
section VXS
variable {p : Program} {l : Launch} {e : Env} {R : Room} {s : State} {m : MethodId} {args : Array Value} {below : List Frame} {meth : Method} {c : Code} {T : State} {H : Heap} {locs : List Loc} {cells slots : Nat}
abbrev vx_CSW (R : Room) (s : State) (args : Array Value) (own : String) (index : Nat) (y : MethodName) (bytes : ByteArray) (maxL : Nat) (ret : Option FieldType) (hh : List (Nat × Nat × Nat × Nat)) (ws : List Cond) (rm : Room) (mc ms n : Nat) : Prop :=
  (rm.cells = mc ∧ rm.slots = ms ∧ rm.frames + 1 ≤ R.frames ∧ 8 + (maxL + 11) + rm.locals ≤ R.locals ∧ (∀ w ∈ ws, ∀ (a' : Array Value) (U : State), s.WarmedH U.vm → w.before a' U = true) ∧ Cond.codeWith y bytes maxL ret hh ∈ ws) ∧
  (Cond.codeWith y bytes maxL ret hh).before args s = true ∧ (Cond.initialized y.cls).before args s = true ∧ (y.cls ≠ "java/lang/invoke/MethodHandle" ∧ y.cls ≠ "java/lang/invoke/VarHandle") ∧
  (∀ sig, parseMethodDescriptor y.desc = some sig → n = sig.parameters.length) ∧ (Cond.methodLink own index y).before args s = true ∧ (Cond.static y).before args s = true
theorem vx_cwSW {own : String} {index maxL mc ms : Nat} {y : MethodName} {bytes : ByteArray} {ret : Option FieldType} {hh : List (Nat × Nat × Nat × Nat)} {Ts ws ws' : List Cond} {rm : Room} (n : Nat) (ht : ∀ w ∈ Ts, w.before args s = true) (hT : GoodIn Ts (va_wsS own index y ws)) (hw : ws = Cond.codeWith y bytes maxL ret hh :: ws') (hrc : rm.cells = mc) (hrs : rm.slots = ms)
    (hd : y.cls ≠ "java/lang/invoke/MethodHandle" ∧ y.cls ≠ "java/lang/invoke/VarHandle" ∧ (parseMethodDescriptor y.desc).map (fun d => d.parameters.length) = some n) (hR : rm.frames + 1 ≤ R.frames ∧ 8 + (maxL + 11) + rm.locals ≤ R.locals) :
    vx_CSW R s args own index y bytes maxL ret hh ws rm mc ms n := by
  have ok : ∀ w ∈ va_wsS own index y ws, w.before args s = true := fun w h => ht w (hT w h).1
  have hG : GoodIn Ts ws := fun w h => hT w (by unfold va_wsS; exact List.mem_append_right _ h)
  have hc : Cond.codeWith y bytes maxL ret hh ∈ ws := by rw [hw]; exact List.mem_cons_self
  refine ⟨⟨hrc, hrs, hR.1, hR.2, pay_in ht hG, hc⟩, ht _ (hG _ hc).1, ok _ (by simp [va_wsS]), ⟨hd.1, hd.2.1⟩, fun sig h => ?_, ok _ (by simp [va_wsS]), ok _ (by simp [va_wsS])⟩
  have h2 := hd.2.2
  rw [h] at h2
  exact (Option.some.inj h2).symm
theorem vx_callSW (X : Stand p l e R s m args below meth c T locs cells slots) (hexec : p.tables.exec = Jvm.exec) {own : String} {index : Nat} {y : MethodName} {bytes : ByteArray} {maxL : Nat} {ret : Option FieldType} {hh : List (Nat × Nat × Nat × Nat)}
    (hown : s.vm.findClass own = some m.cls) (hlink : (Cond.methodLink own index y).before args s = true) (hstat : (Cond.static y).before args s = true) (hinit : (Cond.initialized y.cls).before args s = true)
    (hcode : (Cond.codeWith y bytes maxL ret hh).before args s = true) (hy : y.cls ≠ "java/lang/invoke/MethodHandle" ∧ y.cls ≠ "java/lang/invoke/VarHandle")
    {W9 : Nat} {Pre : Pt → Array Value → Prop} {Post : Pt → Array Value → Option Value → Pt → Prop} (hK : Back l R p e below s args y 3 W9 Pre Post)
    {g : JFrame} (hg : g.method = m) (hsize : g.locals.size = c.maxLocals) {argsL rest : List Value} (hlen : ∀ sig, parseMethodDescriptor y.desc = some sig → argsL.length = sig.parameters.length)
    (hstack : g.stack = argsL.reverse ++ rest) (hW : 2 * g.monitorRoom + (rest.map fun v => v.category).sum ≤ W9) (hdg : decode c.code g.pc = .ok (.invokestatic index, 3))
    (hpre : ∀ vm₁, s.WarmedH vm₁ → Pre ⟨T.setVm vm₁, locs, cells, slots⟩ argsL.toArray) :
    ∃ (v : Option Value) (vm₁ : Vm) (B : Pt), s.WarmedH vm₁ ∧ Stand p l e R s m args below meth c B.U B.locs B.cells B.slots ∧ Post ⟨T.setVm vm₁, locs, cells, slots⟩ argsL.toArray v B ∧
      ∀ target, Steps p.tables e below (B.U.setTop { g with pc := g.pc + 3, stack := v.toList ++ rest }) target → Steps p.tables e below (T.setTop g) target := by
  obtain ⟨mk, methM, cM, hnamed, hmethM, -, -, -, -, -, -, hsigM⟩ := Cond.codeWith_spec hcode
  have hstatic : methM.isStatic = true := Cond.static_spec hnamed hmethM hstat
  obtain ⟨kP, hkP, -⟩ := className_of_methodNamed hnamed
  have hinitP : kP.init = .initialized := Cond.initialized_spec (findClass_of_methodNamed hnamed) hkP hinit
  obtain ⟨vm₁, X₁, hstep₁⟩ := X.invokestatic hexec hown hlink hnamed hmethM hstatic hkP hinitP hy (g := g) hg (argsL := argsL) (rest := rest) (hlen _ hsigM) hstack hdg
  obtain ⟨v, B, X', hpost, hsteps⟩ := hK m meth c ⟨T.setVm vm₁, locs, cells, slots⟩ { g with stack := rest } (.invokestatic index) mk argsL.toArray X₁ hg hsize hdg hW (X₁.named hnamed) (hpre vm₁ X₁.warmed)
  exact ⟨v, vm₁, B, X₁.warmed, X', hpost, fun target h => hstep₁ _ fun acts => by rw [doInvoke_state]; exact hsteps.trans h⟩
theorem vx_runSW {y : MethodName} {bytes cc : ByteArray} {maxL nL mc ms n index : Nat} {ret : Option FieldType} {hh : List (Nat × Nat × Nat × Nat)} {ws : List Cond} {rm : Room} {Pc : Array Value → State → Prop} {Qc : Array Value → State → Outcome → State → Prop} {free : Addr → Prop} {Ts : List Cond} {own : String} {As rest : List Value} {g : JFrame}
    (S : CallFix p m c cc nL s args Ts own) (hM : Met l y ws rm Pc Qc mc ms free) (cw : vx_CSW R s args own index y bytes maxL ret hh ws rm mc ms n) (hp : PreS s H Pc As)
    (hg : g.method = m) (hn : As.length = n) (hsize : g.locals.size = nL) (hstack : g.stack = As.reverse ++ rest) (hW : 2 * g.monitorRoom + (rest.map fun v => v.category).sum ≤ 8) (hdg : decode cc g.pc = .ok (.invokestatic index, 3)) (hf : cells + mc ≤ R.cells ∧ slots + ms ≤ R.slots) :
    va_Run p l e R s m args below meth c H locs cells slots mc ms g rest (Qc As.toArray) (free) := by
  obtain ⟨⟨hrc, hrs, hfr, hlo, hws, hcw⟩, hcode, hini, hy, hlen, hl, hstt⟩ := cw
  have hK : Back l R p e below s args y 3 8 (PreOf R mc ms Pc) (PostOf Qc mc ms free) := va_backW (hh := hh) (bytes := bytes) (maxL := maxL) (ret := ret) hM hp.1 hrc hrs hfr hlo hws hcw (fun a' U hW => word_at hW (Or.inl (by first | rfl | simp [Cond.onTables, Cond.keeps, Cond.steady])) hini)
  obtain ⟨hx, hb, hml, ho, -⟩ := S
  intro T hT X
  obtain ⟨v, vm₁, ⟨U', l2, c2, s2⟩, hW₁, X', ⟨g', mk, t, L, e1, e2, hq, h1, hL, h2, h3⟩, st⟩ := vx_callSW X hx (hh := hh) (bytes := bytes) (maxL := maxL) (ret := ret) ho hl hstt hini hcode hy hK hg (hsize.trans hml.symm) (argsL := As) (rest := rest) (fun sig h => hn.trans (hlen sig h)) hstack hW (by rw [hb]; exact hdg)
    (fun vm₁ hW₁ => ⟨hf.1, hf.2, hp.2 (T.setVm vm₁) hT hW₁⟩)
  dsimp only [Pt.U, Pt.locs, Pt.cells, Pt.slots] at X' e1 e2 h1 h2 h3 st
  subst h1; subst h2; subst h3
  exact ⟨v, (T.setVm vm₁).calling g' mk As.toArray, t, U', L, hT, X', hL, e1, e2, hq, st⟩
/-- not caught here, past rows that name other classes: it goes on to the caller -/
theorem vx_outP {p : Program} {l : Launch} {e : Env} {R : Room} {s : State} {m : MethodId} {args : Array Value} {below : List Frame} {meth : Method} {c : Code} {H : Heap} {locs : List Loc} {cells slots : Nat} {free : Addr → Prop} {ls : Array Slot} {rest : List Value} {Qc : Array Value → State → Outcome → State → Prop} {XC : String → State → State → Prop}
    {pc : Nat} {own E : String} {ce : Cell} {q : Addr} {mc ms : Nat} (hown : s.vm.findClass own = some m.cls) (hlocks : meth.locks = false)
    (hpass : ∀ z ∈ c.exceptionTable.toList, covers z pc = false ∨ (z.catchType ≠ 0 ∧ ∃ nm : String, (Cond.classLink own z.catchType nm).before args s = true ∧ va_Nc E nm s)) (hcell : H[q]? = some ce) (hv : ce.vm = .none) (hcl : s.vm.findClass E = some ce.cls)
    (hx : ∀ t : State, t.heap = H → s.vm.Alike t.vm → XC E s t) (hf : ∀ z ∈ locs, free z.base) (hc : cells ≤ mc) (hs : slots ≤ ms) :
    vx_W p l e R s m args below meth c H locs cells slots (vx_MQ below Qc XC args s mc ms free) (F0 m pc ls rest) q := by
  intro T hT X
  have hpl : e.platform.magicAccessors = ({} : Platform).magicAccessors := by rw [X.admits.platform]
  obtain ⟨vm', hW', X', st⟩ := X.outThrough hlocks q (g := F0 m pc ls rest) rfl rfl rfl (cell := ce) (by rw [hT]; exact hcell) (by rw [hv]; rfl)
    (by obtain ⟨k9, h9, -⟩ := Vm.findClass_spec hcl; exact ⟨k9, h9⟩) (fun z hz => by
      rcases hpass z hz with h | ⟨hz0, nm, hl1, hn1⟩
      · exact Or.inl h
      · obtain ⟨c6, hc6, hcl6⟩ := Cond.classLink_spec hown hl1 e.platform hpl
        obtain ⟨a8, b8, h1, h2, h3⟩ := hn1
        cases Option.some.inj (h1.symm.trans hcl)
        cases Option.some.inj (h2.symm.trans hc6)
        exact Or.inr ⟨hz0, _, hcl6, h3⟩)
  obtain ⟨g₀, hfr⟩ := X'.frames_eq
  have hcell9 : ((T.setVm vm').setFrames (.throwing q :: below)).heap[q]? = some ce := by
    show T.heap[q]? = some ce
    rw [hT]; exact hcell
  have hend : Ended ((T.setVm vm').setFrames (.throwing q :: below)) below (.threw q) := State.frames_setFrames _ (State.cur_lt_of_frames hfr)
  refine ⟨(T.setVm vm').setFrames (.throwing q :: below), ?_, .threw q, X'.here.running, hend, Or.inr ⟨q, rfl, E, ce, locs, hx _ hT (X'.ends _).1.alike, hcell9, hv, hcl, (X'.ends _).1, (X'.ends _).2.mono hc hs, hf⟩⟩
  rw [X.pushThrowing_eq]
  exact st
/-- a thing of a world lies in the heap -/
theorem vx_lt {D : va_G} {cl : List vw_C} {ws : va_W} {H1 : Heap} (h : va_P D cl ws H1) {k : Nat} {q : Nat × va_E} (hk : ws[k]? = some q) : q.1 < H1.size := (h k q hk).lt
end VXS
/-! ===== END ===== -/
/-! ===== BEGIN methods with a table of their own: called by a name, returning or throwing ===== -/
section VXH
/-! vx_backW, vx_callVX, vx_callSX, vx_callVW, vx_runVW, vx_runVX, vx_runSX, vx_ofWH follow the same proofs as their sisters above (Free/Laws.lean, Shelf42/LK1.lean); vx_outP calls Shelf42/NT130.lean (outThrough). -/
section
variable {l : Launch} {R : Room} {p : Program} {e : Env} {below : List Frame} {s : State} {sargs : Array Value} {y : MethodName} {len W9 : Nat}
theorem vx_backW {ws : List Cond} {rm : Room} {Pc : Array Value → State → Prop} {Qc : Array Value → State → Outcome → State → Prop} {XC : String → State → State → Prop} {mc ms : Nat} {free : Addr → Prop} {bytes : ByteArray} {maxL : Nat} {ret : Option FieldType} {hh : List (Nat × Nat × Nat × Nat)}
    (hM : vx_Met l y ws rm Pc Qc XC mc ms free) (hblind : FrameBlind Pc) (hrc : rm.cells = mc) (hrs : rm.slots = ms)
    (hframes : rm.frames + 1 ≤ R.frames) (hlocals : W9 + (maxL + 11) + rm.locals ≤ R.locals)
    (hws : ∀ w ∈ ws, ∀ a' U, s.WarmedH U.vm → w.before a' U = true) (hcode : Cond.codeWith y bytes maxL ret hh ∈ ws) (hinit : ∀ a' U, s.WarmedH U.vm → (Cond.initialized y.cls).before a' U = true) :
    vx_Back l R p e below s sargs y len W9 (PreOf R mc ms Pc) (PostOf Qc mc ms free) (vx_Post XC mc ms free) := by
  intro m meth c A g ig mk a X hg hsize hdg hW hn hp
  have h1 : (headSpec ws rm).pre.before a A.U = true := atoms_intro fun w hw => hws w hw _ _ X.warmed
  have h2 : (Cond.codeWith y bytes maxL ret hh).before a A.U = true := hws _ hcode _ _ X.warmed
  have h3 : (Cond.initialized y.cls).before a A.U = true := hinit _ _ X.warmed
  have h4 : A.cells + (headSpec ws rm).room.cells ≤ R.cells := by rw [show (headSpec ws rm).room.cells = mc from hrc]; exact hp.1
  have h5 : A.slots + (headSpec ws rm).room.slots ≤ R.slots := by rw [show (headSpec ws rm).room.slots = ms from hrs]; exact hp.2.1
  have hPc : Pc a (A.U.calling g mk a) := hblind _ _ _ _ hp.2.2
  obtain ⟨U, Ls, c0, s0⟩ := A
  dsimp only [Pt.U, Pt.locs, Pt.cells, Pt.slots] at h1 h2 h3 h4 h5 X hn hPc ⊢
  obtain ⟨m9, methY, cY, hn9, hmY, hcY, -, hlY, -⟩ := Cond.codeWith_spec h2
  cases Option.some.inj (hn9.symm.trans hn)
  obtain ⟨kY, hkY, -⟩ := className_of_methodNamed hn
  have hinitY : kY.init = .initialized := Cond.initialized_spec (findClass_of_methodNamed hn) hkY h3
  have h : At U g.method c below := by rw [hg]; exact X.here
  have hlocals9 : W9 + (maxL + 11) + (headSpec ws rm).room.locals ≤ R.locals := hlocals
  have happ : (headSpec ws rm).appliesLoose y e.platform (U.calling g mk a) = true :=
    Spec.appliesLoose_calling (g := g) h hdg hn hkY hinitY
      (X.room_calling (g := g) (R' := (headSpec ws rm).room) hsize hmY hcY hframes (by rw [hlY]; omega) h4 h5) h1
  obtain ⟨mid, hmid⟩ := h.above
  have hfr : (U.setTop g).frames = (.java g :: mid) ++ below := by rw [State.frames_setTop' g h.top, hmid]; rfl
  obtain ⟨o, s₂, hsteps, -, hend, hq⟩ := Steps.callFree hM p X.admits X.cas X.clock (acts := []) hfr happ hPc trivial
  have hq' : vx_Q Qc XC mc ms free a (U.calling g mk a) o s₂ := hq
  rw [State.frames_setTop' g h.top] at hend
  obtain ⟨g₀, hg0⟩ := Option.isSome_iff_exists.mp h.top
  obtain ⟨r, hr⟩ := State.topJava?_eq_some.mp hg0
  have hr' : (({ U with heap := s₂.heap, slotsUsed := s₂.slotsUsed } : State).setVm s₂.vm).frames = .java g₀ :: r := hr
  rcases hq' with ⟨hqc, L, hfe, hL⟩ | ⟨q, rfl, E, ce, L, hx, hce, hcv, hcl, hW₂, hsm, hL⟩
  · obtain ⟨⟨v, rfl⟩, hW₂, e2, q2, q3, q4, q5, q6⟩ := id hfe
    have e3 : s₂ = ({ (U.calling g mk a).setFrames s₂.frames with heap := s₂.heap, slotsUsed := s₂.slotsUsed } : State).setVm s₂.vm := by
      have : s₂ = ({ s₂ with vm := (U.calling g mk a).vm } : State).setVm s₂.vm := rfl
      rw [e2] at this
      exact this
    obtain ⟨c₂, i₂, len₂, hc₂, hd₂, hf₂⟩ := hend
    have hW' : U.WarmedH s₂.vm := hW₂
    have hcc : c₂ = c := by
      have h1 : s₂.code? g.method = U.code? g.method := by
        rw [State.code?_eq, State.code?_eq, hW'.alike.method?]
      exact Option.some.inj (hc₂.symm.trans (h1.trans h.code))
    subst hcc
    have hlen : len₂ = len := by rw [hdg] at hd₂; cases hd₂; rfl
    subst hlen
    have hs₂ : s₂ = (({ U with heap := s₂.heap, slotsUsed := s₂.slotsUsed } : State).setVm s₂.vm).setTop { g with pc := g.pc + len₂, stack := v.toList ++ g.stack } := by
      refine e3.trans ?_
      rw [hf₂, State.calling_eq h.top, State.setFrames_setFrames, State.setTop_of_frames _ hr', hr]
      rfl
    have hsame : U.sameButNew ({ U with heap := s₂.heap, slotsUsed := s₂.slotsUsed } : State) L mc ms := by
      refine ⟨?_, q2, q3, q4, q5, q6⟩
      obtain ⟨t, ht, -⟩ := State.frames_cons hr
      show ({ U with heap := s₂.heap, slotsUsed := s₂.slotsUsed } : State) = { U.setFrames U.frames with heap := s₂.heap, slotsUsed := s₂.slotsUsed }
      rw [State.setFrames_self ht]
    subst hg
    refine Or.inl ⟨v, ⟨(({ U with heap := s₂.heap, slotsUsed := s₂.slotsUsed } : State).setVm s₂.vm), Ls ++ L, c0 + mc, s0 + ms⟩,
      ⟨X.admits, X.cas, X.clock, X.frames, X.room, X.hears, X.method, X.code, (X.here.setHeapUsed s₂.heap s₂.slotsUsed).setVm hW'.alike, X.tail, State.WarmedH.trans X.warmed hW', X.limits, X.bytes, X.same.trans (hsame.setVm s.vm)⟩,
      ⟨g, mk, s₂, L, rfl, rfl, hqc, rfl, hL, rfl, rfl⟩, ?_⟩
    show Steps p.tables e below _ ((({ U with heap := s₂.heap, slotsUsed := s₂.slotsUsed } : State).setVm s₂.vm).setTop { g with pc := g.pc + len₂, stack := v.toList ++ g.stack })
    rw [← hs₂]
    exact hsteps
  · obtain ⟨e2, q2, q3, q4, q5, q6⟩ := id hsm
    have e3 : s₂ = ({ (U.calling g mk a).setFrames s₂.frames with heap := s₂.heap, slotsUsed := s₂.slotsUsed } : State).setVm s₂.vm := by
      have : s₂ = ({ s₂ with vm := (U.calling g mk a).vm } : State).setVm s₂.vm := rfl
      rw [e2] at this
      exact this
    have hf₂ : s₂.frames = .throwing q :: .java g :: U.frames.tail := hend
    have hW' : U.WarmedH s₂.vm := hW₂
    have hs₂ : s₂ = ((({ U with heap := s₂.heap, slotsUsed := s₂.slotsUsed } : State).setVm s₂.vm).setTop g).pushFrame (.throwing q) := by
      refine e3.trans ?_
      rw [hf₂, State.calling_eq h.top, State.setFrames_setFrames, State.pushFrame, State.frames_setTop _ hr', State.setTop_of_frames _ hr', State.setFrames_setFrames, hr]
      rfl
    have hsame : U.sameButNew ({ U with heap := s₂.heap, slotsUsed := s₂.slotsUsed } : State) L mc ms := by
      refine ⟨?_, q2, q3, q4, q5, q6⟩
      obtain ⟨t, ht, -⟩ := State.frames_cons hr
      show ({ U with heap := s₂.heap, slotsUsed := s₂.slotsUsed } : State) = { U.setFrames U.frames with heap := s₂.heap, slotsUsed := s₂.slotsUsed }
      rw [State.setFrames_self ht]
    subst hg
    refine Or.inr ⟨q, ⟨(({ U with heap := s₂.heap, slotsUsed := s₂.slotsUsed } : State).setVm s₂.vm), Ls ++ L, c0 + mc, s0 + ms⟩,
      ⟨X.admits, X.cas, X.clock, X.frames, X.room, X.hears, X.method, X.code, (X.here.setHeapUsed s₂.heap s₂.slotsUsed).setVm hW'.alike, X.tail, State.WarmedH.trans X.warmed hW', X.limits, X.bytes, X.same.trans (hsame.setVm s.vm)⟩,
      ⟨g, mk, s₂, L, E, ce, rfl, rfl, hx, hce, hcv, hcl, rfl, hL, rfl, rfl⟩, ?_⟩
    show Steps p.tables e below _ (((({ U with heap := s₂.heap, slotsUsed := s₂.slotsUsed } : State).setVm s₂.vm).setTop g).pushFrame (.throwing q))
    rw [← hs₂]
    exact hsteps
end
variable {p : Program} {l : Launch} {e : Env} {R : Room} {s : State} {m : MethodId} {args : Array Value} {below : List Frame} {meth : Method} {c : Code} {T : State} {H : Heap} {locs : List Loc} {cells slots : Nat}
theorem vx_callVX (X : Stand p l e R s m args below meth c T locs cells slots) (hexec : p.tables.exec = Jvm.exec) {own C : String} {index : Nat} {y : MethodName} {bytes : ByteArray} {maxL : Nat} {ret : Option FieldType} {hh : List (Nat × Nat × Nat × Nat)}
    (hown : s.vm.findClass own = some m.cls) (hlink : (Cond.methodLink own index y).before args s = true) (hinst : (Cond.instanceMethod y).before args s = true) (hsel : (Cond.selects C y y).before args s = true)
    (hcode : (Cond.codeWith y bytes maxL ret hh).before args s = true) (hy : y.cls ≠ "java/lang/invoke/MethodHandle" ∧ y.cls ≠ "java/lang/invoke/VarHandle")
    {W9 : Nat} {Pre : Pt → Array Value → Prop} {Post : Pt → Array Value → Option Value → Pt → Prop} {PostX : Pt → Array Value → Addr → Pt → Prop} (hK : vx_Back l R p e below s args y 3 W9 Pre Post PostX)
    {b : Addr} {cellB : Cell} (hcell : T.heap[b]? = some cellB) (hobj : cellB.vm.isStatics = false) (hcls : s.vm.findClass C = some cellB.cls)
    {g : JFrame} (hg : g.method = m) (hsize : g.locals.size = c.maxLocals) {argsL rest : List Value} (hlen : ∀ sig, parseMethodDescriptor y.desc = some sig → argsL.length = sig.parameters.length)
    (hstack : g.stack = argsL.reverse ++ .ref b :: rest) (hW : 2 * g.monitorRoom + (rest.map fun v => v.category).sum ≤ W9) (hdg : decode c.code g.pc = .ok (.invokevirtual index, 3))
    (hpre : ∀ vm₁, s.WarmedH vm₁ → Pre ⟨T.setVm vm₁, locs, cells, slots⟩ (Value.ref b :: argsL).toArray) :
    (∃ (v : Option Value) (vm₁ : Vm) (B : Pt), s.WarmedH vm₁ ∧ Stand p l e R s m args below meth c B.U B.locs B.cells B.slots ∧ Post ⟨T.setVm vm₁, locs, cells, slots⟩ (Value.ref b :: argsL).toArray v B ∧
      ∀ target, Steps p.tables e below (B.U.setTop { g with pc := g.pc + 3, stack := v.toList ++ rest }) target → Steps p.tables e below (T.setTop g) target) ∨
    (∃ (q : Addr) (vm₁ : Vm) (B : Pt), s.WarmedH vm₁ ∧ Stand p l e R s m args below meth c B.U B.locs B.cells B.slots ∧ PostX ⟨T.setVm vm₁, locs, cells, slots⟩ (Value.ref b :: argsL).toArray q B ∧
      Steps p.tables e below (T.setTop g) ((B.U.setTop { g with stack := rest }).pushFrame (.throwing q))) := by
  obtain ⟨mk, methM, hnamed, hmethM, hstM, habM⟩ := Cond.instanceMethod_spec hinst
  obtain ⟨m8, methM', cM, hn8, hmethM', -, -, -, -, -, -, hsigM⟩ := Cond.codeWith_spec hcode
  cases Option.some.inj (hn8.symm.trans hnamed)
  cases hmethM.symm.trans hmethM'
  obtain ⟨c2, r2, m2, q1, q2, q3, q4, kP, hkP, hkPi⟩ := Cond.selects_spec hsel
  cases hcls.symm.trans q1
  cases (State.methodFound?_of_named hnamed hy).symm.trans q2
  cases hnamed.symm.trans q3
  have hselP : selectMethod e.platform s.vm cellB.cls mk = .method mk := by rw [Launch.admits_selectMethod X.admits]; exact q4
  obtain ⟨vm₁, X₁, hstep₁⟩ := X.invokevirtual hexec hown hlink hnamed hmethM hstM hkP hkPi hy (a := b) (cell := cellB) hcell
    (fun z h => by rw [h] at hobj; cases hobj) hselP hmethM habM hkP hkPi (g := g) hg (argsL := argsL) (rest := rest) (hlen _ hsigM) hstack hdg
  rcases hK m meth c ⟨T.setVm vm₁, locs, cells, slots⟩ { g with stack := rest } (.invokevirtual index) mk (Value.ref b :: argsL).toArray X₁ hg hsize hdg hW (X₁.named hnamed) (hpre vm₁ X₁.warmed) with ⟨v, B, X', hpost, hsteps⟩ | ⟨q, B, X', hpost, hsteps⟩
  · exact Or.inl ⟨v, vm₁, B, X₁.warmed, X', hpost, fun target h => hstep₁ _ fun acts => by rw [doInvoke_state]; exact hsteps.trans h⟩
  · exact Or.inr ⟨q, vm₁, B, X₁.warmed, X', hpost, hstep₁ _ fun acts => by rw [doInvoke_state]; exact hsteps⟩
theorem vx_callSX (X : Stand p l e R s m args below meth c T locs cells slots) (hexec : p.tables.exec = Jvm.exec) {own : String} {index : Nat} {y : MethodName} {bytes : ByteArray} {maxL : Nat} {ret : Option FieldType} {hh : List (Nat × Nat × Nat × Nat)}
    (hown : s.vm.findClass own = some m.cls) (hlink : (Cond.methodLink own index y).before args s = true) (hstat : (Cond.static y).before args s = true) (hinit : (Cond.initialized y.cls).before args s = true)
    (hcode : (Cond.codeWith y bytes maxL ret hh).before args s = true) (hy : y.cls ≠ "java/lang/invoke/MethodHandle" ∧ y.cls ≠ "java/lang/invoke/VarHandle")
    {W9 : Nat} {Pre : Pt → Array Value → Prop} {Post : Pt → Array Value → Option Value → Pt → Prop} {PostX : Pt → Array Value → Addr → Pt → Prop} (hK : vx_Back l R p e below s args y 3 W9 Pre Post PostX)
    {g : JFrame} (hg : g.method = m) (hsize : g.locals.size = c.maxLocals) {argsL rest : List Value} (hlen : ∀ sig, parseMethodDescriptor y.desc = some sig → argsL.length = sig.parameters.length)
    (hstack : g.stack = argsL.reverse ++ rest) (hW : 2 * g.monitorRoom + (rest.map fun v => v.category).sum ≤ W9) (hdg : decode c.code g.pc = .ok (.invokestatic index, 3))
    (hpre : ∀ vm₁, s.WarmedH vm₁ → Pre ⟨T.setVm vm₁, locs, cells, slots⟩ argsL.toArray) :
    (∃ (v : Option Value) (vm₁ : Vm) (B : Pt), s.WarmedH vm₁ ∧ Stand p l e R s m args below meth c B.U B.locs B.cells B.slots ∧ Post ⟨T.setVm vm₁, locs, cells, slots⟩ argsL.toArray v B ∧
      ∀ target, Steps p.tables e below (B.U.setTop { g with pc := g.pc + 3, stack := v.toList ++ rest }) target → Steps p.tables e below (T.setTop g) target) ∨
    (∃ (q : Addr) (vm₁ : Vm) (B : Pt), s.WarmedH vm₁ ∧ Stand p l e R s m args below meth c B.U B.locs B.cells B.slots ∧ PostX ⟨T.setVm vm₁, locs, cells, slots⟩ argsL.toArray q B ∧
      Steps p.tables e below (T.setTop g) ((B.U.setTop { g with stack := rest }).pushFrame (.throwing q))) := by
  obtain ⟨mk, methM, cM, hnamed, hmethM, -, -, -, -, -, -, hsigM⟩ := Cond.codeWith_spec hcode
  have hstatic : methM.isStatic = true := Cond.static_spec hnamed hmethM hstat
  obtain ⟨kP, hkP, -⟩ := className_of_methodNamed hnamed
  have hinitP : kP.init = .initialized := Cond.initialized_spec (findClass_of_methodNamed hnamed) hkP hinit
  obtain ⟨vm₁, X₁, hstep₁⟩ := X.invokestatic hexec hown hlink hnamed hmethM hstatic hkP hinitP hy (g := g) hg (argsL := argsL) (rest := rest) (hlen _ hsigM) hstack hdg
  rcases hK m meth c ⟨T.setVm vm₁, locs, cells, slots⟩ { g with stack := rest } (.invokestatic index) mk argsL.toArray X₁ hg hsize hdg hW (X₁.named hnamed) (hpre vm₁ X₁.warmed) with ⟨v, B, X', hpost, hsteps⟩ | ⟨q, B, X', hpost, hsteps⟩
  · exact Or.inl ⟨v, vm₁, B, X₁.warmed, X', hpost, fun target h => hstep₁ _ fun acts => by rw [doInvoke_state]; exact hsteps.trans h⟩
  · exact Or.inr ⟨q, vm₁, B, X₁.warmed, X', hpost, hstep₁ _ fun acts => by rw [doInvoke_state]; exact hsteps⟩
theorem vx_callVW (X : Stand p l e R s m args below meth c T locs cells slots) (hexec : p.tables.exec = Jvm.exec) {own C : String} {index : Nat} {y : MethodName} {bytes : ByteArray} {maxL : Nat} {ret : Option FieldType} {hh : List (Nat × Nat × Nat × Nat)}
    (hown : s.vm.findClass own = some m.cls) (hlink : (Cond.methodLink own index y).before args s = true) (hinst : (Cond.instanceMethod y).before args s = true) (hsel : (Cond.selects C y y).before args s = true)
    (hcode : (Cond.codeWith y bytes maxL ret hh).before args s = true) (hy : y.cls ≠ "java/lang/invoke/MethodHandle" ∧ y.cls ≠ "java/lang/invoke/VarHandle")
    {W9 : Nat} {Pre : Pt → Array Value → Prop} {Post : Pt → Array Value → Option Value → Pt → Prop} (hK : Back l R p e below s args y 3 W9 Pre Post)
    {b : Addr} {cellB : Cell} (hcell : T.heap[b]? = some cellB) (hobj : cellB.vm.isStatics = false) (hcls : s.vm.findClass C = some cellB.cls)
    {g : JFrame} (hg : g.method = m) (hsize : g.locals.size = c.maxLocals) {argsL rest : List Value} (hlen : ∀ sig, parseMethodDescriptor y.desc = some sig → argsL.length = sig.parameters.length)
    (hstack : g.stack = argsL.reverse ++ .ref b :: rest) (hW : 2 * g.monitorRoom + (rest.map fun v => v.category).sum ≤ W9) (hdg : decode c.code g.pc = .ok (.invokevirtual index, 3))
    (hpre : ∀ vm₁, s.WarmedH vm₁ → Pre ⟨T.setVm vm₁, locs, cells, slots⟩ (Value.ref b :: argsL).toArray) :
    ∃ (v : Option Value) (vm₁ : Vm) (B : Pt), s.WarmedH vm₁ ∧ Stand p l e R s m args below meth c B.U B.locs B.cells B.slots ∧ Post ⟨T.setVm vm₁, locs, cells, slots⟩ (Value.ref b :: argsL).toArray v B ∧
      ∀ target, Steps p.tables e below (B.U.setTop { g with pc := g.pc + 3, stack := v.toList ++ rest }) target → Steps p.tables e below (T.setTop g) target := by
  obtain ⟨mk, methM, hnamed, hmethM, hstM, habM⟩ := Cond.instanceMethod_spec hinst
  obtain ⟨m8, methM', cM, hn8, hmethM', -, -, -, -, -, -, hsigM⟩ := Cond.codeWith_spec hcode
  cases Option.some.inj (hn8.symm.trans hnamed)
  cases hmethM.symm.trans hmethM'
  obtain ⟨c2, r2, m2, q1, q2, q3, q4, kP, hkP, hkPi⟩ := Cond.selects_spec hsel
  cases hcls.symm.trans q1
  cases (State.methodFound?_of_named hnamed hy).symm.trans q2
  cases hnamed.symm.trans q3
  have hselP : selectMethod e.platform s.vm cellB.cls mk = .method mk := by rw [Launch.admits_selectMethod X.admits]; exact q4
  obtain ⟨vm₁, X₁, hstep₁⟩ := X.invokevirtual hexec hown hlink hnamed hmethM hstM hkP hkPi hy (a := b) (cell := cellB) hcell
    (fun z h => by rw [h] at hobj; cases hobj) hselP hmethM habM hkP hkPi (g := g) hg (argsL := argsL) (rest := rest) (hlen _ hsigM) hstack hdg
  obtain ⟨v, B, X', hpost, hsteps⟩ := hK m meth c ⟨T.setVm vm₁, locs, cells, slots⟩ { g with stack := rest } (.invokevirtual index) mk (Value.ref b :: argsL).toArray X₁ hg hsize hdg hW (X₁.named hnamed) (hpre vm₁ X₁.warmed)
  exact ⟨v, vm₁, B, X₁.warmed, X', hpost, fun target h => hstep₁ _ fun acts => by rw [doInvoke_state]; exact hsteps.trans h⟩
abbrev vx_CVW (R : Room) (s : State) (args : Array Value) (own C : String) (index : Nat) (y : MethodName) (bytes : ByteArray) (maxL : Nat) (ret : Option FieldType) (hh : List (Nat × Nat × Nat × Nat)) (ws : List Cond) (rm : Room) (mc ms n : Nat) : Prop :=
  (rm.cells = mc ∧ rm.slots = ms ∧ rm.frames + 1 ≤ R.frames ∧ 8 + (maxL + 11) + rm.locals ≤ R.locals ∧ (∀ w ∈ ws, ∀ (a' : Array Value) (U : State), s.WarmedH U.vm → w.before a' U = true) ∧ Cond.codeWith y bytes maxL ret hh ∈ ws) ∧
  (Cond.codeWith y bytes maxL ret hh).before args s = true ∧ (Cond.initialized y.cls).before args s = true ∧ (y.cls ≠ "java/lang/invoke/MethodHandle" ∧ y.cls ≠ "java/lang/invoke/VarHandle") ∧
  (∀ sig, parseMethodDescriptor y.desc = some sig → n = sig.parameters.length) ∧ (Cond.methodLink own index y).before args s = true ∧ (Cond.instanceMethod y).before args s = true ∧ (Cond.selects C y y).before args s = true
theorem vx_cwVW {own C : String} {index maxL mc ms : Nat} {y : MethodName} {bytes : ByteArray} {ret : Option FieldType} {hh : List (Nat × Nat × Nat × Nat)} {Ts ws ws' : List Cond} {rm : Room} (n : Nat) (ht : ∀ w ∈ Ts, w.before args s = true) (hT : GoodIn Ts (wsV own index C y ws)) (hw : ws = Cond.codeWith y bytes maxL ret hh :: ws') (hrc : rm.cells = mc) (hrs : rm.slots = ms)
    (hd : y.cls = C ∧ y.cls ≠ "java/lang/invoke/MethodHandle" ∧ y.cls ≠ "java/lang/invoke/VarHandle" ∧ (parseMethodDescriptor y.desc).map (fun d => d.parameters.length) = some n) (hR : rm.frames + 1 ≤ R.frames ∧ 8 + (maxL + 11) + rm.locals ≤ R.locals) :
    vx_CVW R s args own C index y bytes maxL ret hh ws rm mc ms n := by
  obtain ⟨hC, hd⟩ := hd
  subst hC
  have ok : ∀ w ∈ wsV own index y.cls y ws, w.before args s = true := fun w h => ht w (hT w h).1
  have hG : GoodIn Ts ws := fun w h => hT w (by unfold wsV; exact List.mem_append_right _ h)
  have hc : Cond.codeWith y bytes maxL ret hh ∈ ws := by rw [hw]; exact List.mem_cons_self
  refine ⟨⟨hrc, hrs, hR.1, hR.2, pay_in ht hG, hc⟩, ht _ (hG _ hc).1, ok _ (by simp [wsV]), ⟨hd.1, hd.2.1⟩, fun sig h => ?_, ok _ (by simp [wsV]), ok _ (by simp [wsV]), ok _ (by simp [wsV])⟩
  have h2 := hd.2.2
  rw [h] at h2
  exact (Option.some.inj h2).symm
theorem vx_runVW {y : MethodName} {bytes cc : ByteArray} {maxL nL mc ms n index : Nat} {ret : Option FieldType} {hh : List (Nat × Nat × Nat × Nat)} {ws : List Cond} {rm : Room} {Pc : Array Value → State → Prop} {Qc : Array Value → State → Outcome → State → Prop} {free : Addr → Prop} {Ts : List Cond} {own C : String} {b : Addr} {As rest : List Value} {g : JFrame}
    (S : CallFix p m c cc nL s args Ts own) (hM : Met l y ws rm Pc Qc mc ms free) (cw : vx_CVW R s args own C index y bytes maxL ret hh ws rm mc ms n) (hp : PreV s H C b Pc As)
    (hg : g.method = m) (hn : As.length = n) (hsize : g.locals.size = nL) (hstack : g.stack = As.reverse ++ .ref b :: rest) (hW : 2 * g.monitorRoom + (rest.map fun v => v.category).sum ≤ 8) (hdg : decode cc g.pc = .ok (.invokevirtual index, 3)) (hf : cells + mc ≤ R.cells ∧ slots + ms ≤ R.slots) :
    va_Run p l e R s m args below meth c H locs cells slots mc ms g rest (Qc (Value.ref b :: As).toArray) free := by
  obtain ⟨⟨hrc, hrs, hfr, hlo, hws, hcw⟩, hcode, hini, hy, hlen, hl, hin, hse⟩ := cw
  have hK : Back l R p e below s args y 3 8 (PreOf R mc ms Pc) (PostOf Qc mc ms free) := va_backW (hh := hh) (bytes := bytes) (maxL := maxL) (ret := ret) hM hp.1 hrc hrs hfr hlo hws hcw (fun a' U hW => word_at hW (Or.inl (by first | rfl | simp [Cond.onTables, Cond.keeps, Cond.steady])) hini)
  obtain ⟨hx, hb, hml, ho, -⟩ := S
  obtain ⟨-, ⟨cellB, hcB, hoB, hclB⟩, hPc⟩ := hp
  intro T hT X
  obtain ⟨v, vm₁, ⟨U', l2, c2, s2⟩, hW₁, X', ⟨g', mk, t, L, e1, e2, hq, h1, hL, h2, h3⟩, st⟩ := vx_callVW X hx (C := C) (hh := hh) (bytes := bytes) (maxL := maxL) (ret := ret) ho hl hin hse hcode hy hK (by rw [hT]; exact hcB) hoB hclB hg (hsize.trans hml.symm) (argsL := As) (rest := rest) (fun sig h => hn.trans (hlen sig h)) hstack hW (by rw [hb]; exact hdg)
    (fun vm₁ hW₁ => ⟨hf.1, hf.2, hPc (T.setVm vm₁) hT hW₁⟩)
  dsimp only [Pt.U, Pt.locs, Pt.cells, Pt.slots] at X' e1 e2 h1 h2 h3 st
  subst h1; subst h2; subst h3
  exact ⟨v, (T.setVm vm₁).calling g' mk (Value.ref b :: As).toArray, t, U', L, hT, X', hL, e1, e2, hq, st⟩
section
variable {y : MethodName} {bytes cc : ByteArray} {maxL nL mc ms n index : Nat} {ret : Option FieldType} {ws : List Cond} {rm : Room} {Pc : Array Value → State → Prop} {Qc : Array Value → State → Outcome → State → Prop} {XC : String → State → State → Prop} {free : Addr → Prop} {Ts : List Cond} {own C : String} {b : Addr} {As rest : List Value} {g : JFrame}
theorem vx_runVX {hh : List (Nat × Nat × Nat × Nat)} (S : CallFix p m c cc nL s args Ts own) (hM : vx_Met l y ws rm Pc Qc XC mc ms free) (cw : vx_CVW R s args own C index y bytes maxL ret hh ws rm mc ms n) (hp : PreV s H C b Pc As)
    (hg : g.method = m) (hn : As.length = n) (hsize : g.locals.size = nL) (hstack : g.stack = As.reverse ++ .ref b :: rest) (hW : 2 * g.monitorRoom + (rest.map fun v => v.category).sum ≤ 8) (hdg : decode cc g.pc = .ok (.invokevirtual index, 3)) (hf : cells + mc ≤ R.cells ∧ slots + ms ≤ R.slots) :
    vx_Run p l e R s m args below meth c H locs cells slots mc ms g rest (Qc (Value.ref b :: As).toArray) XC free := by
  obtain ⟨⟨hrc, hrs, hfr, hlo, hws, hcw⟩, hcode, hini, hy, hlen, hl, hin, hse⟩ := cw
  have hK : vx_Back l R p e below s args y 3 8 (PreOf R mc ms Pc) (PostOf Qc mc ms free) (vx_Post XC mc ms free) := vx_backW (hh := hh) (bytes := bytes) (maxL := maxL) (ret := ret) hM hp.1 hrc hrs hfr hlo hws hcw (fun a' U hW => word_at hW (Or.inl (by first | rfl | simp [Cond.onTables, Cond.keeps, Cond.steady])) hini)
  obtain ⟨hx, hb, hml, ho, -⟩ := S
  obtain ⟨-, ⟨cellB, hcB, hoB, hclB⟩, hPc⟩ := hp
  intro T hT X
  rcases vx_callVX X hx (C := C) (hh := hh) (bytes := bytes) (maxL := maxL) (ret := ret) ho hl hin hse hcode hy hK (by rw [hT]; exact hcB) hoB hclB hg (hsize.trans hml.symm) (argsL := As) (rest := rest) (fun sig h => hn.trans (hlen sig h)) hstack hW (by rw [hb]; exact hdg)
    (fun vm₁ hW₁ => ⟨hf.1, hf.2, hPc (T.setVm vm₁) hT hW₁⟩) with ⟨v, vm₁, ⟨U', l2, c2, s2⟩, hW₁, X', ⟨g', mk, t, L, e1, e2, hq, h1, hL, h2, h3⟩, st⟩ | ⟨q, vm₁, ⟨U', l2, c2, s2⟩, hW₁, X', ⟨g', mk, t, L, E, ce, e1, e2, hq, hce, hcv, hcl, h1, hL, h2, h3⟩, st⟩
  · dsimp only [Pt.U, Pt.locs, Pt.cells, Pt.slots] at X' e1 e2 h1 h2 h3 st
    subst h1; subst h2; subst h3
    exact Or.inl ⟨v, (T.setVm vm₁).calling g' mk (Value.ref b :: As).toArray, t, U', L, hT, X', hL, e1, e2, hq, st⟩
  · dsimp only [Pt.U, Pt.locs, Pt.cells, Pt.slots] at X' e1 e2 h1 h2 h3 st hcl
    subst h1; subst h2; subst h3
    exact Or.inr ⟨q, (T.setVm vm₁).calling g' mk (Value.ref b :: As).toArray, t, U', L, E, ce, hT, X', hL, e1, e2, hq, hce, hcv, vx_cls hW₁ hcl, st⟩
theorem vx_runSX {hh : List (Nat × Nat × Nat × Nat)} (S : CallFix p m c cc nL s args Ts own) (hM : vx_Met l y ws rm Pc Qc XC mc ms free) (cw : vx_CSW R s args own index y bytes maxL ret hh ws rm mc ms n) (hp : PreS s H Pc As)
    (hg : g.method = m) (hn : As.length = n) (hsize : g.locals.size = nL) (hstack : g.stack = As.reverse ++ rest) (hW : 2 * g.monitorRoom + (rest.map fun v => v.category).sum ≤ 8) (hdg : decode cc g.pc = .ok (.invokestatic index, 3)) (hf : cells + mc ≤ R.cells ∧ slots + ms ≤ R.slots) :
    vx_Run p l e R s m args below meth c H locs cells slots mc ms g rest (Qc As.toArray) XC free := by
  obtain ⟨⟨hrc, hrs, hfr, hlo, hws, hcw⟩, hcode, hini, hy, hlen, hl, hstt⟩ := cw
  have hK : vx_Back l R p e below s args y 3 8 (PreOf R mc ms Pc) (PostOf Qc mc ms free) (vx_Post XC mc ms free) := vx_backW (hh := hh) (bytes := bytes) (maxL := maxL) (ret := ret) hM hp.1 hrc hrs hfr hlo hws hcw (fun a' U hW => word_at hW (Or.inl (by first | rfl | simp [Cond.onTables, Cond.keeps, Cond.steady])) hini)
  obtain ⟨hx, hb, hml, ho, -⟩ := S
  intro T hT X
  rcases vx_callSX X hx (hh := hh) (bytes := bytes) (maxL := maxL) (ret := ret) ho hl hstt hini hcode hy hK hg (hsize.trans hml.symm) (argsL := As) (rest := rest) (fun sig h => hn.trans (hlen sig h)) hstack hW (by rw [hb]; exact hdg)
    (fun vm₁ hW₁ => ⟨hf.1, hf.2, hp.2 (T.setVm vm₁) hT hW₁⟩) with ⟨v, vm₁, ⟨U', l2, c2, s2⟩, hW₁, X', ⟨g', mk, t, L, e1, e2, hq, h1, hL, h2, h3⟩, st⟩ | ⟨q, vm₁, ⟨U', l2, c2, s2⟩, hW₁, X', ⟨g', mk, t, L, E, ce, e1, e2, hq, hce, hcv, hcl, h1, hL, h2, h3⟩, st⟩
  · dsimp only [Pt.U, Pt.locs, Pt.cells, Pt.slots] at X' e1 e2 h1 h2 h3 st
    subst h1; subst h2; subst h3
    exact Or.inl ⟨v, (T.setVm vm₁).calling g' mk As.toArray, t, U', L, hT, X', hL, e1, e2, hq, st⟩
  · dsimp only [Pt.U, Pt.locs, Pt.cells, Pt.slots] at X' e1 e2 h1 h2 h3 st hcl
    subst h1; subst h2; subst h3
    exact Or.inr ⟨q, (T.setVm vm₁).calling g' mk As.toArray, t, U', L, E, ce, hT, X', hL, e1, e2, hq, hce, hcv, vx_cls hW₁ hcl, st⟩
end
end VXH
theorem vx_ofWH {l : Launch} {y : MethodName} {ws ws' : List Cond} {rm : Room} {Pc : Array Value → State → Prop} {Qc : Array Value → State → Outcome → State → Prop} {XC : String → State → State → Prop} {mc ms : Nat} {free : Addr → Prop} {cc : ByteArray} {maxL : Nat} {ret : Option FieldType} {hh : List (Nat × Nat × Nat × Nat)}
    (hy : plainName y.cls = true) (hw : ws = Cond.codeWith y cc maxL ret hh :: ws')
    (body : ∀ p e s m args below meth c s₁, BodyLoose p l y (headSpec ws rm) cc maxL ret e s m args below meth c s₁ → c.maxLocals = maxL → Pc args s →
      W p l e (headSpec ws rm).room s m args below meth c s.heap [] 0 0 (vx_MQ below Qc XC args s mc ms free) (entryFrame m args maxL)) : vx_Met l y ws rm Pc Qc XC mc ms free := by
  refine MetFree.of_bodyS (code := cc) (maxLocals := maxL) (ret := ret) hy ?_ ?_
  · intro args s m h hn
    obtain ⟨m9, meth, c, hn9, h1, h2, h3, h4, -, h5, h6, -⟩ := Cond.codeWith_spec (atoms_spec (ws := ws) h _ (by rw [hw]; exact List.mem_cons_self))
    cases hn.symm.trans hn9
    exact ⟨meth, c, h1, h2, h3, h4, h5, h6⟩
  · intro p e s m args below meth c s₁ B hml hP _
    have hh0 : s₁.heap = s.heap := by rw [B.state]; rfl
    obtain ⟨t, a1, o, b1, b2, b3⟩ := body p e s m args below meth c s₁ B hml hP s₁ hh0 (Stand.of_body B)
    exact ⟨t, o, a1, b1, b2, b3⟩
/-! ===== END ===== -/
end
section
/-! ===== BEGIN printed: names, fields, word lists, decode rows ===== -/
def RX0 : String := "DividendDesk$Dividend"
def TX0 : u_T := fun k => match k with
  | 0 => ("DividendDesk$Dividend", "payDay", "I", true)
  | 1 => ("DividendDesk$Dividend", "formsOnPayDay", "I", true)
  | _ => ("DividendDesk$Dividend", "payments", "[LDividendDesk$Payment;", true)
def tyX0 : Nat → FieldType := fun k => match k with
  | 0 => .int
  | 1 => .int
  | _ => .array (.object "DividendDesk$Payment")
abbrev wsX00 : List Cond := u_ws RX0 TX0 3
theorem nmX0 : ∀ a, a < 3 → ∀ b, b < 3 → a ≠ b → (TX0 a).2.1 ≠ (TX0 b).2.1 := by decide +kernel
theorem tyX0_ok : ∀ k, k < 3 → parseFieldDescriptor (TX0 k).2.2.1 = some (tyX0 k) := by decide +kernel
abbrev cX0_init : ByteArray := prog_2_method_1_code
def yX0_init : MethodName := ⟨RX0, "<init>", "(II)V"⟩
abbrev cX0_enter : ByteArray := prog_2_method_2_code
def yX0_enter : MethodName := ⟨RX0, "enter", "(ILDividendDesk$Payment;)V"⟩
abbrev cX0_paymentTo : ByteArray := prog_2_method_3_code
def yX0_paymentTo : MethodName := ⟨RX0, "paymentTo", "(I)LDividendDesk$Payment;"⟩
abbrev cX0_heldOfAll : ByteArray := prog_2_method_4_code
def yX0_heldOfAll : MethodName := ⟨RX0, "heldOfAll", "()J"⟩
def RX1 : String := "DividendDesk$Holder"
def TX1 : u_T := fun k => match k with
  | 0 => ("DividendDesk$Holder", "kind", "I", true)
  | 1 => ("DividendDesk$Holder", "land", "I", true)
  | 2 => ("DividendDesk$Holder", "memberParts", "[I", true)
  | 3 => ("DividendDesk$Holder", "shares", "I", false)
  | 4 => ("DividendDesk$Holder", "formEnd", "I", false)
  | _ => ("DividendDesk$Holder", "enoughSince", "I", false)
def tyX1 : Nat → FieldType := fun k => match k with
  | 0 => .int
  | 1 => .int
  | 2 => .array .int
  | 3 => .int
  | 4 => .int
  | _ => .int
abbrev wsX10 : List Cond := u_ws RX1 TX1 6
theorem nmX1 : ∀ a, a < 6 → ∀ b, b < 6 → a ≠ b → (TX1 a).2.1 ≠ (TX1 b).2.1 := by decide +kernel
theorem tyX1_ok : ∀ k, k < 6 → parseFieldDescriptor (TX1 k).2.2.1 = some (tyX1 k) := by decide +kernel
abbrev cX1_init : ByteArray := prog_3_method_1_code
def yX1_init : MethodName := ⟨RX1, "<init>", "(II)V"⟩
abbrev cX1_partsOf : ByteArray := prog_3_method_2_code
def yX1_partsOf : MethodName := ⟨RX1, "partsOf", "(I)I"⟩
abbrev cX1_changeParts : ByteArray := prog_3_method_3_code
def yX1_changeParts : MethodName := ⟨RX1, "changeParts", "(II)V"⟩
abbrev cX1_partsInAll : ByteArray := prog_3_method_4_code
def yX1_partsInAll : MethodName := ⟨RX1, "partsInAll", "()I"⟩
abbrev cX1_hasFormOn : ByteArray := prog_3_method_5_code
def yX1_hasFormOn : MethodName := ⟨RX1, "hasFormOn", "(I)Z"⟩
abbrev cX1_endDay : ByteArray := prog_3_method_6_code
def yX1_endDay : MethodName := ⟨RX1, "endDay", "(I)V"⟩
abbrev cX1_hasLargeHoldingOn : ByteArray := prog_3_method_7_code
def yX1_hasLargeHoldingOn : MethodName := ⟨RX1, "hasLargeHoldingOn", "(I)Z"⟩
def RX2 : String := "DividendDesk$Payment"
def TX2 : u_T := fun k => match k with
  | 0 => ("DividendDesk$Payment", "amount", "I", true)
  | 1 => ("DividendDesk$Payment", "portions", "Ljava/util/ArrayList;", true)
  | _ => ("DividendDesk$Payment", "heldTax", "I", false)
def tyX2 : Nat → FieldType := fun k => match k with
  | 0 => .int
  | 1 => .object "java/util/ArrayList"
  | _ => .int
abbrev wsX20 : List Cond := u_ws RX2 TX2 3
theorem nmX2 : ∀ a, a < 3 → ∀ b, b < 3 → a ≠ b → (TX2 a).2.1 ≠ (TX2 b).2.1 := by decide +kernel
theorem tyX2_ok : ∀ k, k < 3 → parseFieldDescriptor (TX2 k).2.2.1 = some (tyX2 k) := by decide +kernel
abbrev cX2_init : ByteArray := prog_4_method_1_code
def yX2_init : MethodName := ⟨RX2, "<init>", "(I)V"⟩
abbrev cX2_add : ByteArray := prog_4_method_2_code
def yX2_add : MethodName := ⟨RX2, "add", "(LDividendDesk$Portion;)V"⟩
abbrev cX2_taxWith : ByteArray := prog_4_method_3_code
def yX2_taxWith : MethodName := ⟨RX2, "taxWith", "(I)I"⟩
abbrev cX2_lowerTo : ByteArray := prog_4_method_4_code
def yX2_lowerTo : MethodName := ⟨RX2, "lowerTo", "(I)I"⟩
def RX3 : String := "DividendDesk$Portion"
def TX3 : u_T := fun k => match k with
  | 0 => ("DividendDesk$Portion", "amount", "I", true)
  | 1 => ("DividendDesk$Portion", "rate", "I", true)
  | _ => ("DividendDesk$Portion", "neededForms", "I", true)
def tyX3 : Nat → FieldType := fun k => match k with
  | 0 => .int
  | 1 => .int
  | _ => .int
abbrev wsX30 : List Cond := u_ws RX3 TX3 3
theorem nmX3 : ∀ a, a < 3 → ∀ b, b < 3 → a ≠ b → (TX3 a).2.1 ≠ (TX3 b).2.1 := by decide +kernel
theorem tyX3_ok : ∀ k, k < 3 → parseFieldDescriptor (TX3 k).2.2.1 = some (tyX3 k) := by decide +kernel
abbrev cX3_init : ByteArray := prog_5_method_1_code
def yX3_init : MethodName := ⟨RX3, "<init>", "(III)V"⟩
abbrev cX3_tax : ByteArray := prog_5_method_2_code
def yX3_tax : MethodName := ⟨RX3, "tax", "(I)I"⟩
def RX4 : String := "DividendDesk"
def TX4 : u_T := fun k => match k with
  | 0 => ("DividendDesk", "generalRates", "[I", true)
  | 1 => ("DividendDesk", "largeRates", "[I", true)
  | 2 => ("DividendDesk", "holders", "Ljava/util/ArrayList;", true)
  | 3 => ("DividendDesk", "paidDividends", "Ljava/util/ArrayList;", true)
  | 4 => ("DividendDesk", "today", "I", false)
  | _ => ("DividendDesk", "refundedInAll", "J", false)
def tyX4 : Nat → FieldType := fun k => match k with
  | 0 => .array .int
  | 1 => .array .int
  | 2 => .object "java/util/ArrayList"
  | 3 => .object "java/util/ArrayList"
  | 4 => .int
  | _ => .long
abbrev wsX40 : List Cond := u_ws RX4 TX4 6
theorem nmX4 : ∀ a, a < 6 → ∀ b, b < 6 → a ≠ b → (TX4 a).2.1 ≠ (TX4 b).2.1 := by decide +kernel
theorem tyX4_ok : ∀ k, k < 6 → parseFieldDescriptor (TX4 k).2.2.1 = some (tyX4 k) := by decide +kernel
abbrev cX4_init : ByteArray := prog_1_method_1_code
def yX4_init : MethodName := ⟨RX4, "<init>", "()V"⟩
abbrev cX4_setTreaty : ByteArray := prog_1_method_2_code
def yX4_setTreaty : MethodName := ⟨RX4, "setTreaty", "(III)I"⟩
abbrev cX4_addHolder : ByteArray := prog_1_method_3_code
def yX4_addHolder : MethodName := ⟨RX4, "addHolder", "(II)I"⟩
abbrev cX4_setParts : ByteArray := prog_1_method_4_code
def yX4_setParts : MethodName := ⟨RX4, "setParts", "(III)I"⟩
abbrev cX4_setShares : ByteArray := prog_1_method_5_code
def yX4_setShares : MethodName := ⟨RX4, "setShares", "(II)I"⟩
abbrev cX4_giveForm : ByteArray := prog_1_method_6_code
def yX4_giveForm : MethodName := ⟨RX4, "giveForm", "(I)I"⟩
abbrev cX4_pass : ByteArray := prog_1_method_7_code
def yX4_pass : MethodName := ⟨RX4, "pass", "(I)I"⟩
abbrev cX4_day : ByteArray := prog_1_method_8_code
def yX4_day : MethodName := ⟨RX4, "day", "()I"⟩
abbrev cX4_shares : ByteArray := prog_1_method_9_code
def yX4_shares : MethodName := ⟨RX4, "shares", "(I)I"⟩
abbrev cX4_isValid : ByteArray := prog_1_method_10_code
def yX4_isValid : MethodName := ⟨RX4, "isValid", "(I)Z"⟩
abbrev cX4_isLarge : ByteArray := prog_1_method_11_code
def yX4_isLarge : MethodName := ⟨RX4, "isLarge", "(I)Z"⟩
abbrev cX4_treatyRate : ByteArray := prog_1_method_12_code
def yX4_treatyRate : MethodName := ⟨RX4, "treatyRate", "(I)I"⟩
abbrev cX4_pay : ByteArray := prog_1_method_13_code
def yX4_pay : MethodName := ⟨RX4, "pay", "(I)I"⟩
abbrev cX4_dividends : ByteArray := prog_1_method_14_code
def yX4_dividends : MethodName := ⟨RX4, "dividends", "()I"⟩
abbrev cX4_gross : ByteArray := prog_1_method_15_code
def yX4_gross : MethodName := ⟨RX4, "gross", "(II)I"⟩
abbrev cX4_held : ByteArray := prog_1_method_16_code
def yX4_held : MethodName := ⟨RX4, "held", "(II)I"⟩
abbrev cX4_due : ByteArray := prog_1_method_17_code
def yX4_due : MethodName := ⟨RX4, "due", "(II)I"⟩
abbrev cX4_heldInAll : ByteArray := prog_1_method_18_code
def yX4_heldInAll : MethodName := ⟨RX4, "heldInAll", "()J"⟩
abbrev cX4_refunded : ByteArray := prog_1_method_19_code
def yX4_refunded : MethodName := ⟨RX4, "refunded", "()J"⟩
abbrev cX4_refund : ByteArray := prog_1_method_20_code
def yX4_refund : MethodName := ⟨RX4, "refund", "(II)I"⟩
abbrev cX4_claim : ByteArray := prog_1_method_21_code
def yX4_claim : MethodName := ⟨RX4, "claim", "(II)I"⟩
abbrev cX4_isWithin : ByteArray := prog_1_method_22_code
def yX4_isWithin : MethodName := ⟨RX4, "isWithin", "(III)Z"⟩
abbrev cX4_isLand : ByteArray := prog_1_method_23_code
def yX4_isLand : MethodName := ⟨RX4, "isLand", "(I)Z"⟩
abbrev cX4_isHolder : ByteArray := prog_1_method_24_code
def yX4_isHolder : MethodName := ⟨RX4, "isHolder", "(I)Z"⟩
abbrev cX4_holderAt : ByteArray := prog_1_method_25_code
def yX4_holderAt : MethodName := ⟨RX4, "holderAt", "(I)LDividendDesk$Holder;"⟩
abbrev cX4_dividendAt : ByteArray := prog_1_method_26_code
def yX4_dividendAt : MethodName := ⟨RX4, "dividendAt", "(I)LDividendDesk$Dividend;"⟩
abbrev cX4_paymentAt : ByteArray := prog_1_method_27_code
def yX4_paymentAt : MethodName := ⟨RX4, "paymentAt", "(II)LDividendDesk$Payment;"⟩
abbrev cX4_refundablePayment : ByteArray := prog_1_method_28_code
def yX4_refundablePayment : MethodName := ⟨RX4, "refundablePayment", "(III)LDividendDesk$Payment;"⟩
abbrev cX4_sharesInAll : ByteArray := prog_1_method_29_code
def yX4_sharesInAll : MethodName := ⟨RX4, "sharesInAll", "()I"⟩
abbrev cX4_formOf : ByteArray := prog_1_method_30_code
def yX4_formOf : MethodName := ⟨RX4, "formOf", "(I)I"⟩
abbrev cX4_validForms : ByteArray := prog_1_method_31_code
def yX4_validForms : MethodName := ⟨RX4, "validForms", "()I"⟩
abbrev cX4_rateOf : ByteArray := prog_1_method_32_code
def yX4_rateOf : MethodName := ⟨RX4, "rateOf", "([ILDividendDesk$Holder;)I"⟩
abbrev cX4_ownRate : ByteArray := prog_1_method_33_code
def yX4_ownRate : MethodName := ⟨RX4, "ownRate", "(LDividendDesk$Holder;)I"⟩
abbrev cX4_makePayment : ByteArray := prog_1_method_34_code
def yX4_makePayment : MethodName := ⟨RX4, "makePayment", "(ILDividendDesk$Holder;I)LDividendDesk$Payment;"⟩
abbrev cX4_addPortions : ByteArray := prog_1_method_35_code
def yX4_addPortions : MethodName := ⟨RX4, "addPortions", "(LDividendDesk$Payment;ILDividendDesk$Holder;)V"⟩
abbrev cX4_proportion : ByteArray := prog_1_method_36_code
def yX4_proportion : MethodName := ⟨RX4, "proportion", "(III)I"⟩
abbrev cX4_giveBack : ByteArray := prog_1_method_37_code
def yX4_giveBack : MethodName := ⟨RX4, "giveBack", "(LDividendDesk$Payment;I)I"⟩
def RX5 : String := "DividendDeskModel"
def TX5 : u_T := fun k => match k with
  | 0 => ("DividendDeskModel", "day", "I", false)
  | 1 => ("DividendDeskModel", "general", "[I", true)
  | 2 => ("DividendDeskModel", "large", "[I", true)
  | 3 => ("DividendDeskModel", "holders", "I", false)
  | 4 => ("DividendDeskModel", "kind", "[I", true)
  | 5 => ("DividendDeskModel", "land", "[I", true)
  | 6 => ("DividendDeskModel", "shares", "[I", true)
  | 7 => ("DividendDeskModel", "validTo", "[I", true)
  | 8 => ("DividendDeskModel", "since", "[I", true)
  | 9 => ("DividendDeskModel", "parts", "[I", true)
  | 10 => ("DividendDeskModel", "dividends", "I", false)
  | 11 => ("DividendDeskModel", "paidOn", "[I", true)
  | 12 => ("DividendDeskModel", "gross", "[I", true)
  | 13 => ("DividendDeskModel", "held", "[I", true)
  | 14 => ("DividendDeskModel", "due", "[I", true)
  | 15 => ("DividendDeskModel", "shareRate", "[I", true)
  | 16 => ("DividendDeskModel", "ownRate", "[I", true)
  | 17 => ("DividendDeskModel", "wasValid", "[Z", true)
  | 18 => ("DividendDeskModel", "partsThen", "[I", true)
  | 19 => ("DividendDeskModel", "refunds", "J", false)
  | _ => ("DividendDeskModel", "thrown", "I", false)
def tyX5 : Nat → FieldType := fun k => match k with
  | 0 => .int
  | 1 => .array .int
  | 2 => .array .int
  | 3 => .int
  | 4 => .array .int
  | 5 => .array .int
  | 6 => .array .int
  | 7 => .array .int
  | 8 => .array .int
  | 9 => .array .int
  | 10 => .int
  | 11 => .array .int
  | 12 => .array .int
  | 13 => .array .int
  | 14 => .array .int
  | 15 => .array .int
  | 16 => .array .int
  | 17 => .array .boolean
  | 18 => .array .int
  | 19 => .long
  | _ => .int
abbrev wsX50 : List Cond := u_ws RX5 TX5 21
theorem nmX5 : ∀ a, a < 21 → ∀ b, b < 21 → a ≠ b → (TX5 a).2.1 ≠ (TX5 b).2.1 := by decide +kernel
theorem tyX5_ok : ∀ k, k < 21 → parseFieldDescriptor (TX5 k).2.2.1 = some (tyX5 k) := by decide +kernel
abbrev cX5_init : ByteArray := prog_7_method_1_code
def yX5_init : MethodName := ⟨RX5, "<init>", "()V"⟩
abbrev cX5_thrown : ByteArray := prog_7_method_2_code
def yX5_thrown : MethodName := ⟨RX5, "thrown", "()I"⟩
abbrev cX5_can : ByteArray := prog_7_method_3_code
def yX5_can : MethodName := ⟨RX5, "can", "(I)Z"⟩
abbrev cX5_isIn : ByteArray := prog_7_method_4_code
def yX5_isIn : MethodName := ⟨RX5, "isIn", "(III)Z"⟩
abbrev cX5_isHolder : ByteArray := prog_7_method_5_code
def yX5_isHolder : MethodName := ⟨RX5, "isHolder", "(I)Z"⟩
abbrev cX5_isDividend : ByteArray := prog_7_method_6_code
def yX5_isDividend : MethodName := ⟨RX5, "isDividend", "(I)Z"⟩
abbrev cX5_setTreaty : ByteArray := prog_7_method_7_code
def yX5_setTreaty : MethodName := ⟨RX5, "setTreaty", "(III)I"⟩
abbrev cX5_addHolder : ByteArray := prog_7_method_8_code
def yX5_addHolder : MethodName := ⟨RX5, "addHolder", "(II)I"⟩
abbrev cX5_setParts : ByteArray := prog_7_method_9_code
def yX5_setParts : MethodName := ⟨RX5, "setParts", "(III)I"⟩
abbrev cX5_allShares : ByteArray := prog_7_method_10_code
def yX5_allShares : MethodName := ⟨RX5, "allShares", "()I"⟩
abbrev cX5_setShares : ByteArray := prog_7_method_11_code
def yX5_setShares : MethodName := ⟨RX5, "setShares", "(II)I"⟩
abbrev cX5_giveForm : ByteArray := prog_7_method_12_code
def yX5_giveForm : MethodName := ⟨RX5, "giveForm", "(I)I"⟩
abbrev cX5_pass : ByteArray := prog_7_method_13_code
def yX5_pass : MethodName := ⟨RX5, "pass", "(I)I"⟩
abbrev cX5_day : ByteArray := prog_7_method_14_code
def yX5_day : MethodName := ⟨RX5, "day", "()I"⟩
abbrev cX5_isAsked : ByteArray := prog_7_method_15_code
def yX5_isAsked : MethodName := ⟨RX5, "isAsked", "(I)Z"⟩
abbrev cX5_shares : ByteArray := prog_7_method_16_code
def yX5_shares : MethodName := ⟨RX5, "shares", "(I)I"⟩
abbrev cX5_hasForm : ByteArray := prog_7_method_17_code
def yX5_hasForm : MethodName := ⟨RX5, "hasForm", "(I)Z"⟩
abbrev cX5_isValid : ByteArray := prog_7_method_18_code
def yX5_isValid : MethodName := ⟨RX5, "isValid", "(I)Z"⟩
abbrev cX5_holdsLarge : ByteArray := prog_7_method_19_code
def yX5_holdsLarge : MethodName := ⟨RX5, "holdsLarge", "(I)Z"⟩
abbrev cX5_isLarge : ByteArray := prog_7_method_20_code
def yX5_isLarge : MethodName := ⟨RX5, "isLarge", "(I)Z"⟩
abbrev cX5_rateOf : ByteArray := prog_7_method_21_code
def yX5_rateOf : MethodName := ⟨RX5, "rateOf", "(I)I"⟩
abbrev cX5_treatyRate : ByteArray := prog_7_method_22_code
def yX5_treatyRate : MethodName := ⟨RX5, "treatyRate", "(I)I"⟩
abbrev cX5_taxOf : ByteArray := prog_7_method_23_code
def yX5_taxOf : MethodName := ⟨RX5, "taxOf", "(JI)I"⟩
abbrev cX5_counts : ByteArray := prog_7_method_24_code
def yX5_counts : MethodName := ⟨RX5, "counts", "(IIZZ)Z"⟩
abbrev cX5_partnersTax : ByteArray := prog_7_method_25_code
def yX5_partnersTax : MethodName := ⟨RX5, "partnersTax", "(IIZZ)I"⟩
abbrev cX5_tax : ByteArray := prog_7_method_26_code
def yX5_tax : MethodName := ⟨RX5, "tax", "(IIZZ)I"⟩
abbrev cX5_pay : ByteArray := prog_7_method_27_code
def yX5_pay : MethodName := ⟨RX5, "pay", "(I)I"⟩
abbrev cX5_dividends : ByteArray := prog_7_method_28_code
def yX5_dividends : MethodName := ⟨RX5, "dividends", "()I"⟩
abbrev cX5_areAsked : ByteArray := prog_7_method_29_code
def yX5_areAsked : MethodName := ⟨RX5, "areAsked", "(II)Z"⟩
abbrev cX5_gross : ByteArray := prog_7_method_30_code
def yX5_gross : MethodName := ⟨RX5, "gross", "(II)I"⟩
abbrev cX5_held : ByteArray := prog_7_method_31_code
def yX5_held : MethodName := ⟨RX5, "held", "(II)I"⟩
abbrev cX5_due : ByteArray := prog_7_method_32_code
def yX5_due : MethodName := ⟨RX5, "due", "(II)I"⟩
abbrev cX5_heldInAll : ByteArray := prog_7_method_33_code
def yX5_heldInAll : MethodName := ⟨RX5, "heldInAll", "()J"⟩
abbrev cX5_refunded : ByteArray := prog_7_method_34_code
def yX5_refunded : MethodName := ⟨RX5, "refunded", "()J"⟩
abbrev cX5_isOver : ByteArray := prog_7_method_35_code
def yX5_isOver : MethodName := ⟨RX5, "isOver", "(III)Z"⟩
abbrev cX5_gives : ByteArray := prog_7_method_36_code
def yX5_gives : MethodName := ⟨RX5, "gives", "(III)I"⟩
abbrev cX5_refund : ByteArray := prog_7_method_37_code
def yX5_refund : MethodName := ⟨RX5, "refund", "(II)I"⟩
abbrev cX5_claim : ByteArray := prog_7_method_38_code
def yX5_claim : MethodName := ⟨RX5, "claim", "(II)I"⟩
def RJx145de : String := "java/io/Serializable"
def TJx145de : u_T := fun k => match k with
  | _ => ("", "", "", false)
def tyJx145de : Nat → FieldType := fun k => match k with
  | _ => .int
abbrev wsJx145de0 : List Cond := u_ws RJx145de TJx145de 0
theorem nmJx145de : ∀ a, a < 0 → ∀ b, b < 0 → a ≠ b → (TJx145de a).2.1 ≠ (TJx145de b).2.1 := by decide +kernel
theorem tyJx145de_ok : ∀ k, k < 0 → parseFieldDescriptor (TJx145de k).2.2.1 = some (tyJx145de k) := by decide +kernel
def RJx8e188 : String := "java/lang/Cloneable"
def TJx8e188 : u_T := fun k => match k with
  | _ => ("", "", "", false)
def tyJx8e188 : Nat → FieldType := fun k => match k with
  | _ => .int
abbrev wsJx8e1880 : List Cond := u_ws RJx8e188 TJx8e188 0
theorem nmJx8e188 : ∀ a, a < 0 → ∀ b, b < 0 → a ≠ b → (TJx8e188 a).2.1 ≠ (TJx8e188 b).2.1 := by decide +kernel
theorem tyJx8e188_ok : ∀ k, k < 0 → parseFieldDescriptor (TJx8e188 k).2.2.1 = some (tyJx8e188 k) := by decide +kernel
def RJxab1ab : String := "java/lang/Iterable"
def TJxab1ab : u_T := fun k => match k with
  | _ => ("", "", "", false)
def tyJxab1ab : Nat → FieldType := fun k => match k with
  | _ => .int
abbrev wsJxab1ab0 : List Cond := u_ws RJxab1ab TJxab1ab 0
theorem nmJxab1ab : ∀ a, a < 0 → ∀ b, b < 0 → a ≠ b → (TJxab1ab a).2.1 ≠ (TJxab1ab b).2.1 := by decide +kernel
theorem tyJxab1ab_ok : ∀ k, k < 0 → parseFieldDescriptor (TJxab1ab k).2.2.1 = some (tyJxab1ab k) := by decide +kernel
def RJ9 : String := "java/lang/Math"
def TJ9 : u_T := fun k => match k with
  | _ => ("", "", "", false)
def tyJ9 : Nat → FieldType := fun k => match k with
  | _ => .int
abbrev wsJ90 : List Cond := u_ws RJ9 TJ9 0
theorem nmJ9 : ∀ a, a < 0 → ∀ b, b < 0 → a ≠ b → (TJ9 a).2.1 ≠ (TJ9 b).2.1 := by decide +kernel
theorem tyJ9_ok : ∀ k, k < 0 → parseFieldDescriptor (TJ9 k).2.2.1 = some (tyJ9 k) := by decide +kernel
abbrev cJ9_max_7cf53 : ByteArray := prog_15_method_65_code
def yJ9_max_7cf53 : MethodName := ⟨RJ9, "max", "(II)I"⟩
abbrev cJ9_min_7cf53 : ByteArray := prog_15_method_69_code
def yJ9_min_7cf53 : MethodName := ⟨RJ9, "min", "(II)I"⟩
def RJ0 : String := "java/lang/String"
def TJ0 : u_T := fun k => match k with
  | _ => ("", "", "", false)
def tyJ0 : Nat → FieldType := fun k => match k with
  | _ => .int
abbrev wsJ00 : List Cond := u_ws RJ0 TJ0 0
theorem nmJ0 : ∀ a, a < 0 → ∀ b, b < 0 → a ≠ b → (TJ0 a).2.1 ≠ (TJ0 b).2.1 := by decide +kernel
theorem tyJ0_ok : ∀ k, k < 0 → parseFieldDescriptor (TJ0 k).2.2.1 = some (tyJ0 k) := by decide +kernel
def RJ10 : String := "java/lang/System"
def TJ10 : u_T := fun k => match k with
  | _ => ("", "", "", false)
def tyJ10 : Nat → FieldType := fun k => match k with
  | _ => .int
abbrev wsJ100 : List Cond := u_ws RJ10 TJ10 0
theorem nmJ10 : ∀ a, a < 0 → ∀ b, b < 0 → a ≠ b → (TJ10 a).2.1 ≠ (TJ10 b).2.1 := by decide +kernel
theorem tyJ10_ok : ∀ k, k < 0 → parseFieldDescriptor (TJ10 k).2.2.1 = some (tyJ10 k) := by decide +kernel
def RJxa1e45 : String := "java/util/AbstractCollection"
def TJxa1e45 : u_T := fun k => match k with
  | _ => ("", "", "", false)
def tyJxa1e45 : Nat → FieldType := fun k => match k with
  | _ => .int
abbrev wsJxa1e450 : List Cond := u_ws RJxa1e45 TJxa1e45 0
theorem nmJxa1e45 : ∀ a, a < 0 → ∀ b, b < 0 → a ≠ b → (TJxa1e45 a).2.1 ≠ (TJxa1e45 b).2.1 := by decide +kernel
theorem tyJxa1e45_ok : ∀ k, k < 0 → parseFieldDescriptor (TJxa1e45 k).2.2.1 = some (tyJxa1e45 k) := by decide +kernel
abbrev cJxa1e45_init_da8c8 : ByteArray := prog_20_method_1_code
def yJxa1e45_init_da8c8 : MethodName := ⟨RJxa1e45, "<init>", "()V"⟩
def RJxc12de : String := "java/util/AbstractList"
def TJxc12de : u_T := fun k => match k with
  | _ => ("", "", "", false)
def tyJxc12de : Nat → FieldType := fun k => match k with
  | _ => .int
abbrev wsJxc12de0 : List Cond := u_ws RJxc12de TJxc12de 0
theorem nmJxc12de : ∀ a, a < 0 → ∀ b, b < 0 → a ≠ b → (TJxc12de a).2.1 ≠ (TJxc12de b).2.1 := by decide +kernel
theorem tyJxc12de_ok : ∀ k, k < 0 → parseFieldDescriptor (TJxc12de k).2.2.1 = some (tyJxc12de k) := by decide +kernel
abbrev cJxc12de_init_da8c8 : ByteArray := prog_21_method_1_code
def yJxc12de_init_da8c8 : MethodName := ⟨RJxc12de, "<init>", "()V"⟩
def RJx4a65c : String := "java/util/ArrayList"
def TJx4a65c : u_T := fun k => match k with
  | 0 => ("java/util/AbstractList", "modCount", "I", false)
  | 1 => ("java/util/ArrayList", "elementData", "[Ljava/lang/Object;", false)
  | _ => ("java/util/ArrayList", "size", "I", false)
def tyJx4a65c : Nat → FieldType := fun k => match k with
  | 0 => .int
  | 1 => .array (.object "java/lang/Object")
  | _ => .int
abbrev wsJx4a65c0 : List Cond := u_ws RJx4a65c TJx4a65c 3
theorem nmJx4a65c : ∀ a, a < 3 → ∀ b, b < 3 → a ≠ b → (TJx4a65c a).2.1 ≠ (TJx4a65c b).2.1 := by decide +kernel
theorem tyJx4a65c_ok : ∀ k, k < 3 → parseFieldDescriptor (TJx4a65c k).2.2.1 = some (tyJx4a65c k) := by decide +kernel
abbrev cJx4a65c_init_da8c8 : ByteArray := prog_22_method_2_code
def yJx4a65c_init_da8c8 : MethodName := ⟨RJx4a65c, "<init>", "()V"⟩
abbrev cJx4a65c_grow_92f84 : ByteArray := prog_22_method_6_code
def yJx4a65c_grow_92f84 : MethodName := ⟨RJx4a65c, "grow", "(I)[Ljava/lang/Object;"⟩
abbrev cJx4a65c_grow_d5877 : ByteArray := prog_22_method_7_code
def yJx4a65c_grow_d5877 : MethodName := ⟨RJx4a65c, "grow", "()[Ljava/lang/Object;"⟩
abbrev cJx4a65c_size_8abf5 : ByteArray := prog_22_method_8_code
def yJx4a65c_size_8abf5 : MethodName := ⟨RJx4a65c, "size", "()I"⟩
abbrev cJx4a65c_elementData_915e3 : ByteArray := prog_22_method_18_code
def yJx4a65c_elementData_915e3 : MethodName := ⟨RJx4a65c, "elementData", "(I)Ljava/lang/Object;"⟩
abbrev cJx4a65c_get_915e3 : ByteArray := prog_22_method_20_code
def yJx4a65c_get_915e3 : MethodName := ⟨RJx4a65c, "get", "(I)Ljava/lang/Object;"⟩
abbrev cJx4a65c_add_72be8 : ByteArray := prog_22_method_24_code
def yJx4a65c_add_72be8 : MethodName := ⟨RJx4a65c, "add", "(Ljava/lang/Object;[Ljava/lang/Object;I)V"⟩
abbrev cJx4a65c_add_9ea2d : ByteArray := prog_22_method_25_code
def yJx4a65c_add_9ea2d : MethodName := ⟨RJx4a65c, "add", "(Ljava/lang/Object;)Z"⟩
def RJ7 : String := "java/util/Arrays"
def TJ7 : u_T := fun k => match k with
  | _ => ("", "", "", false)
def tyJ7 : Nat → FieldType := fun k => match k with
  | _ => .int
abbrev wsJ70 : List Cond := u_ws RJ7 TJ7 0
theorem nmJ7 : ∀ a, a < 0 → ∀ b, b < 0 → a ≠ b → (TJ7 a).2.1 ≠ (TJ7 b).2.1 := by decide +kernel
theorem tyJ7_ok : ∀ k, k < 0 → parseFieldDescriptor (TJ7 k).2.2.1 = some (tyJ7 k) := by decide +kernel
abbrev cJ7_copyOf_1904c : ByteArray := prog_23_method_119_code
def yJ7_copyOf_1904c : MethodName := ⟨RJ7, "copyOf", "([Ljava/lang/Object;I)[Ljava/lang/Object;"⟩
abbrev cJ7_copyOf_6403c : ByteArray := prog_23_method_120_code
def yJ7_copyOf_6403c : MethodName := ⟨RJ7, "copyOf", "([Ljava/lang/Object;ILjava/lang/Class;)[Ljava/lang/Object;"⟩
def RJx5ef63 : String := "java/util/Collection"
def TJx5ef63 : u_T := fun k => match k with
  | _ => ("", "", "", false)
def tyJx5ef63 : Nat → FieldType := fun k => match k with
  | _ => .int
abbrev wsJx5ef630 : List Cond := u_ws RJx5ef63 TJx5ef63 0
theorem nmJx5ef63 : ∀ a, a < 0 → ∀ b, b < 0 → a ≠ b → (TJx5ef63 a).2.1 ≠ (TJx5ef63 b).2.1 := by decide +kernel
theorem tyJx5ef63_ok : ∀ k, k < 0 → parseFieldDescriptor (TJx5ef63 k).2.2.1 = some (tyJx5ef63 k) := by decide +kernel
def RJxbd725 : String := "java/util/List"
def TJxbd725 : u_T := fun k => match k with
  | _ => ("", "", "", false)
def tyJxbd725 : Nat → FieldType := fun k => match k with
  | _ => .int
abbrev wsJxbd7250 : List Cond := u_ws RJxbd725 TJxbd725 0
theorem nmJxbd725 : ∀ a, a < 0 → ∀ b, b < 0 → a ≠ b → (TJxbd725 a).2.1 ≠ (TJxbd725 b).2.1 := by decide +kernel
theorem tyJxbd725_ok : ∀ k, k < 0 → parseFieldDescriptor (TJxbd725 k).2.2.1 = some (tyJxbd725 k) := by decide +kernel
def RJ15 : String := "java/util/Objects"
def TJ15 : u_T := fun k => match k with
  | _ => ("", "", "", false)
def tyJ15 : Nat → FieldType := fun k => match k with
  | _ => .int
abbrev wsJ150 : List Cond := u_ws RJ15 TJ15 0
theorem nmJ15 : ∀ a, a < 0 → ∀ b, b < 0 → a ≠ b → (TJ15 a).2.1 ≠ (TJ15 b).2.1 := by decide +kernel
theorem tyJ15_ok : ∀ k, k < 0 → parseFieldDescriptor (TJ15 k).2.2.1 = some (tyJ15 k) := by decide +kernel
abbrev cJ15_checkIndex_7cf53 : ByteArray := prog_26_method_17_code
def yJ15_checkIndex_7cf53 : MethodName := ⟨RJ15, "checkIndex", "(II)I"⟩
def RJxf0a74 : String := "java/util/RandomAccess"
def TJxf0a74 : u_T := fun k => match k with
  | _ => ("", "", "", false)
def tyJxf0a74 : Nat → FieldType := fun k => match k with
  | _ => .int
abbrev wsJxf0a740 : List Cond := u_ws RJxf0a74 TJxf0a74 0
theorem nmJxf0a74 : ∀ a, a < 0 → ∀ b, b < 0 → a ≠ b → (TJxf0a74 a).2.1 ≠ (TJxf0a74 b).2.1 := by decide +kernel
theorem tyJxf0a74_ok : ∀ k, k < 0 → parseFieldDescriptor (TJxf0a74 k).2.2.1 = some (tyJxf0a74 k) := by decide +kernel
def RJxa66e6 : String := "java/util/SequencedCollection"
def TJxa66e6 : u_T := fun k => match k with
  | _ => ("", "", "", false)
def tyJxa66e6 : Nat → FieldType := fun k => match k with
  | _ => .int
abbrev wsJxa66e60 : List Cond := u_ws RJxa66e6 TJxa66e6 0
theorem nmJxa66e6 : ∀ a, a < 0 → ∀ b, b < 0 → a ≠ b → (TJxa66e6 a).2.1 ≠ (TJxa66e6 b).2.1 := by decide +kernel
theorem tyJxa66e6_ok : ∀ k, k < 0 → parseFieldDescriptor (TJxa66e6 k).2.2.1 = some (tyJxa66e6 k) := by decide +kernel
def RJ8 : String := "jdk/internal/util/ArraysSupport"
def TJ8 : u_T := fun k => match k with
  | _ => ("", "", "", false)
def tyJ8 : Nat → FieldType := fun k => match k with
  | _ => .int
abbrev wsJ80 : List Cond := u_ws RJ8 TJ8 0
theorem nmJ8 : ∀ a, a < 0 → ∀ b, b < 0 → a ≠ b → (TJ8 a).2.1 ≠ (TJ8 b).2.1 := by decide +kernel
theorem tyJ8_ok : ∀ k, k < 0 → parseFieldDescriptor (TJ8 k).2.2.1 = some (tyJ8 k) := by decide +kernel
abbrev cJ8_newLength_cabcc : ByteArray := prog_29_method_27_code
def yJ8_newLength_cabcc : MethodName := ⟨RJ8, "newLength", "(III)I"⟩
abbrev cJ8_hugeLength_7cf53 : ByteArray := prog_29_method_28_code
def yJ8_hugeLength_7cf53 : MethodName := ⟨RJ8, "hugeLength", "(II)I"⟩
def RJ3 : String := "jdk/internal/util/Preconditions"
def TJ3 : u_T := fun k => match k with
  | _ => ("", "", "", false)
def tyJ3 : Nat → FieldType := fun k => match k with
  | _ => .int
abbrev wsJ30 : List Cond := u_ws RJ3 TJ3 0
theorem nmJ3 : ∀ a, a < 0 → ∀ b, b < 0 → a ≠ b → (TJ3 a).2.1 ≠ (TJ3 b).2.1 := by decide +kernel
theorem tyJ3_ok : ∀ k, k < 0 → parseFieldDescriptor (TJ3 k).2.2.1 = some (tyJ3 k) := by decide +kernel
abbrev cJ3_checkIndex_8e157 : ByteArray := prog_30_method_11_code
def yJ3_checkIndex_8e157 : MethodName := ⟨RJ3, "checkIndex", "(IILjava/util/function/BiFunction;)I"⟩
def RL : String := "DividendDeskLaw"
abbrev cL_setTreaty : ByteArray := method_3_code
def yL_setTreaty : MethodName := ⟨RL, "setTreaty", "(LDividendDesk;III[J)I"⟩
abbrev cL_addHolder : ByteArray := method_4_code
def yL_addHolder : MethodName := ⟨RL, "addHolder", "(LDividendDesk;II[J)I"⟩
abbrev cL_setParts : ByteArray := method_5_code
def yL_setParts : MethodName := ⟨RL, "setParts", "(LDividendDesk;III[J)I"⟩
abbrev cL_setShares : ByteArray := method_6_code
def yL_setShares : MethodName := ⟨RL, "setShares", "(LDividendDesk;II[J)I"⟩
abbrev cL_giveForm : ByteArray := method_7_code
def yL_giveForm : MethodName := ⟨RL, "giveForm", "(LDividendDesk;I[J)I"⟩
abbrev cL_pass : ByteArray := method_8_code
def yL_pass : MethodName := ⟨RL, "pass", "(LDividendDesk;I[J)I"⟩
abbrev cL_shares : ByteArray := method_9_code
def yL_shares : MethodName := ⟨RL, "shares", "(LDividendDesk;I[J)I"⟩
abbrev cL_isValid : ByteArray := method_10_code
def yL_isValid : MethodName := ⟨RL, "isValid", "(LDividendDesk;I[J)I"⟩
abbrev cL_isLarge : ByteArray := method_11_code
def yL_isLarge : MethodName := ⟨RL, "isLarge", "(LDividendDesk;I[J)I"⟩
abbrev cL_treatyRate : ByteArray := method_12_code
def yL_treatyRate : MethodName := ⟨RL, "treatyRate", "(LDividendDesk;I[J)I"⟩
abbrev cL_pay : ByteArray := method_13_code
def yL_pay : MethodName := ⟨RL, "pay", "(LDividendDesk;I[J)I"⟩
abbrev cL_gross : ByteArray := method_14_code
def yL_gross : MethodName := ⟨RL, "gross", "(LDividendDesk;II[J)I"⟩
abbrev cL_held : ByteArray := method_15_code
def yL_held : MethodName := ⟨RL, "held", "(LDividendDesk;II[J)I"⟩
abbrev cL_due : ByteArray := method_16_code
def yL_due : MethodName := ⟨RL, "due", "(LDividendDesk;II[J)I"⟩
abbrev cL_refund : ByteArray := method_17_code
def yL_refund : MethodName := ⟨RL, "refund", "(LDividendDesk;II[J)I"⟩
abbrev cL_claim : ByteArray := method_18_code
def yL_claim : MethodName := ⟨RL, "claim", "(LDividendDesk;II[J)I"⟩
abbrev cL_law : ByteArray := code
def yL_law : MethodName := ⟨RL, "law", "([I)Z"⟩
def wsX0_init : List Cond := .code yX0_init cX0_init 3 none :: ([.methodLink RX0 3 objectInit, .instanceMethod objectInit, .code objectInit ⟨#[0xb1]⟩ 1 none, .classLink RX0 9 RX2, .fieldLink RX0 11 "DividendDesk$Dividend" "payments" "[LDividendDesk$Payment;", .fieldLink RX0 17 "DividendDesk$Dividend" "payDay" "I", .fieldLink RX0 21 "DividendDesk$Dividend" "formsOnPayDay" "I"] ++ wsX00)
def wsJx4a65c_size_8abf5 : List Cond := .code yJx4a65c_size_8abf5 cJx4a65c_size_8abf5 1 (some .int) :: ([.fieldLink RJx4a65c 48 "java/util/ArrayList" "size" "I"] ++ wsJx4a65c0)
def wsJ3_checkIndex_8e157 : List Cond := .code yJ3_checkIndex_8e157 cJ3_checkIndex_8e157 3 (some .int) :: ([])
def wsJ15_checkIndex_7cf53 : List Cond := .code yJ15_checkIndex_7cf53 cJ15_checkIndex_7cf53 2 (some .int) :: ([.methodLink RJ15 105 yJ3_checkIndex_8e157, .static yJ3_checkIndex_8e157, .initialized RJ3, .code yJ3_checkIndex_8e157 cJ3_checkIndex_8e157 3 (some .int)])
def wsJx4a65c_elementData_915e3 : List Cond := .code yJx4a65c_elementData_915e3 cJx4a65c_elementData_915e3 2 (some (.object "java/lang/Object")) :: ([.fieldLink RJx4a65c 9 "java/util/ArrayList" "elementData" "[Ljava/lang/Object;"] ++ wsJx4a65c0)
def wsJx4a65c_get_915e3 : List Cond := .code yJx4a65c_get_915e3 cJx4a65c_get_915e3 2 (some (.object "java/lang/Object")) :: ([.fieldLink RJx4a65c 48 "java/util/ArrayList" "size" "I", .methodLink RJx4a65c 118 yJ15_checkIndex_7cf53, .static yJ15_checkIndex_7cf53, .initialized RJ15, .code yJ15_checkIndex_7cf53 cJ15_checkIndex_7cf53 2 (some .int), .methodLink RJ15 105 yJ3_checkIndex_8e157, .static yJ3_checkIndex_8e157, .initialized RJ3, .code yJ3_checkIndex_8e157 cJ3_checkIndex_8e157 3 (some .int), .methodLink RJx4a65c 123 yJx4a65c_elementData_915e3, .instanceMethod yJx4a65c_elementData_915e3, .selects RJx4a65c yJx4a65c_elementData_915e3 yJx4a65c_elementData_915e3, .initialized RJx4a65c, .code yJx4a65c_elementData_915e3 cJx4a65c_elementData_915e3 2 (some (.object "java/lang/Object")), .fieldLink RJx4a65c 9 "java/util/ArrayList" "elementData" "[Ljava/lang/Object;"] ++ wsJx4a65c0)
def wsX3_tax : List Cond := .code yX3_tax cX3_tax 3 (some .int) :: ([.fieldLink RX3 18 "DividendDesk$Portion" "neededForms" "I", .fieldLink RX3 15 "DividendDesk$Portion" "rate" "I", .fieldLink RX3 9 "DividendDesk$Portion" "amount" "I", .constantLong RX3 21 (100)] ++ wsX30)
def wsX2_taxWith_r1 : List Cond := [Cond.fieldLink RX2 10 "DividendDesk$Payment" "portions" "Ljava/util/ArrayList;", Cond.classLink RX2 35 "DividendDesk$Portion", Cond.methodLink RX2 27 yJx4a65c_size_8abf5, Cond.instanceMethod yJx4a65c_size_8abf5, Cond.selects RJx4a65c yJx4a65c_size_8abf5 yJx4a65c_size_8abf5, Cond.initialized RJx4a65c, Cond.code yJx4a65c_size_8abf5 cJx4a65c_size_8abf5 1 (some .int), Cond.fieldLink RJx4a65c 48 "java/util/ArrayList" "size" "I", Cond.methodLink RX2 31 yJx4a65c_get_915e3, Cond.instanceMethod yJx4a65c_get_915e3, Cond.selects RJx4a65c yJx4a65c_get_915e3 yJx4a65c_get_915e3, Cond.code yJx4a65c_get_915e3 cJx4a65c_get_915e3 2 (some (.object "java/lang/Object")), Cond.methodLink RJx4a65c 118 yJ15_checkIndex_7cf53, Cond.static yJ15_checkIndex_7cf53, Cond.initialized RJ15, Cond.code yJ15_checkIndex_7cf53 cJ15_checkIndex_7cf53 2 (some .int), Cond.methodLink RJ15 105 yJ3_checkIndex_8e157, Cond.static yJ3_checkIndex_8e157, Cond.initialized RJ3, Cond.code yJ3_checkIndex_8e157 cJ3_checkIndex_8e157 3 (some .int), Cond.methodLink RJx4a65c 123 yJx4a65c_elementData_915e3, Cond.instanceMethod yJx4a65c_elementData_915e3, Cond.selects RJx4a65c yJx4a65c_elementData_915e3 yJx4a65c_elementData_915e3, Cond.code yJx4a65c_elementData_915e3 cJx4a65c_elementData_915e3 2 (some (.object "java/lang/Object"))]
def wsX2_taxWith_r2 : List Cond := [Cond.fieldLink RJx4a65c 9 "java/util/ArrayList" "elementData" "[Ljava/lang/Object;", Cond.instanceMethod yX3_tax, Cond.initialized RX3, Cond.selects RX3 yX3_tax yX3_tax, Cond.code yX3_tax cX3_tax 3 (some .int), Cond.fieldLink RX3 18 "DividendDesk$Portion" "neededForms" "I", Cond.fieldLink RX3 15 "DividendDesk$Portion" "rate" "I", Cond.fieldLink RX3 9 "DividendDesk$Portion" "amount" "I", Cond.constantLong RX3 21 (100)]
def wsX2_taxWith : List Cond := .code yX2_taxWith cX2_taxWith 4 (some .int) :: ((wsX2_taxWith_r1 ++ wsX2_taxWith_r2) ++ wsX20 ++ wsJx4a65c0 ++ wsX30)
def wsX0_enter_r1 : List Cond := [Cond.fieldLink RX0 11 "DividendDesk$Dividend" "payments" "[LDividendDesk$Payment;", Cond.fieldLink RX0 21 "DividendDesk$Dividend" "formsOnPayDay" "I", Cond.instanceMethod yX2_taxWith, Cond.initialized RX2, Cond.selects RX2 yX2_taxWith yX2_taxWith, Cond.code yX2_taxWith cX2_taxWith 4 (some .int), Cond.fieldLink RX2 10 "DividendDesk$Payment" "portions" "Ljava/util/ArrayList;", Cond.classLink RX2 35 "DividendDesk$Portion", Cond.methodLink RX2 27 yJx4a65c_size_8abf5, Cond.instanceMethod yJx4a65c_size_8abf5, Cond.selects RJx4a65c yJx4a65c_size_8abf5 yJx4a65c_size_8abf5, Cond.initialized RJx4a65c, Cond.code yJx4a65c_size_8abf5 cJx4a65c_size_8abf5 1 (some .int), Cond.fieldLink RJx4a65c 48 "java/util/ArrayList" "size" "I", Cond.methodLink RX2 31 yJx4a65c_get_915e3, Cond.instanceMethod yJx4a65c_get_915e3, Cond.selects RJx4a65c yJx4a65c_get_915e3 yJx4a65c_get_915e3, Cond.code yJx4a65c_get_915e3 cJx4a65c_get_915e3 2 (some (.object "java/lang/Object")), Cond.methodLink RJx4a65c 118 yJ15_checkIndex_7cf53, Cond.static yJ15_checkIndex_7cf53, Cond.initialized RJ15, Cond.code yJ15_checkIndex_7cf53 cJ15_checkIndex_7cf53 2 (some .int), Cond.methodLink RJ15 105 yJ3_checkIndex_8e157, Cond.static yJ3_checkIndex_8e157]
def wsX0_enter_r2 : List Cond := [Cond.initialized RJ3, Cond.code yJ3_checkIndex_8e157 cJ3_checkIndex_8e157 3 (some .int), Cond.methodLink RJx4a65c 123 yJx4a65c_elementData_915e3, Cond.instanceMethod yJx4a65c_elementData_915e3, Cond.selects RJx4a65c yJx4a65c_elementData_915e3 yJx4a65c_elementData_915e3, Cond.code yJx4a65c_elementData_915e3 cJx4a65c_elementData_915e3 2 (some (.object "java/lang/Object")), Cond.fieldLink RJx4a65c 9 "java/util/ArrayList" "elementData" "[Ljava/lang/Object;", Cond.instanceMethod yX3_tax, Cond.initialized RX3, Cond.selects RX3 yX3_tax yX3_tax, Cond.code yX3_tax cX3_tax 3 (some .int), Cond.fieldLink RX3 18 "DividendDesk$Portion" "neededForms" "I", Cond.fieldLink RX3 15 "DividendDesk$Portion" "rate" "I", Cond.fieldLink RX3 9 "DividendDesk$Portion" "amount" "I", Cond.constantLong RX3 21 (100)]
def wsX0_enter : List Cond := .code yX0_enter cX0_enter 3 none :: ((wsX0_enter_r1 ++ wsX0_enter_r2) ++ wsX00 ++ wsX20 ++ wsJx4a65c0 ++ wsX30)
def wsX0_paymentTo : List Cond := .code yX0_paymentTo cX0_paymentTo 2 (some (.object "DividendDesk$Payment")) :: ([.fieldLink RX0 11 "DividendDesk$Dividend" "payments" "[LDividendDesk$Payment;"] ++ wsX00)
def wsX0_heldOfAll : List Cond := .code yX0_heldOfAll cX0_heldOfAll 5 (some .long) :: ([.fieldLink RX0 11 "DividendDesk$Dividend" "payments" "[LDividendDesk$Payment;"] ++ wsX00 ++ wsX20)
def wsX1_init : List Cond := .code yX1_init cX1_init 3 none :: ([.methodLink RX1 3 objectInit, .instanceMethod objectInit, .code objectInit ⟨#[0xb1]⟩ 1 none, .arrayClass .int, .fieldLink RX1 9 "DividendDesk$Holder" "memberParts" "[I", .fieldLink RX1 15 "DividendDesk$Holder" "shares" "I", .fieldLink RX1 19 "DividendDesk$Holder" "formEnd" "I", .fieldLink RX1 22 "DividendDesk$Holder" "enoughSince" "I", .fieldLink RX1 25 "DividendDesk$Holder" "kind" "I", .fieldLink RX1 28 "DividendDesk$Holder" "land" "I"] ++ wsX10)
def wsX1_partsOf : List Cond := .code yX1_partsOf cX1_partsOf 2 (some .int) :: ([.fieldLink RX1 9 "DividendDesk$Holder" "memberParts" "[I"] ++ wsX10)
def wsX1_changeParts : List Cond := .code yX1_changeParts cX1_changeParts 3 none :: ([.fieldLink RX1 9 "DividendDesk$Holder" "memberParts" "[I"] ++ wsX10)
def wsX1_partsInAll : List Cond := .code yX1_partsInAll cX1_partsInAll 3 (some .int) :: ([.fieldLink RX1 9 "DividendDesk$Holder" "memberParts" "[I"] ++ wsX10)
def wsX1_hasFormOn : List Cond := .code yX1_hasFormOn cX1_hasFormOn 2 (some .boolean) :: ([.fieldLink RX1 19 "DividendDesk$Holder" "formEnd" "I"] ++ wsX10)
def wsX1_endDay : List Cond := .code yX1_endDay cX1_endDay 2 none :: ([.fieldLink RX1 15 "DividendDesk$Holder" "shares" "I", .constant RX1 31 (100000), .fieldLink RX1 22 "DividendDesk$Holder" "enoughSince" "I"] ++ wsX10)
def wsX1_hasLargeHoldingOn : List Cond := .code yX1_hasLargeHoldingOn cX1_hasLargeHoldingOn 2 (some .boolean) :: ([.fieldLink RX1 25 "DividendDesk$Holder" "kind" "I", .fieldLink RX1 15 "DividendDesk$Holder" "shares" "I", .constant RX1 31 (100000), .fieldLink RX1 22 "DividendDesk$Holder" "enoughSince" "I"] ++ wsX10)
def wsJxa1e45_init_da8c8 : List Cond := .code yJxa1e45_init_da8c8 cJxa1e45_init_da8c8 1 none :: ([.methodLink RJxa1e45 1 objectInit, .instanceMethod objectInit, .code objectInit ⟨#[0xb1]⟩ 1 none])
def wsJxc12de_init_da8c8 : List Cond := .code yJxc12de_init_da8c8 cJxc12de_init_da8c8 1 none :: ([.fieldLink RJxc12de 7 "java/util/AbstractList" "modCount" "I", .methodLink RJxc12de 1 yJxa1e45_init_da8c8, .instanceMethod yJxa1e45_init_da8c8, .initialized RJxa1e45, .code yJxa1e45_init_da8c8 cJxa1e45_init_da8c8 1 none, .methodLink RJxa1e45 1 objectInit, .instanceMethod objectInit, .code objectInit ⟨#[0xb1]⟩ 1 none] ++ wsJx4a65c0)
def wsJx4a65c_init_da8c8 : List Cond := .code yJx4a65c_init_da8c8 cJx4a65c_init_da8c8 1 none :: ([.fieldLink RJx4a65c 39 "java/util/ArrayList" "DEFAULTCAPACITY_EMPTY_ELEMENTDATA" "[Ljava/lang/Object;", .fieldLink RJx4a65c 9 "java/util/ArrayList" "elementData" "[Ljava/lang/Object;", .methodLink RJx4a65c 1 yJxc12de_init_da8c8, .instanceMethod yJxc12de_init_da8c8, .initialized RJxc12de, .code yJxc12de_init_da8c8 cJxc12de_init_da8c8 1 none, .fieldLink RJxc12de 7 "java/util/AbstractList" "modCount" "I", .methodLink RJxc12de 1 yJxa1e45_init_da8c8, .instanceMethod yJxa1e45_init_da8c8, .initialized RJxa1e45, .code yJxa1e45_init_da8c8 cJxa1e45_init_da8c8 1 none, .methodLink RJxa1e45 1 objectInit, .instanceMethod objectInit, .code objectInit ⟨#[0xb1]⟩ 1 none] ++ wsJx4a65c0)
def wsX2_init : List Cond := .code yX2_init cX2_init 2 none :: ([.methodLink RX2 1 objectInit, .instanceMethod objectInit, .code objectInit ⟨#[0xb1]⟩ 1 none, .classLink RX2 7 RJx4a65c, .instantiable RJx4a65c 3, .initialized RJx4a65c, .fieldLink RX2 10 "DividendDesk$Payment" "portions" "Ljava/util/ArrayList;", .fieldLink RX2 16 "DividendDesk$Payment" "heldTax" "I", .fieldLink RX2 20 "DividendDesk$Payment" "amount" "I", .methodLink RX2 9 yJx4a65c_init_da8c8, .instanceMethod yJx4a65c_init_da8c8, .code yJx4a65c_init_da8c8 cJx4a65c_init_da8c8 1 none, .fieldLink RJx4a65c 39 "java/util/ArrayList" "DEFAULTCAPACITY_EMPTY_ELEMENTDATA" "[Ljava/lang/Object;", .fieldLink RJx4a65c 9 "java/util/ArrayList" "elementData" "[Ljava/lang/Object;", .methodLink RJx4a65c 1 yJxc12de_init_da8c8, .instanceMethod yJxc12de_init_da8c8, .initialized RJxc12de, .code yJxc12de_init_da8c8 cJxc12de_init_da8c8 1 none, .fieldLink RJxc12de 7 "java/util/AbstractList" "modCount" "I", .methodLink RJxc12de 1 yJxa1e45_init_da8c8, .instanceMethod yJxa1e45_init_da8c8, .initialized RJxa1e45, .code yJxa1e45_init_da8c8 cJxa1e45_init_da8c8 1 none, .methodLink RJxa1e45 1 objectInit] ++ wsJx4a65c0 ++ wsX20)
def wsJ8_hugeLength_7cf53 : List Cond := .code yJ8_hugeLength_7cf53 cJ8_hugeLength_7cf53 3 (some .int) :: ([.constant RJ8 200 (2147483639)])
def wsJ8_newLength_cabcc : List Cond := .code yJ8_newLength_cabcc cJ8_newLength_cabcc 4 (some .int) :: ([.methodLink RJ8 194 Lib.Math.max.name, .static Lib.Math.max.name, .initialized "java/lang/Math", .code Lib.Math.max.name Lib.Math.max.code 2 (some .int), .constant RJ8 200 (2147483639), .methodLink RJ8 201 yJ8_hugeLength_7cf53, .static yJ8_hugeLength_7cf53, .initialized RJ8, .code yJ8_hugeLength_7cf53 cJ8_hugeLength_7cf53 3 (some .int)])
def wsJ7_copyOf_6403c : List Cond := .code yJ7_copyOf_6403c cJ7_copyOf_6403c 4 (some (.array (.object "java/lang/Object"))) :: ([.classLink RJ7 110 "[Ljava/lang/Object;", .classLink RJ7 2 "java/lang/Object", .methodLink RJ7 304 Lib.Math.min.name, .static Lib.Math.min.name, .initialized "java/lang/Math", .code Lib.Math.min.name Lib.Math.min.code 2 (some .int), .methodLink RJ7 150 arraycopyName, .native arraycopyName, .static arraycopyName, .initialized "java/lang/System"])
def wsJ7_copyOf_1904c : List Cond := .code yJ7_copyOf_1904c cJ7_copyOf_1904c 2 (some (.array (.object "java/lang/Object"))) :: ([.methodLink RJ7 86 ⟨"java/lang/Object", "getClass", "()Ljava/lang/Class;"⟩, .selects "[Ljava/lang/Object;" ⟨"java/lang/Object", "getClass", "()Ljava/lang/Class;"⟩ ⟨"java/lang/Object", "getClass", "()Ljava/lang/Class;"⟩, .instanceMethod ⟨"java/lang/Object", "getClass", "()Ljava/lang/Class;"⟩, .native ⟨"java/lang/Object", "getClass", "()Ljava/lang/Class;"⟩, .methodLink RJ7 300 yJ7_copyOf_6403c, .static yJ7_copyOf_6403c, .initialized RJ7, .code yJ7_copyOf_6403c cJ7_copyOf_6403c 4 (some (.array (.object "java/lang/Object"))), .classLink RJ7 110 "[Ljava/lang/Object;", .classLink RJ7 2 "java/lang/Object", .methodLink RJ7 304 Lib.Math.min.name, .static Lib.Math.min.name, .initialized "java/lang/Math", .code Lib.Math.min.name Lib.Math.min.code 2 (some .int), .methodLink RJ7 150 arraycopyName, .native arraycopyName, .static arraycopyName, .initialized "java/lang/System"])
def wsJx4a65c_grow_92f84_r1 : List Cond := [Cond.fieldLink RJx4a65c 9 "java/util/ArrayList" "elementData" "[Ljava/lang/Object;", Cond.fieldLink RJx4a65c 39 "java/util/ArrayList" "DEFAULTCAPACITY_EMPTY_ELEMENTDATA" "[Ljava/lang/Object;", Cond.methodLink RJx4a65c 79 Lib.Math.max.name, Cond.static Lib.Math.max.name, Cond.initialized "java/lang/Math", Cond.code Lib.Math.max.name Lib.Math.max.code 2 (some .int), Cond.classLink RJx4a65c 7 "java/lang/Object", Cond.methodLink RJx4a65c 73 yJ8_newLength_cabcc, Cond.static yJ8_newLength_cabcc, Cond.initialized RJ8, Cond.code yJ8_newLength_cabcc cJ8_newLength_cabcc 4 (some .int), Cond.methodLink RJ8 194 Lib.Math.max.name, Cond.constant RJ8 200 (2147483639), Cond.methodLink RJ8 201 yJ8_hugeLength_7cf53, Cond.static yJ8_hugeLength_7cf53, Cond.code yJ8_hugeLength_7cf53 cJ8_hugeLength_7cf53 3 (some .int), Cond.methodLink RJx4a65c 66 yJ7_copyOf_1904c, Cond.static yJ7_copyOf_1904c, Cond.initialized RJ7, Cond.code yJ7_copyOf_1904c cJ7_copyOf_1904c 2 (some (.array (.object "java/lang/Object"))), Cond.methodLink RJ7 86 ⟨"java/lang/Object", "getClass", "()Ljava/lang/Class;"⟩, Cond.selects "[Ljava/lang/Object;" ⟨"java/lang/Object", "getClass", "()Ljava/lang/Class;"⟩ ⟨"java/lang/Object", "getClass", "()Ljava/lang/Class;"⟩, Cond.instanceMethod ⟨"java/lang/Object", "getClass", "()Ljava/lang/Class;"⟩, Cond.native ⟨"java/lang/Object", "getClass", "()Ljava/lang/Class;"⟩]
def wsJx4a65c_grow_92f84_r2 : List Cond := [Cond.methodLink RJ7 300 yJ7_copyOf_6403c, Cond.static yJ7_copyOf_6403c, Cond.code yJ7_copyOf_6403c cJ7_copyOf_6403c 4 (some (.array (.object "java/lang/Object"))), Cond.classLink RJ7 110 "[Ljava/lang/Object;", Cond.classLink RJ7 2 "java/lang/Object", Cond.methodLink RJ7 304 Lib.Math.min.name, Cond.static Lib.Math.min.name, Cond.code Lib.Math.min.name Lib.Math.min.code 2 (some .int), Cond.methodLink RJ7 150 arraycopyName, Cond.native arraycopyName, Cond.static arraycopyName, Cond.initialized "java/lang/System"]
def wsJx4a65c_grow_92f84 : List Cond := .code yJx4a65c_grow_92f84 cJx4a65c_grow_92f84 4 (some (.array (.object "java/lang/Object"))) :: ((wsJx4a65c_grow_92f84_r1 ++ wsJx4a65c_grow_92f84_r2) ++ wsJx4a65c0)
def wsJx4a65c_grow_d5877_r1 : List Cond := [Cond.fieldLink RJx4a65c 48 "java/util/ArrayList" "size" "I", Cond.methodLink RJx4a65c 69 yJx4a65c_grow_92f84, Cond.instanceMethod yJx4a65c_grow_92f84, Cond.selects RJx4a65c yJx4a65c_grow_92f84 yJx4a65c_grow_92f84, Cond.initialized RJx4a65c, Cond.code yJx4a65c_grow_92f84 cJx4a65c_grow_92f84 4 (some (.array (.object "java/lang/Object"))), Cond.fieldLink RJx4a65c 9 "java/util/ArrayList" "elementData" "[Ljava/lang/Object;", Cond.fieldLink RJx4a65c 39 "java/util/ArrayList" "DEFAULTCAPACITY_EMPTY_ELEMENTDATA" "[Ljava/lang/Object;", Cond.methodLink RJx4a65c 79 Lib.Math.max.name, Cond.static Lib.Math.max.name, Cond.initialized "java/lang/Math", Cond.code Lib.Math.max.name Lib.Math.max.code 2 (some .int), Cond.classLink RJx4a65c 7 "java/lang/Object", Cond.methodLink RJx4a65c 73 yJ8_newLength_cabcc, Cond.static yJ8_newLength_cabcc, Cond.initialized RJ8, Cond.code yJ8_newLength_cabcc cJ8_newLength_cabcc 4 (some .int), Cond.methodLink RJ8 194 Lib.Math.max.name, Cond.constant RJ8 200 (2147483639), Cond.methodLink RJ8 201 yJ8_hugeLength_7cf53, Cond.static yJ8_hugeLength_7cf53, Cond.code yJ8_hugeLength_7cf53 cJ8_hugeLength_7cf53 3 (some .int), Cond.methodLink RJx4a65c 66 yJ7_copyOf_1904c, Cond.static yJ7_copyOf_1904c]
def wsJx4a65c_grow_d5877_r2 : List Cond := [Cond.initialized RJ7, Cond.code yJ7_copyOf_1904c cJ7_copyOf_1904c 2 (some (.array (.object "java/lang/Object"))), Cond.methodLink RJ7 86 ⟨"java/lang/Object", "getClass", "()Ljava/lang/Class;"⟩, Cond.selects "[Ljava/lang/Object;" ⟨"java/lang/Object", "getClass", "()Ljava/lang/Class;"⟩ ⟨"java/lang/Object", "getClass", "()Ljava/lang/Class;"⟩, Cond.instanceMethod ⟨"java/lang/Object", "getClass", "()Ljava/lang/Class;"⟩, Cond.native ⟨"java/lang/Object", "getClass", "()Ljava/lang/Class;"⟩, Cond.methodLink RJ7 300 yJ7_copyOf_6403c, Cond.static yJ7_copyOf_6403c, Cond.code yJ7_copyOf_6403c cJ7_copyOf_6403c 4 (some (.array (.object "java/lang/Object"))), Cond.classLink RJ7 110 "[Ljava/lang/Object;", Cond.classLink RJ7 2 "java/lang/Object", Cond.methodLink RJ7 304 Lib.Math.min.name, Cond.static Lib.Math.min.name, Cond.code Lib.Math.min.name Lib.Math.min.code 2 (some .int), Cond.methodLink RJ7 150 arraycopyName, Cond.native arraycopyName, Cond.static arraycopyName, Cond.initialized "java/lang/System"]
def wsJx4a65c_grow_d5877 : List Cond := .code yJx4a65c_grow_d5877 cJx4a65c_grow_d5877 1 (some (.array (.object "java/lang/Object"))) :: ((wsJx4a65c_grow_d5877_r1 ++ wsJx4a65c_grow_d5877_r2) ++ wsJx4a65c0)
def wsJx4a65c_add_72be8_r1 : List Cond := [Cond.fieldLink RJx4a65c 48 "java/util/ArrayList" "size" "I", Cond.methodLink RJx4a65c 129 yJx4a65c_grow_d5877, Cond.instanceMethod yJx4a65c_grow_d5877, Cond.selects RJx4a65c yJx4a65c_grow_d5877 yJx4a65c_grow_d5877, Cond.initialized RJx4a65c, Cond.code yJx4a65c_grow_d5877 cJx4a65c_grow_d5877 1 (some (.array (.object "java/lang/Object"))), Cond.methodLink RJx4a65c 69 yJx4a65c_grow_92f84, Cond.instanceMethod yJx4a65c_grow_92f84, Cond.selects RJx4a65c yJx4a65c_grow_92f84 yJx4a65c_grow_92f84, Cond.code yJx4a65c_grow_92f84 cJx4a65c_grow_92f84 4 (some (.array (.object "java/lang/Object"))), Cond.fieldLink RJx4a65c 9 "java/util/ArrayList" "elementData" "[Ljava/lang/Object;", Cond.fieldLink RJx4a65c 39 "java/util/ArrayList" "DEFAULTCAPACITY_EMPTY_ELEMENTDATA" "[Ljava/lang/Object;", Cond.methodLink RJx4a65c 79 Lib.Math.max.name, Cond.static Lib.Math.max.name, Cond.initialized "java/lang/Math", Cond.code Lib.Math.max.name Lib.Math.max.code 2 (some .int), Cond.classLink RJx4a65c 7 "java/lang/Object", Cond.methodLink RJx4a65c 73 yJ8_newLength_cabcc, Cond.static yJ8_newLength_cabcc, Cond.initialized RJ8, Cond.code yJ8_newLength_cabcc cJ8_newLength_cabcc 4 (some .int), Cond.methodLink RJ8 194 Lib.Math.max.name, Cond.constant RJ8 200 (2147483639), Cond.methodLink RJ8 201 yJ8_hugeLength_7cf53]
def wsJx4a65c_add_72be8_r2 : List Cond := [Cond.static yJ8_hugeLength_7cf53, Cond.code yJ8_hugeLength_7cf53 cJ8_hugeLength_7cf53 3 (some .int), Cond.methodLink RJx4a65c 66 yJ7_copyOf_1904c, Cond.static yJ7_copyOf_1904c, Cond.initialized RJ7, Cond.code yJ7_copyOf_1904c cJ7_copyOf_1904c 2 (some (.array (.object "java/lang/Object"))), Cond.methodLink RJ7 86 ⟨"java/lang/Object", "getClass", "()Ljava/lang/Class;"⟩, Cond.selects "[Ljava/lang/Object;" ⟨"java/lang/Object", "getClass", "()Ljava/lang/Class;"⟩ ⟨"java/lang/Object", "getClass", "()Ljava/lang/Class;"⟩, Cond.instanceMethod ⟨"java/lang/Object", "getClass", "()Ljava/lang/Class;"⟩, Cond.native ⟨"java/lang/Object", "getClass", "()Ljava/lang/Class;"⟩, Cond.methodLink RJ7 300 yJ7_copyOf_6403c, Cond.static yJ7_copyOf_6403c, Cond.code yJ7_copyOf_6403c cJ7_copyOf_6403c 4 (some (.array (.object "java/lang/Object"))), Cond.classLink RJ7 110 "[Ljava/lang/Object;", Cond.classLink RJ7 2 "java/lang/Object", Cond.methodLink RJ7 304 Lib.Math.min.name, Cond.static Lib.Math.min.name, Cond.code Lib.Math.min.name Lib.Math.min.code 2 (some .int), Cond.methodLink RJ7 150 arraycopyName, Cond.native arraycopyName, Cond.static arraycopyName, Cond.initialized "java/lang/System"]
def wsJx4a65c_add_72be8 : List Cond := .code yJx4a65c_add_72be8 cJx4a65c_add_72be8 4 none :: ((wsJx4a65c_add_72be8_r1 ++ wsJx4a65c_add_72be8_r2) ++ wsJx4a65c0)
def wsJx4a65c_add_9ea2d_r1 : List Cond := [Cond.fieldLink RJx4a65c 63 "java/util/ArrayList" "modCount" "I", Cond.sameField "java/util/ArrayList" "java/util/AbstractList" "modCount" "I", Cond.fieldLink RJx4a65c 9 "java/util/ArrayList" "elementData" "[Ljava/lang/Object;", Cond.fieldLink RJx4a65c 48 "java/util/ArrayList" "size" "I", Cond.methodLink RJx4a65c 131 yJx4a65c_add_72be8, Cond.instanceMethod yJx4a65c_add_72be8, Cond.selects RJx4a65c yJx4a65c_add_72be8 yJx4a65c_add_72be8, Cond.initialized RJx4a65c, Cond.code yJx4a65c_add_72be8 cJx4a65c_add_72be8 4 none, Cond.methodLink RJx4a65c 129 yJx4a65c_grow_d5877, Cond.instanceMethod yJx4a65c_grow_d5877, Cond.selects RJx4a65c yJx4a65c_grow_d5877 yJx4a65c_grow_d5877, Cond.code yJx4a65c_grow_d5877 cJx4a65c_grow_d5877 1 (some (.array (.object "java/lang/Object"))), Cond.methodLink RJx4a65c 69 yJx4a65c_grow_92f84, Cond.instanceMethod yJx4a65c_grow_92f84, Cond.selects RJx4a65c yJx4a65c_grow_92f84 yJx4a65c_grow_92f84, Cond.code yJx4a65c_grow_92f84 cJx4a65c_grow_92f84 4 (some (.array (.object "java/lang/Object"))), Cond.fieldLink RJx4a65c 39 "java/util/ArrayList" "DEFAULTCAPACITY_EMPTY_ELEMENTDATA" "[Ljava/lang/Object;", Cond.methodLink RJx4a65c 79 Lib.Math.max.name, Cond.static Lib.Math.max.name, Cond.initialized "java/lang/Math", Cond.code Lib.Math.max.name Lib.Math.max.code 2 (some .int), Cond.classLink RJx4a65c 7 "java/lang/Object", Cond.methodLink RJx4a65c 73 yJ8_newLength_cabcc]
def wsJx4a65c_add_9ea2d_r2 : List Cond := [Cond.static yJ8_newLength_cabcc, Cond.initialized RJ8, Cond.code yJ8_newLength_cabcc cJ8_newLength_cabcc 4 (some .int), Cond.methodLink RJ8 194 Lib.Math.max.name, Cond.constant RJ8 200 (2147483639), Cond.methodLink RJ8 201 yJ8_hugeLength_7cf53, Cond.static yJ8_hugeLength_7cf53, Cond.code yJ8_hugeLength_7cf53 cJ8_hugeLength_7cf53 3 (some .int), Cond.methodLink RJx4a65c 66 yJ7_copyOf_1904c, Cond.static yJ7_copyOf_1904c, Cond.initialized RJ7, Cond.code yJ7_copyOf_1904c cJ7_copyOf_1904c 2 (some (.array (.object "java/lang/Object"))), Cond.methodLink RJ7 86 ⟨"java/lang/Object", "getClass", "()Ljava/lang/Class;"⟩, Cond.selects "[Ljava/lang/Object;" ⟨"java/lang/Object", "getClass", "()Ljava/lang/Class;"⟩ ⟨"java/lang/Object", "getClass", "()Ljava/lang/Class;"⟩, Cond.instanceMethod ⟨"java/lang/Object", "getClass", "()Ljava/lang/Class;"⟩, Cond.native ⟨"java/lang/Object", "getClass", "()Ljava/lang/Class;"⟩, Cond.methodLink RJ7 300 yJ7_copyOf_6403c, Cond.static yJ7_copyOf_6403c, Cond.code yJ7_copyOf_6403c cJ7_copyOf_6403c 4 (some (.array (.object "java/lang/Object"))), Cond.classLink RJ7 110 "[Ljava/lang/Object;", Cond.classLink RJ7 2 "java/lang/Object", Cond.methodLink RJ7 304 Lib.Math.min.name, Cond.static Lib.Math.min.name, Cond.code Lib.Math.min.name Lib.Math.min.code 2 (some .int)]
def wsJx4a65c_add_9ea2d_r3 : List Cond := [Cond.methodLink RJ7 150 arraycopyName, Cond.native arraycopyName, Cond.static arraycopyName, Cond.initialized "java/lang/System"]
def wsJx4a65c_add_9ea2d : List Cond := .code yJx4a65c_add_9ea2d cJx4a65c_add_9ea2d 2 (some .boolean) :: ((wsJx4a65c_add_9ea2d_r1 ++ (wsJx4a65c_add_9ea2d_r2 ++ wsJx4a65c_add_9ea2d_r3)) ++ wsJx4a65c0)
def wsX2_add_r1 : List Cond := [Cond.fieldLink RX2 10 "DividendDesk$Payment" "portions" "Ljava/util/ArrayList;", Cond.methodLink RX2 23 yJx4a65c_add_9ea2d, Cond.instanceMethod yJx4a65c_add_9ea2d, Cond.selects RJx4a65c yJx4a65c_add_9ea2d yJx4a65c_add_9ea2d, Cond.initialized RJx4a65c, Cond.code yJx4a65c_add_9ea2d cJx4a65c_add_9ea2d 2 (some .boolean), Cond.fieldLink RJx4a65c 63 "java/util/ArrayList" "modCount" "I", Cond.sameField "java/util/ArrayList" "java/util/AbstractList" "modCount" "I", Cond.fieldLink RJx4a65c 9 "java/util/ArrayList" "elementData" "[Ljava/lang/Object;", Cond.fieldLink RJx4a65c 48 "java/util/ArrayList" "size" "I", Cond.methodLink RJx4a65c 131 yJx4a65c_add_72be8, Cond.instanceMethod yJx4a65c_add_72be8, Cond.selects RJx4a65c yJx4a65c_add_72be8 yJx4a65c_add_72be8, Cond.code yJx4a65c_add_72be8 cJx4a65c_add_72be8 4 none, Cond.methodLink RJx4a65c 129 yJx4a65c_grow_d5877, Cond.instanceMethod yJx4a65c_grow_d5877, Cond.selects RJx4a65c yJx4a65c_grow_d5877 yJx4a65c_grow_d5877, Cond.code yJx4a65c_grow_d5877 cJx4a65c_grow_d5877 1 (some (.array (.object "java/lang/Object"))), Cond.methodLink RJx4a65c 69 yJx4a65c_grow_92f84, Cond.instanceMethod yJx4a65c_grow_92f84, Cond.selects RJx4a65c yJx4a65c_grow_92f84 yJx4a65c_grow_92f84, Cond.code yJx4a65c_grow_92f84 cJx4a65c_grow_92f84 4 (some (.array (.object "java/lang/Object"))), Cond.fieldLink RJx4a65c 39 "java/util/ArrayList" "DEFAULTCAPACITY_EMPTY_ELEMENTDATA" "[Ljava/lang/Object;", Cond.methodLink RJx4a65c 79 Lib.Math.max.name]
def wsX2_add_r2 : List Cond := [Cond.static Lib.Math.max.name, Cond.initialized "java/lang/Math", Cond.code Lib.Math.max.name Lib.Math.max.code 2 (some .int), Cond.classLink RJx4a65c 7 "java/lang/Object", Cond.methodLink RJx4a65c 73 yJ8_newLength_cabcc, Cond.static yJ8_newLength_cabcc, Cond.initialized RJ8, Cond.code yJ8_newLength_cabcc cJ8_newLength_cabcc 4 (some .int), Cond.methodLink RJ8 194 Lib.Math.max.name, Cond.constant RJ8 200 (2147483639), Cond.methodLink RJ8 201 yJ8_hugeLength_7cf53, Cond.static yJ8_hugeLength_7cf53, Cond.code yJ8_hugeLength_7cf53 cJ8_hugeLength_7cf53 3 (some .int), Cond.methodLink RJx4a65c 66 yJ7_copyOf_1904c, Cond.static yJ7_copyOf_1904c, Cond.initialized RJ7, Cond.code yJ7_copyOf_1904c cJ7_copyOf_1904c 2 (some (.array (.object "java/lang/Object"))), Cond.methodLink RJ7 86 ⟨"java/lang/Object", "getClass", "()Ljava/lang/Class;"⟩, Cond.selects "[Ljava/lang/Object;" ⟨"java/lang/Object", "getClass", "()Ljava/lang/Class;"⟩ ⟨"java/lang/Object", "getClass", "()Ljava/lang/Class;"⟩, Cond.instanceMethod ⟨"java/lang/Object", "getClass", "()Ljava/lang/Class;"⟩, Cond.native ⟨"java/lang/Object", "getClass", "()Ljava/lang/Class;"⟩, Cond.methodLink RJ7 300 yJ7_copyOf_6403c, Cond.static yJ7_copyOf_6403c, Cond.code yJ7_copyOf_6403c cJ7_copyOf_6403c 4 (some (.array (.object "java/lang/Object")))]
def wsX2_add_r3 : List Cond := [Cond.classLink RJ7 110 "[Ljava/lang/Object;", Cond.classLink RJ7 2 "java/lang/Object", Cond.methodLink RJ7 304 Lib.Math.min.name, Cond.static Lib.Math.min.name, Cond.code Lib.Math.min.name Lib.Math.min.code 2 (some .int), Cond.methodLink RJ7 150 arraycopyName, Cond.native arraycopyName, Cond.static arraycopyName, Cond.initialized "java/lang/System"]
def wsX2_add : List Cond := .code yX2_add cX2_add 2 none :: ((wsX2_add_r1 ++ (wsX2_add_r2 ++ wsX2_add_r3)) ++ wsX20 ++ wsJx4a65c0)
def wsX2_lowerTo : List Cond := .code yX2_lowerTo cX2_lowerTo 3 (some .int) :: ([.fieldLink RX2 16 "DividendDesk$Payment" "heldTax" "I", .methodLink RX2 41 Lib.Math.max.name, .static Lib.Math.max.name, .initialized "java/lang/Math", .code Lib.Math.max.name Lib.Math.max.code 2 (some .int)] ++ wsX20)
def wsX3_init : List Cond := .code yX3_init cX3_init 4 none :: ([.methodLink RX3 3 objectInit, .instanceMethod objectInit, .code objectInit ⟨#[0xb1]⟩ 1 none, .fieldLink RX3 9 "DividendDesk$Portion" "amount" "I", .fieldLink RX3 15 "DividendDesk$Portion" "rate" "I", .fieldLink RX3 18 "DividendDesk$Portion" "neededForms" "I"] ++ wsX30)
def wsX4_init_r1 : List Cond := [Cond.methodLink RX4 1 objectInit, Cond.instanceMethod objectInit, Cond.code objectInit ⟨#[0xb1]⟩ 1 none, Cond.arrayClass .int, Cond.fieldLink RX4 9 "DividendDesk" "generalRates" "[I", Cond.fieldLink RX4 13 "DividendDesk" "largeRates" "[I", Cond.classLink RX4 16 RJx4a65c, Cond.instantiable RJx4a65c 3, Cond.initialized RJx4a65c, Cond.fieldLink RX4 19 "DividendDesk" "holders" "Ljava/util/ArrayList;", Cond.fieldLink RX4 23 "DividendDesk" "paidDividends" "Ljava/util/ArrayList;", Cond.fieldLink RX4 26 "DividendDesk" "today" "I", Cond.fieldLink RX4 30 "DividendDesk" "refundedInAll" "J", Cond.methodLink RX4 18 yJx4a65c_init_da8c8, Cond.instanceMethod yJx4a65c_init_da8c8, Cond.code yJx4a65c_init_da8c8 cJx4a65c_init_da8c8 1 none, Cond.fieldLink RJx4a65c 39 "java/util/ArrayList" "DEFAULTCAPACITY_EMPTY_ELEMENTDATA" "[Ljava/lang/Object;", Cond.fieldLink RJx4a65c 9 "java/util/ArrayList" "elementData" "[Ljava/lang/Object;", Cond.methodLink RJx4a65c 1 yJxc12de_init_da8c8, Cond.instanceMethod yJxc12de_init_da8c8, Cond.initialized RJxc12de, Cond.code yJxc12de_init_da8c8 cJxc12de_init_da8c8 1 none, Cond.fieldLink RJxc12de 7 "java/util/AbstractList" "modCount" "I", Cond.methodLink RJxc12de 1 yJxa1e45_init_da8c8]
def wsX4_init_r2 : List Cond := [Cond.instanceMethod yJxa1e45_init_da8c8, Cond.initialized RJxa1e45, Cond.code yJxa1e45_init_da8c8 cJxa1e45_init_da8c8 1 none, Cond.methodLink RJxa1e45 1 objectInit]
def wsX4_init : List Cond := .code yX4_init cX4_init 2 none :: ((wsX4_init_r1 ++ wsX4_init_r2) ++ wsX40 ++ wsJx4a65c0)
def wsX4_isWithin : List Cond := .code yX4_isWithin cX4_isWithin 3 (some .boolean) :: ([])
def wsX4_isLand : List Cond := .code yX4_isLand cX4_isLand 1 (some .boolean) :: ([.methodLink RX4 38 yX4_isWithin, .static yX4_isWithin, .initialized RX4, .code yX4_isWithin cX4_isWithin 3 (some .boolean)])
def wsX4_setTreaty : List Cond := .code yX4_setTreaty cX4_setTreaty 5 (some .int) :: ([.classLink RX4 42 "java/lang/IllegalArgumentException", .initialized "java/lang/IllegalArgumentException", .fieldLink RX4 9 "DividendDesk" "generalRates" "[I", .fieldLink RX4 13 "DividendDesk" "largeRates" "[I", .methodLink RX4 34 yX4_isLand, .static yX4_isLand, .initialized RX4, .code yX4_isLand cX4_isLand 1 (some .boolean), .methodLink RX4 38 yX4_isWithin, .static yX4_isWithin, .code yX4_isWithin cX4_isWithin 3 (some .boolean)] ++ wsX40 ++ (vx_atS RX4 46 "java/lang/IllegalArgumentException" ["java/lang/RuntimeException", "java/lang/Exception"]).filter goodWord)
def wsX4_addHolder_r1 : List Cond := [Cond.classLink RX4 42 "java/lang/IllegalArgumentException", Cond.initialized "java/lang/IllegalArgumentException", Cond.classLink RX4 57 "java/lang/IllegalStateException", Cond.initialized "java/lang/IllegalStateException", Cond.fieldLink RX4 19 "DividendDesk" "holders" "Ljava/util/ArrayList;", Cond.classLink RX4 62 RX1, Cond.instantiable RX1 6, Cond.initialized RX1, Cond.methodLink RX4 38 yX4_isWithin, Cond.static yX4_isWithin, Cond.initialized RX4, Cond.code yX4_isWithin cX4_isWithin 3 (some .boolean), Cond.methodLink RX4 34 yX4_isLand, Cond.static yX4_isLand, Cond.code yX4_isLand cX4_isLand 1 (some .boolean), Cond.methodLink RX4 53 yJx4a65c_size_8abf5, Cond.instanceMethod yJx4a65c_size_8abf5, Cond.selects RJx4a65c yJx4a65c_size_8abf5 yJx4a65c_size_8abf5, Cond.initialized RJx4a65c, Cond.code yJx4a65c_size_8abf5 cJx4a65c_size_8abf5 1 (some .int), Cond.fieldLink RJx4a65c 48 "java/util/ArrayList" "size" "I", Cond.instanceMethod yX1_init, Cond.code yX1_init cX1_init 3 none, Cond.methodLink RX1 3 objectInit]
def wsX4_addHolder_r2 : List Cond := [Cond.instanceMethod objectInit, Cond.code objectInit ⟨#[0xb1]⟩ 1 none, Cond.arrayClass .int, Cond.fieldLink RX1 9 "DividendDesk$Holder" "memberParts" "[I", Cond.fieldLink RX1 15 "DividendDesk$Holder" "shares" "I", Cond.fieldLink RX1 19 "DividendDesk$Holder" "formEnd" "I", Cond.fieldLink RX1 22 "DividendDesk$Holder" "enoughSince" "I", Cond.fieldLink RX1 25 "DividendDesk$Holder" "kind" "I", Cond.fieldLink RX1 28 "DividendDesk$Holder" "land" "I", Cond.methodLink RX4 67 yJx4a65c_add_9ea2d, Cond.instanceMethod yJx4a65c_add_9ea2d, Cond.selects RJx4a65c yJx4a65c_add_9ea2d yJx4a65c_add_9ea2d, Cond.code yJx4a65c_add_9ea2d cJx4a65c_add_9ea2d 2 (some .boolean), Cond.fieldLink RJx4a65c 63 "java/util/ArrayList" "modCount" "I", Cond.sameField "java/util/ArrayList" "java/util/AbstractList" "modCount" "I", Cond.fieldLink RJx4a65c 9 "java/util/ArrayList" "elementData" "[Ljava/lang/Object;", Cond.methodLink RJx4a65c 131 yJx4a65c_add_72be8, Cond.instanceMethod yJx4a65c_add_72be8, Cond.selects RJx4a65c yJx4a65c_add_72be8 yJx4a65c_add_72be8, Cond.code yJx4a65c_add_72be8 cJx4a65c_add_72be8 4 none, Cond.methodLink RJx4a65c 129 yJx4a65c_grow_d5877, Cond.instanceMethod yJx4a65c_grow_d5877, Cond.selects RJx4a65c yJx4a65c_grow_d5877 yJx4a65c_grow_d5877, Cond.code yJx4a65c_grow_d5877 cJx4a65c_grow_d5877 1 (some (.array (.object "java/lang/Object")))]
def wsX4_addHolder_r3 : List Cond := [Cond.methodLink RJx4a65c 69 yJx4a65c_grow_92f84, Cond.instanceMethod yJx4a65c_grow_92f84, Cond.selects RJx4a65c yJx4a65c_grow_92f84 yJx4a65c_grow_92f84, Cond.code yJx4a65c_grow_92f84 cJx4a65c_grow_92f84 4 (some (.array (.object "java/lang/Object"))), Cond.fieldLink RJx4a65c 39 "java/util/ArrayList" "DEFAULTCAPACITY_EMPTY_ELEMENTDATA" "[Ljava/lang/Object;", Cond.methodLink RJx4a65c 79 Lib.Math.max.name, Cond.static Lib.Math.max.name, Cond.initialized "java/lang/Math", Cond.code Lib.Math.max.name Lib.Math.max.code 2 (some .int), Cond.classLink RJx4a65c 7 "java/lang/Object", Cond.methodLink RJx4a65c 73 yJ8_newLength_cabcc, Cond.static yJ8_newLength_cabcc, Cond.initialized RJ8, Cond.code yJ8_newLength_cabcc cJ8_newLength_cabcc 4 (some .int), Cond.methodLink RJ8 194 Lib.Math.max.name, Cond.constant RJ8 200 (2147483639), Cond.methodLink RJ8 201 yJ8_hugeLength_7cf53, Cond.static yJ8_hugeLength_7cf53, Cond.code yJ8_hugeLength_7cf53 cJ8_hugeLength_7cf53 3 (some .int), Cond.methodLink RJx4a65c 66 yJ7_copyOf_1904c, Cond.static yJ7_copyOf_1904c, Cond.initialized RJ7, Cond.code yJ7_copyOf_1904c cJ7_copyOf_1904c 2 (some (.array (.object "java/lang/Object"))), Cond.methodLink RJ7 86 ⟨"java/lang/Object", "getClass", "()Ljava/lang/Class;"⟩]
def wsX4_addHolder_r4 : List Cond := [Cond.selects "[Ljava/lang/Object;" ⟨"java/lang/Object", "getClass", "()Ljava/lang/Class;"⟩ ⟨"java/lang/Object", "getClass", "()Ljava/lang/Class;"⟩, Cond.instanceMethod ⟨"java/lang/Object", "getClass", "()Ljava/lang/Class;"⟩, Cond.native ⟨"java/lang/Object", "getClass", "()Ljava/lang/Class;"⟩, Cond.methodLink RJ7 300 yJ7_copyOf_6403c, Cond.static yJ7_copyOf_6403c, Cond.code yJ7_copyOf_6403c cJ7_copyOf_6403c 4 (some (.array (.object "java/lang/Object"))), Cond.classLink RJ7 110 "[Ljava/lang/Object;", Cond.classLink RJ7 2 "java/lang/Object", Cond.methodLink RJ7 304 Lib.Math.min.name, Cond.static Lib.Math.min.name, Cond.code Lib.Math.min.name Lib.Math.min.code 2 (some .int), Cond.methodLink RJ7 150 arraycopyName, Cond.native arraycopyName, Cond.static arraycopyName, Cond.initialized "java/lang/System"]
def wsX4_addHolder : List Cond := .code yX4_addHolder cX4_addHolder 3 (some .int) :: ((wsX4_addHolder_r1 ++ (wsX4_addHolder_r2 ++ (wsX4_addHolder_r3 ++ wsX4_addHolder_r4))) ++ wsX40 ++ wsX10 ++ wsJx4a65c0 ++ (vx_atS RX4 46 "java/lang/IllegalArgumentException" ["java/lang/RuntimeException", "java/lang/Exception"]).filter goodWord ++ (vx_atS RX4 61 "java/lang/IllegalStateException" ["java/lang/RuntimeException", "java/lang/Exception"]).filter goodWord)
def wsX4_isHolder : List Cond := .code yX4_isHolder cX4_isHolder 2 (some .boolean) :: ([.fieldLink RX4 19 "DividendDesk" "holders" "Ljava/util/ArrayList;", .methodLink RX4 53 yJx4a65c_size_8abf5, .instanceMethod yJx4a65c_size_8abf5, .selects RJx4a65c yJx4a65c_size_8abf5 yJx4a65c_size_8abf5, .initialized RJx4a65c, .code yJx4a65c_size_8abf5 cJx4a65c_size_8abf5 1 (some .int), .fieldLink RJx4a65c 48 "java/util/ArrayList" "size" "I", .methodLink RX4 38 yX4_isWithin, .static yX4_isWithin, .initialized RX4, .code yX4_isWithin cX4_isWithin 3 (some .boolean)] ++ wsX40 ++ wsJx4a65c0)
def wsX4_holderAt_r1 : List Cond := [Cond.classLink RX4 182 "java/lang/IndexOutOfBoundsException", Cond.initialized "java/lang/IndexOutOfBoundsException", Cond.fieldLink RX4 19 "DividendDesk" "holders" "Ljava/util/ArrayList;", Cond.classLink RX4 62 "DividendDesk$Holder", Cond.methodLink RX4 179 yX4_isHolder, Cond.instanceMethod yX4_isHolder, Cond.selects RX4 yX4_isHolder yX4_isHolder, Cond.initialized RX4, Cond.code yX4_isHolder cX4_isHolder 2 (some .boolean), Cond.methodLink RX4 53 yJx4a65c_size_8abf5, Cond.instanceMethod yJx4a65c_size_8abf5, Cond.selects RJx4a65c yJx4a65c_size_8abf5 yJx4a65c_size_8abf5, Cond.initialized RJx4a65c, Cond.code yJx4a65c_size_8abf5 cJx4a65c_size_8abf5 1 (some .int), Cond.fieldLink RJx4a65c 48 "java/util/ArrayList" "size" "I", Cond.methodLink RX4 38 yX4_isWithin, Cond.static yX4_isWithin, Cond.code yX4_isWithin cX4_isWithin 3 (some .boolean), Cond.methodLink RX4 105 yJx4a65c_get_915e3, Cond.instanceMethod yJx4a65c_get_915e3, Cond.selects RJx4a65c yJx4a65c_get_915e3 yJx4a65c_get_915e3, Cond.code yJx4a65c_get_915e3 cJx4a65c_get_915e3 2 (some (.object "java/lang/Object")), Cond.methodLink RJx4a65c 118 yJ15_checkIndex_7cf53, Cond.static yJ15_checkIndex_7cf53]
def wsX4_holderAt_r2 : List Cond := [Cond.initialized RJ15, Cond.code yJ15_checkIndex_7cf53 cJ15_checkIndex_7cf53 2 (some .int), Cond.methodLink RJ15 105 yJ3_checkIndex_8e157, Cond.static yJ3_checkIndex_8e157, Cond.initialized RJ3, Cond.code yJ3_checkIndex_8e157 cJ3_checkIndex_8e157 3 (some .int), Cond.methodLink RJx4a65c 123 yJx4a65c_elementData_915e3, Cond.instanceMethod yJx4a65c_elementData_915e3, Cond.selects RJx4a65c yJx4a65c_elementData_915e3 yJx4a65c_elementData_915e3, Cond.code yJx4a65c_elementData_915e3 cJx4a65c_elementData_915e3 2 (some (.object "java/lang/Object")), Cond.fieldLink RJx4a65c 9 "java/util/ArrayList" "elementData" "[Ljava/lang/Object;"]
def wsX4_holderAt : List Cond := .code yX4_holderAt cX4_holderAt 2 (some (.object "DividendDesk$Holder")) :: ((wsX4_holderAt_r1 ++ wsX4_holderAt_r2) ++ wsX40 ++ wsJx4a65c0 ++ (vx_atS RX4 186 "java/lang/IndexOutOfBoundsException" ["java/lang/RuntimeException", "java/lang/Exception"]).filter goodWord)
def wsX4_setParts_r1 : List Cond := [Cond.classLink RX4 42 "java/lang/IllegalArgumentException", Cond.initialized "java/lang/IllegalArgumentException", Cond.methodLink RX4 71 yX4_holderAt, Cond.instanceMethod yX4_holderAt, Cond.selects RX4 yX4_holderAt yX4_holderAt, Cond.initialized RX4, Cond.code yX4_holderAt cX4_holderAt 2 (some (.object "DividendDesk$Holder")), Cond.classLink RX4 182 "java/lang/IndexOutOfBoundsException", Cond.initialized "java/lang/IndexOutOfBoundsException", Cond.fieldLink RX4 19 "DividendDesk" "holders" "Ljava/util/ArrayList;", Cond.classLink RX4 62 "DividendDesk$Holder", Cond.methodLink RX4 179 yX4_isHolder, Cond.instanceMethod yX4_isHolder, Cond.selects RX4 yX4_isHolder yX4_isHolder, Cond.code yX4_isHolder cX4_isHolder 2 (some .boolean), Cond.methodLink RX4 53 yJx4a65c_size_8abf5, Cond.instanceMethod yJx4a65c_size_8abf5, Cond.selects RJx4a65c yJx4a65c_size_8abf5 yJx4a65c_size_8abf5, Cond.initialized RJx4a65c, Cond.code yJx4a65c_size_8abf5 cJx4a65c_size_8abf5 1 (some .int), Cond.fieldLink RJx4a65c 48 "java/util/ArrayList" "size" "I", Cond.methodLink RX4 38 yX4_isWithin, Cond.static yX4_isWithin, Cond.code yX4_isWithin cX4_isWithin 3 (some .boolean)]
def wsX4_setParts_r2 : List Cond := [Cond.methodLink RX4 105 yJx4a65c_get_915e3, Cond.instanceMethod yJx4a65c_get_915e3, Cond.selects RJx4a65c yJx4a65c_get_915e3 yJx4a65c_get_915e3, Cond.code yJx4a65c_get_915e3 cJx4a65c_get_915e3 2 (some (.object "java/lang/Object")), Cond.methodLink RJx4a65c 118 yJ15_checkIndex_7cf53, Cond.static yJ15_checkIndex_7cf53, Cond.initialized RJ15, Cond.code yJ15_checkIndex_7cf53 cJ15_checkIndex_7cf53 2 (some .int), Cond.methodLink RJ15 105 yJ3_checkIndex_8e157, Cond.static yJ3_checkIndex_8e157, Cond.initialized RJ3, Cond.code yJ3_checkIndex_8e157 cJ3_checkIndex_8e157 3 (some .int), Cond.methodLink RJx4a65c 123 yJx4a65c_elementData_915e3, Cond.instanceMethod yJx4a65c_elementData_915e3, Cond.selects RJx4a65c yJx4a65c_elementData_915e3 yJx4a65c_elementData_915e3, Cond.code yJx4a65c_elementData_915e3 cJx4a65c_elementData_915e3 2 (some (.object "java/lang/Object")), Cond.fieldLink RJx4a65c 9 "java/util/ArrayList" "elementData" "[Ljava/lang/Object;", Cond.instanceMethod yX1_partsOf, Cond.initialized RX1, Cond.selects RX1 yX1_partsOf yX1_partsOf, Cond.code yX1_partsOf cX1_partsOf 2 (some .int), Cond.fieldLink RX1 9 "DividendDesk$Holder" "memberParts" "[I", Cond.instanceMethod yX1_changeParts, Cond.selects RX1 yX1_changeParts yX1_changeParts]
def wsX4_setParts_r3 : List Cond := [Cond.code yX1_changeParts cX1_changeParts 3 none]
def wsX4_setParts : List Cond := .code yX4_setParts cX4_setParts 7 (some .int) :: ((wsX4_setParts_r1 ++ (wsX4_setParts_r2 ++ wsX4_setParts_r3)) ++ wsX10 ++ wsX40 ++ wsJx4a65c0 ++ (vx_atS RX4 46 "java/lang/IllegalArgumentException" ["java/lang/RuntimeException", "java/lang/Exception"]).filter goodWord ++ (vx_atS RX4 186 "java/lang/IndexOutOfBoundsException" ["java/lang/RuntimeException", "java/lang/Exception"]).filter goodWord)
def wsX4_sharesInAll_r1 : List Cond := [Cond.fieldLink RX4 19 "DividendDesk" "holders" "Ljava/util/ArrayList;", Cond.classLink RX4 62 "DividendDesk$Holder", Cond.methodLink RX4 53 yJx4a65c_size_8abf5, Cond.instanceMethod yJx4a65c_size_8abf5, Cond.selects RJx4a65c yJx4a65c_size_8abf5 yJx4a65c_size_8abf5, Cond.initialized RJx4a65c, Cond.code yJx4a65c_size_8abf5 cJx4a65c_size_8abf5 1 (some .int), Cond.fieldLink RJx4a65c 48 "java/util/ArrayList" "size" "I", Cond.methodLink RX4 105 yJx4a65c_get_915e3, Cond.instanceMethod yJx4a65c_get_915e3, Cond.selects RJx4a65c yJx4a65c_get_915e3 yJx4a65c_get_915e3, Cond.code yJx4a65c_get_915e3 cJx4a65c_get_915e3 2 (some (.object "java/lang/Object")), Cond.methodLink RJx4a65c 118 yJ15_checkIndex_7cf53, Cond.static yJ15_checkIndex_7cf53, Cond.initialized RJ15, Cond.code yJ15_checkIndex_7cf53 cJ15_checkIndex_7cf53 2 (some .int), Cond.methodLink RJ15 105 yJ3_checkIndex_8e157, Cond.static yJ3_checkIndex_8e157, Cond.initialized RJ3, Cond.code yJ3_checkIndex_8e157 cJ3_checkIndex_8e157 3 (some .int), Cond.methodLink RJx4a65c 123 yJx4a65c_elementData_915e3, Cond.instanceMethod yJx4a65c_elementData_915e3, Cond.selects RJx4a65c yJx4a65c_elementData_915e3 yJx4a65c_elementData_915e3, Cond.code yJx4a65c_elementData_915e3 cJx4a65c_elementData_915e3 2 (some (.object "java/lang/Object"))]
def wsX4_sharesInAll_r2 : List Cond := [Cond.fieldLink RJx4a65c 9 "java/util/ArrayList" "elementData" "[Ljava/lang/Object;"]
def wsX4_sharesInAll : List Cond := .code yX4_sharesInAll cX4_sharesInAll 3 (some .int) :: ((wsX4_sharesInAll_r1 ++ wsX4_sharesInAll_r2) ++ wsX40 ++ wsX10 ++ wsJx4a65c0)
def wsX4_setShares_r1 : List Cond := [Cond.classLink RX4 42 "java/lang/IllegalArgumentException", Cond.initialized "java/lang/IllegalArgumentException", Cond.classLink RX4 57 "java/lang/IllegalStateException", Cond.initialized "java/lang/IllegalStateException", Cond.constant RX4 87 (1000000), Cond.methodLink RX4 71 yX4_holderAt, Cond.instanceMethod yX4_holderAt, Cond.selects RX4 yX4_holderAt yX4_holderAt, Cond.initialized RX4, Cond.code yX4_holderAt cX4_holderAt 2 (some (.object "DividendDesk$Holder")), Cond.classLink RX4 182 "java/lang/IndexOutOfBoundsException", Cond.initialized "java/lang/IndexOutOfBoundsException", Cond.fieldLink RX4 19 "DividendDesk" "holders" "Ljava/util/ArrayList;", Cond.classLink RX4 62 "DividendDesk$Holder", Cond.methodLink RX4 179 yX4_isHolder, Cond.instanceMethod yX4_isHolder, Cond.selects RX4 yX4_isHolder yX4_isHolder, Cond.code yX4_isHolder cX4_isHolder 2 (some .boolean), Cond.methodLink RX4 53 yJx4a65c_size_8abf5, Cond.instanceMethod yJx4a65c_size_8abf5, Cond.selects RJx4a65c yJx4a65c_size_8abf5 yJx4a65c_size_8abf5, Cond.initialized RJx4a65c, Cond.code yJx4a65c_size_8abf5 cJx4a65c_size_8abf5 1 (some .int), Cond.fieldLink RJx4a65c 48 "java/util/ArrayList" "size" "I"]
def wsX4_setShares_r2 : List Cond := [Cond.methodLink RX4 38 yX4_isWithin, Cond.static yX4_isWithin, Cond.code yX4_isWithin cX4_isWithin 3 (some .boolean), Cond.methodLink RX4 105 yJx4a65c_get_915e3, Cond.instanceMethod yJx4a65c_get_915e3, Cond.selects RJx4a65c yJx4a65c_get_915e3 yJx4a65c_get_915e3, Cond.code yJx4a65c_get_915e3 cJx4a65c_get_915e3 2 (some (.object "java/lang/Object")), Cond.methodLink RJx4a65c 118 yJ15_checkIndex_7cf53, Cond.static yJ15_checkIndex_7cf53, Cond.initialized RJ15, Cond.code yJ15_checkIndex_7cf53 cJ15_checkIndex_7cf53 2 (some .int), Cond.methodLink RJ15 105 yJ3_checkIndex_8e157, Cond.static yJ3_checkIndex_8e157, Cond.initialized RJ3, Cond.code yJ3_checkIndex_8e157 cJ3_checkIndex_8e157 3 (some .int), Cond.methodLink RJx4a65c 123 yJx4a65c_elementData_915e3, Cond.instanceMethod yJx4a65c_elementData_915e3, Cond.selects RJx4a65c yJx4a65c_elementData_915e3 yJx4a65c_elementData_915e3, Cond.code yJx4a65c_elementData_915e3 cJx4a65c_elementData_915e3 2 (some (.object "java/lang/Object")), Cond.fieldLink RJx4a65c 9 "java/util/ArrayList" "elementData" "[Ljava/lang/Object;", Cond.methodLink RX4 93 yX4_sharesInAll, Cond.instanceMethod yX4_sharesInAll, Cond.selects RX4 yX4_sharesInAll yX4_sharesInAll, Cond.code yX4_sharesInAll cX4_sharesInAll 3 (some .int)]
def wsX4_setShares : List Cond := .code yX4_setShares cX4_setShares 5 (some .int) :: ((wsX4_setShares_r1 ++ wsX4_setShares_r2) ++ wsX10 ++ wsX40 ++ wsJx4a65c0 ++ (vx_atS RX4 46 "java/lang/IllegalArgumentException" ["java/lang/RuntimeException", "java/lang/Exception"]).filter goodWord ++ (vx_atS RX4 61 "java/lang/IllegalStateException" ["java/lang/RuntimeException", "java/lang/Exception"]).filter goodWord ++ (vx_atS RX4 186 "java/lang/IndexOutOfBoundsException" ["java/lang/RuntimeException", "java/lang/Exception"]).filter goodWord)
def wsX4_giveForm_r1 : List Cond := [Cond.fieldLink RX4 26 "DividendDesk" "today" "I", Cond.methodLink RX4 71 yX4_holderAt, Cond.instanceMethod yX4_holderAt, Cond.selects RX4 yX4_holderAt yX4_holderAt, Cond.initialized RX4, Cond.code yX4_holderAt cX4_holderAt 2 (some (.object "DividendDesk$Holder")), Cond.classLink RX4 182 "java/lang/IndexOutOfBoundsException", Cond.initialized "java/lang/IndexOutOfBoundsException", Cond.fieldLink RX4 19 "DividendDesk" "holders" "Ljava/util/ArrayList;", Cond.classLink RX4 62 "DividendDesk$Holder", Cond.methodLink RX4 179 yX4_isHolder, Cond.instanceMethod yX4_isHolder, Cond.selects RX4 yX4_isHolder yX4_isHolder, Cond.code yX4_isHolder cX4_isHolder 2 (some .boolean), Cond.methodLink RX4 53 yJx4a65c_size_8abf5, Cond.instanceMethod yJx4a65c_size_8abf5, Cond.selects RJx4a65c yJx4a65c_size_8abf5 yJx4a65c_size_8abf5, Cond.initialized RJx4a65c, Cond.code yJx4a65c_size_8abf5 cJx4a65c_size_8abf5 1 (some .int), Cond.fieldLink RJx4a65c 48 "java/util/ArrayList" "size" "I", Cond.methodLink RX4 38 yX4_isWithin, Cond.static yX4_isWithin, Cond.code yX4_isWithin cX4_isWithin 3 (some .boolean), Cond.methodLink RX4 105 yJx4a65c_get_915e3]
def wsX4_giveForm_r2 : List Cond := [Cond.instanceMethod yJx4a65c_get_915e3, Cond.selects RJx4a65c yJx4a65c_get_915e3 yJx4a65c_get_915e3, Cond.code yJx4a65c_get_915e3 cJx4a65c_get_915e3 2 (some (.object "java/lang/Object")), Cond.methodLink RJx4a65c 118 yJ15_checkIndex_7cf53, Cond.static yJ15_checkIndex_7cf53, Cond.initialized RJ15, Cond.code yJ15_checkIndex_7cf53 cJ15_checkIndex_7cf53 2 (some .int), Cond.methodLink RJ15 105 yJ3_checkIndex_8e157, Cond.static yJ3_checkIndex_8e157, Cond.initialized RJ3, Cond.code yJ3_checkIndex_8e157 cJ3_checkIndex_8e157 3 (some .int), Cond.methodLink RJx4a65c 123 yJx4a65c_elementData_915e3, Cond.instanceMethod yJx4a65c_elementData_915e3, Cond.selects RJx4a65c yJx4a65c_elementData_915e3 yJx4a65c_elementData_915e3, Cond.code yJx4a65c_elementData_915e3 cJx4a65c_elementData_915e3 2 (some (.object "java/lang/Object")), Cond.fieldLink RJx4a65c 9 "java/util/ArrayList" "elementData" "[Ljava/lang/Object;"]
def wsX4_giveForm : List Cond := .code yX4_giveForm cX4_giveForm 3 (some .int) :: ((wsX4_giveForm_r1 ++ wsX4_giveForm_r2) ++ wsX40 ++ wsX10 ++ wsJx4a65c0 ++ (vx_atS RX4 186 "java/lang/IndexOutOfBoundsException" ["java/lang/RuntimeException", "java/lang/Exception"]).filter goodWord)
def wsX4_pass_r1 : List Cond := [Cond.classLink RX4 42 "java/lang/IllegalArgumentException", Cond.initialized "java/lang/IllegalArgumentException", Cond.classLink RX4 57 "java/lang/IllegalStateException", Cond.initialized "java/lang/IllegalStateException", Cond.fieldLink RX4 26 "DividendDesk" "today" "I", Cond.fieldLink RX4 19 "DividendDesk" "holders" "Ljava/util/ArrayList;", Cond.classLink RX4 62 "DividendDesk$Holder", Cond.methodLink RX4 38 yX4_isWithin, Cond.static yX4_isWithin, Cond.initialized RX4, Cond.code yX4_isWithin cX4_isWithin 3 (some .boolean), Cond.methodLink RX4 53 yJx4a65c_size_8abf5, Cond.instanceMethod yJx4a65c_size_8abf5, Cond.selects RJx4a65c yJx4a65c_size_8abf5 yJx4a65c_size_8abf5, Cond.initialized RJx4a65c, Cond.code yJx4a65c_size_8abf5 cJx4a65c_size_8abf5 1 (some .int), Cond.fieldLink RJx4a65c 48 "java/util/ArrayList" "size" "I", Cond.methodLink RX4 105 yJx4a65c_get_915e3, Cond.instanceMethod yJx4a65c_get_915e3, Cond.selects RJx4a65c yJx4a65c_get_915e3 yJx4a65c_get_915e3, Cond.code yJx4a65c_get_915e3 cJx4a65c_get_915e3 2 (some (.object "java/lang/Object")), Cond.methodLink RJx4a65c 118 yJ15_checkIndex_7cf53, Cond.static yJ15_checkIndex_7cf53, Cond.initialized RJ15]
def wsX4_pass_r2 : List Cond := [Cond.code yJ15_checkIndex_7cf53 cJ15_checkIndex_7cf53 2 (some .int), Cond.methodLink RJ15 105 yJ3_checkIndex_8e157, Cond.static yJ3_checkIndex_8e157, Cond.initialized RJ3, Cond.code yJ3_checkIndex_8e157 cJ3_checkIndex_8e157 3 (some .int), Cond.methodLink RJx4a65c 123 yJx4a65c_elementData_915e3, Cond.instanceMethod yJx4a65c_elementData_915e3, Cond.selects RJx4a65c yJx4a65c_elementData_915e3 yJx4a65c_elementData_915e3, Cond.code yJx4a65c_elementData_915e3 cJx4a65c_elementData_915e3 2 (some (.object "java/lang/Object")), Cond.fieldLink RJx4a65c 9 "java/util/ArrayList" "elementData" "[Ljava/lang/Object;", Cond.instanceMethod yX1_endDay, Cond.initialized RX1, Cond.selects RX1 yX1_endDay yX1_endDay, Cond.code yX1_endDay cX1_endDay 2 none, Cond.fieldLink RX1 15 "DividendDesk$Holder" "shares" "I", Cond.constant RX1 31 (100000), Cond.fieldLink RX1 22 "DividendDesk$Holder" "enoughSince" "I"]
def wsX4_pass : List Cond := .code yX4_pass cX4_pass 3 (some .int) :: ((wsX4_pass_r1 ++ wsX4_pass_r2) ++ wsX40 ++ wsJx4a65c0 ++ wsX10 ++ (vx_atS RX4 46 "java/lang/IllegalArgumentException" ["java/lang/RuntimeException", "java/lang/Exception"]).filter goodWord ++ (vx_atS RX4 61 "java/lang/IllegalStateException" ["java/lang/RuntimeException", "java/lang/Exception"]).filter goodWord)
def wsX4_day : List Cond := .code yX4_day cX4_day 1 (some .int) :: ([.fieldLink RX4 26 "DividendDesk" "today" "I"] ++ wsX40)
def wsX4_shares_r1 : List Cond := [Cond.methodLink RX4 71 yX4_holderAt, Cond.instanceMethod yX4_holderAt, Cond.selects RX4 yX4_holderAt yX4_holderAt, Cond.initialized RX4, Cond.code yX4_holderAt cX4_holderAt 2 (some (.object "DividendDesk$Holder")), Cond.classLink RX4 182 "java/lang/IndexOutOfBoundsException", Cond.initialized "java/lang/IndexOutOfBoundsException", Cond.fieldLink RX4 19 "DividendDesk" "holders" "Ljava/util/ArrayList;", Cond.classLink RX4 62 "DividendDesk$Holder", Cond.methodLink RX4 179 yX4_isHolder, Cond.instanceMethod yX4_isHolder, Cond.selects RX4 yX4_isHolder yX4_isHolder, Cond.code yX4_isHolder cX4_isHolder 2 (some .boolean), Cond.methodLink RX4 53 yJx4a65c_size_8abf5, Cond.instanceMethod yJx4a65c_size_8abf5, Cond.selects RJx4a65c yJx4a65c_size_8abf5 yJx4a65c_size_8abf5, Cond.initialized RJx4a65c, Cond.code yJx4a65c_size_8abf5 cJx4a65c_size_8abf5 1 (some .int), Cond.fieldLink RJx4a65c 48 "java/util/ArrayList" "size" "I", Cond.methodLink RX4 38 yX4_isWithin, Cond.static yX4_isWithin, Cond.code yX4_isWithin cX4_isWithin 3 (some .boolean), Cond.methodLink RX4 105 yJx4a65c_get_915e3, Cond.instanceMethod yJx4a65c_get_915e3]
def wsX4_shares_r2 : List Cond := [Cond.selects RJx4a65c yJx4a65c_get_915e3 yJx4a65c_get_915e3, Cond.code yJx4a65c_get_915e3 cJx4a65c_get_915e3 2 (some (.object "java/lang/Object")), Cond.methodLink RJx4a65c 118 yJ15_checkIndex_7cf53, Cond.static yJ15_checkIndex_7cf53, Cond.initialized RJ15, Cond.code yJ15_checkIndex_7cf53 cJ15_checkIndex_7cf53 2 (some .int), Cond.methodLink RJ15 105 yJ3_checkIndex_8e157, Cond.static yJ3_checkIndex_8e157, Cond.initialized RJ3, Cond.code yJ3_checkIndex_8e157 cJ3_checkIndex_8e157 3 (some .int), Cond.methodLink RJx4a65c 123 yJx4a65c_elementData_915e3, Cond.instanceMethod yJx4a65c_elementData_915e3, Cond.selects RJx4a65c yJx4a65c_elementData_915e3 yJx4a65c_elementData_915e3, Cond.code yJx4a65c_elementData_915e3 cJx4a65c_elementData_915e3 2 (some (.object "java/lang/Object")), Cond.fieldLink RJx4a65c 9 "java/util/ArrayList" "elementData" "[Ljava/lang/Object;"]
def wsX4_shares : List Cond := .code yX4_shares cX4_shares 2 (some .int) :: ((wsX4_shares_r1 ++ wsX4_shares_r2) ++ wsX10 ++ wsX40 ++ wsJx4a65c0 ++ (vx_atS RX4 186 "java/lang/IndexOutOfBoundsException" ["java/lang/RuntimeException", "java/lang/Exception"]).filter goodWord)
def wsX4_isValid_r1 : List Cond := [Cond.fieldLink RX4 26 "DividendDesk" "today" "I", Cond.methodLink RX4 71 yX4_holderAt, Cond.instanceMethod yX4_holderAt, Cond.selects RX4 yX4_holderAt yX4_holderAt, Cond.initialized RX4, Cond.code yX4_holderAt cX4_holderAt 2 (some (.object "DividendDesk$Holder")), Cond.classLink RX4 182 "java/lang/IndexOutOfBoundsException", Cond.initialized "java/lang/IndexOutOfBoundsException", Cond.fieldLink RX4 19 "DividendDesk" "holders" "Ljava/util/ArrayList;", Cond.classLink RX4 62 "DividendDesk$Holder", Cond.methodLink RX4 179 yX4_isHolder, Cond.instanceMethod yX4_isHolder, Cond.selects RX4 yX4_isHolder yX4_isHolder, Cond.code yX4_isHolder cX4_isHolder 2 (some .boolean), Cond.methodLink RX4 53 yJx4a65c_size_8abf5, Cond.instanceMethod yJx4a65c_size_8abf5, Cond.selects RJx4a65c yJx4a65c_size_8abf5 yJx4a65c_size_8abf5, Cond.initialized RJx4a65c, Cond.code yJx4a65c_size_8abf5 cJx4a65c_size_8abf5 1 (some .int), Cond.fieldLink RJx4a65c 48 "java/util/ArrayList" "size" "I", Cond.methodLink RX4 38 yX4_isWithin, Cond.static yX4_isWithin, Cond.code yX4_isWithin cX4_isWithin 3 (some .boolean), Cond.methodLink RX4 105 yJx4a65c_get_915e3]
def wsX4_isValid_r2 : List Cond := [Cond.instanceMethod yJx4a65c_get_915e3, Cond.selects RJx4a65c yJx4a65c_get_915e3 yJx4a65c_get_915e3, Cond.code yJx4a65c_get_915e3 cJx4a65c_get_915e3 2 (some (.object "java/lang/Object")), Cond.methodLink RJx4a65c 118 yJ15_checkIndex_7cf53, Cond.static yJ15_checkIndex_7cf53, Cond.initialized RJ15, Cond.code yJ15_checkIndex_7cf53 cJ15_checkIndex_7cf53 2 (some .int), Cond.methodLink RJ15 105 yJ3_checkIndex_8e157, Cond.static yJ3_checkIndex_8e157, Cond.initialized RJ3, Cond.code yJ3_checkIndex_8e157 cJ3_checkIndex_8e157 3 (some .int), Cond.methodLink RJx4a65c 123 yJx4a65c_elementData_915e3, Cond.instanceMethod yJx4a65c_elementData_915e3, Cond.selects RJx4a65c yJx4a65c_elementData_915e3 yJx4a65c_elementData_915e3, Cond.code yJx4a65c_elementData_915e3 cJx4a65c_elementData_915e3 2 (some (.object "java/lang/Object")), Cond.fieldLink RJx4a65c 9 "java/util/ArrayList" "elementData" "[Ljava/lang/Object;", Cond.instanceMethod yX1_hasFormOn, Cond.initialized RX1, Cond.selects RX1 yX1_hasFormOn yX1_hasFormOn, Cond.code yX1_hasFormOn cX1_hasFormOn 2 (some .boolean), Cond.fieldLink RX1 19 "DividendDesk$Holder" "formEnd" "I"]
def wsX4_isValid : List Cond := .code yX4_isValid cX4_isValid 2 (some .boolean) :: ((wsX4_isValid_r1 ++ wsX4_isValid_r2) ++ wsX40 ++ wsJx4a65c0 ++ wsX10 ++ (vx_atS RX4 186 "java/lang/IndexOutOfBoundsException" ["java/lang/RuntimeException", "java/lang/Exception"]).filter goodWord)
def wsX4_isLarge_r1 : List Cond := [Cond.fieldLink RX4 26 "DividendDesk" "today" "I", Cond.methodLink RX4 71 yX4_holderAt, Cond.instanceMethod yX4_holderAt, Cond.selects RX4 yX4_holderAt yX4_holderAt, Cond.initialized RX4, Cond.code yX4_holderAt cX4_holderAt 2 (some (.object "DividendDesk$Holder")), Cond.classLink RX4 182 "java/lang/IndexOutOfBoundsException", Cond.initialized "java/lang/IndexOutOfBoundsException", Cond.fieldLink RX4 19 "DividendDesk" "holders" "Ljava/util/ArrayList;", Cond.classLink RX4 62 "DividendDesk$Holder", Cond.methodLink RX4 179 yX4_isHolder, Cond.instanceMethod yX4_isHolder, Cond.selects RX4 yX4_isHolder yX4_isHolder, Cond.code yX4_isHolder cX4_isHolder 2 (some .boolean), Cond.methodLink RX4 53 yJx4a65c_size_8abf5, Cond.instanceMethod yJx4a65c_size_8abf5, Cond.selects RJx4a65c yJx4a65c_size_8abf5 yJx4a65c_size_8abf5, Cond.initialized RJx4a65c, Cond.code yJx4a65c_size_8abf5 cJx4a65c_size_8abf5 1 (some .int), Cond.fieldLink RJx4a65c 48 "java/util/ArrayList" "size" "I", Cond.methodLink RX4 38 yX4_isWithin, Cond.static yX4_isWithin, Cond.code yX4_isWithin cX4_isWithin 3 (some .boolean), Cond.methodLink RX4 105 yJx4a65c_get_915e3]
def wsX4_isLarge_r2 : List Cond := [Cond.instanceMethod yJx4a65c_get_915e3, Cond.selects RJx4a65c yJx4a65c_get_915e3 yJx4a65c_get_915e3, Cond.code yJx4a65c_get_915e3 cJx4a65c_get_915e3 2 (some (.object "java/lang/Object")), Cond.methodLink RJx4a65c 118 yJ15_checkIndex_7cf53, Cond.static yJ15_checkIndex_7cf53, Cond.initialized RJ15, Cond.code yJ15_checkIndex_7cf53 cJ15_checkIndex_7cf53 2 (some .int), Cond.methodLink RJ15 105 yJ3_checkIndex_8e157, Cond.static yJ3_checkIndex_8e157, Cond.initialized RJ3, Cond.code yJ3_checkIndex_8e157 cJ3_checkIndex_8e157 3 (some .int), Cond.methodLink RJx4a65c 123 yJx4a65c_elementData_915e3, Cond.instanceMethod yJx4a65c_elementData_915e3, Cond.selects RJx4a65c yJx4a65c_elementData_915e3 yJx4a65c_elementData_915e3, Cond.code yJx4a65c_elementData_915e3 cJx4a65c_elementData_915e3 2 (some (.object "java/lang/Object")), Cond.fieldLink RJx4a65c 9 "java/util/ArrayList" "elementData" "[Ljava/lang/Object;", Cond.instanceMethod yX1_hasLargeHoldingOn, Cond.initialized RX1, Cond.selects RX1 yX1_hasLargeHoldingOn yX1_hasLargeHoldingOn, Cond.code yX1_hasLargeHoldingOn cX1_hasLargeHoldingOn 2 (some .boolean), Cond.fieldLink RX1 25 "DividendDesk$Holder" "kind" "I", Cond.fieldLink RX1 15 "DividendDesk$Holder" "shares" "I", Cond.constant RX1 31 (100000), Cond.fieldLink RX1 22 "DividendDesk$Holder" "enoughSince" "I"]
def wsX4_isLarge : List Cond := .code yX4_isLarge cX4_isLarge 2 (some .boolean) :: ((wsX4_isLarge_r1 ++ wsX4_isLarge_r2) ++ wsX40 ++ wsJx4a65c0 ++ wsX10 ++ (vx_atS RX4 186 "java/lang/IndexOutOfBoundsException" ["java/lang/RuntimeException", "java/lang/Exception"]).filter goodWord)
def wsX4_rateOf : List Cond := .code yX4_rateOf cX4_rateOf 2 (some .int) :: ([.methodLink RX4 34 yX4_isLand, .static yX4_isLand, .initialized RX4, .code yX4_isLand cX4_isLand 1 (some .boolean), .methodLink RX4 38 yX4_isWithin, .static yX4_isWithin, .code yX4_isWithin cX4_isWithin 3 (some .boolean)] ++ wsX10)
def wsX4_ownRate_r1 : List Cond := [Cond.fieldLink RX4 9 "DividendDesk" "generalRates" "[I", Cond.fieldLink RX4 26 "DividendDesk" "today" "I", Cond.fieldLink RX4 13 "DividendDesk" "largeRates" "[I", Cond.methodLink RX4 208 Lib.Math.min.name, Cond.static Lib.Math.min.name, Cond.initialized "java/lang/Math", Cond.code Lib.Math.min.name Lib.Math.min.code 2 (some .int), Cond.methodLink RX4 204 yX4_rateOf, Cond.static yX4_rateOf, Cond.initialized RX4, Cond.code yX4_rateOf cX4_rateOf 2 (some .int), Cond.methodLink RX4 34 yX4_isLand, Cond.static yX4_isLand, Cond.code yX4_isLand cX4_isLand 1 (some .boolean), Cond.methodLink RX4 38 yX4_isWithin, Cond.static yX4_isWithin, Cond.code yX4_isWithin cX4_isWithin 3 (some .boolean), Cond.instanceMethod yX1_hasLargeHoldingOn, Cond.initialized RX1, Cond.selects RX1 yX1_hasLargeHoldingOn yX1_hasLargeHoldingOn, Cond.code yX1_hasLargeHoldingOn cX1_hasLargeHoldingOn 2 (some .boolean), Cond.fieldLink RX1 25 "DividendDesk$Holder" "kind" "I", Cond.fieldLink RX1 15 "DividendDesk$Holder" "shares" "I", Cond.constant RX1 31 (100000)]
def wsX4_ownRate_r2 : List Cond := [Cond.fieldLink RX1 22 "DividendDesk$Holder" "enoughSince" "I"]
def wsX4_ownRate : List Cond := .code yX4_ownRate cX4_ownRate 3 (some .int) :: ((wsX4_ownRate_r1 ++ wsX4_ownRate_r2) ++ wsX40 ++ wsX10)
def wsX4_treatyRate_r1 : List Cond := [Cond.classLink RX4 42 "java/lang/IllegalArgumentException", Cond.initialized "java/lang/IllegalArgumentException", Cond.methodLink RX4 71 yX4_holderAt, Cond.instanceMethod yX4_holderAt, Cond.selects RX4 yX4_holderAt yX4_holderAt, Cond.initialized RX4, Cond.code yX4_holderAt cX4_holderAt 2 (some (.object "DividendDesk$Holder")), Cond.classLink RX4 182 "java/lang/IndexOutOfBoundsException", Cond.initialized "java/lang/IndexOutOfBoundsException", Cond.fieldLink RX4 19 "DividendDesk" "holders" "Ljava/util/ArrayList;", Cond.classLink RX4 62 "DividendDesk$Holder", Cond.methodLink RX4 179 yX4_isHolder, Cond.instanceMethod yX4_isHolder, Cond.selects RX4 yX4_isHolder yX4_isHolder, Cond.code yX4_isHolder cX4_isHolder 2 (some .boolean), Cond.methodLink RX4 53 yJx4a65c_size_8abf5, Cond.instanceMethod yJx4a65c_size_8abf5, Cond.selects RJx4a65c yJx4a65c_size_8abf5 yJx4a65c_size_8abf5, Cond.initialized RJx4a65c, Cond.code yJx4a65c_size_8abf5 cJx4a65c_size_8abf5 1 (some .int), Cond.fieldLink RJx4a65c 48 "java/util/ArrayList" "size" "I", Cond.methodLink RX4 38 yX4_isWithin, Cond.static yX4_isWithin, Cond.code yX4_isWithin cX4_isWithin 3 (some .boolean)]
def wsX4_treatyRate_r2 : List Cond := [Cond.methodLink RX4 105 yJx4a65c_get_915e3, Cond.instanceMethod yJx4a65c_get_915e3, Cond.selects RJx4a65c yJx4a65c_get_915e3 yJx4a65c_get_915e3, Cond.code yJx4a65c_get_915e3 cJx4a65c_get_915e3 2 (some (.object "java/lang/Object")), Cond.methodLink RJx4a65c 118 yJ15_checkIndex_7cf53, Cond.static yJ15_checkIndex_7cf53, Cond.initialized RJ15, Cond.code yJ15_checkIndex_7cf53 cJ15_checkIndex_7cf53 2 (some .int), Cond.methodLink RJ15 105 yJ3_checkIndex_8e157, Cond.static yJ3_checkIndex_8e157, Cond.initialized RJ3, Cond.code yJ3_checkIndex_8e157 cJ3_checkIndex_8e157 3 (some .int), Cond.methodLink RJx4a65c 123 yJx4a65c_elementData_915e3, Cond.instanceMethod yJx4a65c_elementData_915e3, Cond.selects RJx4a65c yJx4a65c_elementData_915e3 yJx4a65c_elementData_915e3, Cond.code yJx4a65c_elementData_915e3 cJx4a65c_elementData_915e3 2 (some (.object "java/lang/Object")), Cond.fieldLink RJx4a65c 9 "java/util/ArrayList" "elementData" "[Ljava/lang/Object;", Cond.methodLink RX4 121 yX4_ownRate, Cond.instanceMethod yX4_ownRate, Cond.selects RX4 yX4_ownRate yX4_ownRate, Cond.code yX4_ownRate cX4_ownRate 3 (some .int), Cond.fieldLink RX4 9 "DividendDesk" "generalRates" "[I", Cond.fieldLink RX4 26 "DividendDesk" "today" "I", Cond.fieldLink RX4 13 "DividendDesk" "largeRates" "[I"]
def wsX4_treatyRate_r3 : List Cond := [Cond.methodLink RX4 208 Lib.Math.min.name, Cond.static Lib.Math.min.name, Cond.initialized "java/lang/Math", Cond.code Lib.Math.min.name Lib.Math.min.code 2 (some .int), Cond.methodLink RX4 204 yX4_rateOf, Cond.static yX4_rateOf, Cond.code yX4_rateOf cX4_rateOf 2 (some .int), Cond.methodLink RX4 34 yX4_isLand, Cond.static yX4_isLand, Cond.code yX4_isLand cX4_isLand 1 (some .boolean), Cond.instanceMethod yX1_hasLargeHoldingOn, Cond.initialized RX1, Cond.selects RX1 yX1_hasLargeHoldingOn yX1_hasLargeHoldingOn, Cond.code yX1_hasLargeHoldingOn cX1_hasLargeHoldingOn 2 (some .boolean), Cond.fieldLink RX1 25 "DividendDesk$Holder" "kind" "I", Cond.fieldLink RX1 15 "DividendDesk$Holder" "shares" "I", Cond.constant RX1 31 (100000), Cond.fieldLink RX1 22 "DividendDesk$Holder" "enoughSince" "I"]
def wsX4_treatyRate : List Cond := .code yX4_treatyRate cX4_treatyRate 3 (some .int) :: ((wsX4_treatyRate_r1 ++ (wsX4_treatyRate_r2 ++ wsX4_treatyRate_r3)) ++ wsX10 ++ wsX40 ++ wsJx4a65c0 ++ (vx_atS RX4 46 "java/lang/IllegalArgumentException" ["java/lang/RuntimeException", "java/lang/Exception"]).filter goodWord ++ (vx_atS RX4 186 "java/lang/IndexOutOfBoundsException" ["java/lang/RuntimeException", "java/lang/Exception"]).filter goodWord)
def wsX4_formOf : List Cond := .code yX4_formOf cX4_formOf 1 (some .int) :: ([])
def wsX4_validForms_r1 : List Cond := [Cond.fieldLink RX4 19 "DividendDesk" "holders" "Ljava/util/ArrayList;", Cond.classLink RX4 62 "DividendDesk$Holder", Cond.fieldLink RX4 26 "DividendDesk" "today" "I", Cond.methodLink RX4 53 yJx4a65c_size_8abf5, Cond.instanceMethod yJx4a65c_size_8abf5, Cond.selects RJx4a65c yJx4a65c_size_8abf5 yJx4a65c_size_8abf5, Cond.initialized RJx4a65c, Cond.code yJx4a65c_size_8abf5 cJx4a65c_size_8abf5 1 (some .int), Cond.fieldLink RJx4a65c 48 "java/util/ArrayList" "size" "I", Cond.methodLink RX4 105 yJx4a65c_get_915e3, Cond.instanceMethod yJx4a65c_get_915e3, Cond.selects RJx4a65c yJx4a65c_get_915e3 yJx4a65c_get_915e3, Cond.code yJx4a65c_get_915e3 cJx4a65c_get_915e3 2 (some (.object "java/lang/Object")), Cond.methodLink RJx4a65c 118 yJ15_checkIndex_7cf53, Cond.static yJ15_checkIndex_7cf53, Cond.initialized RJ15, Cond.code yJ15_checkIndex_7cf53 cJ15_checkIndex_7cf53 2 (some .int), Cond.methodLink RJ15 105 yJ3_checkIndex_8e157, Cond.static yJ3_checkIndex_8e157, Cond.initialized RJ3, Cond.code yJ3_checkIndex_8e157 cJ3_checkIndex_8e157 3 (some .int), Cond.methodLink RJx4a65c 123 yJx4a65c_elementData_915e3, Cond.instanceMethod yJx4a65c_elementData_915e3, Cond.selects RJx4a65c yJx4a65c_elementData_915e3 yJx4a65c_elementData_915e3]
def wsX4_validForms_r2 : List Cond := [Cond.code yJx4a65c_elementData_915e3 cJx4a65c_elementData_915e3 2 (some (.object "java/lang/Object")), Cond.fieldLink RJx4a65c 9 "java/util/ArrayList" "elementData" "[Ljava/lang/Object;", Cond.instanceMethod yX1_hasFormOn, Cond.initialized RX1, Cond.selects RX1 yX1_hasFormOn yX1_hasFormOn, Cond.code yX1_hasFormOn cX1_hasFormOn 2 (some .boolean), Cond.fieldLink RX1 19 "DividendDesk$Holder" "formEnd" "I", Cond.methodLink RX4 198 yX4_formOf, Cond.static yX4_formOf, Cond.initialized RX4, Cond.code yX4_formOf cX4_formOf 1 (some .int)]
def wsX4_validForms : List Cond := .code yX4_validForms cX4_validForms 3 (some .int) :: ((wsX4_validForms_r1 ++ wsX4_validForms_r2) ++ wsX40 ++ wsJx4a65c0 ++ wsX10)
def wsX4_proportion : List Cond := .code yX4_proportion cX4_proportion 3 (some .int) :: ([])
def wsX4_addPortions_r1 : List Cond := [Cond.classLink RX4 220 RX3, Cond.instantiable RX3 3, Cond.initialized RX3, Cond.fieldLink RX4 19 "DividendDesk" "holders" "Ljava/util/ArrayList;", Cond.fieldLink RX4 9 "DividendDesk" "generalRates" "[I", Cond.classLink RX4 62 "DividendDesk$Holder", Cond.instanceMethod yX1_partsInAll, Cond.initialized RX1, Cond.selects RX1 yX1_partsInAll yX1_partsInAll, Cond.code yX1_partsInAll cX1_partsInAll 3 (some .int), Cond.fieldLink RX1 9 "DividendDesk$Holder" "memberParts" "[I", Cond.instanceMethod yX3_init, Cond.code yX3_init cX3_init 4 none, Cond.methodLink RX3 3 objectInit, Cond.instanceMethod objectInit, Cond.code objectInit ⟨#[0xb1]⟩ 1 none, Cond.fieldLink RX3 9 "DividendDesk$Portion" "amount" "I", Cond.fieldLink RX3 15 "DividendDesk$Portion" "rate" "I", Cond.fieldLink RX3 18 "DividendDesk$Portion" "neededForms" "I", Cond.instanceMethod yX2_add, Cond.initialized RX2, Cond.selects RX2 yX2_add yX2_add, Cond.code yX2_add cX2_add 2 none, Cond.fieldLink RX2 10 "DividendDesk$Payment" "portions" "Ljava/util/ArrayList;"]
def wsX4_addPortions_r2 : List Cond := [Cond.methodLink RX2 23 yJx4a65c_add_9ea2d, Cond.instanceMethod yJx4a65c_add_9ea2d, Cond.selects RJx4a65c yJx4a65c_add_9ea2d yJx4a65c_add_9ea2d, Cond.initialized RJx4a65c, Cond.code yJx4a65c_add_9ea2d cJx4a65c_add_9ea2d 2 (some .boolean), Cond.fieldLink RJx4a65c 63 "java/util/ArrayList" "modCount" "I", Cond.sameField "java/util/ArrayList" "java/util/AbstractList" "modCount" "I", Cond.fieldLink RJx4a65c 9 "java/util/ArrayList" "elementData" "[Ljava/lang/Object;", Cond.fieldLink RJx4a65c 48 "java/util/ArrayList" "size" "I", Cond.methodLink RJx4a65c 131 yJx4a65c_add_72be8, Cond.instanceMethod yJx4a65c_add_72be8, Cond.selects RJx4a65c yJx4a65c_add_72be8 yJx4a65c_add_72be8, Cond.code yJx4a65c_add_72be8 cJx4a65c_add_72be8 4 none, Cond.methodLink RJx4a65c 129 yJx4a65c_grow_d5877, Cond.instanceMethod yJx4a65c_grow_d5877, Cond.selects RJx4a65c yJx4a65c_grow_d5877 yJx4a65c_grow_d5877, Cond.code yJx4a65c_grow_d5877 cJx4a65c_grow_d5877 1 (some (.array (.object "java/lang/Object"))), Cond.methodLink RJx4a65c 69 yJx4a65c_grow_92f84, Cond.instanceMethod yJx4a65c_grow_92f84, Cond.selects RJx4a65c yJx4a65c_grow_92f84 yJx4a65c_grow_92f84, Cond.code yJx4a65c_grow_92f84 cJx4a65c_grow_92f84 4 (some (.array (.object "java/lang/Object"))), Cond.fieldLink RJx4a65c 39 "java/util/ArrayList" "DEFAULTCAPACITY_EMPTY_ELEMENTDATA" "[Ljava/lang/Object;", Cond.methodLink RJx4a65c 79 Lib.Math.max.name, Cond.static Lib.Math.max.name]
def wsX4_addPortions_r3 : List Cond := [Cond.initialized "java/lang/Math", Cond.code Lib.Math.max.name Lib.Math.max.code 2 (some .int), Cond.classLink RJx4a65c 7 "java/lang/Object", Cond.methodLink RJx4a65c 73 yJ8_newLength_cabcc, Cond.static yJ8_newLength_cabcc, Cond.initialized RJ8, Cond.code yJ8_newLength_cabcc cJ8_newLength_cabcc 4 (some .int), Cond.methodLink RJ8 194 Lib.Math.max.name, Cond.constant RJ8 200 (2147483639), Cond.methodLink RJ8 201 yJ8_hugeLength_7cf53, Cond.static yJ8_hugeLength_7cf53, Cond.code yJ8_hugeLength_7cf53 cJ8_hugeLength_7cf53 3 (some .int), Cond.methodLink RJx4a65c 66 yJ7_copyOf_1904c, Cond.static yJ7_copyOf_1904c, Cond.initialized RJ7, Cond.code yJ7_copyOf_1904c cJ7_copyOf_1904c 2 (some (.array (.object "java/lang/Object"))), Cond.methodLink RJ7 86 ⟨"java/lang/Object", "getClass", "()Ljava/lang/Class;"⟩, Cond.selects "[Ljava/lang/Object;" ⟨"java/lang/Object", "getClass", "()Ljava/lang/Class;"⟩ ⟨"java/lang/Object", "getClass", "()Ljava/lang/Class;"⟩, Cond.instanceMethod ⟨"java/lang/Object", "getClass", "()Ljava/lang/Class;"⟩, Cond.native ⟨"java/lang/Object", "getClass", "()Ljava/lang/Class;"⟩, Cond.methodLink RJ7 300 yJ7_copyOf_6403c, Cond.static yJ7_copyOf_6403c, Cond.code yJ7_copyOf_6403c cJ7_copyOf_6403c 4 (some (.array (.object "java/lang/Object"))), Cond.classLink RJ7 110 "[Ljava/lang/Object;"]
def wsX4_addPortions_r4 : List Cond := [Cond.classLink RJ7 2 "java/lang/Object", Cond.methodLink RJ7 304 Lib.Math.min.name, Cond.static Lib.Math.min.name, Cond.code Lib.Math.min.name Lib.Math.min.code 2 (some .int), Cond.methodLink RJ7 150 arraycopyName, Cond.native arraycopyName, Cond.static arraycopyName, Cond.initialized "java/lang/System", Cond.methodLink RX4 53 yJx4a65c_size_8abf5, Cond.instanceMethod yJx4a65c_size_8abf5, Cond.selects RJx4a65c yJx4a65c_size_8abf5 yJx4a65c_size_8abf5, Cond.code yJx4a65c_size_8abf5 cJx4a65c_size_8abf5 1 (some .int), Cond.instanceMethod yX1_partsOf, Cond.selects RX1 yX1_partsOf yX1_partsOf, Cond.code yX1_partsOf cX1_partsOf 2 (some .int), Cond.methodLink RX4 231 yX4_proportion, Cond.static yX4_proportion, Cond.initialized RX4, Cond.code yX4_proportion cX4_proportion 3 (some .int), Cond.methodLink RX4 105 yJx4a65c_get_915e3, Cond.instanceMethod yJx4a65c_get_915e3, Cond.selects RJx4a65c yJx4a65c_get_915e3 yJx4a65c_get_915e3, Cond.code yJx4a65c_get_915e3 cJx4a65c_get_915e3 2 (some (.object "java/lang/Object")), Cond.methodLink RJx4a65c 118 yJ15_checkIndex_7cf53]
def wsX4_addPortions_r5 : List Cond := [Cond.static yJ15_checkIndex_7cf53, Cond.initialized RJ15, Cond.code yJ15_checkIndex_7cf53 cJ15_checkIndex_7cf53 2 (some .int), Cond.methodLink RJ15 105 yJ3_checkIndex_8e157, Cond.static yJ3_checkIndex_8e157, Cond.initialized RJ3, Cond.code yJ3_checkIndex_8e157 cJ3_checkIndex_8e157 3 (some .int), Cond.methodLink RJx4a65c 123 yJx4a65c_elementData_915e3, Cond.instanceMethod yJx4a65c_elementData_915e3, Cond.selects RJx4a65c yJx4a65c_elementData_915e3 yJx4a65c_elementData_915e3, Cond.code yJx4a65c_elementData_915e3 cJx4a65c_elementData_915e3 2 (some (.object "java/lang/Object")), Cond.methodLink RX4 204 yX4_rateOf, Cond.static yX4_rateOf, Cond.code yX4_rateOf cX4_rateOf 2 (some .int), Cond.methodLink RX4 34 yX4_isLand, Cond.static yX4_isLand, Cond.code yX4_isLand cX4_isLand 1 (some .boolean), Cond.methodLink RX4 38 yX4_isWithin, Cond.static yX4_isWithin, Cond.code yX4_isWithin cX4_isWithin 3 (some .boolean), Cond.methodLink RX4 198 yX4_formOf, Cond.static yX4_formOf, Cond.code yX4_formOf cX4_formOf 1 (some .int)]
def wsX4_addPortions : List Cond := .code yX4_addPortions cX4_addPortions 10 none :: ((wsX4_addPortions_r1 ++ (wsX4_addPortions_r2 ++ (wsX4_addPortions_r3 ++ (wsX4_addPortions_r4 ++ wsX4_addPortions_r5)))) ++ wsX30 ++ wsX20 ++ wsX40 ++ wsX10 ++ wsJx4a65c0)
def wsX4_makePayment_r1 : List Cond := [Cond.classLink RX4 148 RX2, Cond.instantiable RX2 3, Cond.initialized RX2, Cond.classLink RX4 220 RX3, Cond.instantiable RX3 3, Cond.initialized RX3, Cond.instanceMethod yX2_init, Cond.code yX2_init cX2_init 2 none, Cond.methodLink RX2 1 objectInit, Cond.instanceMethod objectInit, Cond.code objectInit ⟨#[0xb1]⟩ 1 none, Cond.classLink RX2 7 RJx4a65c, Cond.instantiable RJx4a65c 3, Cond.initialized RJx4a65c, Cond.fieldLink RX2 10 "DividendDesk$Payment" "portions" "Ljava/util/ArrayList;", Cond.fieldLink RX2 16 "DividendDesk$Payment" "heldTax" "I", Cond.fieldLink RX2 20 "DividendDesk$Payment" "amount" "I", Cond.methodLink RX2 9 yJx4a65c_init_da8c8, Cond.instanceMethod yJx4a65c_init_da8c8, Cond.code yJx4a65c_init_da8c8 cJx4a65c_init_da8c8 1 none, Cond.fieldLink RJx4a65c 39 "java/util/ArrayList" "DEFAULTCAPACITY_EMPTY_ELEMENTDATA" "[Ljava/lang/Object;", Cond.fieldLink RJx4a65c 9 "java/util/ArrayList" "elementData" "[Ljava/lang/Object;", Cond.methodLink RJx4a65c 1 yJxc12de_init_da8c8, Cond.instanceMethod yJxc12de_init_da8c8]
def wsX4_makePayment_r2 : List Cond := [Cond.initialized RJxc12de, Cond.code yJxc12de_init_da8c8 cJxc12de_init_da8c8 1 none, Cond.fieldLink RJxc12de 7 "java/util/AbstractList" "modCount" "I", Cond.methodLink RJxc12de 1 yJxa1e45_init_da8c8, Cond.instanceMethod yJxa1e45_init_da8c8, Cond.initialized RJxa1e45, Cond.code yJxa1e45_init_da8c8 cJxa1e45_init_da8c8 1 none, Cond.methodLink RJxa1e45 1 objectInit, Cond.methodLink RX4 216 yX4_addPortions, Cond.instanceMethod yX4_addPortions, Cond.selects RX4 yX4_addPortions yX4_addPortions, Cond.initialized RX4, Cond.code yX4_addPortions cX4_addPortions 10 none, Cond.fieldLink RX4 19 "DividendDesk" "holders" "Ljava/util/ArrayList;", Cond.fieldLink RX4 9 "DividendDesk" "generalRates" "[I", Cond.classLink RX4 62 "DividendDesk$Holder", Cond.instanceMethod yX1_partsInAll, Cond.initialized RX1, Cond.selects RX1 yX1_partsInAll yX1_partsInAll, Cond.code yX1_partsInAll cX1_partsInAll 3 (some .int), Cond.fieldLink RX1 9 "DividendDesk$Holder" "memberParts" "[I", Cond.instanceMethod yX3_init, Cond.code yX3_init cX3_init 4 none, Cond.methodLink RX3 3 objectInit]
def wsX4_makePayment_r3 : List Cond := [Cond.fieldLink RX3 9 "DividendDesk$Portion" "amount" "I", Cond.fieldLink RX3 15 "DividendDesk$Portion" "rate" "I", Cond.fieldLink RX3 18 "DividendDesk$Portion" "neededForms" "I", Cond.instanceMethod yX2_add, Cond.selects RX2 yX2_add yX2_add, Cond.code yX2_add cX2_add 2 none, Cond.methodLink RX2 23 yJx4a65c_add_9ea2d, Cond.instanceMethod yJx4a65c_add_9ea2d, Cond.selects RJx4a65c yJx4a65c_add_9ea2d yJx4a65c_add_9ea2d, Cond.code yJx4a65c_add_9ea2d cJx4a65c_add_9ea2d 2 (some .boolean), Cond.fieldLink RJx4a65c 63 "java/util/ArrayList" "modCount" "I", Cond.sameField "java/util/ArrayList" "java/util/AbstractList" "modCount" "I", Cond.fieldLink RJx4a65c 48 "java/util/ArrayList" "size" "I", Cond.methodLink RJx4a65c 131 yJx4a65c_add_72be8, Cond.instanceMethod yJx4a65c_add_72be8, Cond.selects RJx4a65c yJx4a65c_add_72be8 yJx4a65c_add_72be8, Cond.code yJx4a65c_add_72be8 cJx4a65c_add_72be8 4 none, Cond.methodLink RJx4a65c 129 yJx4a65c_grow_d5877, Cond.instanceMethod yJx4a65c_grow_d5877, Cond.selects RJx4a65c yJx4a65c_grow_d5877 yJx4a65c_grow_d5877, Cond.code yJx4a65c_grow_d5877 cJx4a65c_grow_d5877 1 (some (.array (.object "java/lang/Object"))), Cond.methodLink RJx4a65c 69 yJx4a65c_grow_92f84, Cond.instanceMethod yJx4a65c_grow_92f84, Cond.selects RJx4a65c yJx4a65c_grow_92f84 yJx4a65c_grow_92f84]
def wsX4_makePayment_r4 : List Cond := [Cond.code yJx4a65c_grow_92f84 cJx4a65c_grow_92f84 4 (some (.array (.object "java/lang/Object"))), Cond.methodLink RJx4a65c 79 Lib.Math.max.name, Cond.static Lib.Math.max.name, Cond.initialized "java/lang/Math", Cond.code Lib.Math.max.name Lib.Math.max.code 2 (some .int), Cond.classLink RJx4a65c 7 "java/lang/Object", Cond.methodLink RJx4a65c 73 yJ8_newLength_cabcc, Cond.static yJ8_newLength_cabcc, Cond.initialized RJ8, Cond.code yJ8_newLength_cabcc cJ8_newLength_cabcc 4 (some .int), Cond.methodLink RJ8 194 Lib.Math.max.name, Cond.constant RJ8 200 (2147483639), Cond.methodLink RJ8 201 yJ8_hugeLength_7cf53, Cond.static yJ8_hugeLength_7cf53, Cond.code yJ8_hugeLength_7cf53 cJ8_hugeLength_7cf53 3 (some .int), Cond.methodLink RJx4a65c 66 yJ7_copyOf_1904c, Cond.static yJ7_copyOf_1904c, Cond.initialized RJ7, Cond.code yJ7_copyOf_1904c cJ7_copyOf_1904c 2 (some (.array (.object "java/lang/Object"))), Cond.methodLink RJ7 86 ⟨"java/lang/Object", "getClass", "()Ljava/lang/Class;"⟩, Cond.selects "[Ljava/lang/Object;" ⟨"java/lang/Object", "getClass", "()Ljava/lang/Class;"⟩ ⟨"java/lang/Object", "getClass", "()Ljava/lang/Class;"⟩, Cond.instanceMethod ⟨"java/lang/Object", "getClass", "()Ljava/lang/Class;"⟩, Cond.native ⟨"java/lang/Object", "getClass", "()Ljava/lang/Class;"⟩, Cond.methodLink RJ7 300 yJ7_copyOf_6403c]
def wsX4_makePayment_r5 : List Cond := [Cond.static yJ7_copyOf_6403c, Cond.code yJ7_copyOf_6403c cJ7_copyOf_6403c 4 (some (.array (.object "java/lang/Object"))), Cond.classLink RJ7 110 "[Ljava/lang/Object;", Cond.classLink RJ7 2 "java/lang/Object", Cond.methodLink RJ7 304 Lib.Math.min.name, Cond.static Lib.Math.min.name, Cond.code Lib.Math.min.name Lib.Math.min.code 2 (some .int), Cond.methodLink RJ7 150 arraycopyName, Cond.native arraycopyName, Cond.static arraycopyName, Cond.initialized "java/lang/System", Cond.methodLink RX4 53 yJx4a65c_size_8abf5, Cond.instanceMethod yJx4a65c_size_8abf5, Cond.selects RJx4a65c yJx4a65c_size_8abf5 yJx4a65c_size_8abf5, Cond.code yJx4a65c_size_8abf5 cJx4a65c_size_8abf5 1 (some .int), Cond.instanceMethod yX1_partsOf, Cond.selects RX1 yX1_partsOf yX1_partsOf, Cond.code yX1_partsOf cX1_partsOf 2 (some .int), Cond.methodLink RX4 231 yX4_proportion, Cond.static yX4_proportion, Cond.code yX4_proportion cX4_proportion 3 (some .int), Cond.methodLink RX4 105 yJx4a65c_get_915e3, Cond.instanceMethod yJx4a65c_get_915e3, Cond.selects RJx4a65c yJx4a65c_get_915e3 yJx4a65c_get_915e3]
def wsX4_makePayment_r6 : List Cond := [Cond.code yJx4a65c_get_915e3 cJx4a65c_get_915e3 2 (some (.object "java/lang/Object")), Cond.methodLink RJx4a65c 118 yJ15_checkIndex_7cf53, Cond.static yJ15_checkIndex_7cf53, Cond.initialized RJ15, Cond.code yJ15_checkIndex_7cf53 cJ15_checkIndex_7cf53 2 (some .int), Cond.methodLink RJ15 105 yJ3_checkIndex_8e157, Cond.static yJ3_checkIndex_8e157, Cond.initialized RJ3, Cond.code yJ3_checkIndex_8e157 cJ3_checkIndex_8e157 3 (some .int), Cond.methodLink RJx4a65c 123 yJx4a65c_elementData_915e3, Cond.instanceMethod yJx4a65c_elementData_915e3, Cond.selects RJx4a65c yJx4a65c_elementData_915e3 yJx4a65c_elementData_915e3, Cond.code yJx4a65c_elementData_915e3 cJx4a65c_elementData_915e3 2 (some (.object "java/lang/Object")), Cond.methodLink RX4 204 yX4_rateOf, Cond.static yX4_rateOf, Cond.code yX4_rateOf cX4_rateOf 2 (some .int), Cond.methodLink RX4 34 yX4_isLand, Cond.static yX4_isLand, Cond.code yX4_isLand cX4_isLand 1 (some .boolean), Cond.methodLink RX4 38 yX4_isWithin, Cond.static yX4_isWithin, Cond.code yX4_isWithin cX4_isWithin 3 (some .boolean), Cond.methodLink RX4 198 yX4_formOf, Cond.static yX4_formOf]
def wsX4_makePayment_r7 : List Cond := [Cond.code yX4_formOf cX4_formOf 1 (some .int), Cond.methodLink RX4 121 yX4_ownRate, Cond.instanceMethod yX4_ownRate, Cond.selects RX4 yX4_ownRate yX4_ownRate, Cond.code yX4_ownRate cX4_ownRate 3 (some .int), Cond.fieldLink RX4 26 "DividendDesk" "today" "I", Cond.fieldLink RX4 13 "DividendDesk" "largeRates" "[I", Cond.methodLink RX4 208 Lib.Math.min.name, Cond.instanceMethod yX1_hasLargeHoldingOn, Cond.selects RX1 yX1_hasLargeHoldingOn yX1_hasLargeHoldingOn, Cond.code yX1_hasLargeHoldingOn cX1_hasLargeHoldingOn 2 (some .boolean), Cond.fieldLink RX1 25 "DividendDesk$Holder" "kind" "I", Cond.fieldLink RX1 15 "DividendDesk$Holder" "shares" "I", Cond.constant RX1 31 (100000), Cond.fieldLink RX1 22 "DividendDesk$Holder" "enoughSince" "I"]
def wsX4_makePayment : List Cond := .code yX4_makePayment cX4_makePayment 5 (some (.object "DividendDesk$Payment")) :: ((wsX4_makePayment_r1 ++ (wsX4_makePayment_r2 ++ (wsX4_makePayment_r3 ++ (wsX4_makePayment_r4 ++ (wsX4_makePayment_r5 ++ (wsX4_makePayment_r6 ++ wsX4_makePayment_r7)))))) ++ wsX20 ++ wsX10 ++ wsX30 ++ wsJx4a65c0 ++ wsX40)
def wsX4_pay_r1 : List Cond := [Cond.classLink RX4 42 "java/lang/IllegalArgumentException", Cond.initialized "java/lang/IllegalArgumentException", Cond.classLink RX4 57 "java/lang/IllegalStateException", Cond.initialized "java/lang/IllegalStateException", Cond.fieldLink RX4 23 "DividendDesk" "paidDividends" "Ljava/util/ArrayList;", Cond.classLink RX4 129 RX0, Cond.instantiable RX0 3, Cond.initialized RX0, Cond.fieldLink RX4 26 "DividendDesk" "today" "I", Cond.fieldLink RX4 19 "DividendDesk" "holders" "Ljava/util/ArrayList;", Cond.classLink RX4 62 "DividendDesk$Holder", Cond.methodLink RX4 38 yX4_isWithin, Cond.static yX4_isWithin, Cond.initialized RX4, Cond.code yX4_isWithin cX4_isWithin 3 (some .boolean), Cond.methodLink RX4 53 yJx4a65c_size_8abf5, Cond.instanceMethod yJx4a65c_size_8abf5, Cond.selects RJx4a65c yJx4a65c_size_8abf5 yJx4a65c_size_8abf5, Cond.initialized RJx4a65c, Cond.code yJx4a65c_size_8abf5 cJx4a65c_size_8abf5 1 (some .int), Cond.fieldLink RJx4a65c 48 "java/util/ArrayList" "size" "I", Cond.methodLink RX4 93 yX4_sharesInAll, Cond.instanceMethod yX4_sharesInAll, Cond.selects RX4 yX4_sharesInAll yX4_sharesInAll]
def wsX4_pay_r2 : List Cond := [Cond.code yX4_sharesInAll cX4_sharesInAll 3 (some .int), Cond.methodLink RX4 105 yJx4a65c_get_915e3, Cond.instanceMethod yJx4a65c_get_915e3, Cond.selects RJx4a65c yJx4a65c_get_915e3 yJx4a65c_get_915e3, Cond.code yJx4a65c_get_915e3 cJx4a65c_get_915e3 2 (some (.object "java/lang/Object")), Cond.methodLink RJx4a65c 118 yJ15_checkIndex_7cf53, Cond.static yJ15_checkIndex_7cf53, Cond.initialized RJ15, Cond.code yJ15_checkIndex_7cf53 cJ15_checkIndex_7cf53 2 (some .int), Cond.methodLink RJ15 105 yJ3_checkIndex_8e157, Cond.static yJ3_checkIndex_8e157, Cond.initialized RJ3, Cond.code yJ3_checkIndex_8e157 cJ3_checkIndex_8e157 3 (some .int), Cond.methodLink RJx4a65c 123 yJx4a65c_elementData_915e3, Cond.instanceMethod yJx4a65c_elementData_915e3, Cond.selects RJx4a65c yJx4a65c_elementData_915e3 yJx4a65c_elementData_915e3, Cond.code yJx4a65c_elementData_915e3 cJx4a65c_elementData_915e3 2 (some (.object "java/lang/Object")), Cond.fieldLink RJx4a65c 9 "java/util/ArrayList" "elementData" "[Ljava/lang/Object;", Cond.methodLink RX4 131 yX4_validForms, Cond.instanceMethod yX4_validForms, Cond.selects RX4 yX4_validForms yX4_validForms, Cond.code yX4_validForms cX4_validForms 3 (some .int), Cond.instanceMethod yX1_hasFormOn, Cond.initialized RX1]
def wsX4_pay_r3 : List Cond := [Cond.selects RX1 yX1_hasFormOn yX1_hasFormOn, Cond.code yX1_hasFormOn cX1_hasFormOn 2 (some .boolean), Cond.fieldLink RX1 19 "DividendDesk$Holder" "formEnd" "I", Cond.methodLink RX4 198 yX4_formOf, Cond.static yX4_formOf, Cond.code yX4_formOf cX4_formOf 1 (some .int), Cond.instanceMethod yX0_init, Cond.code yX0_init cX0_init 3 none, Cond.methodLink RX0 3 objectInit, Cond.instanceMethod objectInit, Cond.code objectInit ⟨#[0xb1]⟩ 1 none, Cond.classLink RX0 9 RX2, Cond.fieldLink RX0 11 "DividendDesk$Dividend" "payments" "[LDividendDesk$Payment;", Cond.fieldLink RX0 17 "DividendDesk$Dividend" "payDay" "I", Cond.fieldLink RX0 21 "DividendDesk$Dividend" "formsOnPayDay" "I", Cond.methodLink RX4 135 yX4_makePayment, Cond.instanceMethod yX4_makePayment, Cond.selects RX4 yX4_makePayment yX4_makePayment, Cond.code yX4_makePayment cX4_makePayment 5 (some (.object "DividendDesk$Payment")), Cond.classLink RX4 148 RX2, Cond.instantiable RX2 3, Cond.initialized RX2, Cond.classLink RX4 220 RX3, Cond.instantiable RX3 3]
def wsX4_pay_r4 : List Cond := [Cond.initialized RX3, Cond.instanceMethod yX2_init, Cond.code yX2_init cX2_init 2 none, Cond.methodLink RX2 1 objectInit, Cond.classLink RX2 7 RJx4a65c, Cond.instantiable RJx4a65c 3, Cond.fieldLink RX2 10 "DividendDesk$Payment" "portions" "Ljava/util/ArrayList;", Cond.fieldLink RX2 16 "DividendDesk$Payment" "heldTax" "I", Cond.fieldLink RX2 20 "DividendDesk$Payment" "amount" "I", Cond.methodLink RX2 9 yJx4a65c_init_da8c8, Cond.instanceMethod yJx4a65c_init_da8c8, Cond.code yJx4a65c_init_da8c8 cJx4a65c_init_da8c8 1 none, Cond.fieldLink RJx4a65c 39 "java/util/ArrayList" "DEFAULTCAPACITY_EMPTY_ELEMENTDATA" "[Ljava/lang/Object;", Cond.methodLink RJx4a65c 1 yJxc12de_init_da8c8, Cond.instanceMethod yJxc12de_init_da8c8, Cond.initialized RJxc12de, Cond.code yJxc12de_init_da8c8 cJxc12de_init_da8c8 1 none, Cond.fieldLink RJxc12de 7 "java/util/AbstractList" "modCount" "I", Cond.methodLink RJxc12de 1 yJxa1e45_init_da8c8, Cond.instanceMethod yJxa1e45_init_da8c8, Cond.initialized RJxa1e45, Cond.code yJxa1e45_init_da8c8 cJxa1e45_init_da8c8 1 none, Cond.methodLink RJxa1e45 1 objectInit, Cond.methodLink RX4 216 yX4_addPortions]
def wsX4_pay_r5 : List Cond := [Cond.instanceMethod yX4_addPortions, Cond.selects RX4 yX4_addPortions yX4_addPortions, Cond.code yX4_addPortions cX4_addPortions 10 none, Cond.fieldLink RX4 9 "DividendDesk" "generalRates" "[I", Cond.instanceMethod yX1_partsInAll, Cond.selects RX1 yX1_partsInAll yX1_partsInAll, Cond.code yX1_partsInAll cX1_partsInAll 3 (some .int), Cond.fieldLink RX1 9 "DividendDesk$Holder" "memberParts" "[I", Cond.instanceMethod yX3_init, Cond.code yX3_init cX3_init 4 none, Cond.methodLink RX3 3 objectInit, Cond.fieldLink RX3 9 "DividendDesk$Portion" "amount" "I", Cond.fieldLink RX3 15 "DividendDesk$Portion" "rate" "I", Cond.fieldLink RX3 18 "DividendDesk$Portion" "neededForms" "I", Cond.instanceMethod yX2_add, Cond.selects RX2 yX2_add yX2_add, Cond.code yX2_add cX2_add 2 none, Cond.methodLink RX2 23 yJx4a65c_add_9ea2d, Cond.instanceMethod yJx4a65c_add_9ea2d, Cond.selects RJx4a65c yJx4a65c_add_9ea2d yJx4a65c_add_9ea2d, Cond.code yJx4a65c_add_9ea2d cJx4a65c_add_9ea2d 2 (some .boolean), Cond.fieldLink RJx4a65c 63 "java/util/ArrayList" "modCount" "I", Cond.sameField "java/util/ArrayList" "java/util/AbstractList" "modCount" "I", Cond.methodLink RJx4a65c 131 yJx4a65c_add_72be8]
def wsX4_pay_r6 : List Cond := [Cond.instanceMethod yJx4a65c_add_72be8, Cond.selects RJx4a65c yJx4a65c_add_72be8 yJx4a65c_add_72be8, Cond.code yJx4a65c_add_72be8 cJx4a65c_add_72be8 4 none, Cond.methodLink RJx4a65c 129 yJx4a65c_grow_d5877, Cond.instanceMethod yJx4a65c_grow_d5877, Cond.selects RJx4a65c yJx4a65c_grow_d5877 yJx4a65c_grow_d5877, Cond.code yJx4a65c_grow_d5877 cJx4a65c_grow_d5877 1 (some (.array (.object "java/lang/Object"))), Cond.methodLink RJx4a65c 69 yJx4a65c_grow_92f84, Cond.instanceMethod yJx4a65c_grow_92f84, Cond.selects RJx4a65c yJx4a65c_grow_92f84 yJx4a65c_grow_92f84, Cond.code yJx4a65c_grow_92f84 cJx4a65c_grow_92f84 4 (some (.array (.object "java/lang/Object"))), Cond.methodLink RJx4a65c 79 Lib.Math.max.name, Cond.static Lib.Math.max.name, Cond.initialized "java/lang/Math", Cond.code Lib.Math.max.name Lib.Math.max.code 2 (some .int), Cond.classLink RJx4a65c 7 "java/lang/Object", Cond.methodLink RJx4a65c 73 yJ8_newLength_cabcc, Cond.static yJ8_newLength_cabcc, Cond.initialized RJ8, Cond.code yJ8_newLength_cabcc cJ8_newLength_cabcc 4 (some .int), Cond.methodLink RJ8 194 Lib.Math.max.name, Cond.constant RJ8 200 (2147483639), Cond.methodLink RJ8 201 yJ8_hugeLength_7cf53, Cond.static yJ8_hugeLength_7cf53]
def wsX4_pay_r7 : List Cond := [Cond.code yJ8_hugeLength_7cf53 cJ8_hugeLength_7cf53 3 (some .int), Cond.methodLink RJx4a65c 66 yJ7_copyOf_1904c, Cond.static yJ7_copyOf_1904c, Cond.initialized RJ7, Cond.code yJ7_copyOf_1904c cJ7_copyOf_1904c 2 (some (.array (.object "java/lang/Object"))), Cond.methodLink RJ7 86 ⟨"java/lang/Object", "getClass", "()Ljava/lang/Class;"⟩, Cond.selects "[Ljava/lang/Object;" ⟨"java/lang/Object", "getClass", "()Ljava/lang/Class;"⟩ ⟨"java/lang/Object", "getClass", "()Ljava/lang/Class;"⟩, Cond.instanceMethod ⟨"java/lang/Object", "getClass", "()Ljava/lang/Class;"⟩, Cond.native ⟨"java/lang/Object", "getClass", "()Ljava/lang/Class;"⟩, Cond.methodLink RJ7 300 yJ7_copyOf_6403c, Cond.static yJ7_copyOf_6403c, Cond.code yJ7_copyOf_6403c cJ7_copyOf_6403c 4 (some (.array (.object "java/lang/Object"))), Cond.classLink RJ7 110 "[Ljava/lang/Object;", Cond.classLink RJ7 2 "java/lang/Object", Cond.methodLink RJ7 304 Lib.Math.min.name, Cond.static Lib.Math.min.name, Cond.code Lib.Math.min.name Lib.Math.min.code 2 (some .int), Cond.methodLink RJ7 150 arraycopyName, Cond.native arraycopyName, Cond.static arraycopyName, Cond.initialized "java/lang/System", Cond.instanceMethod yX1_partsOf, Cond.selects RX1 yX1_partsOf yX1_partsOf, Cond.code yX1_partsOf cX1_partsOf 2 (some .int)]
def wsX4_pay_r8 : List Cond := [Cond.methodLink RX4 231 yX4_proportion, Cond.static yX4_proportion, Cond.code yX4_proportion cX4_proportion 3 (some .int), Cond.methodLink RX4 204 yX4_rateOf, Cond.static yX4_rateOf, Cond.code yX4_rateOf cX4_rateOf 2 (some .int), Cond.methodLink RX4 34 yX4_isLand, Cond.static yX4_isLand, Cond.code yX4_isLand cX4_isLand 1 (some .boolean), Cond.methodLink RX4 121 yX4_ownRate, Cond.instanceMethod yX4_ownRate, Cond.selects RX4 yX4_ownRate yX4_ownRate, Cond.code yX4_ownRate cX4_ownRate 3 (some .int), Cond.fieldLink RX4 13 "DividendDesk" "largeRates" "[I", Cond.methodLink RX4 208 Lib.Math.min.name, Cond.instanceMethod yX1_hasLargeHoldingOn, Cond.selects RX1 yX1_hasLargeHoldingOn yX1_hasLargeHoldingOn, Cond.code yX1_hasLargeHoldingOn cX1_hasLargeHoldingOn 2 (some .boolean), Cond.fieldLink RX1 25 "DividendDesk$Holder" "kind" "I", Cond.fieldLink RX1 15 "DividendDesk$Holder" "shares" "I", Cond.constant RX1 31 (100000), Cond.fieldLink RX1 22 "DividendDesk$Holder" "enoughSince" "I", Cond.instanceMethod yX0_enter, Cond.selects RX0 yX0_enter yX0_enter]
def wsX4_pay_r9 : List Cond := [Cond.code yX0_enter cX0_enter 3 none, Cond.instanceMethod yX2_taxWith, Cond.selects RX2 yX2_taxWith yX2_taxWith, Cond.code yX2_taxWith cX2_taxWith 4 (some .int), Cond.classLink RX2 35 "DividendDesk$Portion", Cond.methodLink RX2 27 yJx4a65c_size_8abf5, Cond.methodLink RX2 31 yJx4a65c_get_915e3, Cond.instanceMethod yX3_tax, Cond.selects RX3 yX3_tax yX3_tax, Cond.code yX3_tax cX3_tax 3 (some .int), Cond.constantLong RX3 21 (100), Cond.methodLink RX4 67 yJx4a65c_add_9ea2d]
def wsX4_pay : List Cond := .code yX4_pay cX4_pay 4 (some .int) :: ((wsX4_pay_r1 ++ (wsX4_pay_r2 ++ (wsX4_pay_r3 ++ (wsX4_pay_r4 ++ (wsX4_pay_r5 ++ (wsX4_pay_r6 ++ (wsX4_pay_r7 ++ (wsX4_pay_r8 ++ wsX4_pay_r9)))))))) ++ wsX40 ++ wsX00 ++ wsX10 ++ wsJx4a65c0 ++ wsX20 ++ wsX30 ++ (vx_atS RX4 46 "java/lang/IllegalArgumentException" ["java/lang/RuntimeException", "java/lang/Exception"]).filter goodWord ++ (vx_atS RX4 61 "java/lang/IllegalStateException" ["java/lang/RuntimeException", "java/lang/Exception"]).filter goodWord)
def wsX4_dividends : List Cond := .code yX4_dividends cX4_dividends 1 (some .int) :: ([.fieldLink RX4 23 "DividendDesk" "paidDividends" "Ljava/util/ArrayList;", .methodLink RX4 53 yJx4a65c_size_8abf5, .instanceMethod yJx4a65c_size_8abf5, .selects RJx4a65c yJx4a65c_size_8abf5 yJx4a65c_size_8abf5, .initialized RJx4a65c, .code yJx4a65c_size_8abf5 cJx4a65c_size_8abf5 1 (some .int), .fieldLink RJx4a65c 48 "java/util/ArrayList" "size" "I"] ++ wsX40 ++ wsJx4a65c0)
def wsX4_dividendAt_r1 : List Cond := [Cond.classLink RX4 182 "java/lang/IndexOutOfBoundsException", Cond.initialized "java/lang/IndexOutOfBoundsException", Cond.fieldLink RX4 23 "DividendDesk" "paidDividends" "Ljava/util/ArrayList;", Cond.classLink RX4 129 "DividendDesk$Dividend", Cond.methodLink RX4 53 yJx4a65c_size_8abf5, Cond.instanceMethod yJx4a65c_size_8abf5, Cond.selects RJx4a65c yJx4a65c_size_8abf5 yJx4a65c_size_8abf5, Cond.initialized RJx4a65c, Cond.code yJx4a65c_size_8abf5 cJx4a65c_size_8abf5 1 (some .int), Cond.fieldLink RJx4a65c 48 "java/util/ArrayList" "size" "I", Cond.methodLink RX4 38 yX4_isWithin, Cond.static yX4_isWithin, Cond.initialized RX4, Cond.code yX4_isWithin cX4_isWithin 3 (some .boolean), Cond.methodLink RX4 105 yJx4a65c_get_915e3, Cond.instanceMethod yJx4a65c_get_915e3, Cond.selects RJx4a65c yJx4a65c_get_915e3 yJx4a65c_get_915e3, Cond.code yJx4a65c_get_915e3 cJx4a65c_get_915e3 2 (some (.object "java/lang/Object")), Cond.methodLink RJx4a65c 118 yJ15_checkIndex_7cf53, Cond.static yJ15_checkIndex_7cf53, Cond.initialized RJ15, Cond.code yJ15_checkIndex_7cf53 cJ15_checkIndex_7cf53 2 (some .int), Cond.methodLink RJ15 105 yJ3_checkIndex_8e157, Cond.static yJ3_checkIndex_8e157]
def wsX4_dividendAt_r2 : List Cond := [Cond.initialized RJ3, Cond.code yJ3_checkIndex_8e157 cJ3_checkIndex_8e157 3 (some .int), Cond.methodLink RJx4a65c 123 yJx4a65c_elementData_915e3, Cond.instanceMethod yJx4a65c_elementData_915e3, Cond.selects RJx4a65c yJx4a65c_elementData_915e3 yJx4a65c_elementData_915e3, Cond.code yJx4a65c_elementData_915e3 cJx4a65c_elementData_915e3 2 (some (.object "java/lang/Object")), Cond.fieldLink RJx4a65c 9 "java/util/ArrayList" "elementData" "[Ljava/lang/Object;"]
def wsX4_dividendAt : List Cond := .code yX4_dividendAt cX4_dividendAt 2 (some (.object "DividendDesk$Dividend")) :: ((wsX4_dividendAt_r1 ++ wsX4_dividendAt_r2) ++ wsX40 ++ wsJx4a65c0 ++ (vx_atS RX4 186 "java/lang/IndexOutOfBoundsException" ["java/lang/RuntimeException", "java/lang/Exception"]).filter goodWord)
def wsX4_paymentAt_r1 : List Cond := [Cond.classLink RX4 182 "java/lang/IndexOutOfBoundsException", Cond.initialized "java/lang/IndexOutOfBoundsException", Cond.methodLink RX4 166 yX4_dividendAt, Cond.instanceMethod yX4_dividendAt, Cond.selects RX4 yX4_dividendAt yX4_dividendAt, Cond.initialized RX4, Cond.code yX4_dividendAt cX4_dividendAt 2 (some (.object "DividendDesk$Dividend")), Cond.fieldLink RX4 23 "DividendDesk" "paidDividends" "Ljava/util/ArrayList;", Cond.classLink RX4 129 "DividendDesk$Dividend", Cond.methodLink RX4 53 yJx4a65c_size_8abf5, Cond.instanceMethod yJx4a65c_size_8abf5, Cond.selects RJx4a65c yJx4a65c_size_8abf5 yJx4a65c_size_8abf5, Cond.initialized RJx4a65c, Cond.code yJx4a65c_size_8abf5 cJx4a65c_size_8abf5 1 (some .int), Cond.fieldLink RJx4a65c 48 "java/util/ArrayList" "size" "I", Cond.methodLink RX4 38 yX4_isWithin, Cond.static yX4_isWithin, Cond.code yX4_isWithin cX4_isWithin 3 (some .boolean), Cond.methodLink RX4 105 yJx4a65c_get_915e3, Cond.instanceMethod yJx4a65c_get_915e3, Cond.selects RJx4a65c yJx4a65c_get_915e3 yJx4a65c_get_915e3, Cond.code yJx4a65c_get_915e3 cJx4a65c_get_915e3 2 (some (.object "java/lang/Object")), Cond.methodLink RJx4a65c 118 yJ15_checkIndex_7cf53, Cond.static yJ15_checkIndex_7cf53]
def wsX4_paymentAt_r2 : List Cond := [Cond.initialized RJ15, Cond.code yJ15_checkIndex_7cf53 cJ15_checkIndex_7cf53 2 (some .int), Cond.methodLink RJ15 105 yJ3_checkIndex_8e157, Cond.static yJ3_checkIndex_8e157, Cond.initialized RJ3, Cond.code yJ3_checkIndex_8e157 cJ3_checkIndex_8e157 3 (some .int), Cond.methodLink RJx4a65c 123 yJx4a65c_elementData_915e3, Cond.instanceMethod yJx4a65c_elementData_915e3, Cond.selects RJx4a65c yJx4a65c_elementData_915e3 yJx4a65c_elementData_915e3, Cond.code yJx4a65c_elementData_915e3 cJx4a65c_elementData_915e3 2 (some (.object "java/lang/Object")), Cond.fieldLink RJx4a65c 9 "java/util/ArrayList" "elementData" "[Ljava/lang/Object;", Cond.methodLink RX4 179 yX4_isHolder, Cond.instanceMethod yX4_isHolder, Cond.selects RX4 yX4_isHolder yX4_isHolder, Cond.code yX4_isHolder cX4_isHolder 2 (some .boolean), Cond.fieldLink RX4 19 "DividendDesk" "holders" "Ljava/util/ArrayList;", Cond.instanceMethod yX0_paymentTo, Cond.initialized RX0, Cond.selects RX0 yX0_paymentTo yX0_paymentTo, Cond.code yX0_paymentTo cX0_paymentTo 2 (some (.object "DividendDesk$Payment")), Cond.fieldLink RX0 11 "DividendDesk$Dividend" "payments" "[LDividendDesk$Payment;"]
def wsX4_paymentAt : List Cond := .code yX4_paymentAt cX4_paymentAt 4 (some (.object "DividendDesk$Payment")) :: ((wsX4_paymentAt_r1 ++ wsX4_paymentAt_r2) ++ wsX40 ++ wsJx4a65c0 ++ wsX00 ++ (vx_atS RX4 186 "java/lang/IndexOutOfBoundsException" ["java/lang/RuntimeException", "java/lang/Exception"]).filter goodWord)
def wsX4_gross_r1 : List Cond := [Cond.methodLink RX4 143 yX4_paymentAt, Cond.instanceMethod yX4_paymentAt, Cond.selects RX4 yX4_paymentAt yX4_paymentAt, Cond.initialized RX4, Cond.code yX4_paymentAt cX4_paymentAt 4 (some (.object "DividendDesk$Payment")), Cond.classLink RX4 182 "java/lang/IndexOutOfBoundsException", Cond.initialized "java/lang/IndexOutOfBoundsException", Cond.methodLink RX4 166 yX4_dividendAt, Cond.instanceMethod yX4_dividendAt, Cond.selects RX4 yX4_dividendAt yX4_dividendAt, Cond.code yX4_dividendAt cX4_dividendAt 2 (some (.object "DividendDesk$Dividend")), Cond.fieldLink RX4 23 "DividendDesk" "paidDividends" "Ljava/util/ArrayList;", Cond.classLink RX4 129 "DividendDesk$Dividend", Cond.methodLink RX4 53 yJx4a65c_size_8abf5, Cond.instanceMethod yJx4a65c_size_8abf5, Cond.selects RJx4a65c yJx4a65c_size_8abf5 yJx4a65c_size_8abf5, Cond.initialized RJx4a65c, Cond.code yJx4a65c_size_8abf5 cJx4a65c_size_8abf5 1 (some .int), Cond.fieldLink RJx4a65c 48 "java/util/ArrayList" "size" "I", Cond.methodLink RX4 38 yX4_isWithin, Cond.static yX4_isWithin, Cond.code yX4_isWithin cX4_isWithin 3 (some .boolean), Cond.methodLink RX4 105 yJx4a65c_get_915e3, Cond.instanceMethod yJx4a65c_get_915e3]
def wsX4_gross_r2 : List Cond := [Cond.selects RJx4a65c yJx4a65c_get_915e3 yJx4a65c_get_915e3, Cond.code yJx4a65c_get_915e3 cJx4a65c_get_915e3 2 (some (.object "java/lang/Object")), Cond.methodLink RJx4a65c 118 yJ15_checkIndex_7cf53, Cond.static yJ15_checkIndex_7cf53, Cond.initialized RJ15, Cond.code yJ15_checkIndex_7cf53 cJ15_checkIndex_7cf53 2 (some .int), Cond.methodLink RJ15 105 yJ3_checkIndex_8e157, Cond.static yJ3_checkIndex_8e157, Cond.initialized RJ3, Cond.code yJ3_checkIndex_8e157 cJ3_checkIndex_8e157 3 (some .int), Cond.methodLink RJx4a65c 123 yJx4a65c_elementData_915e3, Cond.instanceMethod yJx4a65c_elementData_915e3, Cond.selects RJx4a65c yJx4a65c_elementData_915e3 yJx4a65c_elementData_915e3, Cond.code yJx4a65c_elementData_915e3 cJx4a65c_elementData_915e3 2 (some (.object "java/lang/Object")), Cond.fieldLink RJx4a65c 9 "java/util/ArrayList" "elementData" "[Ljava/lang/Object;", Cond.methodLink RX4 179 yX4_isHolder, Cond.instanceMethod yX4_isHolder, Cond.selects RX4 yX4_isHolder yX4_isHolder, Cond.code yX4_isHolder cX4_isHolder 2 (some .boolean), Cond.fieldLink RX4 19 "DividendDesk" "holders" "Ljava/util/ArrayList;", Cond.instanceMethod yX0_paymentTo, Cond.initialized RX0, Cond.selects RX0 yX0_paymentTo yX0_paymentTo, Cond.code yX0_paymentTo cX0_paymentTo 2 (some (.object "DividendDesk$Payment"))]
def wsX4_gross_r3 : List Cond := [Cond.fieldLink RX0 11 "DividendDesk$Dividend" "payments" "[LDividendDesk$Payment;"]
def wsX4_gross : List Cond := .code yX4_gross cX4_gross 4 (some .int) :: ((wsX4_gross_r1 ++ (wsX4_gross_r2 ++ wsX4_gross_r3)) ++ wsX20 ++ wsX40 ++ wsJx4a65c0 ++ wsX00 ++ (vx_atS RX4 186 "java/lang/IndexOutOfBoundsException" ["java/lang/RuntimeException", "java/lang/Exception"]).filter goodWord)
def wsX4_held_r1 : List Cond := [Cond.methodLink RX4 143 yX4_paymentAt, Cond.instanceMethod yX4_paymentAt, Cond.selects RX4 yX4_paymentAt yX4_paymentAt, Cond.initialized RX4, Cond.code yX4_paymentAt cX4_paymentAt 4 (some (.object "DividendDesk$Payment")), Cond.classLink RX4 182 "java/lang/IndexOutOfBoundsException", Cond.initialized "java/lang/IndexOutOfBoundsException", Cond.methodLink RX4 166 yX4_dividendAt, Cond.instanceMethod yX4_dividendAt, Cond.selects RX4 yX4_dividendAt yX4_dividendAt, Cond.code yX4_dividendAt cX4_dividendAt 2 (some (.object "DividendDesk$Dividend")), Cond.fieldLink RX4 23 "DividendDesk" "paidDividends" "Ljava/util/ArrayList;", Cond.classLink RX4 129 "DividendDesk$Dividend", Cond.methodLink RX4 53 yJx4a65c_size_8abf5, Cond.instanceMethod yJx4a65c_size_8abf5, Cond.selects RJx4a65c yJx4a65c_size_8abf5 yJx4a65c_size_8abf5, Cond.initialized RJx4a65c, Cond.code yJx4a65c_size_8abf5 cJx4a65c_size_8abf5 1 (some .int), Cond.fieldLink RJx4a65c 48 "java/util/ArrayList" "size" "I", Cond.methodLink RX4 38 yX4_isWithin, Cond.static yX4_isWithin, Cond.code yX4_isWithin cX4_isWithin 3 (some .boolean), Cond.methodLink RX4 105 yJx4a65c_get_915e3, Cond.instanceMethod yJx4a65c_get_915e3]
def wsX4_held_r2 : List Cond := [Cond.selects RJx4a65c yJx4a65c_get_915e3 yJx4a65c_get_915e3, Cond.code yJx4a65c_get_915e3 cJx4a65c_get_915e3 2 (some (.object "java/lang/Object")), Cond.methodLink RJx4a65c 118 yJ15_checkIndex_7cf53, Cond.static yJ15_checkIndex_7cf53, Cond.initialized RJ15, Cond.code yJ15_checkIndex_7cf53 cJ15_checkIndex_7cf53 2 (some .int), Cond.methodLink RJ15 105 yJ3_checkIndex_8e157, Cond.static yJ3_checkIndex_8e157, Cond.initialized RJ3, Cond.code yJ3_checkIndex_8e157 cJ3_checkIndex_8e157 3 (some .int), Cond.methodLink RJx4a65c 123 yJx4a65c_elementData_915e3, Cond.instanceMethod yJx4a65c_elementData_915e3, Cond.selects RJx4a65c yJx4a65c_elementData_915e3 yJx4a65c_elementData_915e3, Cond.code yJx4a65c_elementData_915e3 cJx4a65c_elementData_915e3 2 (some (.object "java/lang/Object")), Cond.fieldLink RJx4a65c 9 "java/util/ArrayList" "elementData" "[Ljava/lang/Object;", Cond.methodLink RX4 179 yX4_isHolder, Cond.instanceMethod yX4_isHolder, Cond.selects RX4 yX4_isHolder yX4_isHolder, Cond.code yX4_isHolder cX4_isHolder 2 (some .boolean), Cond.fieldLink RX4 19 "DividendDesk" "holders" "Ljava/util/ArrayList;", Cond.instanceMethod yX0_paymentTo, Cond.initialized RX0, Cond.selects RX0 yX0_paymentTo yX0_paymentTo, Cond.code yX0_paymentTo cX0_paymentTo 2 (some (.object "DividendDesk$Payment"))]
def wsX4_held_r3 : List Cond := [Cond.fieldLink RX0 11 "DividendDesk$Dividend" "payments" "[LDividendDesk$Payment;"]
def wsX4_held : List Cond := .code yX4_held cX4_held 4 (some .int) :: ((wsX4_held_r1 ++ (wsX4_held_r2 ++ wsX4_held_r3)) ++ wsX20 ++ wsX40 ++ wsJx4a65c0 ++ wsX00 ++ (vx_atS RX4 186 "java/lang/IndexOutOfBoundsException" ["java/lang/RuntimeException", "java/lang/Exception"]).filter goodWord)
def wsX4_due_r1 : List Cond := [Cond.methodLink RX4 143 yX4_paymentAt, Cond.instanceMethod yX4_paymentAt, Cond.selects RX4 yX4_paymentAt yX4_paymentAt, Cond.initialized RX4, Cond.code yX4_paymentAt cX4_paymentAt 4 (some (.object "DividendDesk$Payment")), Cond.classLink RX4 182 "java/lang/IndexOutOfBoundsException", Cond.initialized "java/lang/IndexOutOfBoundsException", Cond.methodLink RX4 166 yX4_dividendAt, Cond.instanceMethod yX4_dividendAt, Cond.selects RX4 yX4_dividendAt yX4_dividendAt, Cond.code yX4_dividendAt cX4_dividendAt 2 (some (.object "DividendDesk$Dividend")), Cond.fieldLink RX4 23 "DividendDesk" "paidDividends" "Ljava/util/ArrayList;", Cond.classLink RX4 129 "DividendDesk$Dividend", Cond.methodLink RX4 53 yJx4a65c_size_8abf5, Cond.instanceMethod yJx4a65c_size_8abf5, Cond.selects RJx4a65c yJx4a65c_size_8abf5 yJx4a65c_size_8abf5, Cond.initialized RJx4a65c, Cond.code yJx4a65c_size_8abf5 cJx4a65c_size_8abf5 1 (some .int), Cond.fieldLink RJx4a65c 48 "java/util/ArrayList" "size" "I", Cond.methodLink RX4 38 yX4_isWithin, Cond.static yX4_isWithin, Cond.code yX4_isWithin cX4_isWithin 3 (some .boolean), Cond.methodLink RX4 105 yJx4a65c_get_915e3, Cond.instanceMethod yJx4a65c_get_915e3]
def wsX4_due_r2 : List Cond := [Cond.selects RJx4a65c yJx4a65c_get_915e3 yJx4a65c_get_915e3, Cond.code yJx4a65c_get_915e3 cJx4a65c_get_915e3 2 (some (.object "java/lang/Object")), Cond.methodLink RJx4a65c 118 yJ15_checkIndex_7cf53, Cond.static yJ15_checkIndex_7cf53, Cond.initialized RJ15, Cond.code yJ15_checkIndex_7cf53 cJ15_checkIndex_7cf53 2 (some .int), Cond.methodLink RJ15 105 yJ3_checkIndex_8e157, Cond.static yJ3_checkIndex_8e157, Cond.initialized RJ3, Cond.code yJ3_checkIndex_8e157 cJ3_checkIndex_8e157 3 (some .int), Cond.methodLink RJx4a65c 123 yJx4a65c_elementData_915e3, Cond.instanceMethod yJx4a65c_elementData_915e3, Cond.selects RJx4a65c yJx4a65c_elementData_915e3 yJx4a65c_elementData_915e3, Cond.code yJx4a65c_elementData_915e3 cJx4a65c_elementData_915e3 2 (some (.object "java/lang/Object")), Cond.fieldLink RJx4a65c 9 "java/util/ArrayList" "elementData" "[Ljava/lang/Object;", Cond.methodLink RX4 179 yX4_isHolder, Cond.instanceMethod yX4_isHolder, Cond.selects RX4 yX4_isHolder yX4_isHolder, Cond.code yX4_isHolder cX4_isHolder 2 (some .boolean), Cond.fieldLink RX4 19 "DividendDesk" "holders" "Ljava/util/ArrayList;", Cond.instanceMethod yX0_paymentTo, Cond.initialized RX0, Cond.selects RX0 yX0_paymentTo yX0_paymentTo, Cond.code yX0_paymentTo cX0_paymentTo 2 (some (.object "DividendDesk$Payment"))]
def wsX4_due_r3 : List Cond := [Cond.fieldLink RX0 11 "DividendDesk$Dividend" "payments" "[LDividendDesk$Payment;", Cond.instanceMethod yX2_taxWith, Cond.initialized RX2, Cond.selects RX2 yX2_taxWith yX2_taxWith, Cond.code yX2_taxWith cX2_taxWith 4 (some .int), Cond.fieldLink RX2 10 "DividendDesk$Payment" "portions" "Ljava/util/ArrayList;", Cond.classLink RX2 35 "DividendDesk$Portion", Cond.methodLink RX2 27 yJx4a65c_size_8abf5, Cond.methodLink RX2 31 yJx4a65c_get_915e3, Cond.instanceMethod yX3_tax, Cond.initialized RX3, Cond.selects RX3 yX3_tax yX3_tax, Cond.code yX3_tax cX3_tax 3 (some .int), Cond.fieldLink RX3 18 "DividendDesk$Portion" "neededForms" "I", Cond.fieldLink RX3 15 "DividendDesk$Portion" "rate" "I", Cond.fieldLink RX3 9 "DividendDesk$Portion" "amount" "I", Cond.constantLong RX3 21 (100)]
def wsX4_due : List Cond := .code yX4_due cX4_due 4 (some .int) :: ((wsX4_due_r1 ++ (wsX4_due_r2 ++ wsX4_due_r3)) ++ wsX40 ++ wsJx4a65c0 ++ wsX00 ++ wsX20 ++ wsX30 ++ (vx_atS RX4 186 "java/lang/IndexOutOfBoundsException" ["java/lang/RuntimeException", "java/lang/Exception"]).filter goodWord)
def wsX4_heldInAll_r1 : List Cond := [Cond.fieldLink RX4 23 "DividendDesk" "paidDividends" "Ljava/util/ArrayList;", Cond.classLink RX4 129 "DividendDesk$Dividend", Cond.methodLink RX4 53 yJx4a65c_size_8abf5, Cond.instanceMethod yJx4a65c_size_8abf5, Cond.selects RJx4a65c yJx4a65c_size_8abf5 yJx4a65c_size_8abf5, Cond.initialized RJx4a65c, Cond.code yJx4a65c_size_8abf5 cJx4a65c_size_8abf5 1 (some .int), Cond.fieldLink RJx4a65c 48 "java/util/ArrayList" "size" "I", Cond.methodLink RX4 105 yJx4a65c_get_915e3, Cond.instanceMethod yJx4a65c_get_915e3, Cond.selects RJx4a65c yJx4a65c_get_915e3 yJx4a65c_get_915e3, Cond.code yJx4a65c_get_915e3 cJx4a65c_get_915e3 2 (some (.object "java/lang/Object")), Cond.methodLink RJx4a65c 118 yJ15_checkIndex_7cf53, Cond.static yJ15_checkIndex_7cf53, Cond.initialized RJ15, Cond.code yJ15_checkIndex_7cf53 cJ15_checkIndex_7cf53 2 (some .int), Cond.methodLink RJ15 105 yJ3_checkIndex_8e157, Cond.static yJ3_checkIndex_8e157, Cond.initialized RJ3, Cond.code yJ3_checkIndex_8e157 cJ3_checkIndex_8e157 3 (some .int), Cond.methodLink RJx4a65c 123 yJx4a65c_elementData_915e3, Cond.instanceMethod yJx4a65c_elementData_915e3, Cond.selects RJx4a65c yJx4a65c_elementData_915e3 yJx4a65c_elementData_915e3, Cond.code yJx4a65c_elementData_915e3 cJx4a65c_elementData_915e3 2 (some (.object "java/lang/Object"))]
def wsX4_heldInAll_r2 : List Cond := [Cond.fieldLink RJx4a65c 9 "java/util/ArrayList" "elementData" "[Ljava/lang/Object;", Cond.instanceMethod yX0_heldOfAll, Cond.initialized RX0, Cond.selects RX0 yX0_heldOfAll yX0_heldOfAll, Cond.code yX0_heldOfAll cX0_heldOfAll 5 (some .long), Cond.fieldLink RX0 11 "DividendDesk$Dividend" "payments" "[LDividendDesk$Payment;"]
def wsX4_heldInAll : List Cond := .code yX4_heldInAll cX4_heldInAll 4 (some .long) :: ((wsX4_heldInAll_r1 ++ wsX4_heldInAll_r2) ++ wsX40 ++ wsJx4a65c0 ++ wsX00 ++ wsX20)
def wsX4_refunded : List Cond := .code yX4_refunded cX4_refunded 1 (some .long) :: ([.fieldLink RX4 30 "DividendDesk" "refundedInAll" "J"] ++ wsX40)
def wsX4_refundablePayment_r1 : List Cond := [Cond.classLink RX4 57 "java/lang/IllegalStateException", Cond.initialized "java/lang/IllegalStateException", Cond.fieldLink RX4 26 "DividendDesk" "today" "I", Cond.methodLink RX4 143 yX4_paymentAt, Cond.instanceMethod yX4_paymentAt, Cond.selects RX4 yX4_paymentAt yX4_paymentAt, Cond.initialized RX4, Cond.code yX4_paymentAt cX4_paymentAt 4 (some (.object "DividendDesk$Payment")), Cond.classLink RX4 182 "java/lang/IndexOutOfBoundsException", Cond.initialized "java/lang/IndexOutOfBoundsException", Cond.methodLink RX4 166 yX4_dividendAt, Cond.instanceMethod yX4_dividendAt, Cond.selects RX4 yX4_dividendAt yX4_dividendAt, Cond.code yX4_dividendAt cX4_dividendAt 2 (some (.object "DividendDesk$Dividend")), Cond.fieldLink RX4 23 "DividendDesk" "paidDividends" "Ljava/util/ArrayList;", Cond.classLink RX4 129 "DividendDesk$Dividend", Cond.methodLink RX4 53 yJx4a65c_size_8abf5, Cond.instanceMethod yJx4a65c_size_8abf5, Cond.selects RJx4a65c yJx4a65c_size_8abf5 yJx4a65c_size_8abf5, Cond.initialized RJx4a65c, Cond.code yJx4a65c_size_8abf5 cJx4a65c_size_8abf5 1 (some .int), Cond.fieldLink RJx4a65c 48 "java/util/ArrayList" "size" "I", Cond.methodLink RX4 38 yX4_isWithin, Cond.static yX4_isWithin]
def wsX4_refundablePayment_r2 : List Cond := [Cond.code yX4_isWithin cX4_isWithin 3 (some .boolean), Cond.methodLink RX4 105 yJx4a65c_get_915e3, Cond.instanceMethod yJx4a65c_get_915e3, Cond.selects RJx4a65c yJx4a65c_get_915e3 yJx4a65c_get_915e3, Cond.code yJx4a65c_get_915e3 cJx4a65c_get_915e3 2 (some (.object "java/lang/Object")), Cond.methodLink RJx4a65c 118 yJ15_checkIndex_7cf53, Cond.static yJ15_checkIndex_7cf53, Cond.initialized RJ15, Cond.code yJ15_checkIndex_7cf53 cJ15_checkIndex_7cf53 2 (some .int), Cond.methodLink RJ15 105 yJ3_checkIndex_8e157, Cond.static yJ3_checkIndex_8e157, Cond.initialized RJ3, Cond.code yJ3_checkIndex_8e157 cJ3_checkIndex_8e157 3 (some .int), Cond.methodLink RJx4a65c 123 yJx4a65c_elementData_915e3, Cond.instanceMethod yJx4a65c_elementData_915e3, Cond.selects RJx4a65c yJx4a65c_elementData_915e3 yJx4a65c_elementData_915e3, Cond.code yJx4a65c_elementData_915e3 cJx4a65c_elementData_915e3 2 (some (.object "java/lang/Object")), Cond.fieldLink RJx4a65c 9 "java/util/ArrayList" "elementData" "[Ljava/lang/Object;", Cond.methodLink RX4 179 yX4_isHolder, Cond.instanceMethod yX4_isHolder, Cond.selects RX4 yX4_isHolder yX4_isHolder, Cond.code yX4_isHolder cX4_isHolder 2 (some .boolean), Cond.fieldLink RX4 19 "DividendDesk" "holders" "Ljava/util/ArrayList;", Cond.instanceMethod yX0_paymentTo]
def wsX4_refundablePayment_r3 : List Cond := [Cond.initialized RX0, Cond.selects RX0 yX0_paymentTo yX0_paymentTo, Cond.code yX0_paymentTo cX0_paymentTo 2 (some (.object "DividendDesk$Payment")), Cond.fieldLink RX0 11 "DividendDesk$Dividend" "payments" "[LDividendDesk$Payment;"]
def wsX4_refundablePayment : List Cond := .code yX4_refundablePayment cX4_refundablePayment 5 (some (.object "DividendDesk$Payment")) :: ((wsX4_refundablePayment_r1 ++ (wsX4_refundablePayment_r2 ++ wsX4_refundablePayment_r3)) ++ wsX40 ++ wsX00 ++ wsJx4a65c0 ++ (vx_atS RX4 61 "java/lang/IllegalStateException" ["java/lang/RuntimeException", "java/lang/Exception"]).filter goodWord ++ (vx_atS RX4 186 "java/lang/IndexOutOfBoundsException" ["java/lang/RuntimeException", "java/lang/Exception"]).filter goodWord)
def wsX4_giveBack : List Cond := .code yX4_giveBack cX4_giveBack 4 (some .int) :: ([.fieldLink RX4 30 "DividendDesk" "refundedInAll" "J", .instanceMethod yX2_lowerTo, .initialized RX2, .selects RX2 yX2_lowerTo yX2_lowerTo, .code yX2_lowerTo cX2_lowerTo 3 (some .int), .fieldLink RX2 16 "DividendDesk$Payment" "heldTax" "I", .methodLink RX2 41 Lib.Math.max.name, .static Lib.Math.max.name, .initialized "java/lang/Math", .code Lib.Math.max.name Lib.Math.max.code 2 (some .int)] ++ wsX40 ++ wsX20)
def wsX4_refund_r1 : List Cond := [Cond.methodLink RX4 162 yX4_refundablePayment, Cond.instanceMethod yX4_refundablePayment, Cond.selects RX4 yX4_refundablePayment yX4_refundablePayment, Cond.initialized RX4, Cond.code yX4_refundablePayment cX4_refundablePayment 5 (some (.object "DividendDesk$Payment")), Cond.classLink RX4 57 "java/lang/IllegalStateException", Cond.initialized "java/lang/IllegalStateException", Cond.fieldLink RX4 26 "DividendDesk" "today" "I", Cond.methodLink RX4 143 yX4_paymentAt, Cond.instanceMethod yX4_paymentAt, Cond.selects RX4 yX4_paymentAt yX4_paymentAt, Cond.code yX4_paymentAt cX4_paymentAt 4 (some (.object "DividendDesk$Payment")), Cond.classLink RX4 182 "java/lang/IndexOutOfBoundsException", Cond.initialized "java/lang/IndexOutOfBoundsException", Cond.methodLink RX4 166 yX4_dividendAt, Cond.instanceMethod yX4_dividendAt, Cond.selects RX4 yX4_dividendAt yX4_dividendAt, Cond.code yX4_dividendAt cX4_dividendAt 2 (some (.object "DividendDesk$Dividend")), Cond.fieldLink RX4 23 "DividendDesk" "paidDividends" "Ljava/util/ArrayList;", Cond.classLink RX4 129 "DividendDesk$Dividend", Cond.methodLink RX4 53 yJx4a65c_size_8abf5, Cond.instanceMethod yJx4a65c_size_8abf5, Cond.selects RJx4a65c yJx4a65c_size_8abf5 yJx4a65c_size_8abf5, Cond.initialized RJx4a65c]
def wsX4_refund_r2 : List Cond := [Cond.code yJx4a65c_size_8abf5 cJx4a65c_size_8abf5 1 (some .int), Cond.fieldLink RJx4a65c 48 "java/util/ArrayList" "size" "I", Cond.methodLink RX4 38 yX4_isWithin, Cond.static yX4_isWithin, Cond.code yX4_isWithin cX4_isWithin 3 (some .boolean), Cond.methodLink RX4 105 yJx4a65c_get_915e3, Cond.instanceMethod yJx4a65c_get_915e3, Cond.selects RJx4a65c yJx4a65c_get_915e3 yJx4a65c_get_915e3, Cond.code yJx4a65c_get_915e3 cJx4a65c_get_915e3 2 (some (.object "java/lang/Object")), Cond.methodLink RJx4a65c 118 yJ15_checkIndex_7cf53, Cond.static yJ15_checkIndex_7cf53, Cond.initialized RJ15, Cond.code yJ15_checkIndex_7cf53 cJ15_checkIndex_7cf53 2 (some .int), Cond.methodLink RJ15 105 yJ3_checkIndex_8e157, Cond.static yJ3_checkIndex_8e157, Cond.initialized RJ3, Cond.code yJ3_checkIndex_8e157 cJ3_checkIndex_8e157 3 (some .int), Cond.methodLink RJx4a65c 123 yJx4a65c_elementData_915e3, Cond.instanceMethod yJx4a65c_elementData_915e3, Cond.selects RJx4a65c yJx4a65c_elementData_915e3 yJx4a65c_elementData_915e3, Cond.code yJx4a65c_elementData_915e3 cJx4a65c_elementData_915e3 2 (some (.object "java/lang/Object")), Cond.fieldLink RJx4a65c 9 "java/util/ArrayList" "elementData" "[Ljava/lang/Object;", Cond.methodLink RX4 179 yX4_isHolder, Cond.instanceMethod yX4_isHolder]
def wsX4_refund_r3 : List Cond := [Cond.selects RX4 yX4_isHolder yX4_isHolder, Cond.code yX4_isHolder cX4_isHolder 2 (some .boolean), Cond.fieldLink RX4 19 "DividendDesk" "holders" "Ljava/util/ArrayList;", Cond.instanceMethod yX0_paymentTo, Cond.initialized RX0, Cond.selects RX0 yX0_paymentTo yX0_paymentTo, Cond.code yX0_paymentTo cX0_paymentTo 2 (some (.object "DividendDesk$Payment")), Cond.fieldLink RX0 11 "DividendDesk$Dividend" "payments" "[LDividendDesk$Payment;", Cond.methodLink RX4 131 yX4_validForms, Cond.instanceMethod yX4_validForms, Cond.selects RX4 yX4_validForms yX4_validForms, Cond.code yX4_validForms cX4_validForms 3 (some .int), Cond.classLink RX4 62 "DividendDesk$Holder", Cond.instanceMethod yX1_hasFormOn, Cond.initialized RX1, Cond.selects RX1 yX1_hasFormOn yX1_hasFormOn, Cond.code yX1_hasFormOn cX1_hasFormOn 2 (some .boolean), Cond.fieldLink RX1 19 "DividendDesk$Holder" "formEnd" "I", Cond.methodLink RX4 198 yX4_formOf, Cond.static yX4_formOf, Cond.code yX4_formOf cX4_formOf 1 (some .int), Cond.instanceMethod yX2_taxWith, Cond.initialized RX2, Cond.selects RX2 yX2_taxWith yX2_taxWith]
def wsX4_refund_r4 : List Cond := [Cond.code yX2_taxWith cX2_taxWith 4 (some .int), Cond.fieldLink RX2 10 "DividendDesk$Payment" "portions" "Ljava/util/ArrayList;", Cond.classLink RX2 35 "DividendDesk$Portion", Cond.methodLink RX2 27 yJx4a65c_size_8abf5, Cond.methodLink RX2 31 yJx4a65c_get_915e3, Cond.instanceMethod yX3_tax, Cond.initialized RX3, Cond.selects RX3 yX3_tax yX3_tax, Cond.code yX3_tax cX3_tax 3 (some .int), Cond.fieldLink RX3 18 "DividendDesk$Portion" "neededForms" "I", Cond.fieldLink RX3 15 "DividendDesk$Portion" "rate" "I", Cond.fieldLink RX3 9 "DividendDesk$Portion" "amount" "I", Cond.constantLong RX3 21 (100), Cond.methodLink RX4 173 yX4_giveBack, Cond.instanceMethod yX4_giveBack, Cond.selects RX4 yX4_giveBack yX4_giveBack, Cond.code yX4_giveBack cX4_giveBack 4 (some .int), Cond.fieldLink RX4 30 "DividendDesk" "refundedInAll" "J", Cond.instanceMethod yX2_lowerTo, Cond.selects RX2 yX2_lowerTo yX2_lowerTo, Cond.code yX2_lowerTo cX2_lowerTo 3 (some .int), Cond.fieldLink RX2 16 "DividendDesk$Payment" "heldTax" "I", Cond.methodLink RX2 41 Lib.Math.max.name, Cond.static Lib.Math.max.name]
def wsX4_refund_r5 : List Cond := [Cond.initialized "java/lang/Math", Cond.code Lib.Math.max.name Lib.Math.max.code 2 (some .int)]
def wsX4_refund : List Cond := .code yX4_refund cX4_refund 5 (some .int) :: ((wsX4_refund_r1 ++ (wsX4_refund_r2 ++ (wsX4_refund_r3 ++ (wsX4_refund_r4 ++ wsX4_refund_r5)))) ++ wsX00 ++ wsX40 ++ wsJx4a65c0 ++ wsX10 ++ wsX20 ++ wsX30 ++ (vx_atS RX4 61 "java/lang/IllegalStateException" ["java/lang/RuntimeException", "java/lang/Exception"]).filter goodWord ++ (vx_atS RX4 186 "java/lang/IndexOutOfBoundsException" ["java/lang/RuntimeException", "java/lang/Exception"]).filter goodWord)
def wsX4_claim_r1 : List Cond := [Cond.classLink RX4 57 "java/lang/IllegalStateException", Cond.initialized "java/lang/IllegalStateException", Cond.fieldLink RX4 26 "DividendDesk" "today" "I", Cond.methodLink RX4 162 yX4_refundablePayment, Cond.instanceMethod yX4_refundablePayment, Cond.selects RX4 yX4_refundablePayment yX4_refundablePayment, Cond.initialized RX4, Cond.code yX4_refundablePayment cX4_refundablePayment 5 (some (.object "DividendDesk$Payment")), Cond.methodLink RX4 143 yX4_paymentAt, Cond.instanceMethod yX4_paymentAt, Cond.selects RX4 yX4_paymentAt yX4_paymentAt, Cond.code yX4_paymentAt cX4_paymentAt 4 (some (.object "DividendDesk$Payment")), Cond.classLink RX4 182 "java/lang/IndexOutOfBoundsException", Cond.initialized "java/lang/IndexOutOfBoundsException", Cond.methodLink RX4 166 yX4_dividendAt, Cond.instanceMethod yX4_dividendAt, Cond.selects RX4 yX4_dividendAt yX4_dividendAt, Cond.code yX4_dividendAt cX4_dividendAt 2 (some (.object "DividendDesk$Dividend")), Cond.fieldLink RX4 23 "DividendDesk" "paidDividends" "Ljava/util/ArrayList;", Cond.classLink RX4 129 "DividendDesk$Dividend", Cond.methodLink RX4 53 yJx4a65c_size_8abf5, Cond.instanceMethod yJx4a65c_size_8abf5, Cond.selects RJx4a65c yJx4a65c_size_8abf5 yJx4a65c_size_8abf5, Cond.initialized RJx4a65c]
def wsX4_claim_r2 : List Cond := [Cond.code yJx4a65c_size_8abf5 cJx4a65c_size_8abf5 1 (some .int), Cond.fieldLink RJx4a65c 48 "java/util/ArrayList" "size" "I", Cond.methodLink RX4 38 yX4_isWithin, Cond.static yX4_isWithin, Cond.code yX4_isWithin cX4_isWithin 3 (some .boolean), Cond.methodLink RX4 105 yJx4a65c_get_915e3, Cond.instanceMethod yJx4a65c_get_915e3, Cond.selects RJx4a65c yJx4a65c_get_915e3 yJx4a65c_get_915e3, Cond.code yJx4a65c_get_915e3 cJx4a65c_get_915e3 2 (some (.object "java/lang/Object")), Cond.methodLink RJx4a65c 118 yJ15_checkIndex_7cf53, Cond.static yJ15_checkIndex_7cf53, Cond.initialized RJ15, Cond.code yJ15_checkIndex_7cf53 cJ15_checkIndex_7cf53 2 (some .int), Cond.methodLink RJ15 105 yJ3_checkIndex_8e157, Cond.static yJ3_checkIndex_8e157, Cond.initialized RJ3, Cond.code yJ3_checkIndex_8e157 cJ3_checkIndex_8e157 3 (some .int), Cond.methodLink RJx4a65c 123 yJx4a65c_elementData_915e3, Cond.instanceMethod yJx4a65c_elementData_915e3, Cond.selects RJx4a65c yJx4a65c_elementData_915e3 yJx4a65c_elementData_915e3, Cond.code yJx4a65c_elementData_915e3 cJx4a65c_elementData_915e3 2 (some (.object "java/lang/Object")), Cond.fieldLink RJx4a65c 9 "java/util/ArrayList" "elementData" "[Ljava/lang/Object;", Cond.methodLink RX4 179 yX4_isHolder, Cond.instanceMethod yX4_isHolder]
def wsX4_claim_r3 : List Cond := [Cond.selects RX4 yX4_isHolder yX4_isHolder, Cond.code yX4_isHolder cX4_isHolder 2 (some .boolean), Cond.fieldLink RX4 19 "DividendDesk" "holders" "Ljava/util/ArrayList;", Cond.instanceMethod yX0_paymentTo, Cond.initialized RX0, Cond.selects RX0 yX0_paymentTo yX0_paymentTo, Cond.code yX0_paymentTo cX0_paymentTo 2 (some (.object "DividendDesk$Payment")), Cond.fieldLink RX0 11 "DividendDesk$Dividend" "payments" "[LDividendDesk$Payment;", Cond.methodLink RX4 71 yX4_holderAt, Cond.instanceMethod yX4_holderAt, Cond.selects RX4 yX4_holderAt yX4_holderAt, Cond.code yX4_holderAt cX4_holderAt 2 (some (.object "DividendDesk$Holder")), Cond.classLink RX4 62 "DividendDesk$Holder", Cond.instanceMethod yX1_hasFormOn, Cond.initialized RX1, Cond.selects RX1 yX1_hasFormOn yX1_hasFormOn, Cond.code yX1_hasFormOn cX1_hasFormOn 2 (some .boolean), Cond.fieldLink RX1 19 "DividendDesk$Holder" "formEnd" "I", Cond.instanceMethod yX2_taxWith, Cond.initialized RX2, Cond.selects RX2 yX2_taxWith yX2_taxWith, Cond.code yX2_taxWith cX2_taxWith 4 (some .int), Cond.fieldLink RX2 10 "DividendDesk$Payment" "portions" "Ljava/util/ArrayList;", Cond.classLink RX2 35 "DividendDesk$Portion"]
def wsX4_claim_r4 : List Cond := [Cond.methodLink RX2 27 yJx4a65c_size_8abf5, Cond.methodLink RX2 31 yJx4a65c_get_915e3, Cond.instanceMethod yX3_tax, Cond.initialized RX3, Cond.selects RX3 yX3_tax yX3_tax, Cond.code yX3_tax cX3_tax 3 (some .int), Cond.fieldLink RX3 18 "DividendDesk$Portion" "neededForms" "I", Cond.fieldLink RX3 15 "DividendDesk$Portion" "rate" "I", Cond.fieldLink RX3 9 "DividendDesk$Portion" "amount" "I", Cond.constantLong RX3 21 (100), Cond.methodLink RX4 173 yX4_giveBack, Cond.instanceMethod yX4_giveBack, Cond.selects RX4 yX4_giveBack yX4_giveBack, Cond.code yX4_giveBack cX4_giveBack 4 (some .int), Cond.fieldLink RX4 30 "DividendDesk" "refundedInAll" "J", Cond.instanceMethod yX2_lowerTo, Cond.selects RX2 yX2_lowerTo yX2_lowerTo, Cond.code yX2_lowerTo cX2_lowerTo 3 (some .int), Cond.fieldLink RX2 16 "DividendDesk$Payment" "heldTax" "I", Cond.methodLink RX2 41 Lib.Math.max.name, Cond.static Lib.Math.max.name, Cond.initialized "java/lang/Math", Cond.code Lib.Math.max.name Lib.Math.max.code 2 (some .int)]
def wsX4_claim : List Cond := .code yX4_claim cX4_claim 4 (some .int) :: ((wsX4_claim_r1 ++ (wsX4_claim_r2 ++ (wsX4_claim_r3 ++ wsX4_claim_r4))) ++ wsX40 ++ wsX00 ++ wsJx4a65c0 ++ wsX10 ++ wsX20 ++ wsX30 ++ (vx_atS RX4 61 "java/lang/IllegalStateException" ["java/lang/RuntimeException", "java/lang/Exception"]).filter goodWord ++ (vx_atS RX4 186 "java/lang/IndexOutOfBoundsException" ["java/lang/RuntimeException", "java/lang/Exception"]).filter goodWord)
def wsX5_init : List Cond := .code yX5_init cX5_init 2 none :: ([.methodLink RX5 1 objectInit, .instanceMethod objectInit, .code objectInit ⟨#[0xb1]⟩ 1 none, .arrayClass .int, .fieldLink RX5 7 "DividendDeskModel" "general" "[I", .fieldLink RX5 13 "DividendDeskModel" "large" "[I", .fieldLink RX5 16 "DividendDeskModel" "kind" "[I", .fieldLink RX5 19 "DividendDeskModel" "land" "[I", .fieldLink RX5 22 "DividendDeskModel" "shares" "[I", .fieldLink RX5 25 "DividendDeskModel" "validTo" "[I", .fieldLink RX5 28 "DividendDeskModel" "since" "[I", .fieldLink RX5 31 "DividendDeskModel" "parts" "[I", .fieldLink RX5 34 "DividendDeskModel" "paidOn" "[I", .fieldLink RX5 37 "DividendDeskModel" "gross" "[I", .fieldLink RX5 40 "DividendDeskModel" "held" "[I", .fieldLink RX5 43 "DividendDeskModel" "due" "[I", .fieldLink RX5 46 "DividendDeskModel" "shareRate" "[I", .fieldLink RX5 49 "DividendDeskModel" "ownRate" "[I", .arrayClass .boolean, .fieldLink RX5 52 "DividendDeskModel" "wasValid" "[Z", .fieldLink RX5 56 "DividendDeskModel" "partsThen" "[I"] ++ wsX50)
def wsX5_thrown : List Cond := .code yX5_thrown cX5_thrown 1 (some .int) :: ([.fieldLink RX5 59 "DividendDeskModel" "thrown" "I"] ++ wsX50)
def wsX5_can : List Cond := .code yX5_can cX5_can 2 (some .boolean) :: ([.fieldLink RX5 59 "DividendDeskModel" "thrown" "I"] ++ wsX50)
def wsX5_isIn : List Cond := .code yX5_isIn cX5_isIn 3 (some .boolean) :: ([])
def wsX5_isHolder : List Cond := .code yX5_isHolder cX5_isHolder 2 (some .boolean) :: ([.fieldLink RX5 63 "DividendDeskModel" "holders" "I", .methodLink RX5 66 yX5_isIn, .static yX5_isIn, .initialized RX5, .code yX5_isIn cX5_isIn 3 (some .boolean)] ++ wsX50)
def wsX5_isDividend : List Cond := .code yX5_isDividend cX5_isDividend 2 (some .boolean) :: ([.fieldLink RX5 70 "DividendDeskModel" "dividends" "I", .methodLink RX5 66 yX5_isIn, .static yX5_isIn, .initialized RX5, .code yX5_isIn cX5_isIn 3 (some .boolean)] ++ wsX50)
def wsX5_setTreaty : List Cond := .code yX5_setTreaty cX5_setTreaty 5 (some .int) :: ([.fieldLink RX5 7 "DividendDeskModel" "general" "[I", .fieldLink RX5 13 "DividendDeskModel" "large" "[I", .methodLink RX5 66 yX5_isIn, .static yX5_isIn, .initialized RX5, .code yX5_isIn cX5_isIn 3 (some .boolean), .methodLink RX5 73 yX5_can, .instanceMethod yX5_can, .selects RX5 yX5_can yX5_can, .code yX5_can cX5_can 2 (some .boolean), .fieldLink RX5 59 "DividendDeskModel" "thrown" "I"] ++ wsX50)
def wsX5_addHolder : List Cond := .code yX5_addHolder cX5_addHolder 4 (some .int) :: ([.fieldLink RX5 63 "DividendDeskModel" "holders" "I", .fieldLink RX5 16 "DividendDeskModel" "kind" "[I", .fieldLink RX5 19 "DividendDeskModel" "land" "[I", .methodLink RX5 66 yX5_isIn, .static yX5_isIn, .initialized RX5, .code yX5_isIn cX5_isIn 3 (some .boolean), .methodLink RX5 73 yX5_can, .instanceMethod yX5_can, .selects RX5 yX5_can yX5_can, .code yX5_can cX5_can 2 (some .boolean), .fieldLink RX5 59 "DividendDeskModel" "thrown" "I"] ++ wsX50)
def wsX5_setParts : List Cond := .code yX5_setParts cX5_setParts 7 (some .int) :: ([.fieldLink RX5 16 "DividendDeskModel" "kind" "[I", .fieldLink RX5 31 "DividendDeskModel" "parts" "[I", .methodLink RX5 77 yX5_isHolder, .instanceMethod yX5_isHolder, .selects RX5 yX5_isHolder yX5_isHolder, .initialized RX5, .code yX5_isHolder cX5_isHolder 2 (some .boolean), .fieldLink RX5 63 "DividendDeskModel" "holders" "I", .methodLink RX5 66 yX5_isIn, .static yX5_isIn, .code yX5_isIn cX5_isIn 3 (some .boolean), .methodLink RX5 73 yX5_can, .instanceMethod yX5_can, .selects RX5 yX5_can yX5_can, .code yX5_can cX5_can 2 (some .boolean), .fieldLink RX5 59 "DividendDeskModel" "thrown" "I"] ++ wsX50)
def wsX5_allShares : List Cond := .code yX5_allShares cX5_allShares 3 (some .int) :: ([.fieldLink RX5 63 "DividendDeskModel" "holders" "I", .fieldLink RX5 22 "DividendDeskModel" "shares" "[I"] ++ wsX50)
def wsX5_setShares : List Cond := .code yX5_setShares cX5_setShares 4 (some .int) :: ([.constant RX5 80 (1000000), .fieldLink RX5 22 "DividendDeskModel" "shares" "[I", .methodLink RX5 77 yX5_isHolder, .instanceMethod yX5_isHolder, .selects RX5 yX5_isHolder yX5_isHolder, .initialized RX5, .code yX5_isHolder cX5_isHolder 2 (some .boolean), .fieldLink RX5 63 "DividendDeskModel" "holders" "I", .methodLink RX5 66 yX5_isIn, .static yX5_isIn, .code yX5_isIn cX5_isIn 3 (some .boolean), .methodLink RX5 81 yX5_allShares, .instanceMethod yX5_allShares, .selects RX5 yX5_allShares yX5_allShares, .code yX5_allShares cX5_allShares 3 (some .int), .methodLink RX5 73 yX5_can, .instanceMethod yX5_can, .selects RX5 yX5_can yX5_can, .code yX5_can cX5_can 2 (some .boolean), .fieldLink RX5 59 "DividendDeskModel" "thrown" "I"] ++ wsX50)
def wsX5_giveForm : List Cond := .code yX5_giveForm cX5_giveForm 2 (some .int) :: ([.fieldLink RX5 25 "DividendDeskModel" "validTo" "[I", .fieldLink RX5 85 "DividendDeskModel" "day" "I", .methodLink RX5 77 yX5_isHolder, .instanceMethod yX5_isHolder, .selects RX5 yX5_isHolder yX5_isHolder, .initialized RX5, .code yX5_isHolder cX5_isHolder 2 (some .boolean), .fieldLink RX5 63 "DividendDeskModel" "holders" "I", .methodLink RX5 66 yX5_isIn, .static yX5_isIn, .code yX5_isIn cX5_isIn 3 (some .boolean), .methodLink RX5 73 yX5_can, .instanceMethod yX5_can, .selects RX5 yX5_can yX5_can, .code yX5_can cX5_can 2 (some .boolean), .fieldLink RX5 59 "DividendDeskModel" "thrown" "I"] ++ wsX50)
def wsX5_pass : List Cond := .code yX5_pass cX5_pass 3 (some .int) :: ([.fieldLink RX5 85 "DividendDeskModel" "day" "I", .fieldLink RX5 63 "DividendDeskModel" "holders" "I", .fieldLink RX5 28 "DividendDeskModel" "since" "[I", .fieldLink RX5 22 "DividendDeskModel" "shares" "[I", .constant RX5 88 (100000), .methodLink RX5 66 yX5_isIn, .static yX5_isIn, .initialized RX5, .code yX5_isIn cX5_isIn 3 (some .boolean), .methodLink RX5 73 yX5_can, .instanceMethod yX5_can, .selects RX5 yX5_can yX5_can, .code yX5_can cX5_can 2 (some .boolean), .fieldLink RX5 59 "DividendDeskModel" "thrown" "I"] ++ wsX50)
def wsX5_day : List Cond := .code yX5_day cX5_day 1 (some .int) :: ([.fieldLink RX5 59 "DividendDeskModel" "thrown" "I", .fieldLink RX5 85 "DividendDeskModel" "day" "I"] ++ wsX50)
def wsX5_isAsked : List Cond := .code yX5_isAsked cX5_isAsked 2 (some .boolean) :: ([.methodLink RX5 77 yX5_isHolder, .instanceMethod yX5_isHolder, .selects RX5 yX5_isHolder yX5_isHolder, .initialized RX5, .code yX5_isHolder cX5_isHolder 2 (some .boolean), .fieldLink RX5 63 "DividendDeskModel" "holders" "I", .methodLink RX5 66 yX5_isIn, .static yX5_isIn, .code yX5_isIn cX5_isIn 3 (some .boolean), .methodLink RX5 73 yX5_can, .instanceMethod yX5_can, .selects RX5 yX5_can yX5_can, .code yX5_can cX5_can 2 (some .boolean), .fieldLink RX5 59 "DividendDeskModel" "thrown" "I"] ++ wsX50)
def wsX5_shares : List Cond := .code yX5_shares cX5_shares 2 (some .int) :: ([.fieldLink RX5 22 "DividendDeskModel" "shares" "[I", .methodLink RX5 89 yX5_isAsked, .instanceMethod yX5_isAsked, .selects RX5 yX5_isAsked yX5_isAsked, .initialized RX5, .code yX5_isAsked cX5_isAsked 2 (some .boolean), .methodLink RX5 77 yX5_isHolder, .instanceMethod yX5_isHolder, .selects RX5 yX5_isHolder yX5_isHolder, .code yX5_isHolder cX5_isHolder 2 (some .boolean), .fieldLink RX5 63 "DividendDeskModel" "holders" "I", .methodLink RX5 66 yX5_isIn, .static yX5_isIn, .code yX5_isIn cX5_isIn 3 (some .boolean), .methodLink RX5 73 yX5_can, .instanceMethod yX5_can, .selects RX5 yX5_can yX5_can, .code yX5_can cX5_can 2 (some .boolean), .fieldLink RX5 59 "DividendDeskModel" "thrown" "I"] ++ wsX50)
def wsX5_hasForm : List Cond := .code yX5_hasForm cX5_hasForm 2 (some .boolean) :: ([.fieldLink RX5 25 "DividendDeskModel" "validTo" "[I", .fieldLink RX5 85 "DividendDeskModel" "day" "I"] ++ wsX50)
def wsX5_isValid : List Cond := .code yX5_isValid cX5_isValid 2 (some .boolean) :: ([.methodLink RX5 89 yX5_isAsked, .instanceMethod yX5_isAsked, .selects RX5 yX5_isAsked yX5_isAsked, .initialized RX5, .code yX5_isAsked cX5_isAsked 2 (some .boolean), .methodLink RX5 77 yX5_isHolder, .instanceMethod yX5_isHolder, .selects RX5 yX5_isHolder yX5_isHolder, .code yX5_isHolder cX5_isHolder 2 (some .boolean), .fieldLink RX5 63 "DividendDeskModel" "holders" "I", .methodLink RX5 66 yX5_isIn, .static yX5_isIn, .code yX5_isIn cX5_isIn 3 (some .boolean), .methodLink RX5 73 yX5_can, .instanceMethod yX5_can, .selects RX5 yX5_can yX5_can, .code yX5_can cX5_can 2 (some .boolean), .fieldLink RX5 59 "DividendDeskModel" "thrown" "I", .methodLink RX5 92 yX5_hasForm, .instanceMethod yX5_hasForm, .selects RX5 yX5_hasForm yX5_hasForm, .code yX5_hasForm cX5_hasForm 2 (some .boolean), .fieldLink RX5 25 "DividendDeskModel" "validTo" "[I", .fieldLink RX5 85 "DividendDeskModel" "day" "I"] ++ wsX50)
def wsX5_holdsLarge : List Cond := .code yX5_holdsLarge cX5_holdsLarge 2 (some .boolean) :: ([.fieldLink RX5 16 "DividendDeskModel" "kind" "[I", .fieldLink RX5 22 "DividendDeskModel" "shares" "[I", .constant RX5 88 (100000), .fieldLink RX5 28 "DividendDeskModel" "since" "[I", .fieldLink RX5 85 "DividendDeskModel" "day" "I"] ++ wsX50)
def wsX5_isLarge_r1 : List Cond := [Cond.methodLink RX5 89 yX5_isAsked, Cond.instanceMethod yX5_isAsked, Cond.selects RX5 yX5_isAsked yX5_isAsked, Cond.initialized RX5, Cond.code yX5_isAsked cX5_isAsked 2 (some .boolean), Cond.methodLink RX5 77 yX5_isHolder, Cond.instanceMethod yX5_isHolder, Cond.selects RX5 yX5_isHolder yX5_isHolder, Cond.code yX5_isHolder cX5_isHolder 2 (some .boolean), Cond.fieldLink RX5 63 "DividendDeskModel" "holders" "I", Cond.methodLink RX5 66 yX5_isIn, Cond.static yX5_isIn, Cond.code yX5_isIn cX5_isIn 3 (some .boolean), Cond.methodLink RX5 73 yX5_can, Cond.instanceMethod yX5_can, Cond.selects RX5 yX5_can yX5_can, Cond.code yX5_can cX5_can 2 (some .boolean), Cond.fieldLink RX5 59 "DividendDeskModel" "thrown" "I", Cond.methodLink RX5 95 yX5_holdsLarge, Cond.instanceMethod yX5_holdsLarge, Cond.selects RX5 yX5_holdsLarge yX5_holdsLarge, Cond.code yX5_holdsLarge cX5_holdsLarge 2 (some .boolean), Cond.fieldLink RX5 16 "DividendDeskModel" "kind" "[I", Cond.fieldLink RX5 22 "DividendDeskModel" "shares" "[I"]
def wsX5_isLarge_r2 : List Cond := [Cond.constant RX5 88 (100000), Cond.fieldLink RX5 28 "DividendDeskModel" "since" "[I", Cond.fieldLink RX5 85 "DividendDeskModel" "day" "I"]
def wsX5_isLarge : List Cond := .code yX5_isLarge cX5_isLarge 2 (some .boolean) :: ((wsX5_isLarge_r1 ++ wsX5_isLarge_r2) ++ wsX50)
def wsX5_rateOf : List Cond := .code yX5_rateOf cX5_rateOf 3 (some .int) :: ([.fieldLink RX5 7 "DividendDeskModel" "general" "[I", .fieldLink RX5 19 "DividendDeskModel" "land" "[I", .fieldLink RX5 13 "DividendDeskModel" "large" "[I", .methodLink RX5 95 yX5_holdsLarge, .instanceMethod yX5_holdsLarge, .selects RX5 yX5_holdsLarge yX5_holdsLarge, .initialized RX5, .code yX5_holdsLarge cX5_holdsLarge 2 (some .boolean), .fieldLink RX5 16 "DividendDeskModel" "kind" "[I", .fieldLink RX5 22 "DividendDeskModel" "shares" "[I", .constant RX5 88 (100000), .fieldLink RX5 28 "DividendDeskModel" "since" "[I", .fieldLink RX5 85 "DividendDeskModel" "day" "I"] ++ wsX50)
def wsX5_treatyRate_r1 : List Cond := [Cond.fieldLink RX5 16 "DividendDeskModel" "kind" "[I", Cond.methodLink RX5 77 yX5_isHolder, Cond.instanceMethod yX5_isHolder, Cond.selects RX5 yX5_isHolder yX5_isHolder, Cond.initialized RX5, Cond.code yX5_isHolder cX5_isHolder 2 (some .boolean), Cond.fieldLink RX5 63 "DividendDeskModel" "holders" "I", Cond.methodLink RX5 66 yX5_isIn, Cond.static yX5_isIn, Cond.code yX5_isIn cX5_isIn 3 (some .boolean), Cond.methodLink RX5 73 yX5_can, Cond.instanceMethod yX5_can, Cond.selects RX5 yX5_can yX5_can, Cond.code yX5_can cX5_can 2 (some .boolean), Cond.fieldLink RX5 59 "DividendDeskModel" "thrown" "I", Cond.methodLink RX5 98 yX5_rateOf, Cond.instanceMethod yX5_rateOf, Cond.selects RX5 yX5_rateOf yX5_rateOf, Cond.code yX5_rateOf cX5_rateOf 3 (some .int), Cond.fieldLink RX5 7 "DividendDeskModel" "general" "[I", Cond.fieldLink RX5 19 "DividendDeskModel" "land" "[I", Cond.fieldLink RX5 13 "DividendDeskModel" "large" "[I", Cond.methodLink RX5 95 yX5_holdsLarge, Cond.instanceMethod yX5_holdsLarge]
def wsX5_treatyRate_r2 : List Cond := [Cond.selects RX5 yX5_holdsLarge yX5_holdsLarge, Cond.code yX5_holdsLarge cX5_holdsLarge 2 (some .boolean), Cond.fieldLink RX5 22 "DividendDeskModel" "shares" "[I", Cond.constant RX5 88 (100000), Cond.fieldLink RX5 28 "DividendDeskModel" "since" "[I", Cond.fieldLink RX5 85 "DividendDeskModel" "day" "I"]
def wsX5_treatyRate : List Cond := .code yX5_treatyRate cX5_treatyRate 2 (some .int) :: ((wsX5_treatyRate_r1 ++ wsX5_treatyRate_r2) ++ wsX50)
def wsX5_taxOf : List Cond := .code yX5_taxOf cX5_taxOf 3 (some .int) :: ([.constantLong RX5 102 (100)])
def wsX5_counts : List Cond := .code yX5_counts cX5_counts 5 (some .boolean) :: ([.fieldLink RX5 52 "DividendDeskModel" "wasValid" "[Z", .methodLink RX5 92 yX5_hasForm, .instanceMethod yX5_hasForm, .selects RX5 yX5_hasForm yX5_hasForm, .initialized RX5, .code yX5_hasForm cX5_hasForm 2 (some .boolean), .fieldLink RX5 25 "DividendDeskModel" "validTo" "[I", .fieldLink RX5 85 "DividendDeskModel" "day" "I"] ++ wsX50)
def wsX5_partnersTax : List Cond := .code yX5_partnersTax cX5_partnersTax 17 (some .int) :: ([.fieldLink RX5 37 "DividendDeskModel" "gross" "[I", .fieldLink RX5 56 "DividendDeskModel" "partsThen" "[I", .fieldLink RX5 63 "DividendDeskModel" "holders" "I", .fieldLink RX5 46 "DividendDeskModel" "shareRate" "[I", .methodLink RX5 104 yX5_taxOf, .static yX5_taxOf, .initialized RX5, .code yX5_taxOf cX5_taxOf 3 (some .int), .constantLong RX5 102 (100), .methodLink RX5 108 yX5_counts, .instanceMethod yX5_counts, .selects RX5 yX5_counts yX5_counts, .code yX5_counts cX5_counts 5 (some .boolean), .fieldLink RX5 52 "DividendDeskModel" "wasValid" "[Z", .methodLink RX5 92 yX5_hasForm, .instanceMethod yX5_hasForm, .selects RX5 yX5_hasForm yX5_hasForm, .code yX5_hasForm cX5_hasForm 2 (some .boolean), .fieldLink RX5 25 "DividendDeskModel" "validTo" "[I", .fieldLink RX5 85 "DividendDeskModel" "day" "I"] ++ wsX50)
def wsX5_tax_r1 : List Cond := [Cond.fieldLink RX5 16 "DividendDeskModel" "kind" "[I", Cond.fieldLink RX5 37 "DividendDeskModel" "gross" "[I", Cond.fieldLink RX5 49 "DividendDeskModel" "ownRate" "[I", Cond.methodLink RX5 112 yX5_partnersTax, Cond.instanceMethod yX5_partnersTax, Cond.selects RX5 yX5_partnersTax yX5_partnersTax, Cond.initialized RX5, Cond.code yX5_partnersTax cX5_partnersTax 17 (some .int), Cond.fieldLink RX5 56 "DividendDeskModel" "partsThen" "[I", Cond.fieldLink RX5 63 "DividendDeskModel" "holders" "I", Cond.fieldLink RX5 46 "DividendDeskModel" "shareRate" "[I", Cond.methodLink RX5 104 yX5_taxOf, Cond.static yX5_taxOf, Cond.code yX5_taxOf cX5_taxOf 3 (some .int), Cond.constantLong RX5 102 (100), Cond.methodLink RX5 108 yX5_counts, Cond.instanceMethod yX5_counts, Cond.selects RX5 yX5_counts yX5_counts, Cond.code yX5_counts cX5_counts 5 (some .boolean), Cond.fieldLink RX5 52 "DividendDeskModel" "wasValid" "[Z", Cond.methodLink RX5 92 yX5_hasForm, Cond.instanceMethod yX5_hasForm, Cond.selects RX5 yX5_hasForm yX5_hasForm, Cond.code yX5_hasForm cX5_hasForm 2 (some .boolean)]
def wsX5_tax_r2 : List Cond := [Cond.fieldLink RX5 25 "DividendDeskModel" "validTo" "[I", Cond.fieldLink RX5 85 "DividendDeskModel" "day" "I"]
def wsX5_tax : List Cond := .code yX5_tax cX5_tax 6 (some .int) :: ((wsX5_tax_r1 ++ wsX5_tax_r2) ++ wsX50)
def wsX5_pay_r1 : List Cond := [Cond.fieldLink RX5 70 "DividendDeskModel" "dividends" "I", Cond.fieldLink RX5 34 "DividendDeskModel" "paidOn" "[I", Cond.fieldLink RX5 85 "DividendDeskModel" "day" "I", Cond.fieldLink RX5 63 "DividendDeskModel" "holders" "I", Cond.fieldLink RX5 37 "DividendDeskModel" "gross" "[I", Cond.fieldLink RX5 22 "DividendDeskModel" "shares" "[I", Cond.fieldLink RX5 52 "DividendDeskModel" "wasValid" "[Z", Cond.fieldLink RX5 46 "DividendDeskModel" "shareRate" "[I", Cond.fieldLink RX5 16 "DividendDeskModel" "kind" "[I", Cond.fieldLink RX5 7 "DividendDeskModel" "general" "[I", Cond.fieldLink RX5 19 "DividendDeskModel" "land" "[I", Cond.fieldLink RX5 49 "DividendDeskModel" "ownRate" "[I", Cond.fieldLink RX5 56 "DividendDeskModel" "partsThen" "[I", Cond.fieldLink RX5 31 "DividendDeskModel" "parts" "[I", Cond.fieldLink RX5 40 "DividendDeskModel" "held" "[I", Cond.fieldLink RX5 43 "DividendDeskModel" "due" "[I", Cond.methodLink RX5 66 yX5_isIn, Cond.static yX5_isIn, Cond.initialized RX5, Cond.code yX5_isIn cX5_isIn 3 (some .boolean), Cond.methodLink RX5 81 yX5_allShares, Cond.instanceMethod yX5_allShares, Cond.selects RX5 yX5_allShares yX5_allShares, Cond.code yX5_allShares cX5_allShares 3 (some .int)]
def wsX5_pay_r2 : List Cond := [Cond.methodLink RX5 73 yX5_can, Cond.instanceMethod yX5_can, Cond.selects RX5 yX5_can yX5_can, Cond.code yX5_can cX5_can 2 (some .boolean), Cond.fieldLink RX5 59 "DividendDeskModel" "thrown" "I", Cond.methodLink RX5 92 yX5_hasForm, Cond.instanceMethod yX5_hasForm, Cond.selects RX5 yX5_hasForm yX5_hasForm, Cond.code yX5_hasForm cX5_hasForm 2 (some .boolean), Cond.fieldLink RX5 25 "DividendDeskModel" "validTo" "[I", Cond.methodLink RX5 98 yX5_rateOf, Cond.instanceMethod yX5_rateOf, Cond.selects RX5 yX5_rateOf yX5_rateOf, Cond.code yX5_rateOf cX5_rateOf 3 (some .int), Cond.fieldLink RX5 13 "DividendDeskModel" "large" "[I", Cond.methodLink RX5 95 yX5_holdsLarge, Cond.instanceMethod yX5_holdsLarge, Cond.selects RX5 yX5_holdsLarge yX5_holdsLarge, Cond.code yX5_holdsLarge cX5_holdsLarge 2 (some .boolean), Cond.constant RX5 88 (100000), Cond.fieldLink RX5 28 "DividendDeskModel" "since" "[I", Cond.methodLink RX5 116 yX5_tax, Cond.instanceMethod yX5_tax, Cond.selects RX5 yX5_tax yX5_tax]
def wsX5_pay_r3 : List Cond := [Cond.code yX5_tax cX5_tax 6 (some .int), Cond.methodLink RX5 112 yX5_partnersTax, Cond.instanceMethod yX5_partnersTax, Cond.selects RX5 yX5_partnersTax yX5_partnersTax, Cond.code yX5_partnersTax cX5_partnersTax 17 (some .int), Cond.methodLink RX5 104 yX5_taxOf, Cond.static yX5_taxOf, Cond.code yX5_taxOf cX5_taxOf 3 (some .int), Cond.constantLong RX5 102 (100), Cond.methodLink RX5 108 yX5_counts, Cond.instanceMethod yX5_counts, Cond.selects RX5 yX5_counts yX5_counts, Cond.code yX5_counts cX5_counts 5 (some .boolean)]
def wsX5_pay : List Cond := .code yX5_pay cX5_pay 5 (some .int) :: ((wsX5_pay_r1 ++ (wsX5_pay_r2 ++ wsX5_pay_r3)) ++ wsX50)
def wsX5_dividends : List Cond := .code yX5_dividends cX5_dividends 1 (some .int) :: ([.fieldLink RX5 59 "DividendDeskModel" "thrown" "I", .fieldLink RX5 70 "DividendDeskModel" "dividends" "I"] ++ wsX50)
def wsX5_areAsked : List Cond := .code yX5_areAsked cX5_areAsked 3 (some .boolean) :: ([.methodLink RX5 119 yX5_isDividend, .instanceMethod yX5_isDividend, .selects RX5 yX5_isDividend yX5_isDividend, .initialized RX5, .code yX5_isDividend cX5_isDividend 2 (some .boolean), .fieldLink RX5 70 "DividendDeskModel" "dividends" "I", .methodLink RX5 66 yX5_isIn, .static yX5_isIn, .code yX5_isIn cX5_isIn 3 (some .boolean), .methodLink RX5 77 yX5_isHolder, .instanceMethod yX5_isHolder, .selects RX5 yX5_isHolder yX5_isHolder, .code yX5_isHolder cX5_isHolder 2 (some .boolean), .fieldLink RX5 63 "DividendDeskModel" "holders" "I", .methodLink RX5 73 yX5_can, .instanceMethod yX5_can, .selects RX5 yX5_can yX5_can, .code yX5_can cX5_can 2 (some .boolean), .fieldLink RX5 59 "DividendDeskModel" "thrown" "I"] ++ wsX50)
def wsX5_gross : List Cond := .code yX5_gross cX5_gross 3 (some .int) :: ([.fieldLink RX5 37 "DividendDeskModel" "gross" "[I", .methodLink RX5 122 yX5_areAsked, .instanceMethod yX5_areAsked, .selects RX5 yX5_areAsked yX5_areAsked, .initialized RX5, .code yX5_areAsked cX5_areAsked 3 (some .boolean), .methodLink RX5 119 yX5_isDividend, .instanceMethod yX5_isDividend, .selects RX5 yX5_isDividend yX5_isDividend, .code yX5_isDividend cX5_isDividend 2 (some .boolean), .fieldLink RX5 70 "DividendDeskModel" "dividends" "I", .methodLink RX5 66 yX5_isIn, .static yX5_isIn, .code yX5_isIn cX5_isIn 3 (some .boolean), .methodLink RX5 77 yX5_isHolder, .instanceMethod yX5_isHolder, .selects RX5 yX5_isHolder yX5_isHolder, .code yX5_isHolder cX5_isHolder 2 (some .boolean), .fieldLink RX5 63 "DividendDeskModel" "holders" "I", .methodLink RX5 73 yX5_can, .instanceMethod yX5_can, .selects RX5 yX5_can yX5_can, .code yX5_can cX5_can 2 (some .boolean), .fieldLink RX5 59 "DividendDeskModel" "thrown" "I"] ++ wsX50)
def wsX5_held : List Cond := .code yX5_held cX5_held 3 (some .int) :: ([.fieldLink RX5 40 "DividendDeskModel" "held" "[I", .methodLink RX5 122 yX5_areAsked, .instanceMethod yX5_areAsked, .selects RX5 yX5_areAsked yX5_areAsked, .initialized RX5, .code yX5_areAsked cX5_areAsked 3 (some .boolean), .methodLink RX5 119 yX5_isDividend, .instanceMethod yX5_isDividend, .selects RX5 yX5_isDividend yX5_isDividend, .code yX5_isDividend cX5_isDividend 2 (some .boolean), .fieldLink RX5 70 "DividendDeskModel" "dividends" "I", .methodLink RX5 66 yX5_isIn, .static yX5_isIn, .code yX5_isIn cX5_isIn 3 (some .boolean), .methodLink RX5 77 yX5_isHolder, .instanceMethod yX5_isHolder, .selects RX5 yX5_isHolder yX5_isHolder, .code yX5_isHolder cX5_isHolder 2 (some .boolean), .fieldLink RX5 63 "DividendDeskModel" "holders" "I", .methodLink RX5 73 yX5_can, .instanceMethod yX5_can, .selects RX5 yX5_can yX5_can, .code yX5_can cX5_can 2 (some .boolean), .fieldLink RX5 59 "DividendDeskModel" "thrown" "I"] ++ wsX50)
def wsX5_due : List Cond := .code yX5_due cX5_due 3 (some .int) :: ([.fieldLink RX5 43 "DividendDeskModel" "due" "[I", .methodLink RX5 122 yX5_areAsked, .instanceMethod yX5_areAsked, .selects RX5 yX5_areAsked yX5_areAsked, .initialized RX5, .code yX5_areAsked cX5_areAsked 3 (some .boolean), .methodLink RX5 119 yX5_isDividend, .instanceMethod yX5_isDividend, .selects RX5 yX5_isDividend yX5_isDividend, .code yX5_isDividend cX5_isDividend 2 (some .boolean), .fieldLink RX5 70 "DividendDeskModel" "dividends" "I", .methodLink RX5 66 yX5_isIn, .static yX5_isIn, .code yX5_isIn cX5_isIn 3 (some .boolean), .methodLink RX5 77 yX5_isHolder, .instanceMethod yX5_isHolder, .selects RX5 yX5_isHolder yX5_isHolder, .code yX5_isHolder cX5_isHolder 2 (some .boolean), .fieldLink RX5 63 "DividendDeskModel" "holders" "I", .methodLink RX5 73 yX5_can, .instanceMethod yX5_can, .selects RX5 yX5_can yX5_can, .code yX5_can cX5_can 2 (some .boolean), .fieldLink RX5 59 "DividendDeskModel" "thrown" "I"] ++ wsX50)
def wsX5_heldInAll : List Cond := .code yX5_heldInAll cX5_heldInAll 4 (some .long) :: ([.fieldLink RX5 59 "DividendDeskModel" "thrown" "I", .fieldLink RX5 40 "DividendDeskModel" "held" "[I"] ++ wsX50)
def wsX5_refunded : List Cond := .code yX5_refunded cX5_refunded 1 (some .long) :: ([.fieldLink RX5 59 "DividendDeskModel" "thrown" "I", .fieldLink RX5 126 "DividendDeskModel" "refunds" "J"] ++ wsX50)
def wsX5_isOver : List Cond := .code yX5_isOver cX5_isOver 4 (some .boolean) :: ([.fieldLink RX5 37 "DividendDeskModel" "gross" "[I", .fieldLink RX5 85 "DividendDeskModel" "day" "I", .fieldLink RX5 34 "DividendDeskModel" "paidOn" "[I"] ++ wsX50)
def wsX5_gives : List Cond := .code yX5_gives cX5_gives 6 (some .int) :: ([.fieldLink RX5 40 "DividendDeskModel" "held" "[I", .fieldLink RX5 126 "DividendDeskModel" "refunds" "J"] ++ wsX50)
def wsX5_refund_r1 : List Cond := [Cond.methodLink RX5 119 yX5_isDividend, Cond.instanceMethod yX5_isDividend, Cond.selects RX5 yX5_isDividend yX5_isDividend, Cond.initialized RX5, Cond.code yX5_isDividend cX5_isDividend 2 (some .boolean), Cond.fieldLink RX5 70 "DividendDeskModel" "dividends" "I", Cond.methodLink RX5 66 yX5_isIn, Cond.static yX5_isIn, Cond.code yX5_isIn cX5_isIn 3 (some .boolean), Cond.methodLink RX5 77 yX5_isHolder, Cond.instanceMethod yX5_isHolder, Cond.selects RX5 yX5_isHolder yX5_isHolder, Cond.code yX5_isHolder cX5_isHolder 2 (some .boolean), Cond.fieldLink RX5 63 "DividendDeskModel" "holders" "I", Cond.methodLink RX5 130 yX5_isOver, Cond.instanceMethod yX5_isOver, Cond.selects RX5 yX5_isOver yX5_isOver, Cond.code yX5_isOver cX5_isOver 4 (some .boolean), Cond.fieldLink RX5 37 "DividendDeskModel" "gross" "[I", Cond.fieldLink RX5 85 "DividendDeskModel" "day" "I", Cond.fieldLink RX5 34 "DividendDeskModel" "paidOn" "[I", Cond.methodLink RX5 73 yX5_can, Cond.instanceMethod yX5_can, Cond.selects RX5 yX5_can yX5_can]
def wsX5_refund_r2 : List Cond := [Cond.code yX5_can cX5_can 2 (some .boolean), Cond.fieldLink RX5 59 "DividendDeskModel" "thrown" "I", Cond.methodLink RX5 116 yX5_tax, Cond.instanceMethod yX5_tax, Cond.selects RX5 yX5_tax yX5_tax, Cond.code yX5_tax cX5_tax 6 (some .int), Cond.fieldLink RX5 16 "DividendDeskModel" "kind" "[I", Cond.fieldLink RX5 49 "DividendDeskModel" "ownRate" "[I", Cond.methodLink RX5 112 yX5_partnersTax, Cond.instanceMethod yX5_partnersTax, Cond.selects RX5 yX5_partnersTax yX5_partnersTax, Cond.code yX5_partnersTax cX5_partnersTax 17 (some .int), Cond.fieldLink RX5 56 "DividendDeskModel" "partsThen" "[I", Cond.fieldLink RX5 46 "DividendDeskModel" "shareRate" "[I", Cond.methodLink RX5 104 yX5_taxOf, Cond.static yX5_taxOf, Cond.code yX5_taxOf cX5_taxOf 3 (some .int), Cond.constantLong RX5 102 (100), Cond.methodLink RX5 108 yX5_counts, Cond.instanceMethod yX5_counts, Cond.selects RX5 yX5_counts yX5_counts, Cond.code yX5_counts cX5_counts 5 (some .boolean), Cond.fieldLink RX5 52 "DividendDeskModel" "wasValid" "[Z", Cond.methodLink RX5 92 yX5_hasForm]
def wsX5_refund_r3 : List Cond := [Cond.instanceMethod yX5_hasForm, Cond.selects RX5 yX5_hasForm yX5_hasForm, Cond.code yX5_hasForm cX5_hasForm 2 (some .boolean), Cond.fieldLink RX5 25 "DividendDeskModel" "validTo" "[I", Cond.methodLink RX5 133 yX5_gives, Cond.instanceMethod yX5_gives, Cond.selects RX5 yX5_gives yX5_gives, Cond.code yX5_gives cX5_gives 6 (some .int), Cond.fieldLink RX5 40 "DividendDeskModel" "held" "[I", Cond.fieldLink RX5 126 "DividendDeskModel" "refunds" "J"]
def wsX5_refund : List Cond := .code yX5_refund cX5_refund 3 (some .int) :: ((wsX5_refund_r1 ++ (wsX5_refund_r2 ++ wsX5_refund_r3)) ++ wsX50)
def wsX5_claim_r1 : List Cond := [Cond.fieldLink RX5 43 "DividendDeskModel" "due" "[I", Cond.methodLink RX5 119 yX5_isDividend, Cond.instanceMethod yX5_isDividend, Cond.selects RX5 yX5_isDividend yX5_isDividend, Cond.initialized RX5, Cond.code yX5_isDividend cX5_isDividend 2 (some .boolean), Cond.fieldLink RX5 70 "DividendDeskModel" "dividends" "I", Cond.methodLink RX5 66 yX5_isIn, Cond.static yX5_isIn, Cond.code yX5_isIn cX5_isIn 3 (some .boolean), Cond.methodLink RX5 77 yX5_isHolder, Cond.instanceMethod yX5_isHolder, Cond.selects RX5 yX5_isHolder yX5_isHolder, Cond.code yX5_isHolder cX5_isHolder 2 (some .boolean), Cond.fieldLink RX5 63 "DividendDeskModel" "holders" "I", Cond.methodLink RX5 130 yX5_isOver, Cond.instanceMethod yX5_isOver, Cond.selects RX5 yX5_isOver yX5_isOver, Cond.code yX5_isOver cX5_isOver 4 (some .boolean), Cond.fieldLink RX5 37 "DividendDeskModel" "gross" "[I", Cond.fieldLink RX5 85 "DividendDeskModel" "day" "I", Cond.fieldLink RX5 34 "DividendDeskModel" "paidOn" "[I", Cond.methodLink RX5 92 yX5_hasForm, Cond.instanceMethod yX5_hasForm]
def wsX5_claim_r2 : List Cond := [Cond.selects RX5 yX5_hasForm yX5_hasForm, Cond.code yX5_hasForm cX5_hasForm 2 (some .boolean), Cond.fieldLink RX5 25 "DividendDeskModel" "validTo" "[I", Cond.methodLink RX5 73 yX5_can, Cond.instanceMethod yX5_can, Cond.selects RX5 yX5_can yX5_can, Cond.code yX5_can cX5_can 2 (some .boolean), Cond.fieldLink RX5 59 "DividendDeskModel" "thrown" "I", Cond.methodLink RX5 133 yX5_gives, Cond.instanceMethod yX5_gives, Cond.selects RX5 yX5_gives yX5_gives, Cond.code yX5_gives cX5_gives 6 (some .int), Cond.fieldLink RX5 40 "DividendDeskModel" "held" "[I", Cond.fieldLink RX5 126 "DividendDeskModel" "refunds" "J"]
def wsX5_claim : List Cond := .code yX5_claim cX5_claim 3 (some .int) :: ((wsX5_claim_r1 ++ wsX5_claim_r2) ++ wsX50)
def wsJ9_max_7cf53 : List Cond := .code yJ9_max_7cf53 cJ9_max_7cf53 2 (some .int) :: ([])
def wsJ9_min_7cf53 : List Cond := .code yJ9_min_7cf53 cJ9_min_7cf53 2 (some .int) :: ([])
def wsL_setTreaty : List Cond := .codeWith yL_setTreaty cL_setTreaty 6 (some .int) [(0, 12, 15, 13)] :: ([.classLink RL 13 "java/lang/IllegalArgumentException", .methodLink RL 7 yX4_setTreaty, .instanceMethod yX4_setTreaty, .selects RX4 yX4_setTreaty yX4_setTreaty, .initialized RX4, .code yX4_setTreaty cX4_setTreaty 5 (some .int), .classLink RX4 42 "java/lang/IllegalArgumentException", .initialized "java/lang/IllegalArgumentException", .fieldLink RX4 9 "DividendDesk" "generalRates" "[I", .fieldLink RX4 13 "DividendDesk" "largeRates" "[I", .methodLink RX4 34 yX4_isLand, .static yX4_isLand, .code yX4_isLand cX4_isLand 1 (some .boolean), .methodLink RX4 38 yX4_isWithin, .static yX4_isWithin, .code yX4_isWithin cX4_isWithin 3 (some .boolean)] ++ wsX40 ++ (vx_atS RX4 46 "java/lang/IllegalArgumentException" ["java/lang/RuntimeException", "java/lang/Exception"]).filter goodWord)
def wsL_addHolder_r1 : List Cond := [Cond.classLink RL 13 "java/lang/IllegalArgumentException", Cond.classLink RL 19 "java/lang/IllegalStateException", Cond.methodLink RL 15 yX4_addHolder, Cond.instanceMethod yX4_addHolder, Cond.selects RX4 yX4_addHolder yX4_addHolder, Cond.initialized RX4, Cond.code yX4_addHolder cX4_addHolder 3 (some .int), Cond.classLink RX4 42 "java/lang/IllegalArgumentException", Cond.initialized "java/lang/IllegalArgumentException", Cond.classLink RX4 57 "java/lang/IllegalStateException", Cond.initialized "java/lang/IllegalStateException", Cond.fieldLink RX4 19 "DividendDesk" "holders" "Ljava/util/ArrayList;", Cond.classLink RX4 62 RX1, Cond.instantiable RX1 6, Cond.initialized RX1, Cond.methodLink RX4 38 yX4_isWithin, Cond.static yX4_isWithin, Cond.code yX4_isWithin cX4_isWithin 3 (some .boolean), Cond.methodLink RX4 34 yX4_isLand, Cond.static yX4_isLand, Cond.code yX4_isLand cX4_isLand 1 (some .boolean), Cond.methodLink RX4 53 yJx4a65c_size_8abf5, Cond.instanceMethod yJx4a65c_size_8abf5, Cond.selects RJx4a65c yJx4a65c_size_8abf5 yJx4a65c_size_8abf5]
def wsL_addHolder_r2 : List Cond := [Cond.initialized RJx4a65c, Cond.code yJx4a65c_size_8abf5 cJx4a65c_size_8abf5 1 (some .int), Cond.fieldLink RJx4a65c 48 "java/util/ArrayList" "size" "I", Cond.instanceMethod yX1_init, Cond.code yX1_init cX1_init 3 none, Cond.methodLink RX1 3 objectInit, Cond.instanceMethod objectInit, Cond.code objectInit ⟨#[0xb1]⟩ 1 none, Cond.arrayClass .int, Cond.fieldLink RX1 9 "DividendDesk$Holder" "memberParts" "[I", Cond.fieldLink RX1 15 "DividendDesk$Holder" "shares" "I", Cond.fieldLink RX1 19 "DividendDesk$Holder" "formEnd" "I", Cond.fieldLink RX1 22 "DividendDesk$Holder" "enoughSince" "I", Cond.fieldLink RX1 25 "DividendDesk$Holder" "kind" "I", Cond.fieldLink RX1 28 "DividendDesk$Holder" "land" "I", Cond.methodLink RX4 67 yJx4a65c_add_9ea2d, Cond.instanceMethod yJx4a65c_add_9ea2d, Cond.selects RJx4a65c yJx4a65c_add_9ea2d yJx4a65c_add_9ea2d, Cond.code yJx4a65c_add_9ea2d cJx4a65c_add_9ea2d 2 (some .boolean), Cond.fieldLink RJx4a65c 63 "java/util/ArrayList" "modCount" "I", Cond.sameField "java/util/ArrayList" "java/util/AbstractList" "modCount" "I", Cond.fieldLink RJx4a65c 9 "java/util/ArrayList" "elementData" "[Ljava/lang/Object;", Cond.methodLink RJx4a65c 131 yJx4a65c_add_72be8, Cond.instanceMethod yJx4a65c_add_72be8]
def wsL_addHolder_r3 : List Cond := [Cond.selects RJx4a65c yJx4a65c_add_72be8 yJx4a65c_add_72be8, Cond.code yJx4a65c_add_72be8 cJx4a65c_add_72be8 4 none, Cond.methodLink RJx4a65c 129 yJx4a65c_grow_d5877, Cond.instanceMethod yJx4a65c_grow_d5877, Cond.selects RJx4a65c yJx4a65c_grow_d5877 yJx4a65c_grow_d5877, Cond.code yJx4a65c_grow_d5877 cJx4a65c_grow_d5877 1 (some (.array (.object "java/lang/Object"))), Cond.methodLink RJx4a65c 69 yJx4a65c_grow_92f84, Cond.instanceMethod yJx4a65c_grow_92f84, Cond.selects RJx4a65c yJx4a65c_grow_92f84 yJx4a65c_grow_92f84, Cond.code yJx4a65c_grow_92f84 cJx4a65c_grow_92f84 4 (some (.array (.object "java/lang/Object"))), Cond.fieldLink RJx4a65c 39 "java/util/ArrayList" "DEFAULTCAPACITY_EMPTY_ELEMENTDATA" "[Ljava/lang/Object;", Cond.methodLink RJx4a65c 79 Lib.Math.max.name, Cond.static Lib.Math.max.name, Cond.initialized "java/lang/Math", Cond.code Lib.Math.max.name Lib.Math.max.code 2 (some .int), Cond.classLink RJx4a65c 7 "java/lang/Object", Cond.methodLink RJx4a65c 73 yJ8_newLength_cabcc, Cond.static yJ8_newLength_cabcc, Cond.initialized RJ8, Cond.code yJ8_newLength_cabcc cJ8_newLength_cabcc 4 (some .int), Cond.methodLink RJ8 194 Lib.Math.max.name, Cond.constant RJ8 200 (2147483639), Cond.methodLink RJ8 201 yJ8_hugeLength_7cf53, Cond.static yJ8_hugeLength_7cf53]
def wsL_addHolder_r4 : List Cond := [Cond.code yJ8_hugeLength_7cf53 cJ8_hugeLength_7cf53 3 (some .int), Cond.methodLink RJx4a65c 66 yJ7_copyOf_1904c, Cond.static yJ7_copyOf_1904c, Cond.initialized RJ7, Cond.code yJ7_copyOf_1904c cJ7_copyOf_1904c 2 (some (.array (.object "java/lang/Object"))), Cond.methodLink RJ7 86 ⟨"java/lang/Object", "getClass", "()Ljava/lang/Class;"⟩, Cond.selects "[Ljava/lang/Object;" ⟨"java/lang/Object", "getClass", "()Ljava/lang/Class;"⟩ ⟨"java/lang/Object", "getClass", "()Ljava/lang/Class;"⟩, Cond.instanceMethod ⟨"java/lang/Object", "getClass", "()Ljava/lang/Class;"⟩, Cond.native ⟨"java/lang/Object", "getClass", "()Ljava/lang/Class;"⟩, Cond.methodLink RJ7 300 yJ7_copyOf_6403c, Cond.static yJ7_copyOf_6403c, Cond.code yJ7_copyOf_6403c cJ7_copyOf_6403c 4 (some (.array (.object "java/lang/Object"))), Cond.classLink RJ7 110 "[Ljava/lang/Object;", Cond.classLink RJ7 2 "java/lang/Object", Cond.methodLink RJ7 304 Lib.Math.min.name, Cond.static Lib.Math.min.name, Cond.code Lib.Math.min.name Lib.Math.min.code 2 (some .int), Cond.methodLink RJ7 150 arraycopyName, Cond.native arraycopyName, Cond.static arraycopyName, Cond.initialized "java/lang/System"]
def wsL_addHolder : List Cond := .codeWith yL_addHolder cL_addHolder 5 (some .int) [(0, 10, 13, 13), (0, 10, 17, 19)] :: ((wsL_addHolder_r1 ++ (wsL_addHolder_r2 ++ (wsL_addHolder_r3 ++ wsL_addHolder_r4))) ++ wsX40 ++ wsX10 ++ wsJx4a65c0 ++ (vx_atS RX4 46 "java/lang/IllegalArgumentException" ["java/lang/RuntimeException", "java/lang/Exception"]).filter goodWord ++ (vx_atS RX4 61 "java/lang/IllegalStateException" ["java/lang/RuntimeException", "java/lang/Exception"]).filter goodWord)
def wsL_setParts_r1 : List Cond := [Cond.classLink RL 24 "java/lang/IndexOutOfBoundsException", Cond.classLink RL 13 "java/lang/IllegalArgumentException", Cond.methodLink RL 21 yX4_setParts, Cond.instanceMethod yX4_setParts, Cond.selects RX4 yX4_setParts yX4_setParts, Cond.initialized RX4, Cond.code yX4_setParts cX4_setParts 7 (some .int), Cond.classLink RX4 42 "java/lang/IllegalArgumentException", Cond.initialized "java/lang/IllegalArgumentException", Cond.methodLink RX4 71 yX4_holderAt, Cond.instanceMethod yX4_holderAt, Cond.selects RX4 yX4_holderAt yX4_holderAt, Cond.code yX4_holderAt cX4_holderAt 2 (some (.object "DividendDesk$Holder")), Cond.classLink RX4 182 "java/lang/IndexOutOfBoundsException", Cond.initialized "java/lang/IndexOutOfBoundsException", Cond.fieldLink RX4 19 "DividendDesk" "holders" "Ljava/util/ArrayList;", Cond.classLink RX4 62 "DividendDesk$Holder", Cond.methodLink RX4 179 yX4_isHolder, Cond.instanceMethod yX4_isHolder, Cond.selects RX4 yX4_isHolder yX4_isHolder, Cond.code yX4_isHolder cX4_isHolder 2 (some .boolean), Cond.methodLink RX4 53 yJx4a65c_size_8abf5, Cond.instanceMethod yJx4a65c_size_8abf5, Cond.selects RJx4a65c yJx4a65c_size_8abf5 yJx4a65c_size_8abf5]
def wsL_setParts_r2 : List Cond := [Cond.initialized RJx4a65c, Cond.code yJx4a65c_size_8abf5 cJx4a65c_size_8abf5 1 (some .int), Cond.fieldLink RJx4a65c 48 "java/util/ArrayList" "size" "I", Cond.methodLink RX4 38 yX4_isWithin, Cond.static yX4_isWithin, Cond.code yX4_isWithin cX4_isWithin 3 (some .boolean), Cond.methodLink RX4 105 yJx4a65c_get_915e3, Cond.instanceMethod yJx4a65c_get_915e3, Cond.selects RJx4a65c yJx4a65c_get_915e3 yJx4a65c_get_915e3, Cond.code yJx4a65c_get_915e3 cJx4a65c_get_915e3 2 (some (.object "java/lang/Object")), Cond.methodLink RJx4a65c 118 yJ15_checkIndex_7cf53, Cond.static yJ15_checkIndex_7cf53, Cond.initialized RJ15, Cond.code yJ15_checkIndex_7cf53 cJ15_checkIndex_7cf53 2 (some .int), Cond.methodLink RJ15 105 yJ3_checkIndex_8e157, Cond.static yJ3_checkIndex_8e157, Cond.initialized RJ3, Cond.code yJ3_checkIndex_8e157 cJ3_checkIndex_8e157 3 (some .int), Cond.methodLink RJx4a65c 123 yJx4a65c_elementData_915e3, Cond.instanceMethod yJx4a65c_elementData_915e3, Cond.selects RJx4a65c yJx4a65c_elementData_915e3 yJx4a65c_elementData_915e3, Cond.code yJx4a65c_elementData_915e3 cJx4a65c_elementData_915e3 2 (some (.object "java/lang/Object")), Cond.fieldLink RJx4a65c 9 "java/util/ArrayList" "elementData" "[Ljava/lang/Object;", Cond.instanceMethod yX1_partsOf]
def wsL_setParts_r3 : List Cond := [Cond.initialized RX1, Cond.selects RX1 yX1_partsOf yX1_partsOf, Cond.code yX1_partsOf cX1_partsOf 2 (some .int), Cond.fieldLink RX1 9 "DividendDesk$Holder" "memberParts" "[I", Cond.instanceMethod yX1_changeParts, Cond.selects RX1 yX1_changeParts yX1_changeParts, Cond.code yX1_changeParts cX1_changeParts 3 none]
def wsL_setParts : List Cond := .codeWith yL_setParts cL_setParts 6 (some .int) [(0, 12, 15, 24), (0, 12, 19, 13)] :: ((wsL_setParts_r1 ++ (wsL_setParts_r2 ++ wsL_setParts_r3)) ++ wsX10 ++ wsX40 ++ wsJx4a65c0 ++ (vx_atS RX4 46 "java/lang/IllegalArgumentException" ["java/lang/RuntimeException", "java/lang/Exception"]).filter goodWord ++ (vx_atS RX4 186 "java/lang/IndexOutOfBoundsException" ["java/lang/RuntimeException", "java/lang/Exception"]).filter goodWord)
def wsL_setShares_r1 : List Cond := [Cond.classLink RL 24 "java/lang/IndexOutOfBoundsException", Cond.classLink RL 13 "java/lang/IllegalArgumentException", Cond.classLink RL 19 "java/lang/IllegalStateException", Cond.methodLink RL 26 yX4_setShares, Cond.instanceMethod yX4_setShares, Cond.selects RX4 yX4_setShares yX4_setShares, Cond.initialized RX4, Cond.code yX4_setShares cX4_setShares 5 (some .int), Cond.classLink RX4 42 "java/lang/IllegalArgumentException", Cond.initialized "java/lang/IllegalArgumentException", Cond.classLink RX4 57 "java/lang/IllegalStateException", Cond.initialized "java/lang/IllegalStateException", Cond.constant RX4 87 (1000000), Cond.methodLink RX4 71 yX4_holderAt, Cond.instanceMethod yX4_holderAt, Cond.selects RX4 yX4_holderAt yX4_holderAt, Cond.code yX4_holderAt cX4_holderAt 2 (some (.object "DividendDesk$Holder")), Cond.classLink RX4 182 "java/lang/IndexOutOfBoundsException", Cond.initialized "java/lang/IndexOutOfBoundsException", Cond.fieldLink RX4 19 "DividendDesk" "holders" "Ljava/util/ArrayList;", Cond.classLink RX4 62 "DividendDesk$Holder", Cond.methodLink RX4 179 yX4_isHolder, Cond.instanceMethod yX4_isHolder, Cond.selects RX4 yX4_isHolder yX4_isHolder]
def wsL_setShares_r2 : List Cond := [Cond.code yX4_isHolder cX4_isHolder 2 (some .boolean), Cond.methodLink RX4 53 yJx4a65c_size_8abf5, Cond.instanceMethod yJx4a65c_size_8abf5, Cond.selects RJx4a65c yJx4a65c_size_8abf5 yJx4a65c_size_8abf5, Cond.initialized RJx4a65c, Cond.code yJx4a65c_size_8abf5 cJx4a65c_size_8abf5 1 (some .int), Cond.fieldLink RJx4a65c 48 "java/util/ArrayList" "size" "I", Cond.methodLink RX4 38 yX4_isWithin, Cond.static yX4_isWithin, Cond.code yX4_isWithin cX4_isWithin 3 (some .boolean), Cond.methodLink RX4 105 yJx4a65c_get_915e3, Cond.instanceMethod yJx4a65c_get_915e3, Cond.selects RJx4a65c yJx4a65c_get_915e3 yJx4a65c_get_915e3, Cond.code yJx4a65c_get_915e3 cJx4a65c_get_915e3 2 (some (.object "java/lang/Object")), Cond.methodLink RJx4a65c 118 yJ15_checkIndex_7cf53, Cond.static yJ15_checkIndex_7cf53, Cond.initialized RJ15, Cond.code yJ15_checkIndex_7cf53 cJ15_checkIndex_7cf53 2 (some .int), Cond.methodLink RJ15 105 yJ3_checkIndex_8e157, Cond.static yJ3_checkIndex_8e157, Cond.initialized RJ3, Cond.code yJ3_checkIndex_8e157 cJ3_checkIndex_8e157 3 (some .int), Cond.methodLink RJx4a65c 123 yJx4a65c_elementData_915e3, Cond.instanceMethod yJx4a65c_elementData_915e3]
def wsL_setShares_r3 : List Cond := [Cond.selects RJx4a65c yJx4a65c_elementData_915e3 yJx4a65c_elementData_915e3, Cond.code yJx4a65c_elementData_915e3 cJx4a65c_elementData_915e3 2 (some (.object "java/lang/Object")), Cond.fieldLink RJx4a65c 9 "java/util/ArrayList" "elementData" "[Ljava/lang/Object;", Cond.methodLink RX4 93 yX4_sharesInAll, Cond.instanceMethod yX4_sharesInAll, Cond.selects RX4 yX4_sharesInAll yX4_sharesInAll, Cond.code yX4_sharesInAll cX4_sharesInAll 3 (some .int)]
def wsL_setShares : List Cond := .codeWith yL_setShares cL_setShares 5 (some .int) [(0, 10, 13, 24), (0, 10, 17, 13), (0, 10, 21, 19)] :: ((wsL_setShares_r1 ++ (wsL_setShares_r2 ++ wsL_setShares_r3)) ++ wsX10 ++ wsX40 ++ wsJx4a65c0 ++ (vx_atS RX4 46 "java/lang/IllegalArgumentException" ["java/lang/RuntimeException", "java/lang/Exception"]).filter goodWord ++ (vx_atS RX4 61 "java/lang/IllegalStateException" ["java/lang/RuntimeException", "java/lang/Exception"]).filter goodWord ++ (vx_atS RX4 186 "java/lang/IndexOutOfBoundsException" ["java/lang/RuntimeException", "java/lang/Exception"]).filter goodWord)
def wsL_giveForm_r1 : List Cond := [Cond.classLink RL 24 "java/lang/IndexOutOfBoundsException", Cond.methodLink RL 29 yX4_giveForm, Cond.instanceMethod yX4_giveForm, Cond.selects RX4 yX4_giveForm yX4_giveForm, Cond.initialized RX4, Cond.code yX4_giveForm cX4_giveForm 3 (some .int), Cond.fieldLink RX4 26 "DividendDesk" "today" "I", Cond.methodLink RX4 71 yX4_holderAt, Cond.instanceMethod yX4_holderAt, Cond.selects RX4 yX4_holderAt yX4_holderAt, Cond.code yX4_holderAt cX4_holderAt 2 (some (.object "DividendDesk$Holder")), Cond.classLink RX4 182 "java/lang/IndexOutOfBoundsException", Cond.initialized "java/lang/IndexOutOfBoundsException", Cond.fieldLink RX4 19 "DividendDesk" "holders" "Ljava/util/ArrayList;", Cond.classLink RX4 62 "DividendDesk$Holder", Cond.methodLink RX4 179 yX4_isHolder, Cond.instanceMethod yX4_isHolder, Cond.selects RX4 yX4_isHolder yX4_isHolder, Cond.code yX4_isHolder cX4_isHolder 2 (some .boolean), Cond.methodLink RX4 53 yJx4a65c_size_8abf5, Cond.instanceMethod yJx4a65c_size_8abf5, Cond.selects RJx4a65c yJx4a65c_size_8abf5 yJx4a65c_size_8abf5, Cond.initialized RJx4a65c, Cond.code yJx4a65c_size_8abf5 cJx4a65c_size_8abf5 1 (some .int)]
def wsL_giveForm_r2 : List Cond := [Cond.fieldLink RJx4a65c 48 "java/util/ArrayList" "size" "I", Cond.methodLink RX4 38 yX4_isWithin, Cond.static yX4_isWithin, Cond.code yX4_isWithin cX4_isWithin 3 (some .boolean), Cond.methodLink RX4 105 yJx4a65c_get_915e3, Cond.instanceMethod yJx4a65c_get_915e3, Cond.selects RJx4a65c yJx4a65c_get_915e3 yJx4a65c_get_915e3, Cond.code yJx4a65c_get_915e3 cJx4a65c_get_915e3 2 (some (.object "java/lang/Object")), Cond.methodLink RJx4a65c 118 yJ15_checkIndex_7cf53, Cond.static yJ15_checkIndex_7cf53, Cond.initialized RJ15, Cond.code yJ15_checkIndex_7cf53 cJ15_checkIndex_7cf53 2 (some .int), Cond.methodLink RJ15 105 yJ3_checkIndex_8e157, Cond.static yJ3_checkIndex_8e157, Cond.initialized RJ3, Cond.code yJ3_checkIndex_8e157 cJ3_checkIndex_8e157 3 (some .int), Cond.methodLink RJx4a65c 123 yJx4a65c_elementData_915e3, Cond.instanceMethod yJx4a65c_elementData_915e3, Cond.selects RJx4a65c yJx4a65c_elementData_915e3 yJx4a65c_elementData_915e3, Cond.code yJx4a65c_elementData_915e3 cJx4a65c_elementData_915e3 2 (some (.object "java/lang/Object")), Cond.fieldLink RJx4a65c 9 "java/util/ArrayList" "elementData" "[Ljava/lang/Object;"]
def wsL_giveForm : List Cond := .codeWith yL_giveForm cL_giveForm 4 (some .int) [(0, 9, 12, 24)] :: ((wsL_giveForm_r1 ++ wsL_giveForm_r2) ++ wsX40 ++ wsX10 ++ wsJx4a65c0 ++ (vx_atS RX4 186 "java/lang/IndexOutOfBoundsException" ["java/lang/RuntimeException", "java/lang/Exception"]).filter goodWord)
def wsL_pass_r1 : List Cond := [Cond.classLink RL 13 "java/lang/IllegalArgumentException", Cond.classLink RL 19 "java/lang/IllegalStateException", Cond.methodLink RL 33 yX4_pass, Cond.instanceMethod yX4_pass, Cond.selects RX4 yX4_pass yX4_pass, Cond.initialized RX4, Cond.code yX4_pass cX4_pass 3 (some .int), Cond.classLink RX4 42 "java/lang/IllegalArgumentException", Cond.initialized "java/lang/IllegalArgumentException", Cond.classLink RX4 57 "java/lang/IllegalStateException", Cond.initialized "java/lang/IllegalStateException", Cond.fieldLink RX4 26 "DividendDesk" "today" "I", Cond.fieldLink RX4 19 "DividendDesk" "holders" "Ljava/util/ArrayList;", Cond.classLink RX4 62 "DividendDesk$Holder", Cond.methodLink RX4 38 yX4_isWithin, Cond.static yX4_isWithin, Cond.code yX4_isWithin cX4_isWithin 3 (some .boolean), Cond.methodLink RX4 53 yJx4a65c_size_8abf5, Cond.instanceMethod yJx4a65c_size_8abf5, Cond.selects RJx4a65c yJx4a65c_size_8abf5 yJx4a65c_size_8abf5, Cond.initialized RJx4a65c, Cond.code yJx4a65c_size_8abf5 cJx4a65c_size_8abf5 1 (some .int), Cond.fieldLink RJx4a65c 48 "java/util/ArrayList" "size" "I", Cond.methodLink RX4 105 yJx4a65c_get_915e3]
def wsL_pass_r2 : List Cond := [Cond.instanceMethod yJx4a65c_get_915e3, Cond.selects RJx4a65c yJx4a65c_get_915e3 yJx4a65c_get_915e3, Cond.code yJx4a65c_get_915e3 cJx4a65c_get_915e3 2 (some (.object "java/lang/Object")), Cond.methodLink RJx4a65c 118 yJ15_checkIndex_7cf53, Cond.static yJ15_checkIndex_7cf53, Cond.initialized RJ15, Cond.code yJ15_checkIndex_7cf53 cJ15_checkIndex_7cf53 2 (some .int), Cond.methodLink RJ15 105 yJ3_checkIndex_8e157, Cond.static yJ3_checkIndex_8e157, Cond.initialized RJ3, Cond.code yJ3_checkIndex_8e157 cJ3_checkIndex_8e157 3 (some .int), Cond.methodLink RJx4a65c 123 yJx4a65c_elementData_915e3, Cond.instanceMethod yJx4a65c_elementData_915e3, Cond.selects RJx4a65c yJx4a65c_elementData_915e3 yJx4a65c_elementData_915e3, Cond.code yJx4a65c_elementData_915e3 cJx4a65c_elementData_915e3 2 (some (.object "java/lang/Object")), Cond.fieldLink RJx4a65c 9 "java/util/ArrayList" "elementData" "[Ljava/lang/Object;", Cond.instanceMethod yX1_endDay, Cond.initialized RX1, Cond.selects RX1 yX1_endDay yX1_endDay, Cond.code yX1_endDay cX1_endDay 2 none, Cond.fieldLink RX1 15 "DividendDesk$Holder" "shares" "I", Cond.constant RX1 31 (100000), Cond.fieldLink RX1 22 "DividendDesk$Holder" "enoughSince" "I"]
def wsL_pass : List Cond := .codeWith yL_pass cL_pass 4 (some .int) [(0, 9, 12, 13), (0, 9, 15, 19)] :: ((wsL_pass_r1 ++ wsL_pass_r2) ++ wsX40 ++ wsJx4a65c0 ++ wsX10 ++ (vx_atS RX4 46 "java/lang/IllegalArgumentException" ["java/lang/RuntimeException", "java/lang/Exception"]).filter goodWord ++ (vx_atS RX4 61 "java/lang/IllegalStateException" ["java/lang/RuntimeException", "java/lang/Exception"]).filter goodWord)
def wsL_shares_r1 : List Cond := [Cond.classLink RL 24 "java/lang/IndexOutOfBoundsException", Cond.methodLink RL 36 yX4_shares, Cond.instanceMethod yX4_shares, Cond.selects RX4 yX4_shares yX4_shares, Cond.initialized RX4, Cond.code yX4_shares cX4_shares 2 (some .int), Cond.methodLink RX4 71 yX4_holderAt, Cond.instanceMethod yX4_holderAt, Cond.selects RX4 yX4_holderAt yX4_holderAt, Cond.code yX4_holderAt cX4_holderAt 2 (some (.object "DividendDesk$Holder")), Cond.classLink RX4 182 "java/lang/IndexOutOfBoundsException", Cond.initialized "java/lang/IndexOutOfBoundsException", Cond.fieldLink RX4 19 "DividendDesk" "holders" "Ljava/util/ArrayList;", Cond.classLink RX4 62 "DividendDesk$Holder", Cond.methodLink RX4 179 yX4_isHolder, Cond.instanceMethod yX4_isHolder, Cond.selects RX4 yX4_isHolder yX4_isHolder, Cond.code yX4_isHolder cX4_isHolder 2 (some .boolean), Cond.methodLink RX4 53 yJx4a65c_size_8abf5, Cond.instanceMethod yJx4a65c_size_8abf5, Cond.selects RJx4a65c yJx4a65c_size_8abf5 yJx4a65c_size_8abf5, Cond.initialized RJx4a65c, Cond.code yJx4a65c_size_8abf5 cJx4a65c_size_8abf5 1 (some .int), Cond.fieldLink RJx4a65c 48 "java/util/ArrayList" "size" "I"]
def wsL_shares_r2 : List Cond := [Cond.methodLink RX4 38 yX4_isWithin, Cond.static yX4_isWithin, Cond.code yX4_isWithin cX4_isWithin 3 (some .boolean), Cond.methodLink RX4 105 yJx4a65c_get_915e3, Cond.instanceMethod yJx4a65c_get_915e3, Cond.selects RJx4a65c yJx4a65c_get_915e3 yJx4a65c_get_915e3, Cond.code yJx4a65c_get_915e3 cJx4a65c_get_915e3 2 (some (.object "java/lang/Object")), Cond.methodLink RJx4a65c 118 yJ15_checkIndex_7cf53, Cond.static yJ15_checkIndex_7cf53, Cond.initialized RJ15, Cond.code yJ15_checkIndex_7cf53 cJ15_checkIndex_7cf53 2 (some .int), Cond.methodLink RJ15 105 yJ3_checkIndex_8e157, Cond.static yJ3_checkIndex_8e157, Cond.initialized RJ3, Cond.code yJ3_checkIndex_8e157 cJ3_checkIndex_8e157 3 (some .int), Cond.methodLink RJx4a65c 123 yJx4a65c_elementData_915e3, Cond.instanceMethod yJx4a65c_elementData_915e3, Cond.selects RJx4a65c yJx4a65c_elementData_915e3 yJx4a65c_elementData_915e3, Cond.code yJx4a65c_elementData_915e3 cJx4a65c_elementData_915e3 2 (some (.object "java/lang/Object")), Cond.fieldLink RJx4a65c 9 "java/util/ArrayList" "elementData" "[Ljava/lang/Object;"]
def wsL_shares : List Cond := .codeWith yL_shares cL_shares 4 (some .int) [(0, 9, 12, 24)] :: ((wsL_shares_r1 ++ wsL_shares_r2) ++ wsX10 ++ wsX40 ++ wsJx4a65c0 ++ (vx_atS RX4 186 "java/lang/IndexOutOfBoundsException" ["java/lang/RuntimeException", "java/lang/Exception"]).filter goodWord)
def wsL_isValid_r1 : List Cond := [Cond.classLink RL 24 "java/lang/IndexOutOfBoundsException", Cond.methodLink RL 39 yX4_isValid, Cond.instanceMethod yX4_isValid, Cond.selects RX4 yX4_isValid yX4_isValid, Cond.initialized RX4, Cond.code yX4_isValid cX4_isValid 2 (some .boolean), Cond.fieldLink RX4 26 "DividendDesk" "today" "I", Cond.methodLink RX4 71 yX4_holderAt, Cond.instanceMethod yX4_holderAt, Cond.selects RX4 yX4_holderAt yX4_holderAt, Cond.code yX4_holderAt cX4_holderAt 2 (some (.object "DividendDesk$Holder")), Cond.classLink RX4 182 "java/lang/IndexOutOfBoundsException", Cond.initialized "java/lang/IndexOutOfBoundsException", Cond.fieldLink RX4 19 "DividendDesk" "holders" "Ljava/util/ArrayList;", Cond.classLink RX4 62 "DividendDesk$Holder", Cond.methodLink RX4 179 yX4_isHolder, Cond.instanceMethod yX4_isHolder, Cond.selects RX4 yX4_isHolder yX4_isHolder, Cond.code yX4_isHolder cX4_isHolder 2 (some .boolean), Cond.methodLink RX4 53 yJx4a65c_size_8abf5, Cond.instanceMethod yJx4a65c_size_8abf5, Cond.selects RJx4a65c yJx4a65c_size_8abf5 yJx4a65c_size_8abf5, Cond.initialized RJx4a65c, Cond.code yJx4a65c_size_8abf5 cJx4a65c_size_8abf5 1 (some .int)]
def wsL_isValid_r2 : List Cond := [Cond.fieldLink RJx4a65c 48 "java/util/ArrayList" "size" "I", Cond.methodLink RX4 38 yX4_isWithin, Cond.static yX4_isWithin, Cond.code yX4_isWithin cX4_isWithin 3 (some .boolean), Cond.methodLink RX4 105 yJx4a65c_get_915e3, Cond.instanceMethod yJx4a65c_get_915e3, Cond.selects RJx4a65c yJx4a65c_get_915e3 yJx4a65c_get_915e3, Cond.code yJx4a65c_get_915e3 cJx4a65c_get_915e3 2 (some (.object "java/lang/Object")), Cond.methodLink RJx4a65c 118 yJ15_checkIndex_7cf53, Cond.static yJ15_checkIndex_7cf53, Cond.initialized RJ15, Cond.code yJ15_checkIndex_7cf53 cJ15_checkIndex_7cf53 2 (some .int), Cond.methodLink RJ15 105 yJ3_checkIndex_8e157, Cond.static yJ3_checkIndex_8e157, Cond.initialized RJ3, Cond.code yJ3_checkIndex_8e157 cJ3_checkIndex_8e157 3 (some .int), Cond.methodLink RJx4a65c 123 yJx4a65c_elementData_915e3, Cond.instanceMethod yJx4a65c_elementData_915e3, Cond.selects RJx4a65c yJx4a65c_elementData_915e3 yJx4a65c_elementData_915e3, Cond.code yJx4a65c_elementData_915e3 cJx4a65c_elementData_915e3 2 (some (.object "java/lang/Object")), Cond.fieldLink RJx4a65c 9 "java/util/ArrayList" "elementData" "[Ljava/lang/Object;", Cond.instanceMethod yX1_hasFormOn, Cond.initialized RX1, Cond.selects RX1 yX1_hasFormOn yX1_hasFormOn]
def wsL_isValid_r3 : List Cond := [Cond.code yX1_hasFormOn cX1_hasFormOn 2 (some .boolean), Cond.fieldLink RX1 19 "DividendDesk$Holder" "formEnd" "I"]
def wsL_isValid : List Cond := .codeWith yL_isValid cL_isValid 4 (some .int) [(0, 16, 19, 24)] :: ((wsL_isValid_r1 ++ (wsL_isValid_r2 ++ wsL_isValid_r3)) ++ wsX40 ++ wsJx4a65c0 ++ wsX10 ++ (vx_atS RX4 186 "java/lang/IndexOutOfBoundsException" ["java/lang/RuntimeException", "java/lang/Exception"]).filter goodWord)
def wsL_isLarge_r1 : List Cond := [Cond.classLink RL 24 "java/lang/IndexOutOfBoundsException", Cond.methodLink RL 43 yX4_isLarge, Cond.instanceMethod yX4_isLarge, Cond.selects RX4 yX4_isLarge yX4_isLarge, Cond.initialized RX4, Cond.code yX4_isLarge cX4_isLarge 2 (some .boolean), Cond.fieldLink RX4 26 "DividendDesk" "today" "I", Cond.methodLink RX4 71 yX4_holderAt, Cond.instanceMethod yX4_holderAt, Cond.selects RX4 yX4_holderAt yX4_holderAt, Cond.code yX4_holderAt cX4_holderAt 2 (some (.object "DividendDesk$Holder")), Cond.classLink RX4 182 "java/lang/IndexOutOfBoundsException", Cond.initialized "java/lang/IndexOutOfBoundsException", Cond.fieldLink RX4 19 "DividendDesk" "holders" "Ljava/util/ArrayList;", Cond.classLink RX4 62 "DividendDesk$Holder", Cond.methodLink RX4 179 yX4_isHolder, Cond.instanceMethod yX4_isHolder, Cond.selects RX4 yX4_isHolder yX4_isHolder, Cond.code yX4_isHolder cX4_isHolder 2 (some .boolean), Cond.methodLink RX4 53 yJx4a65c_size_8abf5, Cond.instanceMethod yJx4a65c_size_8abf5, Cond.selects RJx4a65c yJx4a65c_size_8abf5 yJx4a65c_size_8abf5, Cond.initialized RJx4a65c, Cond.code yJx4a65c_size_8abf5 cJx4a65c_size_8abf5 1 (some .int)]
def wsL_isLarge_r2 : List Cond := [Cond.fieldLink RJx4a65c 48 "java/util/ArrayList" "size" "I", Cond.methodLink RX4 38 yX4_isWithin, Cond.static yX4_isWithin, Cond.code yX4_isWithin cX4_isWithin 3 (some .boolean), Cond.methodLink RX4 105 yJx4a65c_get_915e3, Cond.instanceMethod yJx4a65c_get_915e3, Cond.selects RJx4a65c yJx4a65c_get_915e3 yJx4a65c_get_915e3, Cond.code yJx4a65c_get_915e3 cJx4a65c_get_915e3 2 (some (.object "java/lang/Object")), Cond.methodLink RJx4a65c 118 yJ15_checkIndex_7cf53, Cond.static yJ15_checkIndex_7cf53, Cond.initialized RJ15, Cond.code yJ15_checkIndex_7cf53 cJ15_checkIndex_7cf53 2 (some .int), Cond.methodLink RJ15 105 yJ3_checkIndex_8e157, Cond.static yJ3_checkIndex_8e157, Cond.initialized RJ3, Cond.code yJ3_checkIndex_8e157 cJ3_checkIndex_8e157 3 (some .int), Cond.methodLink RJx4a65c 123 yJx4a65c_elementData_915e3, Cond.instanceMethod yJx4a65c_elementData_915e3, Cond.selects RJx4a65c yJx4a65c_elementData_915e3 yJx4a65c_elementData_915e3, Cond.code yJx4a65c_elementData_915e3 cJx4a65c_elementData_915e3 2 (some (.object "java/lang/Object")), Cond.fieldLink RJx4a65c 9 "java/util/ArrayList" "elementData" "[Ljava/lang/Object;", Cond.instanceMethod yX1_hasLargeHoldingOn, Cond.initialized RX1, Cond.selects RX1 yX1_hasLargeHoldingOn yX1_hasLargeHoldingOn]
def wsL_isLarge_r3 : List Cond := [Cond.code yX1_hasLargeHoldingOn cX1_hasLargeHoldingOn 2 (some .boolean), Cond.fieldLink RX1 25 "DividendDesk$Holder" "kind" "I", Cond.fieldLink RX1 15 "DividendDesk$Holder" "shares" "I", Cond.constant RX1 31 (100000), Cond.fieldLink RX1 22 "DividendDesk$Holder" "enoughSince" "I"]
def wsL_isLarge : List Cond := .codeWith yL_isLarge cL_isLarge 4 (some .int) [(0, 16, 19, 24)] :: ((wsL_isLarge_r1 ++ (wsL_isLarge_r2 ++ wsL_isLarge_r3)) ++ wsX40 ++ wsJx4a65c0 ++ wsX10 ++ (vx_atS RX4 186 "java/lang/IndexOutOfBoundsException" ["java/lang/RuntimeException", "java/lang/Exception"]).filter goodWord)
def wsL_treatyRate_r1 : List Cond := [Cond.classLink RL 24 "java/lang/IndexOutOfBoundsException", Cond.classLink RL 13 "java/lang/IllegalArgumentException", Cond.methodLink RL 46 yX4_treatyRate, Cond.instanceMethod yX4_treatyRate, Cond.selects RX4 yX4_treatyRate yX4_treatyRate, Cond.initialized RX4, Cond.code yX4_treatyRate cX4_treatyRate 3 (some .int), Cond.classLink RX4 42 "java/lang/IllegalArgumentException", Cond.initialized "java/lang/IllegalArgumentException", Cond.methodLink RX4 71 yX4_holderAt, Cond.instanceMethod yX4_holderAt, Cond.selects RX4 yX4_holderAt yX4_holderAt, Cond.code yX4_holderAt cX4_holderAt 2 (some (.object "DividendDesk$Holder")), Cond.classLink RX4 182 "java/lang/IndexOutOfBoundsException", Cond.initialized "java/lang/IndexOutOfBoundsException", Cond.fieldLink RX4 19 "DividendDesk" "holders" "Ljava/util/ArrayList;", Cond.classLink RX4 62 "DividendDesk$Holder", Cond.methodLink RX4 179 yX4_isHolder, Cond.instanceMethod yX4_isHolder, Cond.selects RX4 yX4_isHolder yX4_isHolder, Cond.code yX4_isHolder cX4_isHolder 2 (some .boolean), Cond.methodLink RX4 53 yJx4a65c_size_8abf5, Cond.instanceMethod yJx4a65c_size_8abf5, Cond.selects RJx4a65c yJx4a65c_size_8abf5 yJx4a65c_size_8abf5]
def wsL_treatyRate_r2 : List Cond := [Cond.initialized RJx4a65c, Cond.code yJx4a65c_size_8abf5 cJx4a65c_size_8abf5 1 (some .int), Cond.fieldLink RJx4a65c 48 "java/util/ArrayList" "size" "I", Cond.methodLink RX4 38 yX4_isWithin, Cond.static yX4_isWithin, Cond.code yX4_isWithin cX4_isWithin 3 (some .boolean), Cond.methodLink RX4 105 yJx4a65c_get_915e3, Cond.instanceMethod yJx4a65c_get_915e3, Cond.selects RJx4a65c yJx4a65c_get_915e3 yJx4a65c_get_915e3, Cond.code yJx4a65c_get_915e3 cJx4a65c_get_915e3 2 (some (.object "java/lang/Object")), Cond.methodLink RJx4a65c 118 yJ15_checkIndex_7cf53, Cond.static yJ15_checkIndex_7cf53, Cond.initialized RJ15, Cond.code yJ15_checkIndex_7cf53 cJ15_checkIndex_7cf53 2 (some .int), Cond.methodLink RJ15 105 yJ3_checkIndex_8e157, Cond.static yJ3_checkIndex_8e157, Cond.initialized RJ3, Cond.code yJ3_checkIndex_8e157 cJ3_checkIndex_8e157 3 (some .int), Cond.methodLink RJx4a65c 123 yJx4a65c_elementData_915e3, Cond.instanceMethod yJx4a65c_elementData_915e3, Cond.selects RJx4a65c yJx4a65c_elementData_915e3 yJx4a65c_elementData_915e3, Cond.code yJx4a65c_elementData_915e3 cJx4a65c_elementData_915e3 2 (some (.object "java/lang/Object")), Cond.fieldLink RJx4a65c 9 "java/util/ArrayList" "elementData" "[Ljava/lang/Object;", Cond.methodLink RX4 121 yX4_ownRate]
def wsL_treatyRate_r3 : List Cond := [Cond.instanceMethod yX4_ownRate, Cond.selects RX4 yX4_ownRate yX4_ownRate, Cond.code yX4_ownRate cX4_ownRate 3 (some .int), Cond.fieldLink RX4 9 "DividendDesk" "generalRates" "[I", Cond.fieldLink RX4 26 "DividendDesk" "today" "I", Cond.fieldLink RX4 13 "DividendDesk" "largeRates" "[I", Cond.methodLink RX4 208 Lib.Math.min.name, Cond.static Lib.Math.min.name, Cond.initialized "java/lang/Math", Cond.code Lib.Math.min.name Lib.Math.min.code 2 (some .int), Cond.methodLink RX4 204 yX4_rateOf, Cond.static yX4_rateOf, Cond.code yX4_rateOf cX4_rateOf 2 (some .int), Cond.methodLink RX4 34 yX4_isLand, Cond.static yX4_isLand, Cond.code yX4_isLand cX4_isLand 1 (some .boolean), Cond.instanceMethod yX1_hasLargeHoldingOn, Cond.initialized RX1, Cond.selects RX1 yX1_hasLargeHoldingOn yX1_hasLargeHoldingOn, Cond.code yX1_hasLargeHoldingOn cX1_hasLargeHoldingOn 2 (some .boolean), Cond.fieldLink RX1 25 "DividendDesk$Holder" "kind" "I", Cond.fieldLink RX1 15 "DividendDesk$Holder" "shares" "I", Cond.constant RX1 31 (100000), Cond.fieldLink RX1 22 "DividendDesk$Holder" "enoughSince" "I"]
def wsL_treatyRate : List Cond := .codeWith yL_treatyRate cL_treatyRate 4 (some .int) [(0, 9, 12, 24), (0, 9, 15, 13)] :: ((wsL_treatyRate_r1 ++ (wsL_treatyRate_r2 ++ wsL_treatyRate_r3)) ++ wsX10 ++ wsX40 ++ wsJx4a65c0 ++ (vx_atS RX4 46 "java/lang/IllegalArgumentException" ["java/lang/RuntimeException", "java/lang/Exception"]).filter goodWord ++ (vx_atS RX4 186 "java/lang/IndexOutOfBoundsException" ["java/lang/RuntimeException", "java/lang/Exception"]).filter goodWord)
def wsL_pay_r1 : List Cond := [Cond.classLink RL 13 "java/lang/IllegalArgumentException", Cond.classLink RL 19 "java/lang/IllegalStateException", Cond.methodLink RL 49 yX4_pay, Cond.instanceMethod yX4_pay, Cond.selects RX4 yX4_pay yX4_pay, Cond.initialized RX4, Cond.code yX4_pay cX4_pay 4 (some .int), Cond.classLink RX4 42 "java/lang/IllegalArgumentException", Cond.initialized "java/lang/IllegalArgumentException", Cond.classLink RX4 57 "java/lang/IllegalStateException", Cond.initialized "java/lang/IllegalStateException", Cond.fieldLink RX4 23 "DividendDesk" "paidDividends" "Ljava/util/ArrayList;", Cond.classLink RX4 129 RX0, Cond.instantiable RX0 3, Cond.initialized RX0, Cond.fieldLink RX4 26 "DividendDesk" "today" "I", Cond.fieldLink RX4 19 "DividendDesk" "holders" "Ljava/util/ArrayList;", Cond.classLink RX4 62 "DividendDesk$Holder", Cond.methodLink RX4 38 yX4_isWithin, Cond.static yX4_isWithin, Cond.code yX4_isWithin cX4_isWithin 3 (some .boolean), Cond.methodLink RX4 53 yJx4a65c_size_8abf5, Cond.instanceMethod yJx4a65c_size_8abf5, Cond.selects RJx4a65c yJx4a65c_size_8abf5 yJx4a65c_size_8abf5]
def wsL_pay_r2 : List Cond := [Cond.initialized RJx4a65c, Cond.code yJx4a65c_size_8abf5 cJx4a65c_size_8abf5 1 (some .int), Cond.fieldLink RJx4a65c 48 "java/util/ArrayList" "size" "I", Cond.methodLink RX4 93 yX4_sharesInAll, Cond.instanceMethod yX4_sharesInAll, Cond.selects RX4 yX4_sharesInAll yX4_sharesInAll, Cond.code yX4_sharesInAll cX4_sharesInAll 3 (some .int), Cond.methodLink RX4 105 yJx4a65c_get_915e3, Cond.instanceMethod yJx4a65c_get_915e3, Cond.selects RJx4a65c yJx4a65c_get_915e3 yJx4a65c_get_915e3, Cond.code yJx4a65c_get_915e3 cJx4a65c_get_915e3 2 (some (.object "java/lang/Object")), Cond.methodLink RJx4a65c 118 yJ15_checkIndex_7cf53, Cond.static yJ15_checkIndex_7cf53, Cond.initialized RJ15, Cond.code yJ15_checkIndex_7cf53 cJ15_checkIndex_7cf53 2 (some .int), Cond.methodLink RJ15 105 yJ3_checkIndex_8e157, Cond.static yJ3_checkIndex_8e157, Cond.initialized RJ3, Cond.code yJ3_checkIndex_8e157 cJ3_checkIndex_8e157 3 (some .int), Cond.methodLink RJx4a65c 123 yJx4a65c_elementData_915e3, Cond.instanceMethod yJx4a65c_elementData_915e3, Cond.selects RJx4a65c yJx4a65c_elementData_915e3 yJx4a65c_elementData_915e3, Cond.code yJx4a65c_elementData_915e3 cJx4a65c_elementData_915e3 2 (some (.object "java/lang/Object")), Cond.fieldLink RJx4a65c 9 "java/util/ArrayList" "elementData" "[Ljava/lang/Object;"]
def wsL_pay_r3 : List Cond := [Cond.methodLink RX4 131 yX4_validForms, Cond.instanceMethod yX4_validForms, Cond.selects RX4 yX4_validForms yX4_validForms, Cond.code yX4_validForms cX4_validForms 3 (some .int), Cond.instanceMethod yX1_hasFormOn, Cond.initialized RX1, Cond.selects RX1 yX1_hasFormOn yX1_hasFormOn, Cond.code yX1_hasFormOn cX1_hasFormOn 2 (some .boolean), Cond.fieldLink RX1 19 "DividendDesk$Holder" "formEnd" "I", Cond.methodLink RX4 198 yX4_formOf, Cond.static yX4_formOf, Cond.code yX4_formOf cX4_formOf 1 (some .int), Cond.instanceMethod yX0_init, Cond.code yX0_init cX0_init 3 none, Cond.methodLink RX0 3 objectInit, Cond.instanceMethod objectInit, Cond.code objectInit ⟨#[0xb1]⟩ 1 none, Cond.classLink RX0 9 RX2, Cond.fieldLink RX0 11 "DividendDesk$Dividend" "payments" "[LDividendDesk$Payment;", Cond.fieldLink RX0 17 "DividendDesk$Dividend" "payDay" "I", Cond.fieldLink RX0 21 "DividendDesk$Dividend" "formsOnPayDay" "I", Cond.methodLink RX4 135 yX4_makePayment, Cond.instanceMethod yX4_makePayment, Cond.selects RX4 yX4_makePayment yX4_makePayment]
def wsL_pay_r4 : List Cond := [Cond.code yX4_makePayment cX4_makePayment 5 (some (.object "DividendDesk$Payment")), Cond.classLink RX4 148 RX2, Cond.instantiable RX2 3, Cond.initialized RX2, Cond.classLink RX4 220 RX3, Cond.instantiable RX3 3, Cond.initialized RX3, Cond.instanceMethod yX2_init, Cond.code yX2_init cX2_init 2 none, Cond.methodLink RX2 1 objectInit, Cond.classLink RX2 7 RJx4a65c, Cond.instantiable RJx4a65c 3, Cond.fieldLink RX2 10 "DividendDesk$Payment" "portions" "Ljava/util/ArrayList;", Cond.fieldLink RX2 16 "DividendDesk$Payment" "heldTax" "I", Cond.fieldLink RX2 20 "DividendDesk$Payment" "amount" "I", Cond.methodLink RX2 9 yJx4a65c_init_da8c8, Cond.instanceMethod yJx4a65c_init_da8c8, Cond.code yJx4a65c_init_da8c8 cJx4a65c_init_da8c8 1 none, Cond.fieldLink RJx4a65c 39 "java/util/ArrayList" "DEFAULTCAPACITY_EMPTY_ELEMENTDATA" "[Ljava/lang/Object;", Cond.methodLink RJx4a65c 1 yJxc12de_init_da8c8, Cond.instanceMethod yJxc12de_init_da8c8, Cond.initialized RJxc12de, Cond.code yJxc12de_init_da8c8 cJxc12de_init_da8c8 1 none, Cond.fieldLink RJxc12de 7 "java/util/AbstractList" "modCount" "I"]
def wsL_pay_r5 : List Cond := [Cond.methodLink RJxc12de 1 yJxa1e45_init_da8c8, Cond.instanceMethod yJxa1e45_init_da8c8, Cond.initialized RJxa1e45, Cond.code yJxa1e45_init_da8c8 cJxa1e45_init_da8c8 1 none, Cond.methodLink RJxa1e45 1 objectInit, Cond.methodLink RX4 216 yX4_addPortions, Cond.instanceMethod yX4_addPortions, Cond.selects RX4 yX4_addPortions yX4_addPortions, Cond.code yX4_addPortions cX4_addPortions 10 none, Cond.fieldLink RX4 9 "DividendDesk" "generalRates" "[I", Cond.instanceMethod yX1_partsInAll, Cond.selects RX1 yX1_partsInAll yX1_partsInAll, Cond.code yX1_partsInAll cX1_partsInAll 3 (some .int), Cond.fieldLink RX1 9 "DividendDesk$Holder" "memberParts" "[I", Cond.instanceMethod yX3_init, Cond.code yX3_init cX3_init 4 none, Cond.methodLink RX3 3 objectInit, Cond.fieldLink RX3 9 "DividendDesk$Portion" "amount" "I", Cond.fieldLink RX3 15 "DividendDesk$Portion" "rate" "I", Cond.fieldLink RX3 18 "DividendDesk$Portion" "neededForms" "I", Cond.instanceMethod yX2_add, Cond.selects RX2 yX2_add yX2_add, Cond.code yX2_add cX2_add 2 none, Cond.methodLink RX2 23 yJx4a65c_add_9ea2d]
def wsL_pay_r6 : List Cond := [Cond.instanceMethod yJx4a65c_add_9ea2d, Cond.selects RJx4a65c yJx4a65c_add_9ea2d yJx4a65c_add_9ea2d, Cond.code yJx4a65c_add_9ea2d cJx4a65c_add_9ea2d 2 (some .boolean), Cond.fieldLink RJx4a65c 63 "java/util/ArrayList" "modCount" "I", Cond.sameField "java/util/ArrayList" "java/util/AbstractList" "modCount" "I", Cond.methodLink RJx4a65c 131 yJx4a65c_add_72be8, Cond.instanceMethod yJx4a65c_add_72be8, Cond.selects RJx4a65c yJx4a65c_add_72be8 yJx4a65c_add_72be8, Cond.code yJx4a65c_add_72be8 cJx4a65c_add_72be8 4 none, Cond.methodLink RJx4a65c 129 yJx4a65c_grow_d5877, Cond.instanceMethod yJx4a65c_grow_d5877, Cond.selects RJx4a65c yJx4a65c_grow_d5877 yJx4a65c_grow_d5877, Cond.code yJx4a65c_grow_d5877 cJx4a65c_grow_d5877 1 (some (.array (.object "java/lang/Object"))), Cond.methodLink RJx4a65c 69 yJx4a65c_grow_92f84, Cond.instanceMethod yJx4a65c_grow_92f84, Cond.selects RJx4a65c yJx4a65c_grow_92f84 yJx4a65c_grow_92f84, Cond.code yJx4a65c_grow_92f84 cJx4a65c_grow_92f84 4 (some (.array (.object "java/lang/Object"))), Cond.methodLink RJx4a65c 79 Lib.Math.max.name, Cond.static Lib.Math.max.name, Cond.initialized "java/lang/Math", Cond.code Lib.Math.max.name Lib.Math.max.code 2 (some .int), Cond.classLink RJx4a65c 7 "java/lang/Object", Cond.methodLink RJx4a65c 73 yJ8_newLength_cabcc, Cond.static yJ8_newLength_cabcc]
def wsL_pay_r7 : List Cond := [Cond.initialized RJ8, Cond.code yJ8_newLength_cabcc cJ8_newLength_cabcc 4 (some .int), Cond.methodLink RJ8 194 Lib.Math.max.name, Cond.constant RJ8 200 (2147483639), Cond.methodLink RJ8 201 yJ8_hugeLength_7cf53, Cond.static yJ8_hugeLength_7cf53, Cond.code yJ8_hugeLength_7cf53 cJ8_hugeLength_7cf53 3 (some .int), Cond.methodLink RJx4a65c 66 yJ7_copyOf_1904c, Cond.static yJ7_copyOf_1904c, Cond.initialized RJ7, Cond.code yJ7_copyOf_1904c cJ7_copyOf_1904c 2 (some (.array (.object "java/lang/Object"))), Cond.methodLink RJ7 86 ⟨"java/lang/Object", "getClass", "()Ljava/lang/Class;"⟩, Cond.selects "[Ljava/lang/Object;" ⟨"java/lang/Object", "getClass", "()Ljava/lang/Class;"⟩ ⟨"java/lang/Object", "getClass", "()Ljava/lang/Class;"⟩, Cond.instanceMethod ⟨"java/lang/Object", "getClass", "()Ljava/lang/Class;"⟩, Cond.native ⟨"java/lang/Object", "getClass", "()Ljava/lang/Class;"⟩, Cond.methodLink RJ7 300 yJ7_copyOf_6403c, Cond.static yJ7_copyOf_6403c, Cond.code yJ7_copyOf_6403c cJ7_copyOf_6403c 4 (some (.array (.object "java/lang/Object"))), Cond.classLink RJ7 110 "[Ljava/lang/Object;", Cond.classLink RJ7 2 "java/lang/Object", Cond.methodLink RJ7 304 Lib.Math.min.name, Cond.static Lib.Math.min.name, Cond.code Lib.Math.min.name Lib.Math.min.code 2 (some .int), Cond.methodLink RJ7 150 arraycopyName]
def wsL_pay_r8 : List Cond := [Cond.native arraycopyName, Cond.static arraycopyName, Cond.initialized "java/lang/System", Cond.instanceMethod yX1_partsOf, Cond.selects RX1 yX1_partsOf yX1_partsOf, Cond.code yX1_partsOf cX1_partsOf 2 (some .int), Cond.methodLink RX4 231 yX4_proportion, Cond.static yX4_proportion, Cond.code yX4_proportion cX4_proportion 3 (some .int), Cond.methodLink RX4 204 yX4_rateOf, Cond.static yX4_rateOf, Cond.code yX4_rateOf cX4_rateOf 2 (some .int), Cond.methodLink RX4 34 yX4_isLand, Cond.static yX4_isLand, Cond.code yX4_isLand cX4_isLand 1 (some .boolean), Cond.methodLink RX4 121 yX4_ownRate, Cond.instanceMethod yX4_ownRate, Cond.selects RX4 yX4_ownRate yX4_ownRate, Cond.code yX4_ownRate cX4_ownRate 3 (some .int), Cond.fieldLink RX4 13 "DividendDesk" "largeRates" "[I", Cond.methodLink RX4 208 Lib.Math.min.name, Cond.instanceMethod yX1_hasLargeHoldingOn, Cond.selects RX1 yX1_hasLargeHoldingOn yX1_hasLargeHoldingOn, Cond.code yX1_hasLargeHoldingOn cX1_hasLargeHoldingOn 2 (some .boolean)]
def wsL_pay_r9 : List Cond := [Cond.fieldLink RX1 25 "DividendDesk$Holder" "kind" "I", Cond.fieldLink RX1 15 "DividendDesk$Holder" "shares" "I", Cond.constant RX1 31 (100000), Cond.fieldLink RX1 22 "DividendDesk$Holder" "enoughSince" "I", Cond.instanceMethod yX0_enter, Cond.selects RX0 yX0_enter yX0_enter, Cond.code yX0_enter cX0_enter 3 none, Cond.instanceMethod yX2_taxWith, Cond.selects RX2 yX2_taxWith yX2_taxWith, Cond.code yX2_taxWith cX2_taxWith 4 (some .int), Cond.classLink RX2 35 "DividendDesk$Portion", Cond.methodLink RX2 27 yJx4a65c_size_8abf5, Cond.methodLink RX2 31 yJx4a65c_get_915e3, Cond.instanceMethod yX3_tax, Cond.selects RX3 yX3_tax yX3_tax, Cond.code yX3_tax cX3_tax 3 (some .int), Cond.constantLong RX3 21 (100), Cond.methodLink RX4 67 yJx4a65c_add_9ea2d]
def wsL_pay : List Cond := .codeWith yL_pay cL_pay 4 (some .int) [(0, 9, 12, 13), (0, 9, 15, 19)] :: ((wsL_pay_r1 ++ (wsL_pay_r2 ++ (wsL_pay_r3 ++ (wsL_pay_r4 ++ (wsL_pay_r5 ++ (wsL_pay_r6 ++ (wsL_pay_r7 ++ (wsL_pay_r8 ++ wsL_pay_r9)))))))) ++ wsX40 ++ wsX00 ++ wsX10 ++ wsJx4a65c0 ++ wsX20 ++ wsX30 ++ (vx_atS RX4 46 "java/lang/IllegalArgumentException" ["java/lang/RuntimeException", "java/lang/Exception"]).filter goodWord ++ (vx_atS RX4 61 "java/lang/IllegalStateException" ["java/lang/RuntimeException", "java/lang/Exception"]).filter goodWord)
def wsL_gross_r1 : List Cond := [Cond.classLink RL 24 "java/lang/IndexOutOfBoundsException", Cond.methodLink RL 52 yX4_gross, Cond.instanceMethod yX4_gross, Cond.selects RX4 yX4_gross yX4_gross, Cond.initialized RX4, Cond.code yX4_gross cX4_gross 4 (some .int), Cond.methodLink RX4 143 yX4_paymentAt, Cond.instanceMethod yX4_paymentAt, Cond.selects RX4 yX4_paymentAt yX4_paymentAt, Cond.code yX4_paymentAt cX4_paymentAt 4 (some (.object "DividendDesk$Payment")), Cond.classLink RX4 182 "java/lang/IndexOutOfBoundsException", Cond.initialized "java/lang/IndexOutOfBoundsException", Cond.methodLink RX4 166 yX4_dividendAt, Cond.instanceMethod yX4_dividendAt, Cond.selects RX4 yX4_dividendAt yX4_dividendAt, Cond.code yX4_dividendAt cX4_dividendAt 2 (some (.object "DividendDesk$Dividend")), Cond.fieldLink RX4 23 "DividendDesk" "paidDividends" "Ljava/util/ArrayList;", Cond.classLink RX4 129 "DividendDesk$Dividend", Cond.methodLink RX4 53 yJx4a65c_size_8abf5, Cond.instanceMethod yJx4a65c_size_8abf5, Cond.selects RJx4a65c yJx4a65c_size_8abf5 yJx4a65c_size_8abf5, Cond.initialized RJx4a65c, Cond.code yJx4a65c_size_8abf5 cJx4a65c_size_8abf5 1 (some .int), Cond.fieldLink RJx4a65c 48 "java/util/ArrayList" "size" "I"]
def wsL_gross_r2 : List Cond := [Cond.methodLink RX4 38 yX4_isWithin, Cond.static yX4_isWithin, Cond.code yX4_isWithin cX4_isWithin 3 (some .boolean), Cond.methodLink RX4 105 yJx4a65c_get_915e3, Cond.instanceMethod yJx4a65c_get_915e3, Cond.selects RJx4a65c yJx4a65c_get_915e3 yJx4a65c_get_915e3, Cond.code yJx4a65c_get_915e3 cJx4a65c_get_915e3 2 (some (.object "java/lang/Object")), Cond.methodLink RJx4a65c 118 yJ15_checkIndex_7cf53, Cond.static yJ15_checkIndex_7cf53, Cond.initialized RJ15, Cond.code yJ15_checkIndex_7cf53 cJ15_checkIndex_7cf53 2 (some .int), Cond.methodLink RJ15 105 yJ3_checkIndex_8e157, Cond.static yJ3_checkIndex_8e157, Cond.initialized RJ3, Cond.code yJ3_checkIndex_8e157 cJ3_checkIndex_8e157 3 (some .int), Cond.methodLink RJx4a65c 123 yJx4a65c_elementData_915e3, Cond.instanceMethod yJx4a65c_elementData_915e3, Cond.selects RJx4a65c yJx4a65c_elementData_915e3 yJx4a65c_elementData_915e3, Cond.code yJx4a65c_elementData_915e3 cJx4a65c_elementData_915e3 2 (some (.object "java/lang/Object")), Cond.fieldLink RJx4a65c 9 "java/util/ArrayList" "elementData" "[Ljava/lang/Object;", Cond.methodLink RX4 179 yX4_isHolder, Cond.instanceMethod yX4_isHolder, Cond.selects RX4 yX4_isHolder yX4_isHolder, Cond.code yX4_isHolder cX4_isHolder 2 (some .boolean)]
def wsL_gross_r3 : List Cond := [Cond.fieldLink RX4 19 "DividendDesk" "holders" "Ljava/util/ArrayList;", Cond.instanceMethod yX0_paymentTo, Cond.initialized RX0, Cond.selects RX0 yX0_paymentTo yX0_paymentTo, Cond.code yX0_paymentTo cX0_paymentTo 2 (some (.object "DividendDesk$Payment")), Cond.fieldLink RX0 11 "DividendDesk$Dividend" "payments" "[LDividendDesk$Payment;"]
def wsL_gross : List Cond := .codeWith yL_gross cL_gross 5 (some .int) [(0, 10, 13, 24)] :: ((wsL_gross_r1 ++ (wsL_gross_r2 ++ wsL_gross_r3)) ++ wsX20 ++ wsX40 ++ wsJx4a65c0 ++ wsX00 ++ (vx_atS RX4 186 "java/lang/IndexOutOfBoundsException" ["java/lang/RuntimeException", "java/lang/Exception"]).filter goodWord)
def wsL_held_r1 : List Cond := [Cond.classLink RL 24 "java/lang/IndexOutOfBoundsException", Cond.methodLink RL 55 yX4_held, Cond.instanceMethod yX4_held, Cond.selects RX4 yX4_held yX4_held, Cond.initialized RX4, Cond.code yX4_held cX4_held 4 (some .int), Cond.methodLink RX4 143 yX4_paymentAt, Cond.instanceMethod yX4_paymentAt, Cond.selects RX4 yX4_paymentAt yX4_paymentAt, Cond.code yX4_paymentAt cX4_paymentAt 4 (some (.object "DividendDesk$Payment")), Cond.classLink RX4 182 "java/lang/IndexOutOfBoundsException", Cond.initialized "java/lang/IndexOutOfBoundsException", Cond.methodLink RX4 166 yX4_dividendAt, Cond.instanceMethod yX4_dividendAt, Cond.selects RX4 yX4_dividendAt yX4_dividendAt, Cond.code yX4_dividendAt cX4_dividendAt 2 (some (.object "DividendDesk$Dividend")), Cond.fieldLink RX4 23 "DividendDesk" "paidDividends" "Ljava/util/ArrayList;", Cond.classLink RX4 129 "DividendDesk$Dividend", Cond.methodLink RX4 53 yJx4a65c_size_8abf5, Cond.instanceMethod yJx4a65c_size_8abf5, Cond.selects RJx4a65c yJx4a65c_size_8abf5 yJx4a65c_size_8abf5, Cond.initialized RJx4a65c, Cond.code yJx4a65c_size_8abf5 cJx4a65c_size_8abf5 1 (some .int), Cond.fieldLink RJx4a65c 48 "java/util/ArrayList" "size" "I"]
def wsL_held_r2 : List Cond := [Cond.methodLink RX4 38 yX4_isWithin, Cond.static yX4_isWithin, Cond.code yX4_isWithin cX4_isWithin 3 (some .boolean), Cond.methodLink RX4 105 yJx4a65c_get_915e3, Cond.instanceMethod yJx4a65c_get_915e3, Cond.selects RJx4a65c yJx4a65c_get_915e3 yJx4a65c_get_915e3, Cond.code yJx4a65c_get_915e3 cJx4a65c_get_915e3 2 (some (.object "java/lang/Object")), Cond.methodLink RJx4a65c 118 yJ15_checkIndex_7cf53, Cond.static yJ15_checkIndex_7cf53, Cond.initialized RJ15, Cond.code yJ15_checkIndex_7cf53 cJ15_checkIndex_7cf53 2 (some .int), Cond.methodLink RJ15 105 yJ3_checkIndex_8e157, Cond.static yJ3_checkIndex_8e157, Cond.initialized RJ3, Cond.code yJ3_checkIndex_8e157 cJ3_checkIndex_8e157 3 (some .int), Cond.methodLink RJx4a65c 123 yJx4a65c_elementData_915e3, Cond.instanceMethod yJx4a65c_elementData_915e3, Cond.selects RJx4a65c yJx4a65c_elementData_915e3 yJx4a65c_elementData_915e3, Cond.code yJx4a65c_elementData_915e3 cJx4a65c_elementData_915e3 2 (some (.object "java/lang/Object")), Cond.fieldLink RJx4a65c 9 "java/util/ArrayList" "elementData" "[Ljava/lang/Object;", Cond.methodLink RX4 179 yX4_isHolder, Cond.instanceMethod yX4_isHolder, Cond.selects RX4 yX4_isHolder yX4_isHolder, Cond.code yX4_isHolder cX4_isHolder 2 (some .boolean)]
def wsL_held_r3 : List Cond := [Cond.fieldLink RX4 19 "DividendDesk" "holders" "Ljava/util/ArrayList;", Cond.instanceMethod yX0_paymentTo, Cond.initialized RX0, Cond.selects RX0 yX0_paymentTo yX0_paymentTo, Cond.code yX0_paymentTo cX0_paymentTo 2 (some (.object "DividendDesk$Payment")), Cond.fieldLink RX0 11 "DividendDesk$Dividend" "payments" "[LDividendDesk$Payment;"]
def wsL_held : List Cond := .codeWith yL_held cL_held 5 (some .int) [(0, 10, 13, 24)] :: ((wsL_held_r1 ++ (wsL_held_r2 ++ wsL_held_r3)) ++ wsX20 ++ wsX40 ++ wsJx4a65c0 ++ wsX00 ++ (vx_atS RX4 186 "java/lang/IndexOutOfBoundsException" ["java/lang/RuntimeException", "java/lang/Exception"]).filter goodWord)
def wsL_due_r1 : List Cond := [Cond.classLink RL 24 "java/lang/IndexOutOfBoundsException", Cond.methodLink RL 58 yX4_due, Cond.instanceMethod yX4_due, Cond.selects RX4 yX4_due yX4_due, Cond.initialized RX4, Cond.code yX4_due cX4_due 4 (some .int), Cond.methodLink RX4 143 yX4_paymentAt, Cond.instanceMethod yX4_paymentAt, Cond.selects RX4 yX4_paymentAt yX4_paymentAt, Cond.code yX4_paymentAt cX4_paymentAt 4 (some (.object "DividendDesk$Payment")), Cond.classLink RX4 182 "java/lang/IndexOutOfBoundsException", Cond.initialized "java/lang/IndexOutOfBoundsException", Cond.methodLink RX4 166 yX4_dividendAt, Cond.instanceMethod yX4_dividendAt, Cond.selects RX4 yX4_dividendAt yX4_dividendAt, Cond.code yX4_dividendAt cX4_dividendAt 2 (some (.object "DividendDesk$Dividend")), Cond.fieldLink RX4 23 "DividendDesk" "paidDividends" "Ljava/util/ArrayList;", Cond.classLink RX4 129 "DividendDesk$Dividend", Cond.methodLink RX4 53 yJx4a65c_size_8abf5, Cond.instanceMethod yJx4a65c_size_8abf5, Cond.selects RJx4a65c yJx4a65c_size_8abf5 yJx4a65c_size_8abf5, Cond.initialized RJx4a65c, Cond.code yJx4a65c_size_8abf5 cJx4a65c_size_8abf5 1 (some .int), Cond.fieldLink RJx4a65c 48 "java/util/ArrayList" "size" "I"]
def wsL_due_r2 : List Cond := [Cond.methodLink RX4 38 yX4_isWithin, Cond.static yX4_isWithin, Cond.code yX4_isWithin cX4_isWithin 3 (some .boolean), Cond.methodLink RX4 105 yJx4a65c_get_915e3, Cond.instanceMethod yJx4a65c_get_915e3, Cond.selects RJx4a65c yJx4a65c_get_915e3 yJx4a65c_get_915e3, Cond.code yJx4a65c_get_915e3 cJx4a65c_get_915e3 2 (some (.object "java/lang/Object")), Cond.methodLink RJx4a65c 118 yJ15_checkIndex_7cf53, Cond.static yJ15_checkIndex_7cf53, Cond.initialized RJ15, Cond.code yJ15_checkIndex_7cf53 cJ15_checkIndex_7cf53 2 (some .int), Cond.methodLink RJ15 105 yJ3_checkIndex_8e157, Cond.static yJ3_checkIndex_8e157, Cond.initialized RJ3, Cond.code yJ3_checkIndex_8e157 cJ3_checkIndex_8e157 3 (some .int), Cond.methodLink RJx4a65c 123 yJx4a65c_elementData_915e3, Cond.instanceMethod yJx4a65c_elementData_915e3, Cond.selects RJx4a65c yJx4a65c_elementData_915e3 yJx4a65c_elementData_915e3, Cond.code yJx4a65c_elementData_915e3 cJx4a65c_elementData_915e3 2 (some (.object "java/lang/Object")), Cond.fieldLink RJx4a65c 9 "java/util/ArrayList" "elementData" "[Ljava/lang/Object;", Cond.methodLink RX4 179 yX4_isHolder, Cond.instanceMethod yX4_isHolder, Cond.selects RX4 yX4_isHolder yX4_isHolder, Cond.code yX4_isHolder cX4_isHolder 2 (some .boolean)]
def wsL_due_r3 : List Cond := [Cond.fieldLink RX4 19 "DividendDesk" "holders" "Ljava/util/ArrayList;", Cond.instanceMethod yX0_paymentTo, Cond.initialized RX0, Cond.selects RX0 yX0_paymentTo yX0_paymentTo, Cond.code yX0_paymentTo cX0_paymentTo 2 (some (.object "DividendDesk$Payment")), Cond.fieldLink RX0 11 "DividendDesk$Dividend" "payments" "[LDividendDesk$Payment;", Cond.instanceMethod yX2_taxWith, Cond.initialized RX2, Cond.selects RX2 yX2_taxWith yX2_taxWith, Cond.code yX2_taxWith cX2_taxWith 4 (some .int), Cond.fieldLink RX2 10 "DividendDesk$Payment" "portions" "Ljava/util/ArrayList;", Cond.classLink RX2 35 "DividendDesk$Portion", Cond.methodLink RX2 27 yJx4a65c_size_8abf5, Cond.methodLink RX2 31 yJx4a65c_get_915e3, Cond.instanceMethod yX3_tax, Cond.initialized RX3, Cond.selects RX3 yX3_tax yX3_tax, Cond.code yX3_tax cX3_tax 3 (some .int), Cond.fieldLink RX3 18 "DividendDesk$Portion" "neededForms" "I", Cond.fieldLink RX3 15 "DividendDesk$Portion" "rate" "I", Cond.fieldLink RX3 9 "DividendDesk$Portion" "amount" "I", Cond.constantLong RX3 21 (100)]
def wsL_due : List Cond := .codeWith yL_due cL_due 5 (some .int) [(0, 10, 13, 24)] :: ((wsL_due_r1 ++ (wsL_due_r2 ++ wsL_due_r3)) ++ wsX40 ++ wsJx4a65c0 ++ wsX00 ++ wsX20 ++ wsX30 ++ (vx_atS RX4 186 "java/lang/IndexOutOfBoundsException" ["java/lang/RuntimeException", "java/lang/Exception"]).filter goodWord)
def wsL_refund_r1 : List Cond := [Cond.classLink RL 24 "java/lang/IndexOutOfBoundsException", Cond.classLink RL 19 "java/lang/IllegalStateException", Cond.methodLink RL 61 yX4_refund, Cond.instanceMethod yX4_refund, Cond.selects RX4 yX4_refund yX4_refund, Cond.initialized RX4, Cond.code yX4_refund cX4_refund 5 (some .int), Cond.methodLink RX4 162 yX4_refundablePayment, Cond.instanceMethod yX4_refundablePayment, Cond.selects RX4 yX4_refundablePayment yX4_refundablePayment, Cond.code yX4_refundablePayment cX4_refundablePayment 5 (some (.object "DividendDesk$Payment")), Cond.classLink RX4 57 "java/lang/IllegalStateException", Cond.initialized "java/lang/IllegalStateException", Cond.fieldLink RX4 26 "DividendDesk" "today" "I", Cond.methodLink RX4 143 yX4_paymentAt, Cond.instanceMethod yX4_paymentAt, Cond.selects RX4 yX4_paymentAt yX4_paymentAt, Cond.code yX4_paymentAt cX4_paymentAt 4 (some (.object "DividendDesk$Payment")), Cond.classLink RX4 182 "java/lang/IndexOutOfBoundsException", Cond.initialized "java/lang/IndexOutOfBoundsException", Cond.methodLink RX4 166 yX4_dividendAt, Cond.instanceMethod yX4_dividendAt, Cond.selects RX4 yX4_dividendAt yX4_dividendAt, Cond.code yX4_dividendAt cX4_dividendAt 2 (some (.object "DividendDesk$Dividend"))]
def wsL_refund_r2 : List Cond := [Cond.fieldLink RX4 23 "DividendDesk" "paidDividends" "Ljava/util/ArrayList;", Cond.classLink RX4 129 "DividendDesk$Dividend", Cond.methodLink RX4 53 yJx4a65c_size_8abf5, Cond.instanceMethod yJx4a65c_size_8abf5, Cond.selects RJx4a65c yJx4a65c_size_8abf5 yJx4a65c_size_8abf5, Cond.initialized RJx4a65c, Cond.code yJx4a65c_size_8abf5 cJx4a65c_size_8abf5 1 (some .int), Cond.fieldLink RJx4a65c 48 "java/util/ArrayList" "size" "I", Cond.methodLink RX4 38 yX4_isWithin, Cond.static yX4_isWithin, Cond.code yX4_isWithin cX4_isWithin 3 (some .boolean), Cond.methodLink RX4 105 yJx4a65c_get_915e3, Cond.instanceMethod yJx4a65c_get_915e3, Cond.selects RJx4a65c yJx4a65c_get_915e3 yJx4a65c_get_915e3, Cond.code yJx4a65c_get_915e3 cJx4a65c_get_915e3 2 (some (.object "java/lang/Object")), Cond.methodLink RJx4a65c 118 yJ15_checkIndex_7cf53, Cond.static yJ15_checkIndex_7cf53, Cond.initialized RJ15, Cond.code yJ15_checkIndex_7cf53 cJ15_checkIndex_7cf53 2 (some .int), Cond.methodLink RJ15 105 yJ3_checkIndex_8e157, Cond.static yJ3_checkIndex_8e157, Cond.initialized RJ3, Cond.code yJ3_checkIndex_8e157 cJ3_checkIndex_8e157 3 (some .int), Cond.methodLink RJx4a65c 123 yJx4a65c_elementData_915e3]
def wsL_refund_r3 : List Cond := [Cond.instanceMethod yJx4a65c_elementData_915e3, Cond.selects RJx4a65c yJx4a65c_elementData_915e3 yJx4a65c_elementData_915e3, Cond.code yJx4a65c_elementData_915e3 cJx4a65c_elementData_915e3 2 (some (.object "java/lang/Object")), Cond.fieldLink RJx4a65c 9 "java/util/ArrayList" "elementData" "[Ljava/lang/Object;", Cond.methodLink RX4 179 yX4_isHolder, Cond.instanceMethod yX4_isHolder, Cond.selects RX4 yX4_isHolder yX4_isHolder, Cond.code yX4_isHolder cX4_isHolder 2 (some .boolean), Cond.fieldLink RX4 19 "DividendDesk" "holders" "Ljava/util/ArrayList;", Cond.instanceMethod yX0_paymentTo, Cond.initialized RX0, Cond.selects RX0 yX0_paymentTo yX0_paymentTo, Cond.code yX0_paymentTo cX0_paymentTo 2 (some (.object "DividendDesk$Payment")), Cond.fieldLink RX0 11 "DividendDesk$Dividend" "payments" "[LDividendDesk$Payment;", Cond.methodLink RX4 131 yX4_validForms, Cond.instanceMethod yX4_validForms, Cond.selects RX4 yX4_validForms yX4_validForms, Cond.code yX4_validForms cX4_validForms 3 (some .int), Cond.classLink RX4 62 "DividendDesk$Holder", Cond.instanceMethod yX1_hasFormOn, Cond.initialized RX1, Cond.selects RX1 yX1_hasFormOn yX1_hasFormOn, Cond.code yX1_hasFormOn cX1_hasFormOn 2 (some .boolean), Cond.fieldLink RX1 19 "DividendDesk$Holder" "formEnd" "I"]
def wsL_refund_r4 : List Cond := [Cond.methodLink RX4 198 yX4_formOf, Cond.static yX4_formOf, Cond.code yX4_formOf cX4_formOf 1 (some .int), Cond.instanceMethod yX2_taxWith, Cond.initialized RX2, Cond.selects RX2 yX2_taxWith yX2_taxWith, Cond.code yX2_taxWith cX2_taxWith 4 (some .int), Cond.fieldLink RX2 10 "DividendDesk$Payment" "portions" "Ljava/util/ArrayList;", Cond.classLink RX2 35 "DividendDesk$Portion", Cond.methodLink RX2 27 yJx4a65c_size_8abf5, Cond.methodLink RX2 31 yJx4a65c_get_915e3, Cond.instanceMethod yX3_tax, Cond.initialized RX3, Cond.selects RX3 yX3_tax yX3_tax, Cond.code yX3_tax cX3_tax 3 (some .int), Cond.fieldLink RX3 18 "DividendDesk$Portion" "neededForms" "I", Cond.fieldLink RX3 15 "DividendDesk$Portion" "rate" "I", Cond.fieldLink RX3 9 "DividendDesk$Portion" "amount" "I", Cond.constantLong RX3 21 (100), Cond.methodLink RX4 173 yX4_giveBack, Cond.instanceMethod yX4_giveBack, Cond.selects RX4 yX4_giveBack yX4_giveBack, Cond.code yX4_giveBack cX4_giveBack 4 (some .int), Cond.fieldLink RX4 30 "DividendDesk" "refundedInAll" "J"]
def wsL_refund_r5 : List Cond := [Cond.instanceMethod yX2_lowerTo, Cond.selects RX2 yX2_lowerTo yX2_lowerTo, Cond.code yX2_lowerTo cX2_lowerTo 3 (some .int), Cond.fieldLink RX2 16 "DividendDesk$Payment" "heldTax" "I", Cond.methodLink RX2 41 Lib.Math.max.name, Cond.static Lib.Math.max.name, Cond.initialized "java/lang/Math", Cond.code Lib.Math.max.name Lib.Math.max.code 2 (some .int)]
def wsL_refund : List Cond := .codeWith yL_refund cL_refund 5 (some .int) [(0, 10, 13, 24), (0, 10, 17, 19)] :: ((wsL_refund_r1 ++ (wsL_refund_r2 ++ (wsL_refund_r3 ++ (wsL_refund_r4 ++ wsL_refund_r5)))) ++ wsX00 ++ wsX40 ++ wsJx4a65c0 ++ wsX10 ++ wsX20 ++ wsX30 ++ (vx_atS RX4 61 "java/lang/IllegalStateException" ["java/lang/RuntimeException", "java/lang/Exception"]).filter goodWord ++ (vx_atS RX4 186 "java/lang/IndexOutOfBoundsException" ["java/lang/RuntimeException", "java/lang/Exception"]).filter goodWord)
def wsL_claim_r1 : List Cond := [Cond.classLink RL 24 "java/lang/IndexOutOfBoundsException", Cond.classLink RL 19 "java/lang/IllegalStateException", Cond.methodLink RL 64 yX4_claim, Cond.instanceMethod yX4_claim, Cond.selects RX4 yX4_claim yX4_claim, Cond.initialized RX4, Cond.code yX4_claim cX4_claim 4 (some .int), Cond.classLink RX4 57 "java/lang/IllegalStateException", Cond.initialized "java/lang/IllegalStateException", Cond.fieldLink RX4 26 "DividendDesk" "today" "I", Cond.methodLink RX4 162 yX4_refundablePayment, Cond.instanceMethod yX4_refundablePayment, Cond.selects RX4 yX4_refundablePayment yX4_refundablePayment, Cond.code yX4_refundablePayment cX4_refundablePayment 5 (some (.object "DividendDesk$Payment")), Cond.methodLink RX4 143 yX4_paymentAt, Cond.instanceMethod yX4_paymentAt, Cond.selects RX4 yX4_paymentAt yX4_paymentAt, Cond.code yX4_paymentAt cX4_paymentAt 4 (some (.object "DividendDesk$Payment")), Cond.classLink RX4 182 "java/lang/IndexOutOfBoundsException", Cond.initialized "java/lang/IndexOutOfBoundsException", Cond.methodLink RX4 166 yX4_dividendAt, Cond.instanceMethod yX4_dividendAt, Cond.selects RX4 yX4_dividendAt yX4_dividendAt, Cond.code yX4_dividendAt cX4_dividendAt 2 (some (.object "DividendDesk$Dividend"))]
def wsL_claim_r2 : List Cond := [Cond.fieldLink RX4 23 "DividendDesk" "paidDividends" "Ljava/util/ArrayList;", Cond.classLink RX4 129 "DividendDesk$Dividend", Cond.methodLink RX4 53 yJx4a65c_size_8abf5, Cond.instanceMethod yJx4a65c_size_8abf5, Cond.selects RJx4a65c yJx4a65c_size_8abf5 yJx4a65c_size_8abf5, Cond.initialized RJx4a65c, Cond.code yJx4a65c_size_8abf5 cJx4a65c_size_8abf5 1 (some .int), Cond.fieldLink RJx4a65c 48 "java/util/ArrayList" "size" "I", Cond.methodLink RX4 38 yX4_isWithin, Cond.static yX4_isWithin, Cond.code yX4_isWithin cX4_isWithin 3 (some .boolean), Cond.methodLink RX4 105 yJx4a65c_get_915e3, Cond.instanceMethod yJx4a65c_get_915e3, Cond.selects RJx4a65c yJx4a65c_get_915e3 yJx4a65c_get_915e3, Cond.code yJx4a65c_get_915e3 cJx4a65c_get_915e3 2 (some (.object "java/lang/Object")), Cond.methodLink RJx4a65c 118 yJ15_checkIndex_7cf53, Cond.static yJ15_checkIndex_7cf53, Cond.initialized RJ15, Cond.code yJ15_checkIndex_7cf53 cJ15_checkIndex_7cf53 2 (some .int), Cond.methodLink RJ15 105 yJ3_checkIndex_8e157, Cond.static yJ3_checkIndex_8e157, Cond.initialized RJ3, Cond.code yJ3_checkIndex_8e157 cJ3_checkIndex_8e157 3 (some .int), Cond.methodLink RJx4a65c 123 yJx4a65c_elementData_915e3]
def wsL_claim_r3 : List Cond := [Cond.instanceMethod yJx4a65c_elementData_915e3, Cond.selects RJx4a65c yJx4a65c_elementData_915e3 yJx4a65c_elementData_915e3, Cond.code yJx4a65c_elementData_915e3 cJx4a65c_elementData_915e3 2 (some (.object "java/lang/Object")), Cond.fieldLink RJx4a65c 9 "java/util/ArrayList" "elementData" "[Ljava/lang/Object;", Cond.methodLink RX4 179 yX4_isHolder, Cond.instanceMethod yX4_isHolder, Cond.selects RX4 yX4_isHolder yX4_isHolder, Cond.code yX4_isHolder cX4_isHolder 2 (some .boolean), Cond.fieldLink RX4 19 "DividendDesk" "holders" "Ljava/util/ArrayList;", Cond.instanceMethod yX0_paymentTo, Cond.initialized RX0, Cond.selects RX0 yX0_paymentTo yX0_paymentTo, Cond.code yX0_paymentTo cX0_paymentTo 2 (some (.object "DividendDesk$Payment")), Cond.fieldLink RX0 11 "DividendDesk$Dividend" "payments" "[LDividendDesk$Payment;", Cond.methodLink RX4 71 yX4_holderAt, Cond.instanceMethod yX4_holderAt, Cond.selects RX4 yX4_holderAt yX4_holderAt, Cond.code yX4_holderAt cX4_holderAt 2 (some (.object "DividendDesk$Holder")), Cond.classLink RX4 62 "DividendDesk$Holder", Cond.instanceMethod yX1_hasFormOn, Cond.initialized RX1, Cond.selects RX1 yX1_hasFormOn yX1_hasFormOn, Cond.code yX1_hasFormOn cX1_hasFormOn 2 (some .boolean), Cond.fieldLink RX1 19 "DividendDesk$Holder" "formEnd" "I"]
def wsL_claim_r4 : List Cond := [Cond.instanceMethod yX2_taxWith, Cond.initialized RX2, Cond.selects RX2 yX2_taxWith yX2_taxWith, Cond.code yX2_taxWith cX2_taxWith 4 (some .int), Cond.fieldLink RX2 10 "DividendDesk$Payment" "portions" "Ljava/util/ArrayList;", Cond.classLink RX2 35 "DividendDesk$Portion", Cond.methodLink RX2 27 yJx4a65c_size_8abf5, Cond.methodLink RX2 31 yJx4a65c_get_915e3, Cond.instanceMethod yX3_tax, Cond.initialized RX3, Cond.selects RX3 yX3_tax yX3_tax, Cond.code yX3_tax cX3_tax 3 (some .int), Cond.fieldLink RX3 18 "DividendDesk$Portion" "neededForms" "I", Cond.fieldLink RX3 15 "DividendDesk$Portion" "rate" "I", Cond.fieldLink RX3 9 "DividendDesk$Portion" "amount" "I", Cond.constantLong RX3 21 (100), Cond.methodLink RX4 173 yX4_giveBack, Cond.instanceMethod yX4_giveBack, Cond.selects RX4 yX4_giveBack yX4_giveBack, Cond.code yX4_giveBack cX4_giveBack 4 (some .int), Cond.fieldLink RX4 30 "DividendDesk" "refundedInAll" "J", Cond.instanceMethod yX2_lowerTo, Cond.selects RX2 yX2_lowerTo yX2_lowerTo, Cond.code yX2_lowerTo cX2_lowerTo 3 (some .int)]
def wsL_claim_r5 : List Cond := [Cond.fieldLink RX2 16 "DividendDesk$Payment" "heldTax" "I", Cond.methodLink RX2 41 Lib.Math.max.name, Cond.static Lib.Math.max.name, Cond.initialized "java/lang/Math", Cond.code Lib.Math.max.name Lib.Math.max.code 2 (some .int)]
def wsL_claim : List Cond := .codeWith yL_claim cL_claim 5 (some .int) [(0, 10, 13, 24), (0, 10, 17, 19)] :: ((wsL_claim_r1 ++ (wsL_claim_r2 ++ (wsL_claim_r3 ++ (wsL_claim_r4 ++ wsL_claim_r5)))) ++ wsX40 ++ wsX00 ++ wsJx4a65c0 ++ wsX10 ++ wsX20 ++ wsX30 ++ (vx_atS RX4 61 "java/lang/IllegalStateException" ["java/lang/RuntimeException", "java/lang/Exception"]).filter goodWord ++ (vx_atS RX4 186 "java/lang/IndexOutOfBoundsException" ["java/lang/RuntimeException", "java/lang/Exception"]).filter goodWord)
def wsL_law0_r1 : List Cond := [Cond.classLink RL 8 RX4, Cond.instantiable RX4 6, Cond.initialized RX4, Cond.classLink RL 68 RX5, Cond.instantiable RX5 21, Cond.initialized RX5, Cond.arrayClass .long, Cond.methodLink RL 67 yX4_init, Cond.instanceMethod yX4_init, Cond.code yX4_init cX4_init 2 none, Cond.methodLink RX4 1 objectInit, Cond.instanceMethod objectInit, Cond.code objectInit ⟨#[0xb1]⟩ 1 none, Cond.arrayClass .int, Cond.fieldLink RX4 9 "DividendDesk" "generalRates" "[I", Cond.fieldLink RX4 13 "DividendDesk" "largeRates" "[I", Cond.classLink RX4 16 RJx4a65c, Cond.instantiable RJx4a65c 3, Cond.initialized RJx4a65c, Cond.fieldLink RX4 19 "DividendDesk" "holders" "Ljava/util/ArrayList;", Cond.fieldLink RX4 23 "DividendDesk" "paidDividends" "Ljava/util/ArrayList;", Cond.fieldLink RX4 26 "DividendDesk" "today" "I", Cond.fieldLink RX4 30 "DividendDesk" "refundedInAll" "J", Cond.methodLink RX4 18 yJx4a65c_init_da8c8]
def wsL_law0_r2 : List Cond := [Cond.instanceMethod yJx4a65c_init_da8c8, Cond.code yJx4a65c_init_da8c8 cJx4a65c_init_da8c8 1 none, Cond.fieldLink RJx4a65c 39 "java/util/ArrayList" "DEFAULTCAPACITY_EMPTY_ELEMENTDATA" "[Ljava/lang/Object;", Cond.fieldLink RJx4a65c 9 "java/util/ArrayList" "elementData" "[Ljava/lang/Object;", Cond.methodLink RJx4a65c 1 yJxc12de_init_da8c8, Cond.instanceMethod yJxc12de_init_da8c8, Cond.initialized RJxc12de, Cond.code yJxc12de_init_da8c8 cJxc12de_init_da8c8 1 none, Cond.fieldLink RJxc12de 7 "java/util/AbstractList" "modCount" "I", Cond.methodLink RJxc12de 1 yJxa1e45_init_da8c8, Cond.instanceMethod yJxa1e45_init_da8c8, Cond.initialized RJxa1e45, Cond.code yJxa1e45_init_da8c8 cJxa1e45_init_da8c8 1 none, Cond.methodLink RJxa1e45 1 objectInit, Cond.methodLink RL 70 yX5_init, Cond.instanceMethod yX5_init, Cond.code yX5_init cX5_init 2 none, Cond.methodLink RX5 1 objectInit, Cond.fieldLink RX5 7 "DividendDeskModel" "general" "[I", Cond.fieldLink RX5 13 "DividendDeskModel" "large" "[I", Cond.fieldLink RX5 16 "DividendDeskModel" "kind" "[I", Cond.fieldLink RX5 19 "DividendDeskModel" "land" "[I", Cond.fieldLink RX5 22 "DividendDeskModel" "shares" "[I", Cond.fieldLink RX5 25 "DividendDeskModel" "validTo" "[I"]
def wsL_law0_r3 : List Cond := [Cond.fieldLink RX5 28 "DividendDeskModel" "since" "[I", Cond.fieldLink RX5 31 "DividendDeskModel" "parts" "[I", Cond.fieldLink RX5 34 "DividendDeskModel" "paidOn" "[I", Cond.fieldLink RX5 37 "DividendDeskModel" "gross" "[I", Cond.fieldLink RX5 40 "DividendDeskModel" "held" "[I", Cond.fieldLink RX5 43 "DividendDeskModel" "due" "[I", Cond.fieldLink RX5 46 "DividendDeskModel" "shareRate" "[I", Cond.fieldLink RX5 49 "DividendDeskModel" "ownRate" "[I", Cond.arrayClass .boolean, Cond.fieldLink RX5 52 "DividendDeskModel" "wasValid" "[Z", Cond.fieldLink RX5 56 "DividendDeskModel" "partsThen" "[I", Cond.methodLink RL 71 yL_setTreaty, Cond.static yL_setTreaty, Cond.initialized RL, Cond.codeWith yL_setTreaty cL_setTreaty 6 (some .int) [(0, 12, 15, 13)], Cond.classLink RL 13 "java/lang/IllegalArgumentException", Cond.methodLink RL 7 yX4_setTreaty, Cond.instanceMethod yX4_setTreaty, Cond.selects RX4 yX4_setTreaty yX4_setTreaty, Cond.code yX4_setTreaty cX4_setTreaty 5 (some .int), Cond.classLink RX4 42 "java/lang/IllegalArgumentException", Cond.initialized "java/lang/IllegalArgumentException", Cond.methodLink RX4 34 yX4_isLand, Cond.static yX4_isLand]
def wsL_law0_r4 : List Cond := [Cond.code yX4_isLand cX4_isLand 1 (some .boolean), Cond.methodLink RX4 38 yX4_isWithin, Cond.static yX4_isWithin, Cond.code yX4_isWithin cX4_isWithin 3 (some .boolean), Cond.methodLink RL 76 yX5_setTreaty, Cond.instanceMethod yX5_setTreaty, Cond.selects RX5 yX5_setTreaty yX5_setTreaty, Cond.code yX5_setTreaty cX5_setTreaty 5 (some .int), Cond.methodLink RX5 66 yX5_isIn, Cond.static yX5_isIn, Cond.code yX5_isIn cX5_isIn 3 (some .boolean), Cond.methodLink RX5 73 yX5_can, Cond.instanceMethod yX5_can, Cond.selects RX5 yX5_can yX5_can, Cond.code yX5_can cX5_can 2 (some .boolean), Cond.fieldLink RX5 59 "DividendDeskModel" "thrown" "I", Cond.methodLink RL 77 yX5_thrown, Cond.instanceMethod yX5_thrown, Cond.selects RX5 yX5_thrown yX5_thrown, Cond.code yX5_thrown cX5_thrown 1 (some .int), Cond.methodLink RL 81 yL_addHolder, Cond.static yL_addHolder, Cond.codeWith yL_addHolder cL_addHolder 5 (some .int) [(0, 10, 13, 13), (0, 10, 17, 19)], Cond.classLink RL 19 "java/lang/IllegalStateException"]
def wsL_law0_r5 : List Cond := [Cond.methodLink RL 15 yX4_addHolder, Cond.instanceMethod yX4_addHolder, Cond.selects RX4 yX4_addHolder yX4_addHolder, Cond.code yX4_addHolder cX4_addHolder 3 (some .int), Cond.classLink RX4 57 "java/lang/IllegalStateException", Cond.initialized "java/lang/IllegalStateException", Cond.classLink RX4 62 RX1, Cond.instantiable RX1 6, Cond.initialized RX1, Cond.methodLink RX4 53 yJx4a65c_size_8abf5, Cond.instanceMethod yJx4a65c_size_8abf5, Cond.selects RJx4a65c yJx4a65c_size_8abf5 yJx4a65c_size_8abf5, Cond.code yJx4a65c_size_8abf5 cJx4a65c_size_8abf5 1 (some .int), Cond.fieldLink RJx4a65c 48 "java/util/ArrayList" "size" "I", Cond.instanceMethod yX1_init, Cond.code yX1_init cX1_init 3 none, Cond.methodLink RX1 3 objectInit, Cond.fieldLink RX1 9 "DividendDesk$Holder" "memberParts" "[I", Cond.fieldLink RX1 15 "DividendDesk$Holder" "shares" "I", Cond.fieldLink RX1 19 "DividendDesk$Holder" "formEnd" "I", Cond.fieldLink RX1 22 "DividendDesk$Holder" "enoughSince" "I", Cond.fieldLink RX1 25 "DividendDesk$Holder" "kind" "I", Cond.fieldLink RX1 28 "DividendDesk$Holder" "land" "I", Cond.methodLink RX4 67 yJx4a65c_add_9ea2d]
def wsL_law0_r6 : List Cond := [Cond.instanceMethod yJx4a65c_add_9ea2d, Cond.selects RJx4a65c yJx4a65c_add_9ea2d yJx4a65c_add_9ea2d, Cond.code yJx4a65c_add_9ea2d cJx4a65c_add_9ea2d 2 (some .boolean), Cond.fieldLink RJx4a65c 63 "java/util/ArrayList" "modCount" "I", Cond.sameField "java/util/ArrayList" "java/util/AbstractList" "modCount" "I", Cond.methodLink RJx4a65c 131 yJx4a65c_add_72be8, Cond.instanceMethod yJx4a65c_add_72be8, Cond.selects RJx4a65c yJx4a65c_add_72be8 yJx4a65c_add_72be8, Cond.code yJx4a65c_add_72be8 cJx4a65c_add_72be8 4 none, Cond.methodLink RJx4a65c 129 yJx4a65c_grow_d5877, Cond.instanceMethod yJx4a65c_grow_d5877, Cond.selects RJx4a65c yJx4a65c_grow_d5877 yJx4a65c_grow_d5877, Cond.code yJx4a65c_grow_d5877 cJx4a65c_grow_d5877 1 (some (.array (.object "java/lang/Object"))), Cond.methodLink RJx4a65c 69 yJx4a65c_grow_92f84, Cond.instanceMethod yJx4a65c_grow_92f84, Cond.selects RJx4a65c yJx4a65c_grow_92f84 yJx4a65c_grow_92f84, Cond.code yJx4a65c_grow_92f84 cJx4a65c_grow_92f84 4 (some (.array (.object "java/lang/Object"))), Cond.methodLink RJx4a65c 79 Lib.Math.max.name, Cond.static Lib.Math.max.name, Cond.initialized "java/lang/Math", Cond.code Lib.Math.max.name Lib.Math.max.code 2 (some .int), Cond.classLink RJx4a65c 7 "java/lang/Object", Cond.methodLink RJx4a65c 73 yJ8_newLength_cabcc, Cond.static yJ8_newLength_cabcc]
def wsL_law0_r7 : List Cond := [Cond.initialized RJ8, Cond.code yJ8_newLength_cabcc cJ8_newLength_cabcc 4 (some .int), Cond.methodLink RJ8 194 Lib.Math.max.name, Cond.constant RJ8 200 (2147483639), Cond.methodLink RJ8 201 yJ8_hugeLength_7cf53, Cond.static yJ8_hugeLength_7cf53, Cond.code yJ8_hugeLength_7cf53 cJ8_hugeLength_7cf53 3 (some .int), Cond.methodLink RJx4a65c 66 yJ7_copyOf_1904c, Cond.static yJ7_copyOf_1904c, Cond.initialized RJ7, Cond.code yJ7_copyOf_1904c cJ7_copyOf_1904c 2 (some (.array (.object "java/lang/Object"))), Cond.methodLink RJ7 86 ⟨"java/lang/Object", "getClass", "()Ljava/lang/Class;"⟩, Cond.selects "[Ljava/lang/Object;" ⟨"java/lang/Object", "getClass", "()Ljava/lang/Class;"⟩ ⟨"java/lang/Object", "getClass", "()Ljava/lang/Class;"⟩, Cond.instanceMethod ⟨"java/lang/Object", "getClass", "()Ljava/lang/Class;"⟩, Cond.native ⟨"java/lang/Object", "getClass", "()Ljava/lang/Class;"⟩, Cond.methodLink RJ7 300 yJ7_copyOf_6403c, Cond.static yJ7_copyOf_6403c, Cond.code yJ7_copyOf_6403c cJ7_copyOf_6403c 4 (some (.array (.object "java/lang/Object"))), Cond.classLink RJ7 110 "[Ljava/lang/Object;", Cond.classLink RJ7 2 "java/lang/Object", Cond.methodLink RJ7 304 Lib.Math.min.name, Cond.static Lib.Math.min.name, Cond.code Lib.Math.min.name Lib.Math.min.code 2 (some .int), Cond.methodLink RJ7 150 arraycopyName]
def wsL_law0_r8 : List Cond := [Cond.native arraycopyName, Cond.static arraycopyName, Cond.initialized "java/lang/System", Cond.methodLink RL 84 yX5_addHolder, Cond.instanceMethod yX5_addHolder, Cond.selects RX5 yX5_addHolder yX5_addHolder, Cond.code yX5_addHolder cX5_addHolder 4 (some .int), Cond.fieldLink RX5 63 "DividendDeskModel" "holders" "I", Cond.methodLink RL 85 yL_setParts, Cond.static yL_setParts, Cond.codeWith yL_setParts cL_setParts 6 (some .int) [(0, 12, 15, 24), (0, 12, 19, 13)], Cond.classLink RL 24 "java/lang/IndexOutOfBoundsException", Cond.methodLink RL 21 yX4_setParts, Cond.instanceMethod yX4_setParts, Cond.selects RX4 yX4_setParts yX4_setParts, Cond.code yX4_setParts cX4_setParts 7 (some .int), Cond.methodLink RX4 71 yX4_holderAt, Cond.instanceMethod yX4_holderAt, Cond.selects RX4 yX4_holderAt yX4_holderAt, Cond.code yX4_holderAt cX4_holderAt 2 (some (.object "DividendDesk$Holder")), Cond.classLink RX4 182 "java/lang/IndexOutOfBoundsException", Cond.initialized "java/lang/IndexOutOfBoundsException", Cond.classLink RX4 62 "DividendDesk$Holder", Cond.methodLink RX4 179 yX4_isHolder]
def wsL_law0_r9 : List Cond := [Cond.instanceMethod yX4_isHolder, Cond.selects RX4 yX4_isHolder yX4_isHolder, Cond.code yX4_isHolder cX4_isHolder 2 (some .boolean), Cond.methodLink RX4 105 yJx4a65c_get_915e3, Cond.instanceMethod yJx4a65c_get_915e3, Cond.selects RJx4a65c yJx4a65c_get_915e3 yJx4a65c_get_915e3, Cond.code yJx4a65c_get_915e3 cJx4a65c_get_915e3 2 (some (.object "java/lang/Object")), Cond.methodLink RJx4a65c 118 yJ15_checkIndex_7cf53, Cond.static yJ15_checkIndex_7cf53, Cond.initialized RJ15, Cond.code yJ15_checkIndex_7cf53 cJ15_checkIndex_7cf53 2 (some .int), Cond.methodLink RJ15 105 yJ3_checkIndex_8e157, Cond.static yJ3_checkIndex_8e157, Cond.initialized RJ3, Cond.code yJ3_checkIndex_8e157 cJ3_checkIndex_8e157 3 (some .int), Cond.methodLink RJx4a65c 123 yJx4a65c_elementData_915e3, Cond.instanceMethod yJx4a65c_elementData_915e3, Cond.selects RJx4a65c yJx4a65c_elementData_915e3 yJx4a65c_elementData_915e3, Cond.code yJx4a65c_elementData_915e3 cJx4a65c_elementData_915e3 2 (some (.object "java/lang/Object")), Cond.instanceMethod yX1_partsOf, Cond.selects RX1 yX1_partsOf yX1_partsOf, Cond.code yX1_partsOf cX1_partsOf 2 (some .int), Cond.instanceMethod yX1_changeParts, Cond.selects RX1 yX1_changeParts yX1_changeParts]
def wsL_law0_r10 : List Cond := [Cond.code yX1_changeParts cX1_changeParts 3 none, Cond.methodLink RL 87 yX5_setParts, Cond.instanceMethod yX5_setParts, Cond.selects RX5 yX5_setParts yX5_setParts, Cond.code yX5_setParts cX5_setParts 7 (some .int), Cond.methodLink RX5 77 yX5_isHolder, Cond.instanceMethod yX5_isHolder, Cond.selects RX5 yX5_isHolder yX5_isHolder, Cond.code yX5_isHolder cX5_isHolder 2 (some .boolean), Cond.methodLink RL 88 yL_setShares, Cond.static yL_setShares, Cond.codeWith yL_setShares cL_setShares 5 (some .int) [(0, 10, 13, 24), (0, 10, 17, 13), (0, 10, 21, 19)], Cond.methodLink RL 26 yX4_setShares, Cond.instanceMethod yX4_setShares, Cond.selects RX4 yX4_setShares yX4_setShares, Cond.code yX4_setShares cX4_setShares 5 (some .int), Cond.constant RX4 87 (1000000), Cond.methodLink RX4 93 yX4_sharesInAll, Cond.instanceMethod yX4_sharesInAll, Cond.selects RX4 yX4_sharesInAll yX4_sharesInAll, Cond.code yX4_sharesInAll cX4_sharesInAll 3 (some .int), Cond.methodLink RL 90 yX5_setShares, Cond.instanceMethod yX5_setShares, Cond.selects RX5 yX5_setShares yX5_setShares]
def wsL_law0_r11 : List Cond := [Cond.code yX5_setShares cX5_setShares 4 (some .int), Cond.constant RX5 80 (1000000), Cond.methodLink RX5 81 yX5_allShares, Cond.instanceMethod yX5_allShares, Cond.selects RX5 yX5_allShares yX5_allShares, Cond.code yX5_allShares cX5_allShares 3 (some .int), Cond.methodLink RL 91 yL_giveForm, Cond.static yL_giveForm, Cond.codeWith yL_giveForm cL_giveForm 4 (some .int) [(0, 9, 12, 24)], Cond.methodLink RL 29 yX4_giveForm, Cond.instanceMethod yX4_giveForm, Cond.selects RX4 yX4_giveForm yX4_giveForm, Cond.code yX4_giveForm cX4_giveForm 3 (some .int), Cond.methodLink RL 94 yX5_giveForm, Cond.instanceMethod yX5_giveForm, Cond.selects RX5 yX5_giveForm yX5_giveForm, Cond.code yX5_giveForm cX5_giveForm 2 (some .int), Cond.fieldLink RX5 85 "DividendDeskModel" "day" "I", Cond.methodLink RL 95 yL_pass, Cond.static yL_pass, Cond.codeWith yL_pass cL_pass 4 (some .int) [(0, 9, 12, 13), (0, 9, 15, 19)], Cond.methodLink RL 33 yX4_pass, Cond.instanceMethod yX4_pass, Cond.selects RX4 yX4_pass yX4_pass]
def wsL_law0_r12 : List Cond := [Cond.code yX4_pass cX4_pass 3 (some .int), Cond.instanceMethod yX1_endDay, Cond.selects RX1 yX1_endDay yX1_endDay, Cond.code yX1_endDay cX1_endDay 2 none, Cond.constant RX1 31 (100000), Cond.methodLink RL 97 yX5_pass, Cond.instanceMethod yX5_pass, Cond.selects RX5 yX5_pass yX5_pass, Cond.code yX5_pass cX5_pass 3 (some .int), Cond.constant RX5 88 (100000), Cond.methodLink RL 98 yX4_day, Cond.instanceMethod yX4_day, Cond.selects RX4 yX4_day yX4_day, Cond.code yX4_day cX4_day 1 (some .int), Cond.methodLink RL 101 yX5_day, Cond.instanceMethod yX5_day, Cond.selects RX5 yX5_day yX5_day, Cond.code yX5_day cX5_day 1 (some .int), Cond.methodLink RL 102 yL_shares, Cond.static yL_shares, Cond.codeWith yL_shares cL_shares 4 (some .int) [(0, 9, 12, 24)], Cond.methodLink RL 36 yX4_shares, Cond.instanceMethod yX4_shares, Cond.selects RX4 yX4_shares yX4_shares]
def wsL_law0_r13 : List Cond := [Cond.code yX4_shares cX4_shares 2 (some .int), Cond.methodLink RL 104 yX5_shares, Cond.instanceMethod yX5_shares, Cond.selects RX5 yX5_shares yX5_shares, Cond.code yX5_shares cX5_shares 2 (some .int), Cond.methodLink RX5 89 yX5_isAsked, Cond.instanceMethod yX5_isAsked, Cond.selects RX5 yX5_isAsked yX5_isAsked, Cond.code yX5_isAsked cX5_isAsked 2 (some .boolean), Cond.methodLink RL 105 yL_isValid, Cond.static yL_isValid, Cond.codeWith yL_isValid cL_isValid 4 (some .int) [(0, 16, 19, 24)], Cond.methodLink RL 39 yX4_isValid, Cond.instanceMethod yX4_isValid, Cond.selects RX4 yX4_isValid yX4_isValid, Cond.code yX4_isValid cX4_isValid 2 (some .boolean), Cond.instanceMethod yX1_hasFormOn, Cond.selects RX1 yX1_hasFormOn yX1_hasFormOn, Cond.code yX1_hasFormOn cX1_hasFormOn 2 (some .boolean), Cond.methodLink RL 107 yX5_isValid, Cond.instanceMethod yX5_isValid, Cond.selects RX5 yX5_isValid yX5_isValid, Cond.code yX5_isValid cX5_isValid 2 (some .boolean), Cond.methodLink RX5 92 yX5_hasForm]
def wsL_law0_r14 : List Cond := [Cond.instanceMethod yX5_hasForm, Cond.selects RX5 yX5_hasForm yX5_hasForm, Cond.code yX5_hasForm cX5_hasForm 2 (some .boolean), Cond.methodLink RL 108 yL_isLarge, Cond.static yL_isLarge, Cond.codeWith yL_isLarge cL_isLarge 4 (some .int) [(0, 16, 19, 24)], Cond.methodLink RL 43 yX4_isLarge, Cond.instanceMethod yX4_isLarge, Cond.selects RX4 yX4_isLarge yX4_isLarge, Cond.code yX4_isLarge cX4_isLarge 2 (some .boolean), Cond.instanceMethod yX1_hasLargeHoldingOn, Cond.selects RX1 yX1_hasLargeHoldingOn yX1_hasLargeHoldingOn, Cond.code yX1_hasLargeHoldingOn cX1_hasLargeHoldingOn 2 (some .boolean), Cond.methodLink RL 110 yX5_isLarge, Cond.instanceMethod yX5_isLarge, Cond.selects RX5 yX5_isLarge yX5_isLarge, Cond.code yX5_isLarge cX5_isLarge 2 (some .boolean), Cond.methodLink RX5 95 yX5_holdsLarge, Cond.instanceMethod yX5_holdsLarge, Cond.selects RX5 yX5_holdsLarge yX5_holdsLarge, Cond.code yX5_holdsLarge cX5_holdsLarge 2 (some .boolean), Cond.methodLink RL 111 yL_treatyRate, Cond.static yL_treatyRate, Cond.codeWith yL_treatyRate cL_treatyRate 4 (some .int) [(0, 9, 12, 24), (0, 9, 15, 13)]]
def wsL_law0_r15 : List Cond := [Cond.methodLink RL 46 yX4_treatyRate, Cond.instanceMethod yX4_treatyRate, Cond.selects RX4 yX4_treatyRate yX4_treatyRate, Cond.code yX4_treatyRate cX4_treatyRate 3 (some .int), Cond.methodLink RX4 121 yX4_ownRate, Cond.instanceMethod yX4_ownRate, Cond.selects RX4 yX4_ownRate yX4_ownRate, Cond.code yX4_ownRate cX4_ownRate 3 (some .int), Cond.methodLink RX4 208 Lib.Math.min.name, Cond.methodLink RX4 204 yX4_rateOf, Cond.static yX4_rateOf, Cond.code yX4_rateOf cX4_rateOf 2 (some .int), Cond.methodLink RL 113 yX5_treatyRate, Cond.instanceMethod yX5_treatyRate, Cond.selects RX5 yX5_treatyRate yX5_treatyRate, Cond.code yX5_treatyRate cX5_treatyRate 2 (some .int), Cond.methodLink RX5 98 yX5_rateOf, Cond.instanceMethod yX5_rateOf, Cond.selects RX5 yX5_rateOf yX5_rateOf, Cond.code yX5_rateOf cX5_rateOf 3 (some .int), Cond.methodLink RL 114 yL_pay, Cond.static yL_pay, Cond.codeWith yL_pay cL_pay 4 (some .int) [(0, 9, 12, 13), (0, 9, 15, 19)], Cond.methodLink RL 49 yX4_pay]
def wsL_law0_r16 : List Cond := [Cond.instanceMethod yX4_pay, Cond.selects RX4 yX4_pay yX4_pay, Cond.code yX4_pay cX4_pay 4 (some .int), Cond.classLink RX4 129 RX0, Cond.instantiable RX0 3, Cond.initialized RX0, Cond.methodLink RX4 131 yX4_validForms, Cond.instanceMethod yX4_validForms, Cond.selects RX4 yX4_validForms yX4_validForms, Cond.code yX4_validForms cX4_validForms 3 (some .int), Cond.methodLink RX4 198 yX4_formOf, Cond.static yX4_formOf, Cond.code yX4_formOf cX4_formOf 1 (some .int), Cond.instanceMethod yX0_init, Cond.code yX0_init cX0_init 3 none, Cond.methodLink RX0 3 objectInit, Cond.classLink RX0 9 RX2, Cond.fieldLink RX0 11 "DividendDesk$Dividend" "payments" "[LDividendDesk$Payment;", Cond.fieldLink RX0 17 "DividendDesk$Dividend" "payDay" "I", Cond.fieldLink RX0 21 "DividendDesk$Dividend" "formsOnPayDay" "I", Cond.methodLink RX4 135 yX4_makePayment, Cond.instanceMethod yX4_makePayment, Cond.selects RX4 yX4_makePayment yX4_makePayment, Cond.code yX4_makePayment cX4_makePayment 5 (some (.object "DividendDesk$Payment"))]
def wsL_law0_r17 : List Cond := [Cond.classLink RX4 148 RX2, Cond.instantiable RX2 3, Cond.initialized RX2, Cond.classLink RX4 220 RX3, Cond.instantiable RX3 3, Cond.initialized RX3, Cond.instanceMethod yX2_init, Cond.code yX2_init cX2_init 2 none, Cond.methodLink RX2 1 objectInit, Cond.classLink RX2 7 RJx4a65c, Cond.fieldLink RX2 10 "DividendDesk$Payment" "portions" "Ljava/util/ArrayList;", Cond.fieldLink RX2 16 "DividendDesk$Payment" "heldTax" "I", Cond.fieldLink RX2 20 "DividendDesk$Payment" "amount" "I", Cond.methodLink RX2 9 yJx4a65c_init_da8c8, Cond.methodLink RX4 216 yX4_addPortions, Cond.instanceMethod yX4_addPortions, Cond.selects RX4 yX4_addPortions yX4_addPortions, Cond.code yX4_addPortions cX4_addPortions 10 none, Cond.instanceMethod yX1_partsInAll, Cond.selects RX1 yX1_partsInAll yX1_partsInAll, Cond.code yX1_partsInAll cX1_partsInAll 3 (some .int), Cond.instanceMethod yX3_init, Cond.code yX3_init cX3_init 4 none, Cond.methodLink RX3 3 objectInit]
def wsL_law0_r18 : List Cond := [Cond.fieldLink RX3 9 "DividendDesk$Portion" "amount" "I", Cond.fieldLink RX3 15 "DividendDesk$Portion" "rate" "I", Cond.fieldLink RX3 18 "DividendDesk$Portion" "neededForms" "I", Cond.instanceMethod yX2_add, Cond.selects RX2 yX2_add yX2_add, Cond.code yX2_add cX2_add 2 none, Cond.methodLink RX2 23 yJx4a65c_add_9ea2d, Cond.methodLink RX4 231 yX4_proportion, Cond.static yX4_proportion, Cond.code yX4_proportion cX4_proportion 3 (some .int), Cond.instanceMethod yX0_enter, Cond.selects RX0 yX0_enter yX0_enter, Cond.code yX0_enter cX0_enter 3 none, Cond.instanceMethod yX2_taxWith, Cond.selects RX2 yX2_taxWith yX2_taxWith, Cond.code yX2_taxWith cX2_taxWith 4 (some .int), Cond.classLink RX2 35 "DividendDesk$Portion", Cond.methodLink RX2 27 yJx4a65c_size_8abf5, Cond.methodLink RX2 31 yJx4a65c_get_915e3, Cond.instanceMethod yX3_tax, Cond.selects RX3 yX3_tax yX3_tax, Cond.code yX3_tax cX3_tax 3 (some .int), Cond.constantLong RX3 21 (100), Cond.methodLink RL 116 yX5_pay]
def wsL_law0_r19 : List Cond := [Cond.instanceMethod yX5_pay, Cond.selects RX5 yX5_pay yX5_pay, Cond.code yX5_pay cX5_pay 5 (some .int), Cond.fieldLink RX5 70 "DividendDeskModel" "dividends" "I", Cond.methodLink RX5 116 yX5_tax, Cond.instanceMethod yX5_tax, Cond.selects RX5 yX5_tax yX5_tax, Cond.code yX5_tax cX5_tax 6 (some .int), Cond.methodLink RX5 112 yX5_partnersTax, Cond.instanceMethod yX5_partnersTax, Cond.selects RX5 yX5_partnersTax yX5_partnersTax, Cond.code yX5_partnersTax cX5_partnersTax 17 (some .int), Cond.methodLink RX5 104 yX5_taxOf, Cond.static yX5_taxOf, Cond.code yX5_taxOf cX5_taxOf 3 (some .int), Cond.constantLong RX5 102 (100), Cond.methodLink RX5 108 yX5_counts, Cond.instanceMethod yX5_counts, Cond.selects RX5 yX5_counts yX5_counts, Cond.code yX5_counts cX5_counts 5 (some .boolean), Cond.methodLink RL 117 yX4_dividends, Cond.instanceMethod yX4_dividends, Cond.selects RX4 yX4_dividends yX4_dividends, Cond.code yX4_dividends cX4_dividends 1 (some .int)]
def wsL_law0_r20 : List Cond := [Cond.methodLink RL 120 yX5_dividends, Cond.instanceMethod yX5_dividends, Cond.selects RX5 yX5_dividends yX5_dividends, Cond.code yX5_dividends cX5_dividends 1 (some .int), Cond.methodLink RL 121 yL_gross, Cond.static yL_gross, Cond.codeWith yL_gross cL_gross 5 (some .int) [(0, 10, 13, 24)], Cond.methodLink RL 52 yX4_gross, Cond.instanceMethod yX4_gross, Cond.selects RX4 yX4_gross yX4_gross, Cond.code yX4_gross cX4_gross 4 (some .int), Cond.methodLink RX4 143 yX4_paymentAt, Cond.instanceMethod yX4_paymentAt, Cond.selects RX4 yX4_paymentAt yX4_paymentAt, Cond.code yX4_paymentAt cX4_paymentAt 4 (some (.object "DividendDesk$Payment")), Cond.methodLink RX4 166 yX4_dividendAt, Cond.instanceMethod yX4_dividendAt, Cond.selects RX4 yX4_dividendAt yX4_dividendAt, Cond.code yX4_dividendAt cX4_dividendAt 2 (some (.object "DividendDesk$Dividend")), Cond.classLink RX4 129 "DividendDesk$Dividend", Cond.instanceMethod yX0_paymentTo, Cond.selects RX0 yX0_paymentTo yX0_paymentTo, Cond.code yX0_paymentTo cX0_paymentTo 2 (some (.object "DividendDesk$Payment")), Cond.methodLink RL 123 yX5_gross]
def wsL_law0_r21 : List Cond := [Cond.instanceMethod yX5_gross, Cond.selects RX5 yX5_gross yX5_gross, Cond.code yX5_gross cX5_gross 3 (some .int), Cond.methodLink RX5 122 yX5_areAsked, Cond.instanceMethod yX5_areAsked, Cond.selects RX5 yX5_areAsked yX5_areAsked, Cond.code yX5_areAsked cX5_areAsked 3 (some .boolean), Cond.methodLink RX5 119 yX5_isDividend, Cond.instanceMethod yX5_isDividend, Cond.selects RX5 yX5_isDividend yX5_isDividend, Cond.code yX5_isDividend cX5_isDividend 2 (some .boolean), Cond.methodLink RL 124 yL_held, Cond.static yL_held, Cond.codeWith yL_held cL_held 5 (some .int) [(0, 10, 13, 24)], Cond.methodLink RL 55 yX4_held, Cond.instanceMethod yX4_held, Cond.selects RX4 yX4_held yX4_held, Cond.code yX4_held cX4_held 4 (some .int), Cond.methodLink RL 126 yX5_held, Cond.instanceMethod yX5_held, Cond.selects RX5 yX5_held yX5_held, Cond.code yX5_held cX5_held 3 (some .int), Cond.methodLink RL 127 yL_due, Cond.static yL_due]
def wsL_law0_r22 : List Cond := [Cond.codeWith yL_due cL_due 5 (some .int) [(0, 10, 13, 24)], Cond.methodLink RL 58 yX4_due, Cond.instanceMethod yX4_due, Cond.selects RX4 yX4_due yX4_due, Cond.code yX4_due cX4_due 4 (some .int), Cond.methodLink RL 129 yX5_due, Cond.instanceMethod yX5_due, Cond.selects RX5 yX5_due yX5_due, Cond.code yX5_due cX5_due 3 (some .int), Cond.methodLink RL 130 yX4_heldInAll, Cond.instanceMethod yX4_heldInAll, Cond.selects RX4 yX4_heldInAll yX4_heldInAll, Cond.code yX4_heldInAll cX4_heldInAll 4 (some .long), Cond.instanceMethod yX0_heldOfAll, Cond.selects RX0 yX0_heldOfAll yX0_heldOfAll, Cond.code yX0_heldOfAll cX0_heldOfAll 5 (some .long), Cond.methodLink RL 134 yX5_heldInAll, Cond.instanceMethod yX5_heldInAll, Cond.selects RX5 yX5_heldInAll yX5_heldInAll, Cond.code yX5_heldInAll cX5_heldInAll 4 (some .long), Cond.methodLink RL 135 yX4_refunded, Cond.instanceMethod yX4_refunded, Cond.selects RX4 yX4_refunded yX4_refunded, Cond.code yX4_refunded cX4_refunded 1 (some .long)]
def wsL_law0_r23 : List Cond := [Cond.methodLink RL 138 yX5_refunded, Cond.instanceMethod yX5_refunded, Cond.selects RX5 yX5_refunded yX5_refunded, Cond.code yX5_refunded cX5_refunded 1 (some .long), Cond.fieldLink RX5 126 "DividendDeskModel" "refunds" "J", Cond.methodLink RL 139 yL_refund, Cond.static yL_refund, Cond.codeWith yL_refund cL_refund 5 (some .int) [(0, 10, 13, 24), (0, 10, 17, 19)], Cond.methodLink RL 61 yX4_refund, Cond.instanceMethod yX4_refund, Cond.selects RX4 yX4_refund yX4_refund, Cond.code yX4_refund cX4_refund 5 (some .int), Cond.methodLink RX4 162 yX4_refundablePayment, Cond.instanceMethod yX4_refundablePayment, Cond.selects RX4 yX4_refundablePayment yX4_refundablePayment, Cond.code yX4_refundablePayment cX4_refundablePayment 5 (some (.object "DividendDesk$Payment")), Cond.methodLink RX4 173 yX4_giveBack, Cond.instanceMethod yX4_giveBack, Cond.selects RX4 yX4_giveBack yX4_giveBack, Cond.code yX4_giveBack cX4_giveBack 4 (some .int), Cond.instanceMethod yX2_lowerTo, Cond.selects RX2 yX2_lowerTo yX2_lowerTo, Cond.code yX2_lowerTo cX2_lowerTo 3 (some .int), Cond.methodLink RX2 41 Lib.Math.max.name]
def wsL_law0_r24 : List Cond := [Cond.methodLink RL 141 yX5_refund, Cond.instanceMethod yX5_refund, Cond.selects RX5 yX5_refund yX5_refund, Cond.code yX5_refund cX5_refund 3 (some .int), Cond.methodLink RX5 130 yX5_isOver, Cond.instanceMethod yX5_isOver, Cond.selects RX5 yX5_isOver yX5_isOver, Cond.code yX5_isOver cX5_isOver 4 (some .boolean), Cond.methodLink RX5 133 yX5_gives, Cond.instanceMethod yX5_gives, Cond.selects RX5 yX5_gives yX5_gives, Cond.code yX5_gives cX5_gives 6 (some .int), Cond.methodLink RL 142 yL_claim, Cond.static yL_claim, Cond.codeWith yL_claim cL_claim 5 (some .int) [(0, 10, 13, 24), (0, 10, 17, 19)], Cond.methodLink RL 64 yX4_claim, Cond.instanceMethod yX4_claim, Cond.selects RX4 yX4_claim yX4_claim, Cond.code yX4_claim cX4_claim 4 (some .int), Cond.methodLink RL 144 yX5_claim, Cond.instanceMethod yX5_claim, Cond.selects RX5 yX5_claim yX5_claim, Cond.code yX5_claim cX5_claim 3 (some .int)]
def wsL_law0 : List Cond := (wsL_law0_r1 ++ (wsL_law0_r2 ++ (wsL_law0_r3 ++ (wsL_law0_r4 ++ (wsL_law0_r5 ++ (wsL_law0_r6 ++ (wsL_law0_r7 ++ (wsL_law0_r8 ++ (wsL_law0_r9 ++ (wsL_law0_r10 ++ (wsL_law0_r11 ++ (wsL_law0_r12 ++ (wsL_law0_r13 ++ (wsL_law0_r14 ++ (wsL_law0_r15 ++ (wsL_law0_r16 ++ (wsL_law0_r17 ++ (wsL_law0_r18 ++ (wsL_law0_r19 ++ (wsL_law0_r20 ++ (wsL_law0_r21 ++ (wsL_law0_r22 ++ (wsL_law0_r23 ++ wsL_law0_r24))))))))))))))))))))))) ++ wsX40 ++ wsX50 ++ wsJx4a65c0 ++ wsX10 ++ wsX00 ++ wsX20 ++ wsX30 ++ ([] : List Cond)
def wsL_law : List Cond := wsL_law0 ++ (vx_atS RX4 46 "java/lang/IllegalArgumentException" ["java/lang/RuntimeException", "java/lang/Exception"]).filter goodWord ++ (vx_atS RX4 61 "java/lang/IllegalStateException" ["java/lang/RuntimeException", "java/lang/Exception"]).filter goodWord ++ (vx_atS RX4 186 "java/lang/IndexOutOfBoundsException" ["java/lang/RuntimeException", "java/lang/Exception"]).filter goodWord
theorem lw_app {a b L : List Cond} (ha : ∀ w ∈ a, w ∈ L) (hb : ∀ w ∈ b, w ∈ L) : ∀ w ∈ a ++ b, w ∈ L := fun w h => (List.mem_append.mp h).elim (ha w) (hb w)
set_option maxRecDepth 20000 in
theorem wsL_law0_r1_in : ∀ w ∈ wsL_law0_r1, w ∈ lw_tbl := fun w h => (goodIn_p wsL_law0_r1 [68, 71] (by decide +kernel) (by decide +kernel) w h).1
set_option maxRecDepth 20000 in
theorem wsL_law0_r2_in : ∀ w ∈ wsL_law0_r2, w ∈ lw_tbl := fun w h => (goodIn_p wsL_law0_r2 [76, 79, 82, 648] (by decide +kernel) (by decide +kernel) w h).1
set_option maxRecDepth 20000 in
theorem wsL_law0_r3_in : ∀ w ∈ wsL_law0_r3, w ∈ lw_tbl := fun w h => (goodIn_p wsL_law0_r3 [165] (by decide +kernel) (by decide +kernel) w h).1
set_option maxRecDepth 20000 in
theorem wsL_law0_r4_in : ∀ w ∈ wsL_law0_r4, w ∈ lw_tbl := fun w h => (goodIn_p wsL_law0_r4 [168, 171, 722, 725, 729, 718] (by decide +kernel) (by decide +kernel) w h).1
set_option maxRecDepth 20000 in
theorem wsL_law0_r5_in : ∀ w ∈ wsL_law0_r5, w ∈ lw_tbl := fun w h => (goodIn_p wsL_law0_r5 [247, 129, 270] (by decide +kernel) (by decide +kernel) w h).1
set_option maxRecDepth 20000 in
theorem wsL_law0_r6_in : ∀ w ∈ wsL_law0_r6, w ∈ lw_tbl := fun w h => (goodIn_p wsL_law0_r6 [298, 302, 306, 310, 316] (by decide +kernel) (by decide +kernel) w h).1
set_option maxRecDepth 20000 in
theorem wsL_law0_r7_in : ∀ w ∈ wsL_law0_r7, w ∈ lw_tbl := fun w h => (goodIn_p wsL_law0_r7 [313, 320, 323, 340, 346] (by decide +kernel) (by decide +kernel) w h).1
set_option maxRecDepth 20000 in
theorem wsL_law0_r8_in : ∀ w ∈ wsL_law0_r8, w ∈ lw_tbl := fun w h => (goodIn_p wsL_law0_r8 [733, 359, 363] (by decide +kernel) (by decide +kernel) w h).1
set_option maxRecDepth 20000 in
theorem wsL_law0_r9_in : ∀ w ∈ wsL_law0_r9, w ∈ lw_tbl := fun w h => (goodIn_p wsL_law0_r9 [367, 137, 140, 143, 147, 388] (by decide +kernel) (by decide +kernel) w h).1
set_option maxRecDepth 20000 in
theorem wsL_law0_r10_in : ∀ w ∈ wsL_law0_r10, w ∈ lw_tbl := fun w h => (goodIn_p wsL_law0_r10 [392, 737, 741, 399, 405] (by decide +kernel) (by decide +kernel) w h).1
set_option maxRecDepth 20000 in
theorem wsL_law0_r11_in : ∀ w ∈ wsL_law0_r11, w ∈ lw_tbl := fun w h => (goodIn_p wsL_law0_r11 [745, 750, 413, 754] (by decide +kernel) (by decide +kernel) w h).1
set_option maxRecDepth 20000 in
theorem wsL_law0_r12_in : ∀ w ∈ wsL_law0_r12, w ∈ lw_tbl := fun w h => (goodIn_p wsL_law0_r12 [420, 426, 758, 121, 763] (by decide +kernel) (by decide +kernel) w h).1
set_option maxRecDepth 20000 in
theorem wsL_law0_r13_in : ∀ w ∈ wsL_law0_r13, w ∈ lw_tbl := fun w h => (goodIn_p wsL_law0_r13 [434, 767, 771, 441, 445, 775] (by decide +kernel) (by decide +kernel) w h).1
set_option maxRecDepth 20000 in
theorem wsL_law0_r14_in : ∀ w ∈ wsL_law0_r14, w ∈ lw_tbl := fun w h => (goodIn_p wsL_law0_r14 [779, 452, 456, 783, 787] (by decide +kernel) (by decide +kernel) w h).1
set_option maxRecDepth 20000 in
theorem wsL_law0_r15_in : ∀ w ∈ wsL_law0_r15, w ∈ lw_tbl := fun w h => (goodIn_p wsL_law0_r15 [463, 468, 471, 791, 795] (by decide +kernel) (by decide +kernel) w h).1
set_option maxRecDepth 20000 in
theorem wsL_law0_r16_in : ∀ w ∈ wsL_law0_r16, w ∈ lw_tbl := fun w h => (goodIn_p wsL_law0_r16 [479, 485, 488, 491, 510] (by decide +kernel) (by decide +kernel) w h).1
set_option maxRecDepth 20000 in
theorem wsL_law0_r17_in : ∀ w ∈ wsL_law0_r17, w ∈ lw_tbl := fun w h => (goodIn_p wsL_law0_r17 [515, 535, 539, 544] (by decide +kernel) (by decide +kernel) w h).1
set_option maxRecDepth 20000 in
theorem wsL_law0_r18_in : ∀ w ∈ wsL_law0_r18, w ∈ lw_tbl := fun w h => (goodIn_p wsL_law0_r18 [559, 563, 567, 571, 578] (by decide +kernel) (by decide +kernel) w h).1
set_option maxRecDepth 20000 in
theorem wsL_law0_r19_in : ∀ w ∈ wsL_law0_r19, w ∈ lw_tbl := fun w h => (goodIn_p wsL_law0_r19 [799, 803, 807, 810, 815, 125] (by decide +kernel) (by decide +kernel) w h).1
set_option maxRecDepth 20000 in
theorem wsL_law0_r20_in : ∀ w ∈ wsL_law0_r20, w ∈ lw_tbl := fun w h => (goodIn_p wsL_law0_r20 [819, 586, 590, 594, 599] (by decide +kernel) (by decide +kernel) w h).1
set_option maxRecDepth 20000 in
theorem wsL_law0_r21_in : ∀ w ∈ wsL_law0_r21, w ∈ lw_tbl := fun w h => (goodIn_p wsL_law0_r21 [823, 827, 831, 606, 835] (by decide +kernel) (by decide +kernel) w h).1
set_option maxRecDepth 20000 in
theorem wsL_law0_r22_in : ∀ w ∈ wsL_law0_r22, w ∈ lw_tbl := fun w h => (goodIn_p wsL_law0_r22 [613, 839, 133, 153, 843, 157] (by decide +kernel) (by decide +kernel) w h).1
set_option maxRecDepth 20000 in
theorem wsL_law0_r23_in : ∀ w ∈ wsL_law0_r23, w ∈ lw_tbl := fun w h => (goodIn_p wsL_law0_r23 [847, 621, 625, 630, 634] (by decide +kernel) (by decide +kernel) w h).1
set_option maxRecDepth 20000 in
theorem wsL_law0_r24_in : ∀ w ∈ wsL_law0_r24, w ∈ lw_tbl := fun w h => (goodIn_p wsL_law0_r24 [851, 855, 859, 642, 863] (by decide +kernel) (by decide +kernel) w h).1
set_option maxRecDepth 20000 in
theorem in0_wsX40 : ∀ w ∈ wsX40, w ∈ lw_tbl := by decide +kernel
set_option maxRecDepth 20000 in
theorem in0_wsX50 : ∀ w ∈ wsX50, w ∈ lw_tbl := by decide +kernel
set_option maxRecDepth 20000 in
theorem in0_wsJx4a65c0 : ∀ w ∈ wsJx4a65c0, w ∈ lw_tbl := by decide +kernel
set_option maxRecDepth 20000 in
theorem in0_wsX10 : ∀ w ∈ wsX10, w ∈ lw_tbl := by decide +kernel
set_option maxRecDepth 20000 in
theorem in0_wsX00 : ∀ w ∈ wsX00, w ∈ lw_tbl := by decide +kernel
set_option maxRecDepth 20000 in
theorem in0_wsX20 : ∀ w ∈ wsX20, w ∈ lw_tbl := by decide +kernel
set_option maxRecDepth 20000 in
theorem in0_wsX30 : ∀ w ∈ wsX30, w ∈ lw_tbl := by decide +kernel
set_option maxRecDepth 20000 in
theorem wsL_law_in0 : ∀ w ∈ wsL_law0, w ∈ lw_tbl := lw_app (lw_app (lw_app (lw_app (lw_app (lw_app (lw_app (lw_app (lw_app wsL_law0_r1_in (lw_app wsL_law0_r2_in (lw_app wsL_law0_r3_in (lw_app wsL_law0_r4_in (lw_app wsL_law0_r5_in (lw_app wsL_law0_r6_in (lw_app wsL_law0_r7_in (lw_app wsL_law0_r8_in (lw_app wsL_law0_r9_in (lw_app wsL_law0_r10_in (lw_app wsL_law0_r11_in (lw_app wsL_law0_r12_in (lw_app wsL_law0_r13_in (lw_app wsL_law0_r14_in (lw_app wsL_law0_r15_in (lw_app wsL_law0_r16_in (lw_app wsL_law0_r17_in (lw_app wsL_law0_r18_in (lw_app wsL_law0_r19_in (lw_app wsL_law0_r20_in (lw_app wsL_law0_r21_in (lw_app wsL_law0_r22_in (lw_app wsL_law0_r23_in (wsL_law0_r24_in)))))))))))))))))))))))) in0_wsX40) in0_wsX50) in0_wsJx4a65c0) in0_wsX10) in0_wsX00) in0_wsX20) in0_wsX30) (fun _ h => nomatch h)
theorem wsL_law_x0 : ∀ w ∈ (vx_atS RX4 46 "java/lang/IllegalArgumentException" ["java/lang/RuntimeException", "java/lang/Exception"]).filter goodWord, w ∈ lw_tbl := by decide +kernel
theorem wsL_law_x1 : ∀ w ∈ (vx_atS RX4 61 "java/lang/IllegalStateException" ["java/lang/RuntimeException", "java/lang/Exception"]).filter goodWord, w ∈ lw_tbl := by decide +kernel
theorem wsL_law_x2 : ∀ w ∈ (vx_atS RX4 186 "java/lang/IndexOutOfBoundsException" ["java/lang/RuntimeException", "java/lang/Exception"]).filter goodWord, w ∈ lw_tbl := by decide +kernel
theorem wsL_law_in : ∀ w ∈ wsL_law, w ∈ lw_tbl := fun w h => (List.mem_append.mp h).elim (fun h => (List.mem_append.mp h).elim (fun h => (List.mem_append.mp h).elim (fun h => wsL_law_in0 w h) (fun h => wsL_law_x0 w h)) (fun h => wsL_law_x1 w h)) (fun h => wsL_law_x2 w h)
theorem inlX0 : ∀ w ∈ wsX00, w ∈ wsL_law := fun _ h => List.mem_append_left _ (List.mem_append_left _ (List.mem_append_left _ (List.mem_append_left _ (List.mem_append_left _ (List.mem_append_left _ (List.mem_append_right _ h))))))
theorem inX0 : ∀ w ∈ wsX00, w ∈ lw_tbl := fun w h => wsL_law_in w (inlX0 w h)
theorem inlX1 : ∀ w ∈ wsX10, w ∈ wsL_law := fun _ h => List.mem_append_left _ (List.mem_append_left _ (List.mem_append_left _ (List.mem_append_left _ (List.mem_append_left _ (List.mem_append_left _ (List.mem_append_left _ (List.mem_append_right _ h)))))))
theorem inX1 : ∀ w ∈ wsX10, w ∈ lw_tbl := fun w h => wsL_law_in w (inlX1 w h)
theorem inlX2 : ∀ w ∈ wsX20, w ∈ wsL_law := fun _ h => List.mem_append_left _ (List.mem_append_left _ (List.mem_append_left _ (List.mem_append_left _ (List.mem_append_left _ (List.mem_append_right _ h)))))
theorem inX2 : ∀ w ∈ wsX20, w ∈ lw_tbl := fun w h => wsL_law_in w (inlX2 w h)
theorem inlX3 : ∀ w ∈ wsX30, w ∈ wsL_law := fun _ h => List.mem_append_left _ (List.mem_append_left _ (List.mem_append_left _ (List.mem_append_left _ (List.mem_append_right _ h))))
theorem inX3 : ∀ w ∈ wsX30, w ∈ lw_tbl := fun w h => wsL_law_in w (inlX3 w h)
theorem inlX4 : ∀ w ∈ wsX40, w ∈ wsL_law := fun _ h => List.mem_append_left _ (List.mem_append_left _ (List.mem_append_left _ (List.mem_append_left _ (List.mem_append_left _ (List.mem_append_left _ (List.mem_append_left _ (List.mem_append_left _ (List.mem_append_left _ (List.mem_append_left _ (List.mem_append_right _ h))))))))))
theorem inX4 : ∀ w ∈ wsX40, w ∈ lw_tbl := fun w h => wsL_law_in w (inlX4 w h)
theorem inlX5 : ∀ w ∈ wsX50, w ∈ wsL_law := fun _ h => List.mem_append_left _ (List.mem_append_left _ (List.mem_append_left _ (List.mem_append_left _ (List.mem_append_left _ (List.mem_append_left _ (List.mem_append_left _ (List.mem_append_left _ (List.mem_append_left _ (List.mem_append_right _ h)))))))))
theorem inX5 : ∀ w ∈ wsX50, w ∈ lw_tbl := fun w h => wsL_law_in w (inlX5 w h)
theorem inJx145de : ∀ w ∈ wsJx145de0, w ∈ lw_tbl := by decide +kernel
theorem inJx8e188 : ∀ w ∈ wsJx8e1880, w ∈ lw_tbl := by decide +kernel
theorem inJxab1ab : ∀ w ∈ wsJxab1ab0, w ∈ lw_tbl := by decide +kernel
theorem inJ9 : ∀ w ∈ wsJ90, w ∈ lw_tbl := by decide +kernel
theorem inJ0 : ∀ w ∈ wsJ00, w ∈ lw_tbl := by decide +kernel
theorem inJ10 : ∀ w ∈ wsJ100, w ∈ lw_tbl := by decide +kernel
theorem inJxa1e45 : ∀ w ∈ wsJxa1e450, w ∈ lw_tbl := by decide +kernel
theorem inJxc12de : ∀ w ∈ wsJxc12de0, w ∈ lw_tbl := by decide +kernel
theorem inlJx4a65c : ∀ w ∈ wsJx4a65c0, w ∈ wsL_law := fun _ h => List.mem_append_left _ (List.mem_append_left _ (List.mem_append_left _ (List.mem_append_left _ (List.mem_append_left _ (List.mem_append_left _ (List.mem_append_left _ (List.mem_append_left _ (List.mem_append_right _ h))))))))
theorem inJx4a65c : ∀ w ∈ wsJx4a65c0, w ∈ lw_tbl := fun w h => wsL_law_in w (inlJx4a65c w h)
theorem inJ7 : ∀ w ∈ wsJ70, w ∈ lw_tbl := by decide +kernel
theorem inJx5ef63 : ∀ w ∈ wsJx5ef630, w ∈ lw_tbl := by decide +kernel
theorem inJxbd725 : ∀ w ∈ wsJxbd7250, w ∈ lw_tbl := by decide +kernel
theorem inJ15 : ∀ w ∈ wsJ150, w ∈ lw_tbl := by decide +kernel
theorem inJxf0a74 : ∀ w ∈ wsJxf0a740, w ∈ lw_tbl := by decide +kernel
theorem inJxa66e6 : ∀ w ∈ wsJxa66e60, w ∈ lw_tbl := by decide +kernel
theorem inJ8 : ∀ w ∈ wsJ80, w ∈ lw_tbl := by decide +kernel
theorem inJ3 : ∀ w ∈ wsJ30, w ∈ lw_tbl := by decide +kernel
end
section
theorem dX0_init_0 : decode cX0_init 0 = .ok (.aload_n 0, 1) := by decide +kernel
theorem dX0_init_1 : decode cX0_init 1 = .ok (.invokespecial 3, 3) := by decide +kernel
theorem dX0_init_4 : decode cX0_init 4 = .ok (.aload_n 0, 1) := by decide +kernel
theorem dX0_init_5 : decode cX0_init 5 = .ok (.bipush 20, 2) := by decide +kernel
theorem dX0_init_7 : decode cX0_init 7 = .ok (.anewarray 9, 3) := by decide +kernel
theorem dX0_init_10 : decode cX0_init 10 = .ok (.putfield 11, 3) := by decide +kernel
theorem dX0_init_13 : decode cX0_init 13 = .ok (.aload_n 0, 1) := by decide +kernel
theorem dX0_init_14 : decode cX0_init 14 = .ok (.iload_n 1, 1) := by decide +kernel
theorem dX0_init_15 : decode cX0_init 15 = .ok (.putfield 17, 3) := by decide +kernel
theorem dX0_init_18 : decode cX0_init 18 = .ok (.aload_n 0, 1) := by decide +kernel
theorem dX0_init_19 : decode cX0_init 19 = .ok (.iload_n 2, 1) := by decide +kernel
theorem dX0_init_20 : decode cX0_init 20 = .ok (.putfield 21, 3) := by decide +kernel
theorem dX0_init_23 : decode cX0_init 23 = .ok (.return_, 1) := by decide +kernel
set_option maxRecDepth 20000 in
theorem ggX0_enter_X2_taxWith : GoodIn wsX0_enter wsX2_taxWith := goodIn_r _ [6, 7, 8, 9, 10, 11, 12, 13, 14, 15, 16, 17, 18, 19, 20, 21, 22, 23, 24, 25, 26, 27, 28, 29, 30, 31, 32, 33, 34, 35, 36, 37, 38, 39, 43, 44, 45, 46, 47, 48, 49, 50, 51] (by decide +kernel) (by decide +kernel)
set_option maxRecDepth 20000 in
theorem gX0_enter_X2_taxWith_n24 : GoodIn wsX0_enter (wsX2_taxWith) := ggX0_enter_X2_taxWith
theorem dX0_enter_0 : decode cX0_enter 0 = .ok (.iload_n 1, 1) := by decide +kernel
theorem dX0_enter_1 : decode cX0_enter 1 = .ok (.ifCond .lt 31, 3) := by decide +kernel
theorem dX0_enter_4 : decode cX0_enter 4 = .ok (.iload_n 1, 1) := by decide +kernel
theorem dX0_enter_5 : decode cX0_enter 5 = .ok (.aload_n 0, 1) := by decide +kernel
theorem dX0_enter_6 : decode cX0_enter 6 = .ok (.getfield 11, 3) := by decide +kernel
theorem dX0_enter_9 : decode cX0_enter 9 = .ok (.arraylength, 1) := by decide +kernel
theorem dX0_enter_10 : decode cX0_enter 10 = .ok (.if_icmp .ge 22, 3) := by decide +kernel
theorem dX0_enter_13 : decode cX0_enter 13 = .ok (.aload_n 2, 1) := by decide +kernel
theorem dX0_enter_14 : decode cX0_enter 14 = .ok (.aload_n 2, 1) := by decide +kernel
theorem dX0_enter_15 : decode cX0_enter 15 = .ok (.aload_n 0, 1) := by decide +kernel
theorem dX0_enter_16 : decode cX0_enter 16 = .ok (.getfield 21, 3) := by decide +kernel
theorem dX0_enter_19 : decode cX0_enter 19 = .ok (.invokevirtual 24, 3) := by decide +kernel
theorem dX0_enter_22 : decode cX0_enter 22 = .ok (.putfield 28, 3) := by decide +kernel
theorem dX0_enter_25 : decode cX0_enter 25 = .ok (.aload_n 0, 1) := by decide +kernel
theorem dX0_enter_26 : decode cX0_enter 26 = .ok (.getfield 11, 3) := by decide +kernel
theorem dX0_enter_29 : decode cX0_enter 29 = .ok (.iload_n 1, 1) := by decide +kernel
theorem dX0_enter_30 : decode cX0_enter 30 = .ok (.aload_n 2, 1) := by decide +kernel
theorem dX0_enter_31 : decode cX0_enter 31 = .ok (.aastore, 1) := by decide +kernel
theorem dX0_enter_32 : decode cX0_enter 32 = .ok (.return_, 1) := by decide +kernel
theorem dX0_paymentTo_0 : decode cX0_paymentTo 0 = .ok (.iload_n 1, 1) := by decide +kernel
theorem dX0_paymentTo_1 : decode cX0_paymentTo 1 = .ok (.ifCond .lt 21, 3) := by decide +kernel
theorem dX0_paymentTo_4 : decode cX0_paymentTo 4 = .ok (.iload_n 1, 1) := by decide +kernel
theorem dX0_paymentTo_5 : decode cX0_paymentTo 5 = .ok (.aload_n 0, 1) := by decide +kernel
theorem dX0_paymentTo_6 : decode cX0_paymentTo 6 = .ok (.getfield 11, 3) := by decide +kernel
theorem dX0_paymentTo_9 : decode cX0_paymentTo 9 = .ok (.arraylength, 1) := by decide +kernel
theorem dX0_paymentTo_10 : decode cX0_paymentTo 10 = .ok (.if_icmp .ge 12, 3) := by decide +kernel
theorem dX0_paymentTo_13 : decode cX0_paymentTo 13 = .ok (.aload_n 0, 1) := by decide +kernel
theorem dX0_paymentTo_14 : decode cX0_paymentTo 14 = .ok (.getfield 11, 3) := by decide +kernel
theorem dX0_paymentTo_17 : decode cX0_paymentTo 17 = .ok (.iload_n 1, 1) := by decide +kernel
theorem dX0_paymentTo_18 : decode cX0_paymentTo 18 = .ok (.aaload, 1) := by decide +kernel
theorem dX0_paymentTo_19 : decode cX0_paymentTo 19 = .ok (.goto 4, 3) := by decide +kernel
theorem dX0_paymentTo_22 : decode cX0_paymentTo 22 = .ok (.aconst_null, 1) := by decide +kernel
theorem dX0_paymentTo_23 : decode cX0_paymentTo 23 = .ok (.areturn, 1) := by decide +kernel
theorem dX0_heldOfAll_0 : decode cX0_heldOfAll 0 = .ok (.lconst 0, 1) := by decide +kernel
theorem dX0_heldOfAll_1 : decode cX0_heldOfAll 1 = .ok (.lstore_n 1, 1) := by decide +kernel
theorem dX0_heldOfAll_2 : decode cX0_heldOfAll 2 = .ok (.iconst 0, 1) := by decide +kernel
theorem dX0_heldOfAll_3 : decode cX0_heldOfAll 3 = .ok (.istore_n 3, 1) := by decide +kernel
theorem dX0_heldOfAll_4 : decode cX0_heldOfAll 4 = .ok (.iload_n 3, 1) := by decide +kernel
theorem dX0_heldOfAll_5 : decode cX0_heldOfAll 5 = .ok (.aload_n 0, 1) := by decide +kernel
theorem dX0_heldOfAll_6 : decode cX0_heldOfAll 6 = .ok (.getfield 11, 3) := by decide +kernel
theorem dX0_heldOfAll_9 : decode cX0_heldOfAll 9 = .ok (.arraylength, 1) := by decide +kernel
theorem dX0_heldOfAll_10 : decode cX0_heldOfAll 10 = .ok (.if_icmp .ge 31, 3) := by decide +kernel
theorem dX0_heldOfAll_13 : decode cX0_heldOfAll 13 = .ok (.aload_n 0, 1) := by decide +kernel
theorem dX0_heldOfAll_14 : decode cX0_heldOfAll 14 = .ok (.getfield 11, 3) := by decide +kernel
theorem dX0_heldOfAll_17 : decode cX0_heldOfAll 17 = .ok (.iload_n 3, 1) := by decide +kernel
theorem dX0_heldOfAll_18 : decode cX0_heldOfAll 18 = .ok (.aaload, 1) := by decide +kernel
theorem dX0_heldOfAll_19 : decode cX0_heldOfAll 19 = .ok (.astore 4, 2) := by decide +kernel
theorem dX0_heldOfAll_21 : decode cX0_heldOfAll 21 = .ok (.aload 4, 2) := by decide +kernel
theorem dX0_heldOfAll_23 : decode cX0_heldOfAll 23 = .ok (.ifnull 12, 3) := by decide +kernel
theorem dX0_heldOfAll_26 : decode cX0_heldOfAll 26 = .ok (.lload_n 1, 1) := by decide +kernel
theorem dX0_heldOfAll_27 : decode cX0_heldOfAll 27 = .ok (.aload 4, 2) := by decide +kernel
theorem dX0_heldOfAll_29 : decode cX0_heldOfAll 29 = .ok (.getfield 28, 3) := by decide +kernel
theorem dX0_heldOfAll_32 : decode cX0_heldOfAll 32 = .ok (.i2l, 1) := by decide +kernel
theorem dX0_heldOfAll_33 : decode cX0_heldOfAll 33 = .ok (.ladd, 1) := by decide +kernel
theorem dX0_heldOfAll_34 : decode cX0_heldOfAll 34 = .ok (.lstore_n 1, 1) := by decide +kernel
theorem dX0_heldOfAll_35 : decode cX0_heldOfAll 35 = .ok (.iinc 3 1, 3) := by decide +kernel
theorem dX0_heldOfAll_38 : decode cX0_heldOfAll 38 = .ok (.goto (-34), 3) := by decide +kernel
theorem dX0_heldOfAll_41 : decode cX0_heldOfAll 41 = .ok (.lload_n 1, 1) := by decide +kernel
theorem dX0_heldOfAll_42 : decode cX0_heldOfAll 42 = .ok (.lreturn, 1) := by decide +kernel
theorem dX1_init_0 : decode cX1_init 0 = .ok (.aload_n 0, 1) := by decide +kernel
theorem dX1_init_1 : decode cX1_init 1 = .ok (.invokespecial 3, 3) := by decide +kernel
theorem dX1_init_4 : decode cX1_init 4 = .ok (.aload_n 0, 1) := by decide +kernel
theorem dX1_init_5 : decode cX1_init 5 = .ok (.bipush 20, 2) := by decide +kernel
theorem dX1_init_7 : decode cX1_init 7 = .ok (.newarray .int, 2) := by decide +kernel
theorem dX1_init_9 : decode cX1_init 9 = .ok (.putfield 9, 3) := by decide +kernel
theorem dX1_init_12 : decode cX1_init 12 = .ok (.aload_n 0, 1) := by decide +kernel
theorem dX1_init_13 : decode cX1_init 13 = .ok (.iconst 0, 1) := by decide +kernel
theorem dX1_init_14 : decode cX1_init 14 = .ok (.putfield 15, 3) := by decide +kernel
theorem dX1_init_17 : decode cX1_init 17 = .ok (.aload_n 0, 1) := by decide +kernel
theorem dX1_init_18 : decode cX1_init 18 = .ok (.iconst (-1), 1) := by decide +kernel
theorem dX1_init_19 : decode cX1_init 19 = .ok (.putfield 19, 3) := by decide +kernel
theorem dX1_init_22 : decode cX1_init 22 = .ok (.aload_n 0, 1) := by decide +kernel
theorem dX1_init_23 : decode cX1_init 23 = .ok (.iconst (-1), 1) := by decide +kernel
theorem dX1_init_24 : decode cX1_init 24 = .ok (.putfield 22, 3) := by decide +kernel
theorem dX1_init_27 : decode cX1_init 27 = .ok (.aload_n 0, 1) := by decide +kernel
theorem dX1_init_28 : decode cX1_init 28 = .ok (.iload_n 1, 1) := by decide +kernel
theorem dX1_init_29 : decode cX1_init 29 = .ok (.putfield 25, 3) := by decide +kernel
theorem dX1_init_32 : decode cX1_init 32 = .ok (.aload_n 0, 1) := by decide +kernel
theorem dX1_init_33 : decode cX1_init 33 = .ok (.iload_n 2, 1) := by decide +kernel
theorem dX1_init_34 : decode cX1_init 34 = .ok (.putfield 28, 3) := by decide +kernel
theorem dX1_init_37 : decode cX1_init 37 = .ok (.return_, 1) := by decide +kernel
theorem dX1_partsOf_0 : decode cX1_partsOf 0 = .ok (.iload_n 1, 1) := by decide +kernel
theorem dX1_partsOf_1 : decode cX1_partsOf 1 = .ok (.ifCond .lt 21, 3) := by decide +kernel
theorem dX1_partsOf_4 : decode cX1_partsOf 4 = .ok (.iload_n 1, 1) := by decide +kernel
theorem dX1_partsOf_5 : decode cX1_partsOf 5 = .ok (.aload_n 0, 1) := by decide +kernel
theorem dX1_partsOf_6 : decode cX1_partsOf 6 = .ok (.getfield 9, 3) := by decide +kernel
theorem dX1_partsOf_9 : decode cX1_partsOf 9 = .ok (.arraylength, 1) := by decide +kernel
theorem dX1_partsOf_10 : decode cX1_partsOf 10 = .ok (.if_icmp .ge 12, 3) := by decide +kernel
theorem dX1_partsOf_13 : decode cX1_partsOf 13 = .ok (.aload_n 0, 1) := by decide +kernel
theorem dX1_partsOf_14 : decode cX1_partsOf 14 = .ok (.getfield 9, 3) := by decide +kernel
theorem dX1_partsOf_17 : decode cX1_partsOf 17 = .ok (.iload_n 1, 1) := by decide +kernel
theorem dX1_partsOf_18 : decode cX1_partsOf 18 = .ok (.iaload, 1) := by decide +kernel
theorem dX1_partsOf_19 : decode cX1_partsOf 19 = .ok (.goto 4, 3) := by decide +kernel
theorem dX1_partsOf_22 : decode cX1_partsOf 22 = .ok (.iconst 0, 1) := by decide +kernel
theorem dX1_partsOf_23 : decode cX1_partsOf 23 = .ok (.ireturn, 1) := by decide +kernel
theorem dX1_changeParts_0 : decode cX1_changeParts 0 = .ok (.iload_n 1, 1) := by decide +kernel
theorem dX1_changeParts_1 : decode cX1_changeParts 1 = .ok (.ifCond .lt 19, 3) := by decide +kernel
theorem dX1_changeParts_4 : decode cX1_changeParts 4 = .ok (.iload_n 1, 1) := by decide +kernel
theorem dX1_changeParts_5 : decode cX1_changeParts 5 = .ok (.aload_n 0, 1) := by decide +kernel
theorem dX1_changeParts_6 : decode cX1_changeParts 6 = .ok (.getfield 9, 3) := by decide +kernel
theorem dX1_changeParts_9 : decode cX1_changeParts 9 = .ok (.arraylength, 1) := by decide +kernel
theorem dX1_changeParts_10 : decode cX1_changeParts 10 = .ok (.if_icmp .ge 10, 3) := by decide +kernel
theorem dX1_changeParts_13 : decode cX1_changeParts 13 = .ok (.aload_n 0, 1) := by decide +kernel
theorem dX1_changeParts_14 : decode cX1_changeParts 14 = .ok (.getfield 9, 3) := by decide +kernel
theorem dX1_changeParts_17 : decode cX1_changeParts 17 = .ok (.iload_n 1, 1) := by decide +kernel
theorem dX1_changeParts_18 : decode cX1_changeParts 18 = .ok (.iload_n 2, 1) := by decide +kernel
theorem dX1_changeParts_19 : decode cX1_changeParts 19 = .ok (.iastore, 1) := by decide +kernel
theorem dX1_changeParts_20 : decode cX1_changeParts 20 = .ok (.return_, 1) := by decide +kernel
theorem dX1_partsInAll_0 : decode cX1_partsInAll 0 = .ok (.iconst 0, 1) := by decide +kernel
theorem dX1_partsInAll_1 : decode cX1_partsInAll 1 = .ok (.istore_n 1, 1) := by decide +kernel
theorem dX1_partsInAll_2 : decode cX1_partsInAll 2 = .ok (.iconst 0, 1) := by decide +kernel
theorem dX1_partsInAll_3 : decode cX1_partsInAll 3 = .ok (.istore_n 2, 1) := by decide +kernel
theorem dX1_partsInAll_4 : decode cX1_partsInAll 4 = .ok (.iload_n 2, 1) := by decide +kernel
theorem dX1_partsInAll_5 : decode cX1_partsInAll 5 = .ok (.aload_n 0, 1) := by decide +kernel
theorem dX1_partsInAll_6 : decode cX1_partsInAll 6 = .ok (.getfield 9, 3) := by decide +kernel
theorem dX1_partsInAll_9 : decode cX1_partsInAll 9 = .ok (.arraylength, 1) := by decide +kernel
theorem dX1_partsInAll_10 : decode cX1_partsInAll 10 = .ok (.if_icmp .ge 18, 3) := by decide +kernel
theorem dX1_partsInAll_13 : decode cX1_partsInAll 13 = .ok (.iload_n 1, 1) := by decide +kernel
theorem dX1_partsInAll_14 : decode cX1_partsInAll 14 = .ok (.aload_n 0, 1) := by decide +kernel
theorem dX1_partsInAll_15 : decode cX1_partsInAll 15 = .ok (.getfield 9, 3) := by decide +kernel
theorem dX1_partsInAll_18 : decode cX1_partsInAll 18 = .ok (.iload_n 2, 1) := by decide +kernel
theorem dX1_partsInAll_19 : decode cX1_partsInAll 19 = .ok (.iaload, 1) := by decide +kernel
theorem dX1_partsInAll_20 : decode cX1_partsInAll 20 = .ok (.iadd, 1) := by decide +kernel
theorem dX1_partsInAll_21 : decode cX1_partsInAll 21 = .ok (.istore_n 1, 1) := by decide +kernel
theorem dX1_partsInAll_22 : decode cX1_partsInAll 22 = .ok (.iinc 2 1, 3) := by decide +kernel
theorem dX1_partsInAll_25 : decode cX1_partsInAll 25 = .ok (.goto (-21), 3) := by decide +kernel
theorem dX1_partsInAll_28 : decode cX1_partsInAll 28 = .ok (.iload_n 1, 1) := by decide +kernel
theorem dX1_partsInAll_29 : decode cX1_partsInAll 29 = .ok (.ireturn, 1) := by decide +kernel
theorem dX1_hasFormOn_0 : decode cX1_hasFormOn 0 = .ok (.iload_n 1, 1) := by decide +kernel
theorem dX1_hasFormOn_1 : decode cX1_hasFormOn 1 = .ok (.aload_n 0, 1) := by decide +kernel
theorem dX1_hasFormOn_2 : decode cX1_hasFormOn 2 = .ok (.getfield 19, 3) := by decide +kernel
theorem dX1_hasFormOn_5 : decode cX1_hasFormOn 5 = .ok (.if_icmp .gt 7, 3) := by decide +kernel
theorem dX1_hasFormOn_8 : decode cX1_hasFormOn 8 = .ok (.iconst 1, 1) := by decide +kernel
theorem dX1_hasFormOn_9 : decode cX1_hasFormOn 9 = .ok (.goto 4, 3) := by decide +kernel
theorem dX1_hasFormOn_12 : decode cX1_hasFormOn 12 = .ok (.iconst 0, 1) := by decide +kernel
theorem dX1_hasFormOn_13 : decode cX1_hasFormOn 13 = .ok (.ireturn, 1) := by decide +kernel
theorem dX1_endDay_0 : decode cX1_endDay 0 = .ok (.aload_n 0, 1) := by decide +kernel
theorem dX1_endDay_1 : decode cX1_endDay 1 = .ok (.getfield 15, 3) := by decide +kernel
theorem dX1_endDay_4 : decode cX1_endDay 4 = .ok (.ldc 31, 2) := by decide +kernel
theorem dX1_endDay_6 : decode cX1_endDay 6 = .ok (.if_icmp .ge 11, 3) := by decide +kernel
theorem dX1_endDay_9 : decode cX1_endDay 9 = .ok (.aload_n 0, 1) := by decide +kernel
theorem dX1_endDay_10 : decode cX1_endDay 10 = .ok (.iconst (-1), 1) := by decide +kernel
theorem dX1_endDay_11 : decode cX1_endDay 11 = .ok (.putfield 22, 3) := by decide +kernel
theorem dX1_endDay_14 : decode cX1_endDay 14 = .ok (.goto 16, 3) := by decide +kernel
theorem dX1_endDay_17 : decode cX1_endDay 17 = .ok (.aload_n 0, 1) := by decide +kernel
theorem dX1_endDay_18 : decode cX1_endDay 18 = .ok (.getfield 22, 3) := by decide +kernel
theorem dX1_endDay_21 : decode cX1_endDay 21 = .ok (.iconst (-1), 1) := by decide +kernel
theorem dX1_endDay_22 : decode cX1_endDay 22 = .ok (.if_icmp .ne 8, 3) := by decide +kernel
theorem dX1_endDay_25 : decode cX1_endDay 25 = .ok (.aload_n 0, 1) := by decide +kernel
theorem dX1_endDay_26 : decode cX1_endDay 26 = .ok (.iload_n 1, 1) := by decide +kernel
theorem dX1_endDay_27 : decode cX1_endDay 27 = .ok (.putfield 22, 3) := by decide +kernel
theorem dX1_endDay_30 : decode cX1_endDay 30 = .ok (.return_, 1) := by decide +kernel
theorem dX1_hasLargeHoldingOn_0 : decode cX1_hasLargeHoldingOn 0 = .ok (.aload_n 0, 1) := by decide +kernel
theorem dX1_hasLargeHoldingOn_1 : decode cX1_hasLargeHoldingOn 1 = .ok (.getfield 25, 3) := by decide +kernel
theorem dX1_hasLargeHoldingOn_4 : decode cX1_hasLargeHoldingOn 4 = .ok (.iconst 1, 1) := by decide +kernel
theorem dX1_hasLargeHoldingOn_5 : decode cX1_hasLargeHoldingOn 5 = .ok (.if_icmp .ne 36, 3) := by decide +kernel
theorem dX1_hasLargeHoldingOn_8 : decode cX1_hasLargeHoldingOn 8 = .ok (.aload_n 0, 1) := by decide +kernel
theorem dX1_hasLargeHoldingOn_9 : decode cX1_hasLargeHoldingOn 9 = .ok (.getfield 15, 3) := by decide +kernel
theorem dX1_hasLargeHoldingOn_12 : decode cX1_hasLargeHoldingOn 12 = .ok (.ldc 31, 2) := by decide +kernel
theorem dX1_hasLargeHoldingOn_14 : decode cX1_hasLargeHoldingOn 14 = .ok (.if_icmp .lt 27, 3) := by decide +kernel
theorem dX1_hasLargeHoldingOn_17 : decode cX1_hasLargeHoldingOn 17 = .ok (.aload_n 0, 1) := by decide +kernel
theorem dX1_hasLargeHoldingOn_18 : decode cX1_hasLargeHoldingOn 18 = .ok (.getfield 22, 3) := by decide +kernel
theorem dX1_hasLargeHoldingOn_21 : decode cX1_hasLargeHoldingOn 21 = .ok (.iconst (-1), 1) := by decide +kernel
theorem dX1_hasLargeHoldingOn_22 : decode cX1_hasLargeHoldingOn 22 = .ok (.if_icmp .eq 19, 3) := by decide +kernel
theorem dX1_hasLargeHoldingOn_25 : decode cX1_hasLargeHoldingOn 25 = .ok (.iload_n 1, 1) := by decide +kernel
theorem dX1_hasLargeHoldingOn_26 : decode cX1_hasLargeHoldingOn 26 = .ok (.aload_n 0, 1) := by decide +kernel
theorem dX1_hasLargeHoldingOn_27 : decode cX1_hasLargeHoldingOn 27 = .ok (.getfield 22, 3) := by decide +kernel
theorem dX1_hasLargeHoldingOn_30 : decode cX1_hasLargeHoldingOn 30 = .ok (.isub, 1) := by decide +kernel
theorem dX1_hasLargeHoldingOn_31 : decode cX1_hasLargeHoldingOn 31 = .ok (.sipush 365, 3) := by decide +kernel
theorem dX1_hasLargeHoldingOn_34 : decode cX1_hasLargeHoldingOn 34 = .ok (.if_icmp .lt 7, 3) := by decide +kernel
theorem dX1_hasLargeHoldingOn_37 : decode cX1_hasLargeHoldingOn 37 = .ok (.iconst 1, 1) := by decide +kernel
theorem dX1_hasLargeHoldingOn_38 : decode cX1_hasLargeHoldingOn 38 = .ok (.goto 4, 3) := by decide +kernel
theorem dX1_hasLargeHoldingOn_41 : decode cX1_hasLargeHoldingOn 41 = .ok (.iconst 0, 1) := by decide +kernel
theorem dX1_hasLargeHoldingOn_42 : decode cX1_hasLargeHoldingOn 42 = .ok (.ireturn, 1) := by decide +kernel
set_option maxRecDepth 20000 in
theorem ggX2_init_Jx4a65c_init_da8c8 : GoodIn wsX2_init wsJx4a65c_init_da8c8 := goodIn_r _ [12, 13, 14, 15, 16, 17, 18, 19, 20, 21, 22, 23, 24, 2, 3, 25, 26, 27] (by decide +kernel) (by decide +kernel)
set_option maxRecDepth 20000 in
theorem gX2_init_Jx4a65c_init_da8c8 : GoodIn wsX2_init (wsJx4a65c_init_da8c8) := ggX2_init_Jx4a65c_init_da8c8
theorem dX2_init_0 : decode cX2_init 0 = .ok (.aload_n 0, 1) := by decide +kernel
theorem dX2_init_1 : decode cX2_init 1 = .ok (.invokespecial 1, 3) := by decide +kernel
theorem dX2_init_4 : decode cX2_init 4 = .ok (.aload_n 0, 1) := by decide +kernel
theorem dX2_init_5 : decode cX2_init 5 = .ok (.new 7, 3) := by decide +kernel
theorem dX2_init_8 : decode cX2_init 8 = .ok (.dup, 1) := by decide +kernel
theorem dX2_init_9 : decode cX2_init 9 = .ok (.invokespecial 9, 3) := by decide +kernel
theorem dX2_init_12 : decode cX2_init 12 = .ok (.putfield 10, 3) := by decide +kernel
theorem dX2_init_15 : decode cX2_init 15 = .ok (.aload_n 0, 1) := by decide +kernel
theorem dX2_init_16 : decode cX2_init 16 = .ok (.iconst 0, 1) := by decide +kernel
theorem dX2_init_17 : decode cX2_init 17 = .ok (.putfield 16, 3) := by decide +kernel
theorem dX2_init_20 : decode cX2_init 20 = .ok (.aload_n 0, 1) := by decide +kernel
theorem dX2_init_21 : decode cX2_init 21 = .ok (.iload_n 1, 1) := by decide +kernel
theorem dX2_init_22 : decode cX2_init 22 = .ok (.putfield 20, 3) := by decide +kernel
theorem dX2_init_25 : decode cX2_init 25 = .ok (.return_, 1) := by decide +kernel
set_option maxRecDepth 20000 in
theorem ggX2_add_Jx4a65c_add_9ea2d : GoodIn wsX2_add wsJx4a65c_add_9ea2d := goodIn_r _ [6, 7, 8, 9, 10, 11, 12, 13, 5, 14, 15, 16, 17, 18, 19, 20, 21, 22, 23, 24, 25, 26, 27, 28, 29, 30, 31, 32, 33, 34, 35, 36, 37, 38, 39, 40, 41, 42, 43, 44, 45, 46, 47, 48, 49, 50, 51, 52, 53, 54, 55, 56, 57, 61, 62, 63] (by decide +kernel) (by decide +kernel)
set_option maxRecDepth 20000 in
theorem gX2_add_Jx4a65c_add_9ea2d : GoodIn wsX2_add (wsV RX2 23 RJx4a65c yJx4a65c_add_9ea2d wsJx4a65c_add_9ea2d) := goodIn_app (goodIn_of _ (by decide +kernel)) ggX2_add_Jx4a65c_add_9ea2d
theorem dX2_add_0 : decode cX2_add 0 = .ok (.aload_n 0, 1) := by decide +kernel
theorem dX2_add_1 : decode cX2_add 1 = .ok (.getfield 10, 3) := by decide +kernel
theorem dX2_add_4 : decode cX2_add 4 = .ok (.aload_n 1, 1) := by decide +kernel
theorem dX2_add_5 : decode cX2_add 5 = .ok (.invokevirtual 23, 3) := by decide +kernel
theorem dX2_add_8 : decode cX2_add 8 = .ok (.pop, 1) := by decide +kernel
theorem dX2_add_9 : decode cX2_add 9 = .ok (.return_, 1) := by decide +kernel
set_option maxRecDepth 20000 in
theorem ggX2_taxWith_Jx4a65c_size_8abf5 : GoodIn wsX2_taxWith wsJx4a65c_size_8abf5 := goodIn_r _ [7, 8, 37, 38, 39] (by decide +kernel) (by decide +kernel)
set_option maxRecDepth 20000 in
theorem gX2_taxWith_Jx4a65c_size_8abf5 : GoodIn wsX2_taxWith (wsV RX2 27 RJx4a65c yJx4a65c_size_8abf5 wsJx4a65c_size_8abf5) := goodIn_app (goodIn_of _ (by decide +kernel)) ggX2_taxWith_Jx4a65c_size_8abf5
set_option maxRecDepth 20000 in
theorem ggX2_taxWith_Jx4a65c_get_915e3 : GoodIn wsX2_taxWith wsJx4a65c_get_915e3 := goodIn_r _ [12, 8, 13, 14, 15, 16, 17, 18, 19, 20, 21, 22, 23, 6, 24, 25, 37, 38, 39] (by decide +kernel) (by decide +kernel)
set_option maxRecDepth 20000 in
theorem gX2_taxWith_Jx4a65c_get_915e3 : GoodIn wsX2_taxWith (wsV RX2 31 RJx4a65c yJx4a65c_get_915e3 wsJx4a65c_get_915e3) := goodIn_app (goodIn_of _ (by decide +kernel)) ggX2_taxWith_Jx4a65c_get_915e3
set_option maxRecDepth 20000 in
theorem ggX2_taxWith_X3_tax : GoodIn wsX2_taxWith wsX3_tax := goodIn_r _ [29, 30, 31, 32, 33, 40, 41, 42] (by decide +kernel) (by decide +kernel)
set_option maxRecDepth 20000 in
theorem gX2_taxWith_X3_tax_n37 : GoodIn wsX2_taxWith (wsX3_tax) := ggX2_taxWith_X3_tax
theorem dX2_taxWith_0 : decode cX2_taxWith 0 = .ok (.iconst 0, 1) := by decide +kernel
theorem dX2_taxWith_1 : decode cX2_taxWith 1 = .ok (.istore_n 2, 1) := by decide +kernel
theorem dX2_taxWith_2 : decode cX2_taxWith 2 = .ok (.iconst 0, 1) := by decide +kernel
theorem dX2_taxWith_3 : decode cX2_taxWith 3 = .ok (.istore_n 3, 1) := by decide +kernel
theorem dX2_taxWith_4 : decode cX2_taxWith 4 = .ok (.iload_n 3, 1) := by decide +kernel
theorem dX2_taxWith_5 : decode cX2_taxWith 5 = .ok (.aload_n 0, 1) := by decide +kernel
theorem dX2_taxWith_6 : decode cX2_taxWith 6 = .ok (.getfield 10, 3) := by decide +kernel
theorem dX2_taxWith_9 : decode cX2_taxWith 9 = .ok (.invokevirtual 27, 3) := by decide +kernel
theorem dX2_taxWith_12 : decode cX2_taxWith 12 = .ok (.if_icmp .ge 27, 3) := by decide +kernel
theorem dX2_taxWith_15 : decode cX2_taxWith 15 = .ok (.iload_n 2, 1) := by decide +kernel
theorem dX2_taxWith_16 : decode cX2_taxWith 16 = .ok (.aload_n 0, 1) := by decide +kernel
theorem dX2_taxWith_17 : decode cX2_taxWith 17 = .ok (.getfield 10, 3) := by decide +kernel
theorem dX2_taxWith_20 : decode cX2_taxWith 20 = .ok (.iload_n 3, 1) := by decide +kernel
theorem dX2_taxWith_21 : decode cX2_taxWith 21 = .ok (.invokevirtual 31, 3) := by decide +kernel
theorem dX2_taxWith_24 : decode cX2_taxWith 24 = .ok (.checkcast 35, 3) := by decide +kernel
theorem dX2_taxWith_27 : decode cX2_taxWith 27 = .ok (.iload_n 1, 1) := by decide +kernel
theorem dX2_taxWith_28 : decode cX2_taxWith 28 = .ok (.invokevirtual 37, 3) := by decide +kernel
theorem dX2_taxWith_31 : decode cX2_taxWith 31 = .ok (.iadd, 1) := by decide +kernel
theorem dX2_taxWith_32 : decode cX2_taxWith 32 = .ok (.istore_n 2, 1) := by decide +kernel
theorem dX2_taxWith_33 : decode cX2_taxWith 33 = .ok (.iinc 3 1, 3) := by decide +kernel
theorem dX2_taxWith_36 : decode cX2_taxWith 36 = .ok (.goto (-32), 3) := by decide +kernel
theorem dX2_taxWith_39 : decode cX2_taxWith 39 = .ok (.iload_n 2, 1) := by decide +kernel
theorem dX2_taxWith_40 : decode cX2_taxWith 40 = .ok (.ireturn, 1) := by decide +kernel
theorem dX2_lowerTo_0 : decode cX2_lowerTo 0 = .ok (.aload_n 0, 1) := by decide +kernel
theorem dX2_lowerTo_1 : decode cX2_lowerTo 1 = .ok (.getfield 16, 3) := by decide +kernel
theorem dX2_lowerTo_4 : decode cX2_lowerTo 4 = .ok (.iload_n 1, 1) := by decide +kernel
theorem dX2_lowerTo_5 : decode cX2_lowerTo 5 = .ok (.isub, 1) := by decide +kernel
theorem dX2_lowerTo_6 : decode cX2_lowerTo 6 = .ok (.iconst 0, 1) := by decide +kernel
theorem dX2_lowerTo_7 : decode cX2_lowerTo 7 = .ok (.invokestatic 41, 3) := by decide +kernel
theorem dX2_lowerTo_10 : decode cX2_lowerTo 10 = .ok (.istore_n 2, 1) := by decide +kernel
theorem dX2_lowerTo_11 : decode cX2_lowerTo 11 = .ok (.aload_n 0, 1) := by decide +kernel
theorem dX2_lowerTo_12 : decode cX2_lowerTo 12 = .ok (.dup, 1) := by decide +kernel
theorem dX2_lowerTo_13 : decode cX2_lowerTo 13 = .ok (.getfield 16, 3) := by decide +kernel
theorem dX2_lowerTo_16 : decode cX2_lowerTo 16 = .ok (.iload_n 2, 1) := by decide +kernel
theorem dX2_lowerTo_17 : decode cX2_lowerTo 17 = .ok (.isub, 1) := by decide +kernel
theorem dX2_lowerTo_18 : decode cX2_lowerTo 18 = .ok (.putfield 16, 3) := by decide +kernel
theorem dX2_lowerTo_21 : decode cX2_lowerTo 21 = .ok (.iload_n 2, 1) := by decide +kernel
theorem dX2_lowerTo_22 : decode cX2_lowerTo 22 = .ok (.ireturn, 1) := by decide +kernel
theorem dX3_init_0 : decode cX3_init 0 = .ok (.aload_n 0, 1) := by decide +kernel
theorem dX3_init_1 : decode cX3_init 1 = .ok (.invokespecial 3, 3) := by decide +kernel
theorem dX3_init_4 : decode cX3_init 4 = .ok (.aload_n 0, 1) := by decide +kernel
theorem dX3_init_5 : decode cX3_init 5 = .ok (.iload_n 1, 1) := by decide +kernel
theorem dX3_init_6 : decode cX3_init 6 = .ok (.putfield 9, 3) := by decide +kernel
theorem dX3_init_9 : decode cX3_init 9 = .ok (.aload_n 0, 1) := by decide +kernel
theorem dX3_init_10 : decode cX3_init 10 = .ok (.iload_n 2, 1) := by decide +kernel
theorem dX3_init_11 : decode cX3_init 11 = .ok (.putfield 15, 3) := by decide +kernel
theorem dX3_init_14 : decode cX3_init 14 = .ok (.aload_n 0, 1) := by decide +kernel
theorem dX3_init_15 : decode cX3_init 15 = .ok (.iload_n 3, 1) := by decide +kernel
theorem dX3_init_16 : decode cX3_init 16 = .ok (.putfield 18, 3) := by decide +kernel
theorem dX3_init_19 : decode cX3_init 19 = .ok (.return_, 1) := by decide +kernel
theorem dX3_tax_0 : decode cX3_tax 0 = .ok (.aload_n 0, 1) := by decide +kernel
theorem dX3_tax_1 : decode cX3_tax 1 = .ok (.getfield 18, 3) := by decide +kernel
theorem dX3_tax_4 : decode cX3_tax 4 = .ok (.iload_n 1, 1) := by decide +kernel
theorem dX3_tax_5 : decode cX3_tax 5 = .ok (.iand, 1) := by decide +kernel
theorem dX3_tax_6 : decode cX3_tax 6 = .ok (.aload_n 0, 1) := by decide +kernel
theorem dX3_tax_7 : decode cX3_tax 7 = .ok (.getfield 18, 3) := by decide +kernel
theorem dX3_tax_10 : decode cX3_tax 10 = .ok (.if_icmp .ne 10, 3) := by decide +kernel
theorem dX3_tax_13 : decode cX3_tax 13 = .ok (.aload_n 0, 1) := by decide +kernel
theorem dX3_tax_14 : decode cX3_tax 14 = .ok (.getfield 15, 3) := by decide +kernel
theorem dX3_tax_17 : decode cX3_tax 17 = .ok (.goto 5, 3) := by decide +kernel
theorem dX3_tax_20 : decode cX3_tax 20 = .ok (.bipush 30, 2) := by decide +kernel
theorem dX3_tax_22 : decode cX3_tax 22 = .ok (.istore_n 2, 1) := by decide +kernel
theorem dX3_tax_23 : decode cX3_tax 23 = .ok (.aload_n 0, 1) := by decide +kernel
theorem dX3_tax_24 : decode cX3_tax 24 = .ok (.getfield 9, 3) := by decide +kernel
theorem dX3_tax_27 : decode cX3_tax 27 = .ok (.i2l, 1) := by decide +kernel
theorem dX3_tax_28 : decode cX3_tax 28 = .ok (.iload_n 2, 1) := by decide +kernel
theorem dX3_tax_29 : decode cX3_tax 29 = .ok (.i2l, 1) := by decide +kernel
theorem dX3_tax_30 : decode cX3_tax 30 = .ok (.lmul, 1) := by decide +kernel
theorem dX3_tax_31 : decode cX3_tax 31 = .ok (.ldc2_w 21, 3) := by decide +kernel
theorem dX3_tax_34 : decode cX3_tax 34 = .ok (.ldiv, 1) := by decide +kernel
theorem dX3_tax_35 : decode cX3_tax 35 = .ok (.l2i, 1) := by decide +kernel
theorem dX3_tax_36 : decode cX3_tax 36 = .ok (.ireturn, 1) := by decide +kernel
set_option maxRecDepth 20000 in
theorem ggX4_init_Jx4a65c_init_da8c8 : GoodIn wsX4_init wsJx4a65c_init_da8c8 := goodIn_r _ [16, 17, 18, 19, 20, 21, 22, 23, 24, 25, 26, 27, 28, 2, 3, 35, 36, 37] (by decide +kernel) (by decide +kernel)
set_option maxRecDepth 20000 in
theorem gX4_init_Jx4a65c_init_da8c8 : GoodIn wsX4_init (wsJx4a65c_init_da8c8) := ggX4_init_Jx4a65c_init_da8c8
theorem dX4_init_0 : decode cX4_init 0 = .ok (.aload_n 0, 1) := by decide +kernel
theorem dX4_init_1 : decode cX4_init 1 = .ok (.invokespecial 1, 3) := by decide +kernel
theorem dX4_init_4 : decode cX4_init 4 = .ok (.aload_n 0, 1) := by decide +kernel
theorem dX4_init_5 : decode cX4_init 5 = .ok (.bipush 6, 2) := by decide +kernel
theorem dX4_init_7 : decode cX4_init 7 = .ok (.newarray .int, 2) := by decide +kernel
theorem dX4_init_9 : decode cX4_init 9 = .ok (.putfield 9, 3) := by decide +kernel
theorem dX4_init_12 : decode cX4_init 12 = .ok (.aload_n 0, 1) := by decide +kernel
theorem dX4_init_13 : decode cX4_init 13 = .ok (.bipush 6, 2) := by decide +kernel
theorem dX4_init_15 : decode cX4_init 15 = .ok (.newarray .int, 2) := by decide +kernel
theorem dX4_init_17 : decode cX4_init 17 = .ok (.putfield 13, 3) := by decide +kernel
theorem dX4_init_20 : decode cX4_init 20 = .ok (.aload_n 0, 1) := by decide +kernel
theorem dX4_init_21 : decode cX4_init 21 = .ok (.new 16, 3) := by decide +kernel
theorem dX4_init_24 : decode cX4_init 24 = .ok (.dup, 1) := by decide +kernel
theorem dX4_init_25 : decode cX4_init 25 = .ok (.invokespecial 18, 3) := by decide +kernel
theorem dX4_init_28 : decode cX4_init 28 = .ok (.putfield 19, 3) := by decide +kernel
theorem dX4_init_31 : decode cX4_init 31 = .ok (.aload_n 0, 1) := by decide +kernel
theorem dX4_init_32 : decode cX4_init 32 = .ok (.new 16, 3) := by decide +kernel
theorem dX4_init_35 : decode cX4_init 35 = .ok (.dup, 1) := by decide +kernel
theorem dX4_init_36 : decode cX4_init 36 = .ok (.invokespecial 18, 3) := by decide +kernel
theorem dX4_init_39 : decode cX4_init 39 = .ok (.putfield 23, 3) := by decide +kernel
theorem dX4_init_42 : decode cX4_init 42 = .ok (.aload_n 0, 1) := by decide +kernel
theorem dX4_init_43 : decode cX4_init 43 = .ok (.iconst 0, 1) := by decide +kernel
theorem dX4_init_44 : decode cX4_init 44 = .ok (.putfield 26, 3) := by decide +kernel
theorem dX4_init_47 : decode cX4_init 47 = .ok (.aload_n 0, 1) := by decide +kernel
theorem dX4_init_48 : decode cX4_init 48 = .ok (.lconst 0, 1) := by decide +kernel
theorem dX4_init_49 : decode cX4_init 49 = .ok (.putfield 30, 3) := by decide +kernel
theorem dX4_init_52 : decode cX4_init 52 = .ok (.iconst 0, 1) := by decide +kernel
theorem dX4_init_53 : decode cX4_init 53 = .ok (.istore_n 1, 1) := by decide +kernel
theorem dX4_init_54 : decode cX4_init 54 = .ok (.iload_n 1, 1) := by decide +kernel
theorem dX4_init_55 : decode cX4_init 55 = .ok (.bipush 6, 2) := by decide +kernel
theorem dX4_init_57 : decode cX4_init 57 = .ok (.if_icmp .ge 25, 3) := by decide +kernel
theorem dX4_init_60 : decode cX4_init 60 = .ok (.aload_n 0, 1) := by decide +kernel
theorem dX4_init_61 : decode cX4_init 61 = .ok (.getfield 9, 3) := by decide +kernel
theorem dX4_init_64 : decode cX4_init 64 = .ok (.iload_n 1, 1) := by decide +kernel
theorem dX4_init_65 : decode cX4_init 65 = .ok (.bipush 30, 2) := by decide +kernel
theorem dX4_init_67 : decode cX4_init 67 = .ok (.iastore, 1) := by decide +kernel
theorem dX4_init_68 : decode cX4_init 68 = .ok (.aload_n 0, 1) := by decide +kernel
theorem dX4_init_69 : decode cX4_init 69 = .ok (.getfield 13, 3) := by decide +kernel
theorem dX4_init_72 : decode cX4_init 72 = .ok (.iload_n 1, 1) := by decide +kernel
theorem dX4_init_73 : decode cX4_init 73 = .ok (.bipush 30, 2) := by decide +kernel
theorem dX4_init_75 : decode cX4_init 75 = .ok (.iastore, 1) := by decide +kernel
theorem dX4_init_76 : decode cX4_init 76 = .ok (.iinc 1 1, 3) := by decide +kernel
theorem dX4_init_79 : decode cX4_init 79 = .ok (.goto (-25), 3) := by decide +kernel
theorem dX4_init_82 : decode cX4_init 82 = .ok (.return_, 1) := by decide +kernel
set_option maxRecDepth 20000 in
theorem ggX4_setTreaty_X4_isLand : GoodIn wsX4_setTreaty wsX4_isLand := goodIn_r _ [8, 9, 10, 7, 11] (by decide +kernel) (by decide +kernel)
set_option maxRecDepth 20000 in
theorem gX4_setTreaty_X4_isLand : GoodIn wsX4_setTreaty (va_wsS RX4 34 yX4_isLand wsX4_isLand) := goodIn_app (goodIn_of _ (by decide +kernel)) ggX4_setTreaty_X4_isLand
set_option maxRecDepth 20000 in
theorem ggX4_setTreaty_X4_isWithin : GoodIn wsX4_setTreaty wsX4_isWithin := goodIn_r _ [11] (by decide +kernel) (by decide +kernel)
set_option maxRecDepth 20000 in
theorem gX4_setTreaty_X4_isWithin : GoodIn wsX4_setTreaty (va_wsS RX4 38 yX4_isWithin wsX4_isWithin) := goodIn_app (goodIn_of _ (by decide +kernel)) ggX4_setTreaty_X4_isWithin
theorem dX4_setTreaty_0 : decode cX4_setTreaty 0 = .ok (.iload_n 1, 1) := by decide +kernel
theorem dX4_setTreaty_1 : decode cX4_setTreaty 1 = .ok (.invokestatic 34, 3) := by decide +kernel
theorem dX4_setTreaty_4 : decode cX4_setTreaty 4 = .ok (.ifCond .eq 23, 3) := by decide +kernel
theorem dX4_setTreaty_7 : decode cX4_setTreaty 7 = .ok (.iload_n 2, 1) := by decide +kernel
theorem dX4_setTreaty_8 : decode cX4_setTreaty 8 = .ok (.iconst 0, 1) := by decide +kernel
theorem dX4_setTreaty_9 : decode cX4_setTreaty 9 = .ok (.bipush 30, 2) := by decide +kernel
theorem dX4_setTreaty_11 : decode cX4_setTreaty 11 = .ok (.invokestatic 38, 3) := by decide +kernel
theorem dX4_setTreaty_14 : decode cX4_setTreaty 14 = .ok (.ifCond .eq 13, 3) := by decide +kernel
theorem dX4_setTreaty_17 : decode cX4_setTreaty 17 = .ok (.iload_n 3, 1) := by decide +kernel
theorem dX4_setTreaty_18 : decode cX4_setTreaty 18 = .ok (.iconst 0, 1) := by decide +kernel
theorem dX4_setTreaty_19 : decode cX4_setTreaty 19 = .ok (.bipush 30, 2) := by decide +kernel
theorem dX4_setTreaty_21 : decode cX4_setTreaty 21 = .ok (.invokestatic 38, 3) := by decide +kernel
theorem dX4_setTreaty_24 : decode cX4_setTreaty 24 = .ok (.ifCond .ne 13, 3) := by decide +kernel
theorem dX4_setTreaty_27 : decode cX4_setTreaty 27 = .ok (.new 42, 3) := by decide +kernel
theorem dX4_setTreaty_30 : decode cX4_setTreaty 30 = .ok (.dup, 1) := by decide +kernel
theorem dX4_setTreaty_31 : decode cX4_setTreaty 31 = .ok (.ldc 44, 2) := by decide +kernel
theorem dX4_setTreaty_33 : decode cX4_setTreaty 33 = .ok (.invokespecial 46, 3) := by decide +kernel
theorem dX4_setTreaty_36 : decode cX4_setTreaty 36 = .ok (.athrow, 1) := by decide +kernel
theorem dX4_setTreaty_37 : decode cX4_setTreaty 37 = .ok (.aload_n 0, 1) := by decide +kernel
theorem dX4_setTreaty_38 : decode cX4_setTreaty 38 = .ok (.getfield 9, 3) := by decide +kernel
theorem dX4_setTreaty_41 : decode cX4_setTreaty 41 = .ok (.iload_n 1, 1) := by decide +kernel
theorem dX4_setTreaty_42 : decode cX4_setTreaty 42 = .ok (.iaload, 1) := by decide +kernel
theorem dX4_setTreaty_43 : decode cX4_setTreaty 43 = .ok (.istore 4, 2) := by decide +kernel
theorem dX4_setTreaty_45 : decode cX4_setTreaty 45 = .ok (.aload_n 0, 1) := by decide +kernel
theorem dX4_setTreaty_46 : decode cX4_setTreaty 46 = .ok (.getfield 9, 3) := by decide +kernel
theorem dX4_setTreaty_49 : decode cX4_setTreaty 49 = .ok (.iload_n 1, 1) := by decide +kernel
theorem dX4_setTreaty_50 : decode cX4_setTreaty 50 = .ok (.iload_n 2, 1) := by decide +kernel
theorem dX4_setTreaty_51 : decode cX4_setTreaty 51 = .ok (.iastore, 1) := by decide +kernel
theorem dX4_setTreaty_52 : decode cX4_setTreaty 52 = .ok (.aload_n 0, 1) := by decide +kernel
theorem dX4_setTreaty_53 : decode cX4_setTreaty 53 = .ok (.getfield 13, 3) := by decide +kernel
theorem dX4_setTreaty_56 : decode cX4_setTreaty 56 = .ok (.iload_n 1, 1) := by decide +kernel
theorem dX4_setTreaty_57 : decode cX4_setTreaty 57 = .ok (.iload_n 3, 1) := by decide +kernel
theorem dX4_setTreaty_58 : decode cX4_setTreaty 58 = .ok (.iastore, 1) := by decide +kernel
theorem dX4_setTreaty_59 : decode cX4_setTreaty 59 = .ok (.iload 4, 2) := by decide +kernel
theorem dX4_setTreaty_61 : decode cX4_setTreaty 61 = .ok (.ireturn, 1) := by decide +kernel
set_option maxRecDepth 20000 in
theorem ggX4_addHolder_X4_isWithin : GoodIn wsX4_addHolder wsX4_isWithin := goodIn_r _ [12] (by decide +kernel) (by decide +kernel)
set_option maxRecDepth 20000 in
theorem gX4_addHolder_X4_isWithin : GoodIn wsX4_addHolder (va_wsS RX4 38 yX4_isWithin wsX4_isWithin) := goodIn_app (goodIn_of _ (by decide +kernel)) ggX4_addHolder_X4_isWithin
set_option maxRecDepth 20000 in
theorem ggX4_addHolder_X4_isLand : GoodIn wsX4_addHolder wsX4_isLand := goodIn_r _ [15, 9, 10, 11, 12] (by decide +kernel) (by decide +kernel)
set_option maxRecDepth 20000 in
theorem gX4_addHolder_X4_isLand : GoodIn wsX4_addHolder (va_wsS RX4 34 yX4_isLand wsX4_isLand) := goodIn_app (goodIn_of _ (by decide +kernel)) ggX4_addHolder_X4_isLand
set_option maxRecDepth 20000 in
theorem ggX4_addHolder_Jx4a65c_size_8abf5 : GoodIn wsX4_addHolder wsJx4a65c_size_8abf5 := goodIn_r _ [20, 21, 100, 101, 102] (by decide +kernel) (by decide +kernel)
set_option maxRecDepth 20000 in
theorem gX4_addHolder_Jx4a65c_size_8abf5 : GoodIn wsX4_addHolder (wsV RX4 53 RJx4a65c yJx4a65c_size_8abf5 wsJx4a65c_size_8abf5) := goodIn_app (goodIn_of _ (by decide +kernel)) ggX4_addHolder_Jx4a65c_size_8abf5
set_option maxRecDepth 20000 in
theorem ggX4_addHolder_X1_init : GoodIn wsX4_addHolder wsX1_init := goodIn_r _ [23, 24, 25, 26, 27, 28, 29, 30, 31, 32, 33, 94, 95, 96, 97, 98, 99] (by decide +kernel) (by decide +kernel)
set_option maxRecDepth 20000 in
theorem gX4_addHolder_X1_init_n64 : GoodIn wsX4_addHolder (wsX1_init) := ggX4_addHolder_X1_init
set_option maxRecDepth 20000 in
theorem ggX4_addHolder_Jx4a65c_add_9ea2d : GoodIn wsX4_addHolder wsJx4a65c_add_9ea2d := goodIn_r _ [37, 38, 39, 40, 21, 41, 42, 43, 19, 44, 45, 46, 47, 48, 49, 50, 51, 52, 53, 54, 55, 56, 57, 58, 59, 60, 61, 62, 63, 64, 65, 66, 67, 68, 69, 70, 71, 72, 73, 74, 75, 76, 77, 78, 79, 80, 81, 82, 83, 84, 85, 86, 87, 100, 101, 102] (by decide +kernel) (by decide +kernel)
set_option maxRecDepth 20000 in
theorem gX4_addHolder_Jx4a65c_add_9ea2d : GoodIn wsX4_addHolder (wsV RX4 67 RJx4a65c yJx4a65c_add_9ea2d wsJx4a65c_add_9ea2d) := goodIn_app (goodIn_of _ (by decide +kernel)) ggX4_addHolder_Jx4a65c_add_9ea2d
theorem dX4_addHolder_0 : decode cX4_addHolder 0 = .ok (.iload_n 1, 1) := by decide +kernel
theorem dX4_addHolder_1 : decode cX4_addHolder 1 = .ok (.iconst 0, 1) := by decide +kernel
theorem dX4_addHolder_2 : decode cX4_addHolder 2 = .ok (.iconst 2, 1) := by decide +kernel
theorem dX4_addHolder_3 : decode cX4_addHolder 3 = .ok (.invokestatic 38, 3) := by decide +kernel
theorem dX4_addHolder_6 : decode cX4_addHolder 6 = .ok (.ifCond .ne 13, 3) := by decide +kernel
theorem dX4_addHolder_9 : decode cX4_addHolder 9 = .ok (.new 42, 3) := by decide +kernel
theorem dX4_addHolder_12 : decode cX4_addHolder 12 = .ok (.dup, 1) := by decide +kernel
theorem dX4_addHolder_13 : decode cX4_addHolder 13 = .ok (.ldc 49, 2) := by decide +kernel
theorem dX4_addHolder_15 : decode cX4_addHolder 15 = .ok (.invokespecial 46, 3) := by decide +kernel
theorem dX4_addHolder_18 : decode cX4_addHolder 18 = .ok (.athrow, 1) := by decide +kernel
theorem dX4_addHolder_19 : decode cX4_addHolder 19 = .ok (.iload_n 1, 1) := by decide +kernel
theorem dX4_addHolder_20 : decode cX4_addHolder 20 = .ok (.iconst 2, 1) := by decide +kernel
theorem dX4_addHolder_21 : decode cX4_addHolder 21 = .ok (.if_icmp .ne 11, 3) := by decide +kernel
theorem dX4_addHolder_24 : decode cX4_addHolder 24 = .ok (.iload_n 2, 1) := by decide +kernel
theorem dX4_addHolder_25 : decode cX4_addHolder 25 = .ok (.iconst (-1), 1) := by decide +kernel
theorem dX4_addHolder_26 : decode cX4_addHolder 26 = .ok (.if_icmp .eq 23, 3) := by decide +kernel
theorem dX4_addHolder_29 : decode cX4_addHolder 29 = .ok (.goto 10, 3) := by decide +kernel
theorem dX4_addHolder_32 : decode cX4_addHolder 32 = .ok (.iload_n 2, 1) := by decide +kernel
theorem dX4_addHolder_33 : decode cX4_addHolder 33 = .ok (.invokestatic 34, 3) := by decide +kernel
theorem dX4_addHolder_36 : decode cX4_addHolder 36 = .ok (.ifCond .ne 13, 3) := by decide +kernel
theorem dX4_addHolder_39 : decode cX4_addHolder 39 = .ok (.new 42, 3) := by decide +kernel
theorem dX4_addHolder_42 : decode cX4_addHolder 42 = .ok (.dup, 1) := by decide +kernel
theorem dX4_addHolder_43 : decode cX4_addHolder 43 = .ok (.ldc 51, 2) := by decide +kernel
theorem dX4_addHolder_45 : decode cX4_addHolder 45 = .ok (.invokespecial 46, 3) := by decide +kernel
theorem dX4_addHolder_48 : decode cX4_addHolder 48 = .ok (.athrow, 1) := by decide +kernel
theorem dX4_addHolder_49 : decode cX4_addHolder 49 = .ok (.aload_n 0, 1) := by decide +kernel
theorem dX4_addHolder_50 : decode cX4_addHolder 50 = .ok (.getfield 19, 3) := by decide +kernel
theorem dX4_addHolder_53 : decode cX4_addHolder 53 = .ok (.invokevirtual 53, 3) := by decide +kernel
theorem dX4_addHolder_56 : decode cX4_addHolder 56 = .ok (.bipush 20, 2) := by decide +kernel
theorem dX4_addHolder_58 : decode cX4_addHolder 58 = .ok (.if_icmp .lt 13, 3) := by decide +kernel
theorem dX4_addHolder_61 : decode cX4_addHolder 61 = .ok (.new 57, 3) := by decide +kernel
theorem dX4_addHolder_64 : decode cX4_addHolder 64 = .ok (.dup, 1) := by decide +kernel
theorem dX4_addHolder_65 : decode cX4_addHolder 65 = .ok (.ldc 59, 2) := by decide +kernel
theorem dX4_addHolder_67 : decode cX4_addHolder 67 = .ok (.invokespecial 61, 3) := by decide +kernel
theorem dX4_addHolder_70 : decode cX4_addHolder 70 = .ok (.athrow, 1) := by decide +kernel
theorem dX4_addHolder_71 : decode cX4_addHolder 71 = .ok (.aload_n 0, 1) := by decide +kernel
theorem dX4_addHolder_72 : decode cX4_addHolder 72 = .ok (.getfield 19, 3) := by decide +kernel
theorem dX4_addHolder_75 : decode cX4_addHolder 75 = .ok (.new 62, 3) := by decide +kernel
theorem dX4_addHolder_78 : decode cX4_addHolder 78 = .ok (.dup, 1) := by decide +kernel
theorem dX4_addHolder_79 : decode cX4_addHolder 79 = .ok (.iload_n 1, 1) := by decide +kernel
theorem dX4_addHolder_80 : decode cX4_addHolder 80 = .ok (.iload_n 2, 1) := by decide +kernel
theorem dX4_addHolder_81 : decode cX4_addHolder 81 = .ok (.invokespecial 64, 3) := by decide +kernel
theorem dX4_addHolder_84 : decode cX4_addHolder 84 = .ok (.invokevirtual 67, 3) := by decide +kernel
theorem dX4_addHolder_87 : decode cX4_addHolder 87 = .ok (.pop, 1) := by decide +kernel
theorem dX4_addHolder_88 : decode cX4_addHolder 88 = .ok (.aload_n 0, 1) := by decide +kernel
theorem dX4_addHolder_89 : decode cX4_addHolder 89 = .ok (.getfield 19, 3) := by decide +kernel
theorem dX4_addHolder_92 : decode cX4_addHolder 92 = .ok (.invokevirtual 53, 3) := by decide +kernel
theorem dX4_addHolder_95 : decode cX4_addHolder 95 = .ok (.iconst 1, 1) := by decide +kernel
theorem dX4_addHolder_96 : decode cX4_addHolder 96 = .ok (.isub, 1) := by decide +kernel
theorem dX4_addHolder_97 : decode cX4_addHolder 97 = .ok (.ireturn, 1) := by decide +kernel
set_option maxRecDepth 20000 in
theorem ggX4_setParts_X4_holderAt : GoodIn wsX4_setParts wsX4_holderAt := goodIn_ca (goodIn_r _ [7, 8, 9, 10, 11, 12, 13, 14, 6, 15, 16, 17, 18, 19, 20, 21, 22, 23, 24, 25, 26, 27, 28, 29, 30, 31, 32, 33, 34, 35, 36, 37, 38, 39, 40, 41, 56, 57, 58, 59, 60, 61, 62, 63, 64] (by decide +kernel) (by decide +kernel)) (goodIn_sub (fun _ h => List.mem_cons_of_mem _ (List.mem_append_right _ h)) (by decide +kernel))
set_option maxRecDepth 20000 in
theorem gX4_setParts_X4_holderAt : GoodIn wsX4_setParts (wsV RX4 71 RX4 yX4_holderAt wsX4_holderAt) := goodIn_app (goodIn_of _ (by decide +kernel)) ggX4_setParts_X4_holderAt
set_option maxRecDepth 20000 in
theorem ggX4_setParts_X4_isWithin : GoodIn wsX4_setParts wsX4_isWithin := goodIn_r _ [24] (by decide +kernel) (by decide +kernel)
set_option maxRecDepth 20000 in
theorem gX4_setParts_X4_isWithin : GoodIn wsX4_setParts (va_wsS RX4 38 yX4_isWithin wsX4_isWithin) := goodIn_app (goodIn_of _ (by decide +kernel)) ggX4_setParts_X4_isWithin
set_option maxRecDepth 20000 in
theorem ggX4_setParts_X1_partsOf : GoodIn wsX4_setParts wsX1_partsOf := goodIn_r _ [45, 46, 50, 51, 52, 53, 54, 55] (by decide +kernel) (by decide +kernel)
set_option maxRecDepth 20000 in
theorem gX4_setParts_X1_partsOf_n80 : GoodIn wsX4_setParts (wsX1_partsOf) := ggX4_setParts_X1_partsOf
set_option maxRecDepth 20000 in
theorem ggX4_setParts_X1_changeParts : GoodIn wsX4_setParts wsX1_changeParts := goodIn_r _ [49, 46, 50, 51, 52, 53, 54, 55] (by decide +kernel) (by decide +kernel)
set_option maxRecDepth 20000 in
theorem gX4_setParts_X1_changeParts_n84 : GoodIn wsX4_setParts (wsX1_changeParts) := ggX4_setParts_X1_changeParts
theorem dX4_setParts_0 : decode cX4_setParts 0 = .ok (.aload_n 0, 1) := by decide +kernel
theorem dX4_setParts_1 : decode cX4_setParts 1 = .ok (.iload_n 1, 1) := by decide +kernel
theorem dX4_setParts_2 : decode cX4_setParts 2 = .ok (.invokevirtual 71, 3) := by decide +kernel
theorem dX4_setParts_5 : decode cX4_setParts 5 = .ok (.astore 4, 2) := by decide +kernel
theorem dX4_setParts_7 : decode cX4_setParts 7 = .ok (.aload_n 0, 1) := by decide +kernel
theorem dX4_setParts_8 : decode cX4_setParts 8 = .ok (.iload_n 2, 1) := by decide +kernel
theorem dX4_setParts_9 : decode cX4_setParts 9 = .ok (.invokevirtual 71, 3) := by decide +kernel
theorem dX4_setParts_12 : decode cX4_setParts 12 = .ok (.astore 5, 2) := by decide +kernel
theorem dX4_setParts_14 : decode cX4_setParts 14 = .ok (.aload 4, 2) := by decide +kernel
theorem dX4_setParts_16 : decode cX4_setParts 16 = .ok (.getfield 75, 3) := by decide +kernel
theorem dX4_setParts_19 : decode cX4_setParts 19 = .ok (.iconst 2, 1) := by decide +kernel
theorem dX4_setParts_20 : decode cX4_setParts 20 = .ok (.if_icmp .ne 22, 3) := by decide +kernel
theorem dX4_setParts_23 : decode cX4_setParts 23 = .ok (.aload 5, 2) := by decide +kernel
theorem dX4_setParts_25 : decode cX4_setParts 25 = .ok (.getfield 75, 3) := by decide +kernel
theorem dX4_setParts_28 : decode cX4_setParts 28 = .ok (.iconst 2, 1) := by decide +kernel
theorem dX4_setParts_29 : decode cX4_setParts 29 = .ok (.if_icmp .eq 13, 3) := by decide +kernel
theorem dX4_setParts_32 : decode cX4_setParts 32 = .ok (.iload_n 3, 1) := by decide +kernel
theorem dX4_setParts_33 : decode cX4_setParts 33 = .ok (.iconst 0, 1) := by decide +kernel
theorem dX4_setParts_34 : decode cX4_setParts 34 = .ok (.bipush 100, 2) := by decide +kernel
theorem dX4_setParts_36 : decode cX4_setParts 36 = .ok (.invokestatic 38, 3) := by decide +kernel
theorem dX4_setParts_39 : decode cX4_setParts 39 = .ok (.ifCond .ne 13, 3) := by decide +kernel
theorem dX4_setParts_42 : decode cX4_setParts 42 = .ok (.new 42, 3) := by decide +kernel
theorem dX4_setParts_45 : decode cX4_setParts 45 = .ok (.dup, 1) := by decide +kernel
theorem dX4_setParts_46 : decode cX4_setParts 46 = .ok (.ldc 78, 2) := by decide +kernel
theorem dX4_setParts_48 : decode cX4_setParts 48 = .ok (.invokespecial 46, 3) := by decide +kernel
theorem dX4_setParts_51 : decode cX4_setParts 51 = .ok (.athrow, 1) := by decide +kernel
theorem dX4_setParts_52 : decode cX4_setParts 52 = .ok (.aload 4, 2) := by decide +kernel
theorem dX4_setParts_54 : decode cX4_setParts 54 = .ok (.iload_n 2, 1) := by decide +kernel
theorem dX4_setParts_55 : decode cX4_setParts 55 = .ok (.invokevirtual 80, 3) := by decide +kernel
theorem dX4_setParts_58 : decode cX4_setParts 58 = .ok (.istore 6, 2) := by decide +kernel
theorem dX4_setParts_60 : decode cX4_setParts 60 = .ok (.aload 4, 2) := by decide +kernel
theorem dX4_setParts_62 : decode cX4_setParts 62 = .ok (.iload_n 2, 1) := by decide +kernel
theorem dX4_setParts_63 : decode cX4_setParts 63 = .ok (.iload_n 3, 1) := by decide +kernel
theorem dX4_setParts_64 : decode cX4_setParts 64 = .ok (.invokevirtual 84, 3) := by decide +kernel
theorem dX4_setParts_67 : decode cX4_setParts 67 = .ok (.iload 6, 2) := by decide +kernel
theorem dX4_setParts_69 : decode cX4_setParts 69 = .ok (.ireturn, 1) := by decide +kernel
set_option maxRecDepth 20000 in
theorem ggX4_setShares_X4_holderAt : GoodIn wsX4_setShares wsX4_holderAt := goodIn_ca (goodIn_r _ [10, 11, 12, 13, 14, 15, 16, 17, 9, 18, 19, 20, 21, 22, 23, 24, 25, 26, 27, 28, 29, 30, 31, 32, 33, 34, 35, 36, 37, 38, 39, 40, 41, 42, 43, 44, 55, 56, 57, 58, 59, 60, 61, 62, 63] (by decide +kernel) (by decide +kernel)) (goodIn_sub (fun _ h => List.mem_cons_of_mem _ (List.mem_append_right _ h)) (by decide +kernel))
set_option maxRecDepth 20000 in
theorem gX4_setShares_X4_holderAt : GoodIn wsX4_setShares (wsV RX4 71 RX4 yX4_holderAt wsX4_holderAt) := goodIn_app (goodIn_of _ (by decide +kernel)) ggX4_setShares_X4_holderAt
set_option maxRecDepth 20000 in
theorem ggX4_setShares_X4_isWithin : GoodIn wsX4_setShares wsX4_isWithin := goodIn_r _ [27] (by decide +kernel) (by decide +kernel)
set_option maxRecDepth 20000 in
theorem gX4_setShares_X4_isWithin : GoodIn wsX4_setShares (va_wsS RX4 38 yX4_isWithin wsX4_isWithin) := goodIn_app (goodIn_of _ (by decide +kernel)) ggX4_setShares_X4_isWithin
set_option maxRecDepth 20000 in
theorem ggX4_setShares_X4_sharesInAll : GoodIn wsX4_setShares wsX4_sharesInAll := goodIn_r _ [48, 13, 14, 19, 20, 21, 22, 23, 24, 28, 29, 30, 31, 32, 33, 34, 35, 36, 37, 38, 39, 40, 41, 42, 43, 44, 55, 56, 57, 58, 59, 60, 49, 50, 51, 52, 53, 54, 61, 62, 63] (by decide +kernel) (by decide +kernel)
set_option maxRecDepth 20000 in
theorem gX4_setShares_X4_sharesInAll : GoodIn wsX4_setShares (wsV RX4 93 RX4 yX4_sharesInAll wsX4_sharesInAll) := goodIn_app (goodIn_of _ (by decide +kernel)) ggX4_setShares_X4_sharesInAll
theorem dX4_setShares_0 : decode cX4_setShares 0 = .ok (.aload_n 0, 1) := by decide +kernel
theorem dX4_setShares_1 : decode cX4_setShares 1 = .ok (.iload_n 1, 1) := by decide +kernel
theorem dX4_setShares_2 : decode cX4_setShares 2 = .ok (.invokevirtual 71, 3) := by decide +kernel
theorem dX4_setShares_5 : decode cX4_setShares 5 = .ok (.astore_n 3, 1) := by decide +kernel
theorem dX4_setShares_6 : decode cX4_setShares 6 = .ok (.iload_n 2, 1) := by decide +kernel
theorem dX4_setShares_7 : decode cX4_setShares 7 = .ok (.iconst 0, 1) := by decide +kernel
theorem dX4_setShares_8 : decode cX4_setShares 8 = .ok (.ldc 87, 2) := by decide +kernel
theorem dX4_setShares_10 : decode cX4_setShares 10 = .ok (.invokestatic 38, 3) := by decide +kernel
theorem dX4_setShares_13 : decode cX4_setShares 13 = .ok (.ifCond .ne 13, 3) := by decide +kernel
theorem dX4_setShares_16 : decode cX4_setShares 16 = .ok (.new 42, 3) := by decide +kernel
theorem dX4_setShares_19 : decode cX4_setShares 19 = .ok (.dup, 1) := by decide +kernel
theorem dX4_setShares_20 : decode cX4_setShares 20 = .ok (.ldc 88, 2) := by decide +kernel
theorem dX4_setShares_22 : decode cX4_setShares 22 = .ok (.invokespecial 46, 3) := by decide +kernel
theorem dX4_setShares_25 : decode cX4_setShares 25 = .ok (.athrow, 1) := by decide +kernel
theorem dX4_setShares_26 : decode cX4_setShares 26 = .ok (.aload_n 3, 1) := by decide +kernel
theorem dX4_setShares_27 : decode cX4_setShares 27 = .ok (.getfield 90, 3) := by decide +kernel
theorem dX4_setShares_30 : decode cX4_setShares 30 = .ok (.istore 4, 2) := by decide +kernel
theorem dX4_setShares_32 : decode cX4_setShares 32 = .ok (.aload_n 0, 1) := by decide +kernel
theorem dX4_setShares_33 : decode cX4_setShares 33 = .ok (.invokevirtual 93, 3) := by decide +kernel
theorem dX4_setShares_36 : decode cX4_setShares 36 = .ok (.iload 4, 2) := by decide +kernel
theorem dX4_setShares_38 : decode cX4_setShares 38 = .ok (.isub, 1) := by decide +kernel
theorem dX4_setShares_39 : decode cX4_setShares 39 = .ok (.iload_n 2, 1) := by decide +kernel
theorem dX4_setShares_40 : decode cX4_setShares 40 = .ok (.iadd, 1) := by decide +kernel
theorem dX4_setShares_41 : decode cX4_setShares 41 = .ok (.ldc 87, 2) := by decide +kernel
theorem dX4_setShares_43 : decode cX4_setShares 43 = .ok (.if_icmp .le 13, 3) := by decide +kernel
theorem dX4_setShares_46 : decode cX4_setShares 46 = .ok (.new 57, 3) := by decide +kernel
theorem dX4_setShares_49 : decode cX4_setShares 49 = .ok (.dup, 1) := by decide +kernel
theorem dX4_setShares_50 : decode cX4_setShares 50 = .ok (.ldc 96, 2) := by decide +kernel
theorem dX4_setShares_52 : decode cX4_setShares 52 = .ok (.invokespecial 61, 3) := by decide +kernel
theorem dX4_setShares_55 : decode cX4_setShares 55 = .ok (.athrow, 1) := by decide +kernel
theorem dX4_setShares_56 : decode cX4_setShares 56 = .ok (.aload_n 3, 1) := by decide +kernel
theorem dX4_setShares_57 : decode cX4_setShares 57 = .ok (.iload_n 2, 1) := by decide +kernel
theorem dX4_setShares_58 : decode cX4_setShares 58 = .ok (.putfield 90, 3) := by decide +kernel
theorem dX4_setShares_61 : decode cX4_setShares 61 = .ok (.iload 4, 2) := by decide +kernel
theorem dX4_setShares_63 : decode cX4_setShares 63 = .ok (.ireturn, 1) := by decide +kernel
set_option maxRecDepth 20000 in
theorem ggX4_giveForm_X4_holderAt : GoodIn wsX4_giveForm wsX4_holderAt := goodIn_ca (goodIn_r _ [6, 7, 8, 9, 10, 11, 12, 13, 5, 14, 15, 16, 17, 18, 19, 20, 21, 22, 23, 24, 25, 26, 27, 28, 29, 30, 31, 32, 33, 34, 35, 36, 37, 38, 39, 40, 41, 42, 43, 44, 45, 46, 53, 54, 55] (by decide +kernel) (by decide +kernel)) (goodIn_sub (fun _ h => List.mem_cons_of_mem _ (List.mem_append_right _ h)) (by decide +kernel))
set_option maxRecDepth 20000 in
theorem gX4_giveForm_X4_holderAt : GoodIn wsX4_giveForm (wsV RX4 71 RX4 yX4_holderAt wsX4_holderAt) := goodIn_app (goodIn_of _ (by decide +kernel)) ggX4_giveForm_X4_holderAt
theorem dX4_giveForm_0 : decode cX4_giveForm 0 = .ok (.aload_n 0, 1) := by decide +kernel
theorem dX4_giveForm_1 : decode cX4_giveForm 1 = .ok (.iload_n 1, 1) := by decide +kernel
theorem dX4_giveForm_2 : decode cX4_giveForm 2 = .ok (.invokevirtual 71, 3) := by decide +kernel
theorem dX4_giveForm_5 : decode cX4_giveForm 5 = .ok (.astore_n 2, 1) := by decide +kernel
theorem dX4_giveForm_6 : decode cX4_giveForm 6 = .ok (.aload_n 2, 1) := by decide +kernel
theorem dX4_giveForm_7 : decode cX4_giveForm 7 = .ok (.aload_n 0, 1) := by decide +kernel
theorem dX4_giveForm_8 : decode cX4_giveForm 8 = .ok (.getfield 26, 3) := by decide +kernel
theorem dX4_giveForm_11 : decode cX4_giveForm 11 = .ok (.sipush 1080, 3) := by decide +kernel
theorem dX4_giveForm_14 : decode cX4_giveForm 14 = .ok (.iadd, 1) := by decide +kernel
theorem dX4_giveForm_15 : decode cX4_giveForm 15 = .ok (.putfield 98, 3) := by decide +kernel
theorem dX4_giveForm_18 : decode cX4_giveForm 18 = .ok (.aload_n 2, 1) := by decide +kernel
theorem dX4_giveForm_19 : decode cX4_giveForm 19 = .ok (.getfield 98, 3) := by decide +kernel
theorem dX4_giveForm_22 : decode cX4_giveForm 22 = .ok (.ireturn, 1) := by decide +kernel
set_option maxRecDepth 20000 in
theorem ggX4_pass_X4_isWithin : GoodIn wsX4_pass wsX4_isWithin := goodIn_r _ [11] (by decide +kernel) (by decide +kernel)
set_option maxRecDepth 20000 in
theorem gX4_pass_X4_isWithin : GoodIn wsX4_pass (va_wsS RX4 38 yX4_isWithin wsX4_isWithin) := goodIn_app (goodIn_of _ (by decide +kernel)) ggX4_pass_X4_isWithin
set_option maxRecDepth 20000 in
theorem ggX4_pass_Jx4a65c_size_8abf5 : GoodIn wsX4_pass wsJx4a65c_size_8abf5 := goodIn_r _ [16, 17, 48, 49, 50] (by decide +kernel) (by decide +kernel)
set_option maxRecDepth 20000 in
theorem gX4_pass_Jx4a65c_size_8abf5 : GoodIn wsX4_pass (wsV RX4 53 RJx4a65c yJx4a65c_size_8abf5 wsJx4a65c_size_8abf5) := goodIn_app (goodIn_of _ (by decide +kernel)) ggX4_pass_Jx4a65c_size_8abf5
set_option maxRecDepth 20000 in
theorem ggX4_pass_Jx4a65c_get_915e3 : GoodIn wsX4_pass wsJx4a65c_get_915e3 := goodIn_r _ [21, 17, 22, 23, 24, 25, 26, 27, 28, 29, 30, 31, 32, 15, 33, 34, 48, 49, 50] (by decide +kernel) (by decide +kernel)
set_option maxRecDepth 20000 in
theorem gX4_pass_Jx4a65c_get_915e3 : GoodIn wsX4_pass (wsV RX4 105 RJx4a65c yJx4a65c_get_915e3 wsJx4a65c_get_915e3) := goodIn_app (goodIn_of _ (by decide +kernel)) ggX4_pass_Jx4a65c_get_915e3
set_option maxRecDepth 20000 in
theorem ggX4_pass_X1_endDay : GoodIn wsX4_pass wsX1_endDay := goodIn_r _ [38, 39, 40, 41, 51, 52, 53, 54, 55, 56] (by decide +kernel) (by decide +kernel)
set_option maxRecDepth 20000 in
theorem gX4_pass_X1_endDay_n109 : GoodIn wsX4_pass (wsX1_endDay) := ggX4_pass_X1_endDay
theorem dX4_pass_0 : decode cX4_pass 0 = .ok (.iload_n 1, 1) := by decide +kernel
theorem dX4_pass_1 : decode cX4_pass 1 = .ok (.iconst 1, 1) := by decide +kernel
theorem dX4_pass_2 : decode cX4_pass 2 = .ok (.sipush 2000, 3) := by decide +kernel
theorem dX4_pass_5 : decode cX4_pass 5 = .ok (.invokestatic 38, 3) := by decide +kernel
theorem dX4_pass_8 : decode cX4_pass 8 = .ok (.ifCond .ne 13, 3) := by decide +kernel
theorem dX4_pass_11 : decode cX4_pass 11 = .ok (.new 42, 3) := by decide +kernel
theorem dX4_pass_14 : decode cX4_pass 14 = .ok (.dup, 1) := by decide +kernel
theorem dX4_pass_15 : decode cX4_pass 15 = .ok (.ldc 101, 2) := by decide +kernel
theorem dX4_pass_17 : decode cX4_pass 17 = .ok (.invokespecial 46, 3) := by decide +kernel
theorem dX4_pass_20 : decode cX4_pass 20 = .ok (.athrow, 1) := by decide +kernel
theorem dX4_pass_21 : decode cX4_pass 21 = .ok (.aload_n 0, 1) := by decide +kernel
theorem dX4_pass_22 : decode cX4_pass 22 = .ok (.getfield 26, 3) := by decide +kernel
theorem dX4_pass_25 : decode cX4_pass 25 = .ok (.iload_n 1, 1) := by decide +kernel
theorem dX4_pass_26 : decode cX4_pass 26 = .ok (.iadd, 1) := by decide +kernel
theorem dX4_pass_27 : decode cX4_pass 27 = .ok (.sipush 20000, 3) := by decide +kernel
theorem dX4_pass_30 : decode cX4_pass 30 = .ok (.if_icmp .le 13, 3) := by decide +kernel
theorem dX4_pass_33 : decode cX4_pass 33 = .ok (.new 57, 3) := by decide +kernel
theorem dX4_pass_36 : decode cX4_pass 36 = .ok (.dup, 1) := by decide +kernel
theorem dX4_pass_37 : decode cX4_pass 37 = .ok (.ldc 103, 2) := by decide +kernel
theorem dX4_pass_39 : decode cX4_pass 39 = .ok (.invokespecial 61, 3) := by decide +kernel
theorem dX4_pass_42 : decode cX4_pass 42 = .ok (.athrow, 1) := by decide +kernel
theorem dX4_pass_43 : decode cX4_pass 43 = .ok (.iconst 0, 1) := by decide +kernel
theorem dX4_pass_44 : decode cX4_pass 44 = .ok (.istore_n 2, 1) := by decide +kernel
theorem dX4_pass_45 : decode cX4_pass 45 = .ok (.iload_n 2, 1) := by decide +kernel
theorem dX4_pass_46 : decode cX4_pass 46 = .ok (.aload_n 0, 1) := by decide +kernel
theorem dX4_pass_47 : decode cX4_pass 47 = .ok (.getfield 19, 3) := by decide +kernel
theorem dX4_pass_50 : decode cX4_pass 50 = .ok (.invokevirtual 53, 3) := by decide +kernel
theorem dX4_pass_53 : decode cX4_pass 53 = .ok (.if_icmp .ge 27, 3) := by decide +kernel
theorem dX4_pass_56 : decode cX4_pass 56 = .ok (.aload_n 0, 1) := by decide +kernel
theorem dX4_pass_57 : decode cX4_pass 57 = .ok (.getfield 19, 3) := by decide +kernel
theorem dX4_pass_60 : decode cX4_pass 60 = .ok (.iload_n 2, 1) := by decide +kernel
theorem dX4_pass_61 : decode cX4_pass 61 = .ok (.invokevirtual 105, 3) := by decide +kernel
theorem dX4_pass_64 : decode cX4_pass 64 = .ok (.checkcast 62, 3) := by decide +kernel
theorem dX4_pass_67 : decode cX4_pass 67 = .ok (.aload_n 0, 1) := by decide +kernel
theorem dX4_pass_68 : decode cX4_pass 68 = .ok (.getfield 26, 3) := by decide +kernel
theorem dX4_pass_71 : decode cX4_pass 71 = .ok (.invokevirtual 109, 3) := by decide +kernel
theorem dX4_pass_74 : decode cX4_pass 74 = .ok (.iinc 2 1, 3) := by decide +kernel
theorem dX4_pass_77 : decode cX4_pass 77 = .ok (.goto (-32), 3) := by decide +kernel
theorem dX4_pass_80 : decode cX4_pass 80 = .ok (.aload_n 0, 1) := by decide +kernel
theorem dX4_pass_81 : decode cX4_pass 81 = .ok (.dup, 1) := by decide +kernel
theorem dX4_pass_82 : decode cX4_pass 82 = .ok (.getfield 26, 3) := by decide +kernel
theorem dX4_pass_85 : decode cX4_pass 85 = .ok (.iload_n 1, 1) := by decide +kernel
theorem dX4_pass_86 : decode cX4_pass 86 = .ok (.iadd, 1) := by decide +kernel
theorem dX4_pass_87 : decode cX4_pass 87 = .ok (.putfield 26, 3) := by decide +kernel
theorem dX4_pass_90 : decode cX4_pass 90 = .ok (.aload_n 0, 1) := by decide +kernel
theorem dX4_pass_91 : decode cX4_pass 91 = .ok (.getfield 26, 3) := by decide +kernel
theorem dX4_pass_94 : decode cX4_pass 94 = .ok (.ireturn, 1) := by decide +kernel
theorem dX4_day_0 : decode cX4_day 0 = .ok (.aload_n 0, 1) := by decide +kernel
theorem dX4_day_1 : decode cX4_day 1 = .ok (.getfield 26, 3) := by decide +kernel
theorem dX4_day_4 : decode cX4_day 4 = .ok (.ireturn, 1) := by decide +kernel
set_option maxRecDepth 20000 in
theorem ggX4_shares_X4_holderAt : GoodIn wsX4_shares wsX4_holderAt := goodIn_ca (goodIn_r _ [5, 6, 7, 8, 9, 10, 11, 12, 4, 13, 14, 15, 16, 17, 18, 19, 20, 21, 22, 23, 24, 25, 26, 27, 28, 29, 30, 31, 32, 33, 34, 35, 36, 37, 38, 39, 46, 47, 48, 49, 50, 51, 52, 53, 54] (by decide +kernel) (by decide +kernel)) (goodIn_sub (fun _ h => List.mem_cons_of_mem _ (List.mem_append_right _ h)) (by decide +kernel))
set_option maxRecDepth 20000 in
theorem gX4_shares_X4_holderAt : GoodIn wsX4_shares (wsV RX4 71 RX4 yX4_holderAt wsX4_holderAt) := goodIn_app (goodIn_of _ (by decide +kernel)) ggX4_shares_X4_holderAt
theorem dX4_shares_0 : decode cX4_shares 0 = .ok (.aload_n 0, 1) := by decide +kernel
theorem dX4_shares_1 : decode cX4_shares 1 = .ok (.iload_n 1, 1) := by decide +kernel
theorem dX4_shares_2 : decode cX4_shares 2 = .ok (.invokevirtual 71, 3) := by decide +kernel
theorem dX4_shares_5 : decode cX4_shares 5 = .ok (.getfield 90, 3) := by decide +kernel
theorem dX4_shares_8 : decode cX4_shares 8 = .ok (.ireturn, 1) := by decide +kernel
set_option maxRecDepth 20000 in
theorem ggX4_isValid_X4_holderAt : GoodIn wsX4_isValid wsX4_holderAt := goodIn_ca (goodIn_r _ [6, 7, 8, 9, 10, 11, 12, 13, 5, 14, 15, 16, 17, 18, 19, 20, 21, 22, 23, 24, 25, 26, 27, 28, 29, 30, 31, 32, 33, 34, 35, 36, 37, 38, 39, 40, 46, 47, 48, 49, 50, 51, 52, 53, 54] (by decide +kernel) (by decide +kernel)) (goodIn_sub (fun _ h => List.mem_cons_of_mem _ (List.mem_append_right _ h)) (by decide +kernel))
set_option maxRecDepth 20000 in
theorem gX4_isValid_X4_holderAt : GoodIn wsX4_isValid (wsV RX4 71 RX4 yX4_holderAt wsX4_holderAt) := goodIn_app (goodIn_of _ (by decide +kernel)) ggX4_isValid_X4_holderAt
set_option maxRecDepth 20000 in
theorem ggX4_isValid_X1_hasFormOn : GoodIn wsX4_isValid wsX1_hasFormOn := goodIn_r _ [44, 45, 55, 56, 57, 58, 59, 60] (by decide +kernel) (by decide +kernel)
set_option maxRecDepth 20000 in
theorem gX4_isValid_X1_hasFormOn_n113 : GoodIn wsX4_isValid (wsX1_hasFormOn) := ggX4_isValid_X1_hasFormOn
theorem dX4_isValid_0 : decode cX4_isValid 0 = .ok (.aload_n 0, 1) := by decide +kernel
theorem dX4_isValid_1 : decode cX4_isValid 1 = .ok (.iload_n 1, 1) := by decide +kernel
theorem dX4_isValid_2 : decode cX4_isValid 2 = .ok (.invokevirtual 71, 3) := by decide +kernel
theorem dX4_isValid_5 : decode cX4_isValid 5 = .ok (.aload_n 0, 1) := by decide +kernel
theorem dX4_isValid_6 : decode cX4_isValid 6 = .ok (.getfield 26, 3) := by decide +kernel
theorem dX4_isValid_9 : decode cX4_isValid 9 = .ok (.invokevirtual 113, 3) := by decide +kernel
theorem dX4_isValid_12 : decode cX4_isValid 12 = .ok (.ireturn, 1) := by decide +kernel
set_option maxRecDepth 20000 in
theorem ggX4_isLarge_X4_holderAt : GoodIn wsX4_isLarge wsX4_holderAt := goodIn_ca (goodIn_r _ [6, 7, 8, 9, 10, 11, 12, 13, 5, 14, 15, 16, 17, 18, 19, 20, 21, 22, 23, 24, 25, 26, 27, 28, 29, 30, 31, 32, 33, 34, 35, 36, 37, 38, 39, 40, 49, 50, 51, 52, 53, 54, 55, 56, 57] (by decide +kernel) (by decide +kernel)) (goodIn_sub (fun _ h => List.mem_cons_of_mem _ (List.mem_append_right _ h)) (by decide +kernel))
set_option maxRecDepth 20000 in
theorem gX4_isLarge_X4_holderAt : GoodIn wsX4_isLarge (wsV RX4 71 RX4 yX4_holderAt wsX4_holderAt) := goodIn_app (goodIn_of _ (by decide +kernel)) ggX4_isLarge_X4_holderAt
set_option maxRecDepth 20000 in
theorem ggX4_isLarge_X1_hasLargeHoldingOn : GoodIn wsX4_isLarge wsX1_hasLargeHoldingOn := goodIn_r _ [44, 45, 46, 47, 48, 58, 59, 60, 61, 62, 63] (by decide +kernel) (by decide +kernel)
set_option maxRecDepth 20000 in
theorem gX4_isLarge_X1_hasLargeHoldingOn_n116 : GoodIn wsX4_isLarge (wsX1_hasLargeHoldingOn) := ggX4_isLarge_X1_hasLargeHoldingOn
theorem dX4_isLarge_0 : decode cX4_isLarge 0 = .ok (.aload_n 0, 1) := by decide +kernel
theorem dX4_isLarge_1 : decode cX4_isLarge 1 = .ok (.iload_n 1, 1) := by decide +kernel
theorem dX4_isLarge_2 : decode cX4_isLarge 2 = .ok (.invokevirtual 71, 3) := by decide +kernel
theorem dX4_isLarge_5 : decode cX4_isLarge 5 = .ok (.aload_n 0, 1) := by decide +kernel
theorem dX4_isLarge_6 : decode cX4_isLarge 6 = .ok (.getfield 26, 3) := by decide +kernel
theorem dX4_isLarge_9 : decode cX4_isLarge 9 = .ok (.invokevirtual 116, 3) := by decide +kernel
theorem dX4_isLarge_12 : decode cX4_isLarge 12 = .ok (.ireturn, 1) := by decide +kernel
set_option maxRecDepth 20000 in
theorem ggX4_treatyRate_X4_holderAt : GoodIn wsX4_treatyRate wsX4_holderAt := goodIn_ca (goodIn_r _ [7, 8, 9, 10, 11, 12, 13, 14, 6, 15, 16, 17, 18, 19, 20, 21, 22, 23, 24, 25, 26, 27, 28, 29, 30, 31, 32, 33, 34, 35, 36, 37, 38, 39, 40, 41, 73, 74, 75, 76, 77, 78, 79, 80, 81] (by decide +kernel) (by decide +kernel)) (goodIn_sub (fun _ h => List.mem_cons_of_mem _ (List.mem_append_right _ h)) (by decide +kernel))
set_option maxRecDepth 20000 in
theorem gX4_treatyRate_X4_holderAt : GoodIn wsX4_treatyRate (wsV RX4 71 RX4 yX4_holderAt wsX4_holderAt) := goodIn_app (goodIn_of _ (by decide +kernel)) ggX4_treatyRate_X4_holderAt
set_option maxRecDepth 20000 in
theorem ggX4_treatyRate_X4_ownRate : GoodIn wsX4_treatyRate wsX4_ownRate := goodIn_r _ [45, 46, 47, 48, 49, 50, 51, 52, 53, 54, 6, 55, 56, 57, 58, 22, 23, 24, 59, 60, 61, 62, 63, 64, 65, 66, 73, 74, 75, 76, 77, 78, 67, 68, 69, 70, 71, 72] (by decide +kernel) (by decide +kernel)
set_option maxRecDepth 20000 in
theorem gX4_treatyRate_X4_ownRate : GoodIn wsX4_treatyRate (wsV RX4 121 RX4 yX4_ownRate wsX4_ownRate) := goodIn_app (goodIn_of _ (by decide +kernel)) ggX4_treatyRate_X4_ownRate
theorem dX4_treatyRate_0 : decode cX4_treatyRate 0 = .ok (.aload_n 0, 1) := by decide +kernel
theorem dX4_treatyRate_1 : decode cX4_treatyRate 1 = .ok (.iload_n 1, 1) := by decide +kernel
theorem dX4_treatyRate_2 : decode cX4_treatyRate 2 = .ok (.invokevirtual 71, 3) := by decide +kernel
theorem dX4_treatyRate_5 : decode cX4_treatyRate 5 = .ok (.astore_n 2, 1) := by decide +kernel
theorem dX4_treatyRate_6 : decode cX4_treatyRate 6 = .ok (.aload_n 2, 1) := by decide +kernel
theorem dX4_treatyRate_7 : decode cX4_treatyRate 7 = .ok (.getfield 75, 3) := by decide +kernel
theorem dX4_treatyRate_10 : decode cX4_treatyRate 10 = .ok (.iconst 2, 1) := by decide +kernel
theorem dX4_treatyRate_11 : decode cX4_treatyRate 11 = .ok (.if_icmp .ne 13, 3) := by decide +kernel
theorem dX4_treatyRate_14 : decode cX4_treatyRate 14 = .ok (.new 42, 3) := by decide +kernel
theorem dX4_treatyRate_17 : decode cX4_treatyRate 17 = .ok (.dup, 1) := by decide +kernel
theorem dX4_treatyRate_18 : decode cX4_treatyRate 18 = .ok (.ldc 119, 2) := by decide +kernel
theorem dX4_treatyRate_20 : decode cX4_treatyRate 20 = .ok (.invokespecial 46, 3) := by decide +kernel
theorem dX4_treatyRate_23 : decode cX4_treatyRate 23 = .ok (.athrow, 1) := by decide +kernel
theorem dX4_treatyRate_24 : decode cX4_treatyRate 24 = .ok (.aload_n 0, 1) := by decide +kernel
theorem dX4_treatyRate_25 : decode cX4_treatyRate 25 = .ok (.aload_n 2, 1) := by decide +kernel
theorem dX4_treatyRate_26 : decode cX4_treatyRate 26 = .ok (.invokevirtual 121, 3) := by decide +kernel
theorem dX4_treatyRate_29 : decode cX4_treatyRate 29 = .ok (.ireturn, 1) := by decide +kernel
set_option maxRecDepth 20000 in
theorem ggX4_pay_X4_isWithin : GoodIn wsX4_pay wsX4_isWithin := goodIn_r _ [15] (by decide +kernel) (by decide +kernel)
set_option maxRecDepth 20000 in
theorem gX4_pay_X4_isWithin : GoodIn wsX4_pay (va_wsS RX4 38 yX4_isWithin wsX4_isWithin) := goodIn_app (goodIn_of _ (by decide +kernel)) ggX4_pay_X4_isWithin
set_option maxRecDepth 20000 in
theorem ggX4_pay_Jx4a65c_size_8abf5 : GoodIn wsX4_pay wsJx4a65c_size_8abf5 := goodIn_r _ [20, 21, 220, 221, 222] (by decide +kernel) (by decide +kernel)
set_option maxRecDepth 20000 in
theorem gX4_pay_Jx4a65c_size_8abf5 : GoodIn wsX4_pay (wsV RX4 53 RJx4a65c yJx4a65c_size_8abf5 wsJx4a65c_size_8abf5) := goodIn_app (goodIn_of _ (by decide +kernel)) ggX4_pay_Jx4a65c_size_8abf5
set_option maxRecDepth 20000 in
theorem ggX4_pay_X4_sharesInAll : GoodIn wsX4_pay wsX4_sharesInAll := goodIn_r _ [25, 10, 11, 16, 17, 18, 19, 20, 21, 26, 27, 28, 29, 30, 31, 32, 33, 34, 35, 36, 37, 38, 39, 40, 41, 42, 205, 206, 207, 208, 209, 210, 214, 215, 216, 217, 218, 219, 220, 221, 222] (by decide +kernel) (by decide +kernel)
set_option maxRecDepth 20000 in
theorem gX4_pay_X4_sharesInAll : GoodIn wsX4_pay (wsV RX4 93 RX4 yX4_sharesInAll wsX4_sharesInAll) := goodIn_app (goodIn_of _ (by decide +kernel)) ggX4_pay_X4_sharesInAll
set_option maxRecDepth 20000 in
theorem ggX4_pay_X4_validForms : GoodIn wsX4_pay wsX4_validForms := goodIn_r _ [46, 10, 11, 9, 16, 17, 18, 19, 20, 21, 26, 27, 28, 29, 30, 31, 32, 33, 34, 35, 36, 37, 38, 39, 40, 41, 42, 47, 48, 49, 50, 51, 52, 53, 14, 54, 205, 206, 207, 208, 209, 210, 220, 221, 222, 214, 215, 216, 217, 218, 219] (by decide +kernel) (by decide +kernel)
set_option maxRecDepth 20000 in
theorem gX4_pay_X4_validForms : GoodIn wsX4_pay (wsV RX4 131 RX4 yX4_validForms wsX4_validForms) := goodIn_app (goodIn_of _ (by decide +kernel)) ggX4_pay_X4_validForms
set_option maxRecDepth 20000 in
theorem ggX4_pay_X0_init : GoodIn wsX4_pay wsX0_init := goodIn_r _ [56, 57, 58, 59, 60, 61, 62, 63, 211, 212, 213] (by decide +kernel) (by decide +kernel)
set_option maxRecDepth 20000 in
theorem gX4_pay_X0_init_n134 : GoodIn wsX4_pay (wsX0_init) := ggX4_pay_X0_init
set_option maxRecDepth 20000 in
theorem ggX4_pay_Jx4a65c_get_915e3 : GoodIn wsX4_pay wsJx4a65c_get_915e3 := goodIn_r _ [29, 21, 30, 31, 32, 33, 34, 35, 36, 37, 38, 39, 40, 19, 41, 42, 220, 221, 222] (by decide +kernel) (by decide +kernel)
set_option maxRecDepth 20000 in
theorem gX4_pay_Jx4a65c_get_915e3 : GoodIn wsX4_pay (wsV RX4 105 RJx4a65c yJx4a65c_get_915e3 wsJx4a65c_get_915e3) := goodIn_app (goodIn_of _ (by decide +kernel)) ggX4_pay_Jx4a65c_get_915e3
set_option maxRecDepth 20000 in
theorem ggX4_pay_X4_makePayment : GoodIn wsX4_pay wsX4_makePayment := goodIn_r _ [67, 68, 69, 70, 71, 72, 73, 74, 75, 76, 58, 59, 77, 78, 19, 79, 80, 81, 82, 83, 84, 85, 42, 86, 87, 88, 89, 90, 91, 92, 93, 94, 95, 96, 97, 98, 14, 99, 10, 100, 11, 101, 48, 102, 103, 104, 105, 106, 107, 108, 109, 110, 111, 112, 113, 114, 115, 116, 117, 118, 119, 21, 120, 121, 122, 123, 124, 125, 126, 127, 128, 129, 130, 131, 132, 133, 134, 135, 136, 137, 138, 139, 140, 141, 142, 143, 144, 145, 146, 147, 148, 149, 150, 151, 152, 153, 154, 155, 156, 157, 158, 159, 160, 161, 162, 163, 164, 165, 16, 17, 18, 20, 166, 167, 168, 169, 170, 171, 26, 27, 28, 29, 30, 31, 32, 33, 34, 35, 36, 37, 38, 39, 40, 41, 172, 173, 174, 175, 176, 177, 12, 13, 15, 52, 53, 54, 178, 179, 180, 181, 9, 182, 183, 184, 185, 186, 187, 188, 189, 190, 223, 224, 225, 214, 215, 216, 217, 218, 219, 226, 227, 228, 220, 221, 222, 205, 206, 207, 208, 209, 210] (by decide +kernel) (by decide +kernel)
set_option maxRecDepth 20000 in
theorem gX4_pay_X4_makePayment : GoodIn wsX4_pay (wsV RX4 135 RX4 yX4_makePayment wsX4_makePayment) := goodIn_app (goodIn_of _ (by decide +kernel)) ggX4_pay_X4_makePayment
set_option maxRecDepth 20000 in
theorem ggX4_pay_X0_enter : GoodIn wsX4_pay wsX0_enter := goodIn_r _ [193, 61, 63, 194, 70, 195, 196, 79, 197, 198, 17, 18, 19, 20, 21, 199, 27, 28, 29, 30, 31, 32, 33, 34, 35, 36, 37, 38, 39, 40, 41, 42, 200, 73, 201, 202, 110, 109, 108, 203, 211, 212, 213, 223, 224, 225, 220, 221, 222, 226, 227, 228] (by decide +kernel) (by decide +kernel)
set_option maxRecDepth 20000 in
theorem gX4_pay_X0_enter_n139 : GoodIn wsX4_pay (wsX0_enter) := ggX4_pay_X0_enter
set_option maxRecDepth 20000 in
theorem ggX4_pay_Jx4a65c_add_9ea2d : GoodIn wsX4_pay wsJx4a65c_add_9ea2d := goodIn_r _ [117, 118, 119, 42, 21, 120, 121, 122, 19, 123, 124, 125, 126, 127, 128, 129, 130, 131, 85, 132, 133, 134, 135, 136, 137, 138, 139, 140, 141, 142, 143, 144, 145, 146, 147, 148, 149, 150, 151, 152, 153, 154, 155, 156, 157, 158, 159, 160, 161, 162, 163, 164, 165, 220, 221, 222] (by decide +kernel) (by decide +kernel)
set_option maxRecDepth 20000 in
theorem gX4_pay_Jx4a65c_add_9ea2d : GoodIn wsX4_pay (wsV RX4 67 RJx4a65c yJx4a65c_add_9ea2d wsJx4a65c_add_9ea2d) := goodIn_app (goodIn_of _ (by decide +kernel)) ggX4_pay_Jx4a65c_add_9ea2d
theorem dX4_pay_0 : decode cX4_pay 0 = .ok (.iload_n 1, 1) := by decide +kernel
theorem dX4_pay_1 : decode cX4_pay 1 = .ok (.iconst 1, 1) := by decide +kernel
theorem dX4_pay_2 : decode cX4_pay 2 = .ok (.sipush 1000, 3) := by decide +kernel
theorem dX4_pay_5 : decode cX4_pay 5 = .ok (.invokestatic 38, 3) := by decide +kernel
theorem dX4_pay_8 : decode cX4_pay 8 = .ok (.ifCond .ne 13, 3) := by decide +kernel
theorem dX4_pay_11 : decode cX4_pay 11 = .ok (.new 42, 3) := by decide +kernel
theorem dX4_pay_14 : decode cX4_pay 14 = .ok (.dup, 1) := by decide +kernel
theorem dX4_pay_15 : decode cX4_pay 15 = .ok (.ldc 125, 2) := by decide +kernel
theorem dX4_pay_17 : decode cX4_pay 17 = .ok (.invokespecial 46, 3) := by decide +kernel
theorem dX4_pay_20 : decode cX4_pay 20 = .ok (.athrow, 1) := by decide +kernel
theorem dX4_pay_21 : decode cX4_pay 21 = .ok (.aload_n 0, 1) := by decide +kernel
theorem dX4_pay_22 : decode cX4_pay 22 = .ok (.getfield 23, 3) := by decide +kernel
theorem dX4_pay_25 : decode cX4_pay 25 = .ok (.invokevirtual 53, 3) := by decide +kernel
theorem dX4_pay_28 : decode cX4_pay 28 = .ok (.bipush 40, 2) := by decide +kernel
theorem dX4_pay_30 : decode cX4_pay 30 = .ok (.if_icmp .ge 10, 3) := by decide +kernel
theorem dX4_pay_33 : decode cX4_pay 33 = .ok (.aload_n 0, 1) := by decide +kernel
theorem dX4_pay_34 : decode cX4_pay 34 = .ok (.invokevirtual 93, 3) := by decide +kernel
theorem dX4_pay_37 : decode cX4_pay 37 = .ok (.ifCond .ne 13, 3) := by decide +kernel
theorem dX4_pay_40 : decode cX4_pay 40 = .ok (.new 57, 3) := by decide +kernel
theorem dX4_pay_43 : decode cX4_pay 43 = .ok (.dup, 1) := by decide +kernel
theorem dX4_pay_44 : decode cX4_pay 44 = .ok (.ldc 127, 2) := by decide +kernel
theorem dX4_pay_46 : decode cX4_pay 46 = .ok (.invokespecial 61, 3) := by decide +kernel
theorem dX4_pay_49 : decode cX4_pay 49 = .ok (.athrow, 1) := by decide +kernel
theorem dX4_pay_50 : decode cX4_pay 50 = .ok (.new 129, 3) := by decide +kernel
theorem dX4_pay_53 : decode cX4_pay 53 = .ok (.dup, 1) := by decide +kernel
theorem dX4_pay_54 : decode cX4_pay 54 = .ok (.aload_n 0, 1) := by decide +kernel
theorem dX4_pay_55 : decode cX4_pay 55 = .ok (.getfield 26, 3) := by decide +kernel
theorem dX4_pay_58 : decode cX4_pay 58 = .ok (.aload_n 0, 1) := by decide +kernel
theorem dX4_pay_59 : decode cX4_pay 59 = .ok (.invokevirtual 131, 3) := by decide +kernel
theorem dX4_pay_62 : decode cX4_pay 62 = .ok (.invokespecial 134, 3) := by decide +kernel
theorem dX4_pay_65 : decode cX4_pay 65 = .ok (.astore_n 2, 1) := by decide +kernel
theorem dX4_pay_66 : decode cX4_pay 66 = .ok (.iconst 0, 1) := by decide +kernel
theorem dX4_pay_67 : decode cX4_pay 67 = .ok (.istore_n 3, 1) := by decide +kernel
theorem dX4_pay_68 : decode cX4_pay 68 = .ok (.iload_n 3, 1) := by decide +kernel
theorem dX4_pay_69 : decode cX4_pay 69 = .ok (.aload_n 0, 1) := by decide +kernel
theorem dX4_pay_70 : decode cX4_pay 70 = .ok (.getfield 19, 3) := by decide +kernel
theorem dX4_pay_73 : decode cX4_pay 73 = .ok (.invokevirtual 53, 3) := by decide +kernel
theorem dX4_pay_76 : decode cX4_pay 76 = .ok (.if_icmp .ge 48, 3) := by decide +kernel
theorem dX4_pay_79 : decode cX4_pay 79 = .ok (.aload_n 0, 1) := by decide +kernel
theorem dX4_pay_80 : decode cX4_pay 80 = .ok (.getfield 19, 3) := by decide +kernel
theorem dX4_pay_83 : decode cX4_pay 83 = .ok (.iload_n 3, 1) := by decide +kernel
theorem dX4_pay_84 : decode cX4_pay 84 = .ok (.invokevirtual 105, 3) := by decide +kernel
theorem dX4_pay_87 : decode cX4_pay 87 = .ok (.checkcast 62, 3) := by decide +kernel
theorem dX4_pay_90 : decode cX4_pay 90 = .ok (.getfield 90, 3) := by decide +kernel
theorem dX4_pay_93 : decode cX4_pay 93 = .ok (.ifCond .le 25, 3) := by decide +kernel
theorem dX4_pay_96 : decode cX4_pay 96 = .ok (.aload_n 2, 1) := by decide +kernel
theorem dX4_pay_97 : decode cX4_pay 97 = .ok (.iload_n 3, 1) := by decide +kernel
theorem dX4_pay_98 : decode cX4_pay 98 = .ok (.aload_n 0, 1) := by decide +kernel
theorem dX4_pay_99 : decode cX4_pay 99 = .ok (.iload_n 3, 1) := by decide +kernel
theorem dX4_pay_100 : decode cX4_pay 100 = .ok (.aload_n 0, 1) := by decide +kernel
theorem dX4_pay_101 : decode cX4_pay 101 = .ok (.getfield 19, 3) := by decide +kernel
theorem dX4_pay_104 : decode cX4_pay 104 = .ok (.iload_n 3, 1) := by decide +kernel
theorem dX4_pay_105 : decode cX4_pay 105 = .ok (.invokevirtual 105, 3) := by decide +kernel
theorem dX4_pay_108 : decode cX4_pay 108 = .ok (.checkcast 62, 3) := by decide +kernel
theorem dX4_pay_111 : decode cX4_pay 111 = .ok (.iload_n 1, 1) := by decide +kernel
theorem dX4_pay_112 : decode cX4_pay 112 = .ok (.invokevirtual 135, 3) := by decide +kernel
theorem dX4_pay_115 : decode cX4_pay 115 = .ok (.invokevirtual 139, 3) := by decide +kernel
theorem dX4_pay_118 : decode cX4_pay 118 = .ok (.iinc 3 1, 3) := by decide +kernel
theorem dX4_pay_121 : decode cX4_pay 121 = .ok (.goto (-53), 3) := by decide +kernel
theorem dX4_pay_124 : decode cX4_pay 124 = .ok (.aload_n 0, 1) := by decide +kernel
theorem dX4_pay_125 : decode cX4_pay 125 = .ok (.getfield 23, 3) := by decide +kernel
theorem dX4_pay_128 : decode cX4_pay 128 = .ok (.aload_n 2, 1) := by decide +kernel
theorem dX4_pay_129 : decode cX4_pay 129 = .ok (.invokevirtual 67, 3) := by decide +kernel
theorem dX4_pay_132 : decode cX4_pay 132 = .ok (.pop, 1) := by decide +kernel
theorem dX4_pay_133 : decode cX4_pay 133 = .ok (.aload_n 0, 1) := by decide +kernel
theorem dX4_pay_134 : decode cX4_pay 134 = .ok (.getfield 23, 3) := by decide +kernel
theorem dX4_pay_137 : decode cX4_pay 137 = .ok (.invokevirtual 53, 3) := by decide +kernel
theorem dX4_pay_140 : decode cX4_pay 140 = .ok (.iconst 1, 1) := by decide +kernel
theorem dX4_pay_141 : decode cX4_pay 141 = .ok (.isub, 1) := by decide +kernel
theorem dX4_pay_142 : decode cX4_pay 142 = .ok (.ireturn, 1) := by decide +kernel
set_option maxRecDepth 20000 in
theorem ggX4_dividends_Jx4a65c_size_8abf5 : GoodIn wsX4_dividends wsJx4a65c_size_8abf5 := goodIn_r _ [6, 7, 14, 15, 16] (by decide +kernel) (by decide +kernel)
set_option maxRecDepth 20000 in
theorem gX4_dividends_Jx4a65c_size_8abf5 : GoodIn wsX4_dividends (wsV RX4 53 RJx4a65c yJx4a65c_size_8abf5 wsJx4a65c_size_8abf5) := goodIn_app (goodIn_of _ (by decide +kernel)) ggX4_dividends_Jx4a65c_size_8abf5
theorem dX4_dividends_0 : decode cX4_dividends 0 = .ok (.aload_n 0, 1) := by decide +kernel
theorem dX4_dividends_1 : decode cX4_dividends 1 = .ok (.getfield 23, 3) := by decide +kernel
theorem dX4_dividends_4 : decode cX4_dividends 4 = .ok (.invokevirtual 53, 3) := by decide +kernel
theorem dX4_dividends_7 : decode cX4_dividends 7 = .ok (.ireturn, 1) := by decide +kernel
set_option maxRecDepth 20000 in
theorem ggX4_gross_X4_paymentAt : GoodIn wsX4_gross wsX4_paymentAt := goodIn_ca (goodIn_r _ [5, 6, 7, 8, 9, 10, 4, 11, 12, 13, 14, 15, 16, 17, 18, 19, 20, 21, 22, 23, 24, 25, 26, 27, 28, 29, 30, 31, 32, 33, 34, 35, 36, 37, 38, 39, 40, 41, 42, 43, 44, 45, 46, 47, 48, 49, 53, 54, 55, 56, 57, 58, 59, 60, 61, 62, 63, 64] (by decide +kernel) (by decide +kernel)) (goodIn_sub (fun _ h => List.mem_cons_of_mem _ (List.mem_append_right _ h)) (by decide +kernel))
set_option maxRecDepth 20000 in
theorem gX4_gross_X4_paymentAt : GoodIn wsX4_gross (wsV RX4 143 RX4 yX4_paymentAt wsX4_paymentAt) := goodIn_app (goodIn_of _ (by decide +kernel)) ggX4_gross_X4_paymentAt
theorem dX4_gross_0 : decode cX4_gross 0 = .ok (.aload_n 0, 1) := by decide +kernel
theorem dX4_gross_1 : decode cX4_gross 1 = .ok (.iload_n 1, 1) := by decide +kernel
theorem dX4_gross_2 : decode cX4_gross 2 = .ok (.iload_n 2, 1) := by decide +kernel
theorem dX4_gross_3 : decode cX4_gross 3 = .ok (.invokevirtual 143, 3) := by decide +kernel
theorem dX4_gross_6 : decode cX4_gross 6 = .ok (.astore_n 3, 1) := by decide +kernel
theorem dX4_gross_7 : decode cX4_gross 7 = .ok (.aload_n 3, 1) := by decide +kernel
theorem dX4_gross_8 : decode cX4_gross 8 = .ok (.ifnonnull 7, 3) := by decide +kernel
theorem dX4_gross_11 : decode cX4_gross 11 = .ok (.iconst 0, 1) := by decide +kernel
theorem dX4_gross_12 : decode cX4_gross 12 = .ok (.goto 7, 3) := by decide +kernel
theorem dX4_gross_15 : decode cX4_gross 15 = .ok (.aload_n 3, 1) := by decide +kernel
theorem dX4_gross_16 : decode cX4_gross 16 = .ok (.getfield 147, 3) := by decide +kernel
theorem dX4_gross_19 : decode cX4_gross 19 = .ok (.ireturn, 1) := by decide +kernel
set_option maxRecDepth 20000 in
theorem ggX4_held_X4_paymentAt : GoodIn wsX4_held wsX4_paymentAt := goodIn_ca (goodIn_r _ [5, 6, 7, 8, 9, 10, 4, 11, 12, 13, 14, 15, 16, 17, 18, 19, 20, 21, 22, 23, 24, 25, 26, 27, 28, 29, 30, 31, 32, 33, 34, 35, 36, 37, 38, 39, 40, 41, 42, 43, 44, 45, 46, 47, 48, 49, 53, 54, 55, 56, 57, 58, 59, 60, 61, 62, 63, 64] (by decide +kernel) (by decide +kernel)) (goodIn_sub (fun _ h => List.mem_cons_of_mem _ (List.mem_append_right _ h)) (by decide +kernel))
set_option maxRecDepth 20000 in
theorem gX4_held_X4_paymentAt : GoodIn wsX4_held (wsV RX4 143 RX4 yX4_paymentAt wsX4_paymentAt) := goodIn_app (goodIn_of _ (by decide +kernel)) ggX4_held_X4_paymentAt
theorem dX4_held_0 : decode cX4_held 0 = .ok (.aload_n 0, 1) := by decide +kernel
theorem dX4_held_1 : decode cX4_held 1 = .ok (.iload_n 1, 1) := by decide +kernel
theorem dX4_held_2 : decode cX4_held 2 = .ok (.iload_n 2, 1) := by decide +kernel
theorem dX4_held_3 : decode cX4_held 3 = .ok (.invokevirtual 143, 3) := by decide +kernel
theorem dX4_held_6 : decode cX4_held 6 = .ok (.astore_n 3, 1) := by decide +kernel
theorem dX4_held_7 : decode cX4_held 7 = .ok (.aload_n 3, 1) := by decide +kernel
theorem dX4_held_8 : decode cX4_held 8 = .ok (.ifnonnull 7, 3) := by decide +kernel
theorem dX4_held_11 : decode cX4_held 11 = .ok (.iconst 0, 1) := by decide +kernel
theorem dX4_held_12 : decode cX4_held 12 = .ok (.goto 7, 3) := by decide +kernel
theorem dX4_held_15 : decode cX4_held 15 = .ok (.aload_n 3, 1) := by decide +kernel
theorem dX4_held_16 : decode cX4_held 16 = .ok (.getfield 152, 3) := by decide +kernel
theorem dX4_held_19 : decode cX4_held 19 = .ok (.ireturn, 1) := by decide +kernel
set_option maxRecDepth 20000 in
theorem ggX4_due_X4_paymentAt : GoodIn wsX4_due wsX4_paymentAt := goodIn_ca (goodIn_r _ [5, 6, 7, 8, 9, 10, 4, 11, 12, 13, 14, 15, 16, 17, 18, 19, 20, 21, 22, 23, 24, 25, 26, 27, 28, 29, 30, 31, 32, 33, 34, 35, 36, 37, 38, 39, 40, 41, 42, 43, 44, 45, 46, 47, 48, 49, 66, 67, 68, 69, 70, 71, 72, 73, 74, 75, 76, 77] (by decide +kernel) (by decide +kernel)) (goodIn_sub (fun _ h => List.mem_cons_of_mem _ (List.mem_append_right _ h)) (by decide +kernel))
set_option maxRecDepth 20000 in
theorem gX4_due_X4_paymentAt : GoodIn wsX4_due (wsV RX4 143 RX4 yX4_paymentAt wsX4_paymentAt) := goodIn_app (goodIn_of _ (by decide +kernel)) ggX4_due_X4_paymentAt
set_option maxRecDepth 20000 in
theorem ggX4_due_X2_taxWith : GoodIn wsX4_due wsX2_taxWith := goodIn_r _ [53, 54, 55, 56, 15, 16, 17, 18, 19, 57, 24, 25, 26, 27, 28, 29, 30, 31, 32, 33, 34, 35, 36, 37, 38, 39, 58, 59, 60, 61, 62, 63, 64, 65, 78, 79, 80, 72, 73, 74, 81, 82, 83] (by decide +kernel) (by decide +kernel)
set_option maxRecDepth 20000 in
theorem gX4_due_X2_taxWith_n155 : GoodIn wsX4_due (wsX2_taxWith) := ggX4_due_X2_taxWith
theorem dX4_due_0 : decode cX4_due 0 = .ok (.aload_n 0, 1) := by decide +kernel
theorem dX4_due_1 : decode cX4_due 1 = .ok (.iload_n 1, 1) := by decide +kernel
theorem dX4_due_2 : decode cX4_due 2 = .ok (.iload_n 2, 1) := by decide +kernel
theorem dX4_due_3 : decode cX4_due 3 = .ok (.invokevirtual 143, 3) := by decide +kernel
theorem dX4_due_6 : decode cX4_due 6 = .ok (.astore_n 3, 1) := by decide +kernel
theorem dX4_due_7 : decode cX4_due 7 = .ok (.aload_n 3, 1) := by decide +kernel
theorem dX4_due_8 : decode cX4_due 8 = .ok (.ifnonnull 7, 3) := by decide +kernel
theorem dX4_due_11 : decode cX4_due 11 = .ok (.iconst 0, 1) := by decide +kernel
theorem dX4_due_12 : decode cX4_due 12 = .ok (.goto 8, 3) := by decide +kernel
theorem dX4_due_15 : decode cX4_due 15 = .ok (.aload_n 3, 1) := by decide +kernel
theorem dX4_due_16 : decode cX4_due 16 = .ok (.iconst (-1), 1) := by decide +kernel
theorem dX4_due_17 : decode cX4_due 17 = .ok (.invokevirtual 155, 3) := by decide +kernel
theorem dX4_due_20 : decode cX4_due 20 = .ok (.ireturn, 1) := by decide +kernel
set_option maxRecDepth 20000 in
theorem ggX4_heldInAll_Jx4a65c_size_8abf5 : GoodIn wsX4_heldInAll wsJx4a65c_size_8abf5 := goodIn_r _ [7, 8, 37, 38, 39] (by decide +kernel) (by decide +kernel)
set_option maxRecDepth 20000 in
theorem gX4_heldInAll_Jx4a65c_size_8abf5 : GoodIn wsX4_heldInAll (wsV RX4 53 RJx4a65c yJx4a65c_size_8abf5 wsJx4a65c_size_8abf5) := goodIn_app (goodIn_of _ (by decide +kernel)) ggX4_heldInAll_Jx4a65c_size_8abf5
set_option maxRecDepth 20000 in
theorem ggX4_heldInAll_Jx4a65c_get_915e3 : GoodIn wsX4_heldInAll wsJx4a65c_get_915e3 := goodIn_r _ [12, 8, 13, 14, 15, 16, 17, 18, 19, 20, 21, 22, 23, 6, 24, 25, 37, 38, 39] (by decide +kernel) (by decide +kernel)
set_option maxRecDepth 20000 in
theorem gX4_heldInAll_Jx4a65c_get_915e3 : GoodIn wsX4_heldInAll (wsV RX4 105 RJx4a65c yJx4a65c_get_915e3 wsJx4a65c_get_915e3) := goodIn_app (goodIn_of _ (by decide +kernel)) ggX4_heldInAll_Jx4a65c_get_915e3
set_option maxRecDepth 20000 in
theorem ggX4_heldInAll_X0_heldOfAll : GoodIn wsX4_heldInAll wsX0_heldOfAll := goodIn_r _ [29, 30, 40, 41, 42, 43, 44, 45] (by decide +kernel) (by decide +kernel)
set_option maxRecDepth 20000 in
theorem gX4_heldInAll_X0_heldOfAll_n158 : GoodIn wsX4_heldInAll (wsX0_heldOfAll) := ggX4_heldInAll_X0_heldOfAll
theorem dX4_heldInAll_0 : decode cX4_heldInAll 0 = .ok (.lconst 0, 1) := by decide +kernel
theorem dX4_heldInAll_1 : decode cX4_heldInAll 1 = .ok (.lstore_n 1, 1) := by decide +kernel
theorem dX4_heldInAll_2 : decode cX4_heldInAll 2 = .ok (.iconst 0, 1) := by decide +kernel
theorem dX4_heldInAll_3 : decode cX4_heldInAll 3 = .ok (.istore_n 3, 1) := by decide +kernel
theorem dX4_heldInAll_4 : decode cX4_heldInAll 4 = .ok (.iload_n 3, 1) := by decide +kernel
theorem dX4_heldInAll_5 : decode cX4_heldInAll 5 = .ok (.aload_n 0, 1) := by decide +kernel
theorem dX4_heldInAll_6 : decode cX4_heldInAll 6 = .ok (.getfield 23, 3) := by decide +kernel
theorem dX4_heldInAll_9 : decode cX4_heldInAll 9 = .ok (.invokevirtual 53, 3) := by decide +kernel
theorem dX4_heldInAll_12 : decode cX4_heldInAll 12 = .ok (.if_icmp .ge 26, 3) := by decide +kernel
theorem dX4_heldInAll_15 : decode cX4_heldInAll 15 = .ok (.lload_n 1, 1) := by decide +kernel
theorem dX4_heldInAll_16 : decode cX4_heldInAll 16 = .ok (.aload_n 0, 1) := by decide +kernel
theorem dX4_heldInAll_17 : decode cX4_heldInAll 17 = .ok (.getfield 23, 3) := by decide +kernel
theorem dX4_heldInAll_20 : decode cX4_heldInAll 20 = .ok (.iload_n 3, 1) := by decide +kernel
theorem dX4_heldInAll_21 : decode cX4_heldInAll 21 = .ok (.invokevirtual 105, 3) := by decide +kernel
theorem dX4_heldInAll_24 : decode cX4_heldInAll 24 = .ok (.checkcast 129, 3) := by decide +kernel
theorem dX4_heldInAll_27 : decode cX4_heldInAll 27 = .ok (.invokevirtual 158, 3) := by decide +kernel
theorem dX4_heldInAll_30 : decode cX4_heldInAll 30 = .ok (.ladd, 1) := by decide +kernel
theorem dX4_heldInAll_31 : decode cX4_heldInAll 31 = .ok (.lstore_n 1, 1) := by decide +kernel
theorem dX4_heldInAll_32 : decode cX4_heldInAll 32 = .ok (.iinc 3 1, 3) := by decide +kernel
theorem dX4_heldInAll_35 : decode cX4_heldInAll 35 = .ok (.goto (-31), 3) := by decide +kernel
theorem dX4_heldInAll_38 : decode cX4_heldInAll 38 = .ok (.lload_n 1, 1) := by decide +kernel
theorem dX4_heldInAll_39 : decode cX4_heldInAll 39 = .ok (.lreturn, 1) := by decide +kernel
theorem dX4_refunded_0 : decode cX4_refunded 0 = .ok (.aload_n 0, 1) := by decide +kernel
theorem dX4_refunded_1 : decode cX4_refunded 1 = .ok (.getfield 30, 3) := by decide +kernel
theorem dX4_refunded_4 : decode cX4_refunded 4 = .ok (.lreturn, 1) := by decide +kernel
set_option maxRecDepth 20000 in
theorem ggX4_refund_X4_refundablePayment : GoodIn wsX4_refund wsX4_refundablePayment := goodIn_ca (goodIn_ca (goodIn_r _ [5, 6, 7, 8, 9, 10, 11, 4, 12, 13, 14, 15, 16, 17, 18, 19, 20, 21, 22, 23, 24, 25, 26, 27, 28, 29, 30, 31, 32, 33, 34, 35, 36, 37, 38, 39, 40, 41, 42, 43, 44, 45, 46, 47, 48, 49, 50, 51, 52, 53, 54, 55, 56, 102, 103, 104, 105, 106, 107, 99, 100, 101, 108, 109, 110] (by decide +kernel) (by decide +kernel)) (goodIn_sub (fun _ h => List.mem_cons_of_mem _ (List.mem_append_left _ (List.mem_append_right _ h))) (by decide +kernel))) (goodIn_sub (fun _ h => List.mem_cons_of_mem _ (List.mem_append_right _ h)) (by decide +kernel))
set_option maxRecDepth 20000 in
theorem gX4_refund_X4_refundablePayment : GoodIn wsX4_refund (wsV RX4 162 RX4 yX4_refundablePayment wsX4_refundablePayment) := goodIn_app (goodIn_of _ (by decide +kernel)) ggX4_refund_X4_refundablePayment
set_option maxRecDepth 20000 in
theorem ggX4_refund_X4_dividendAt : GoodIn wsX4_refund wsX4_dividendAt := goodIn_ca (goodIn_r _ [18, 13, 14, 19, 20, 21, 22, 23, 24, 25, 26, 27, 28, 4, 29, 30, 31, 32, 33, 34, 35, 36, 37, 38, 39, 40, 41, 42, 43, 44, 45, 46, 102, 103, 104, 105, 106, 107, 108, 109, 110] (by decide +kernel) (by decide +kernel)) (goodIn_sub (fun _ h => List.mem_cons_of_mem _ (List.mem_append_right _ h)) (by decide +kernel))
set_option maxRecDepth 20000 in
theorem gX4_refund_X4_dividendAt : GoodIn wsX4_refund (wsV RX4 166 RX4 yX4_dividendAt wsX4_dividendAt) := goodIn_app (goodIn_of _ (by decide +kernel)) ggX4_refund_X4_dividendAt
set_option maxRecDepth 20000 in
theorem ggX4_refund_X4_validForms : GoodIn wsX4_refund wsX4_validForms := goodIn_r _ [60, 51, 61, 8, 21, 22, 23, 24, 25, 26, 30, 31, 32, 33, 34, 35, 36, 37, 38, 39, 40, 41, 42, 43, 44, 45, 46, 62, 63, 64, 65, 66, 67, 68, 4, 69, 102, 103, 104, 105, 106, 107, 108, 109, 110, 111, 112, 113, 114, 115, 116] (by decide +kernel) (by decide +kernel)
set_option maxRecDepth 20000 in
theorem gX4_refund_X4_validForms : GoodIn wsX4_refund (wsV RX4 131 RX4 yX4_validForms wsX4_validForms) := goodIn_app (goodIn_of _ (by decide +kernel)) ggX4_refund_X4_validForms
set_option maxRecDepth 20000 in
theorem ggX4_refund_X2_taxWith : GoodIn wsX4_refund wsX2_taxWith := goodIn_r _ [73, 74, 75, 76, 22, 23, 24, 25, 26, 77, 31, 32, 33, 34, 35, 36, 37, 38, 39, 40, 41, 42, 43, 44, 45, 46, 78, 79, 80, 81, 82, 83, 84, 85, 117, 118, 119, 108, 109, 110, 120, 121, 122] (by decide +kernel) (by decide +kernel)
set_option maxRecDepth 20000 in
theorem gX4_refund_X2_taxWith_n155 : GoodIn wsX4_refund (wsX2_taxWith) := ggX4_refund_X2_taxWith
set_option maxRecDepth 20000 in
theorem ggX4_refund_X4_giveBack : GoodIn wsX4_refund wsX4_giveBack := goodIn_r _ [89, 90, 91, 71, 92, 93, 94, 95, 96, 97, 98, 102, 103, 104, 105, 106, 107, 117, 118, 119] (by decide +kernel) (by decide +kernel)
set_option maxRecDepth 20000 in
theorem gX4_refund_X4_giveBack : GoodIn wsX4_refund (wsV RX4 173 RX4 yX4_giveBack wsX4_giveBack) := goodIn_app (goodIn_of _ (by decide +kernel)) ggX4_refund_X4_giveBack
theorem dX4_refund_0 : decode cX4_refund 0 = .ok (.aload_n 0, 1) := by decide +kernel
theorem dX4_refund_1 : decode cX4_refund 1 = .ok (.iload_n 1, 1) := by decide +kernel
theorem dX4_refund_2 : decode cX4_refund 2 = .ok (.iload_n 2, 1) := by decide +kernel
theorem dX4_refund_3 : decode cX4_refund 3 = .ok (.bipush 60, 2) := by decide +kernel
theorem dX4_refund_5 : decode cX4_refund 5 = .ok (.invokevirtual 162, 3) := by decide +kernel
theorem dX4_refund_8 : decode cX4_refund 8 = .ok (.astore_n 3, 1) := by decide +kernel
theorem dX4_refund_9 : decode cX4_refund 9 = .ok (.aload_n 0, 1) := by decide +kernel
theorem dX4_refund_10 : decode cX4_refund 10 = .ok (.iload_n 1, 1) := by decide +kernel
theorem dX4_refund_11 : decode cX4_refund 11 = .ok (.invokevirtual 166, 3) := by decide +kernel
theorem dX4_refund_14 : decode cX4_refund 14 = .ok (.getfield 170, 3) := by decide +kernel
theorem dX4_refund_17 : decode cX4_refund 17 = .ok (.istore 4, 2) := by decide +kernel
theorem dX4_refund_19 : decode cX4_refund 19 = .ok (.aload_n 0, 1) := by decide +kernel
theorem dX4_refund_20 : decode cX4_refund 20 = .ok (.aload_n 3, 1) := by decide +kernel
theorem dX4_refund_21 : decode cX4_refund 21 = .ok (.aload_n 3, 1) := by decide +kernel
theorem dX4_refund_22 : decode cX4_refund 22 = .ok (.iload 4, 2) := by decide +kernel
theorem dX4_refund_24 : decode cX4_refund 24 = .ok (.aload_n 0, 1) := by decide +kernel
theorem dX4_refund_25 : decode cX4_refund 25 = .ok (.invokevirtual 131, 3) := by decide +kernel
theorem dX4_refund_28 : decode cX4_refund 28 = .ok (.ior, 1) := by decide +kernel
theorem dX4_refund_29 : decode cX4_refund 29 = .ok (.invokevirtual 155, 3) := by decide +kernel
theorem dX4_refund_32 : decode cX4_refund 32 = .ok (.invokevirtual 173, 3) := by decide +kernel
theorem dX4_refund_35 : decode cX4_refund 35 = .ok (.ireturn, 1) := by decide +kernel
set_option maxRecDepth 20000 in
theorem ggX4_claim_X4_refundablePayment : GoodIn wsX4_claim wsX4_refundablePayment := goodIn_ca (goodIn_ca (goodIn_r _ [8, 1, 2, 3, 9, 10, 11, 7, 12, 13, 14, 15, 16, 17, 18, 19, 20, 21, 22, 23, 24, 25, 26, 27, 28, 29, 30, 31, 32, 33, 34, 35, 36, 37, 38, 39, 40, 41, 42, 43, 44, 45, 46, 47, 48, 49, 50, 51, 52, 53, 54, 55, 56, 96, 97, 98, 99, 100, 101, 102, 103, 104, 105, 106, 107] (by decide +kernel) (by decide +kernel)) (goodIn_sub (fun _ h => List.mem_cons_of_mem _ (List.mem_append_left _ (List.mem_append_right _ h))) (by decide +kernel))) (goodIn_sub (fun _ h => List.mem_cons_of_mem _ (List.mem_append_right _ h)) (by decide +kernel))
set_option maxRecDepth 20000 in
theorem gX4_claim_X4_refundablePayment : GoodIn wsX4_claim (wsV RX4 162 RX4 yX4_refundablePayment wsX4_refundablePayment) := goodIn_app (goodIn_of _ (by decide +kernel)) ggX4_claim_X4_refundablePayment
set_option maxRecDepth 20000 in
theorem ggX4_claim_X4_holderAt : GoodIn wsX4_claim wsX4_holderAt := goodIn_ca (goodIn_r _ [60, 13, 14, 51, 61, 47, 48, 49, 7, 50, 21, 22, 23, 24, 25, 26, 27, 28, 29, 30, 31, 32, 33, 34, 35, 36, 37, 38, 39, 40, 41, 42, 43, 44, 45, 46, 96, 97, 98, 99, 100, 101, 105, 106, 107] (by decide +kernel) (by decide +kernel)) (goodIn_sub (fun _ h => List.mem_cons_of_mem _ (List.mem_append_right _ h)) (by decide +kernel))
set_option maxRecDepth 20000 in
theorem gX4_claim_X4_holderAt : GoodIn wsX4_claim (wsV RX4 71 RX4 yX4_holderAt wsX4_holderAt) := goodIn_app (goodIn_of _ (by decide +kernel)) ggX4_claim_X4_holderAt
set_option maxRecDepth 20000 in
theorem ggX4_claim_X1_hasFormOn : GoodIn wsX4_claim wsX1_hasFormOn := goodIn_r _ [65, 66, 108, 109, 110, 111, 112, 113] (by decide +kernel) (by decide +kernel)
set_option maxRecDepth 20000 in
theorem gX4_claim_X1_hasFormOn_n113 : GoodIn wsX4_claim (wsX1_hasFormOn) := ggX4_claim_X1_hasFormOn
set_option maxRecDepth 20000 in
theorem ggX4_claim_X2_taxWith : GoodIn wsX4_claim wsX2_taxWith := goodIn_r _ [70, 71, 72, 73, 22, 23, 24, 25, 26, 74, 31, 32, 33, 34, 35, 36, 37, 38, 39, 40, 41, 42, 43, 44, 45, 46, 75, 76, 77, 78, 79, 80, 81, 82, 114, 115, 116, 105, 106, 107, 117, 118, 119] (by decide +kernel) (by decide +kernel)
set_option maxRecDepth 20000 in
theorem gX4_claim_X2_taxWith_n155 : GoodIn wsX4_claim (wsX2_taxWith) := ggX4_claim_X2_taxWith
set_option maxRecDepth 20000 in
theorem ggX4_claim_X4_giveBack : GoodIn wsX4_claim wsX4_giveBack := goodIn_r _ [86, 87, 88, 68, 89, 90, 91, 92, 93, 94, 95, 96, 97, 98, 99, 100, 101, 114, 115, 116] (by decide +kernel) (by decide +kernel)
set_option maxRecDepth 20000 in
theorem gX4_claim_X4_giveBack : GoodIn wsX4_claim (wsV RX4 173 RX4 yX4_giveBack wsX4_giveBack) := goodIn_app (goodIn_of _ (by decide +kernel)) ggX4_claim_X4_giveBack
theorem dX4_claim_0 : decode cX4_claim 0 = .ok (.aload_n 0, 1) := by decide +kernel
theorem dX4_claim_1 : decode cX4_claim 1 = .ok (.iload_n 1, 1) := by decide +kernel
theorem dX4_claim_2 : decode cX4_claim 2 = .ok (.iload_n 2, 1) := by decide +kernel
theorem dX4_claim_3 : decode cX4_claim 3 = .ok (.sipush 1080, 3) := by decide +kernel
theorem dX4_claim_6 : decode cX4_claim 6 = .ok (.invokevirtual 162, 3) := by decide +kernel
theorem dX4_claim_9 : decode cX4_claim 9 = .ok (.astore_n 3, 1) := by decide +kernel
theorem dX4_claim_10 : decode cX4_claim 10 = .ok (.aload_n 0, 1) := by decide +kernel
theorem dX4_claim_11 : decode cX4_claim 11 = .ok (.iload_n 2, 1) := by decide +kernel
theorem dX4_claim_12 : decode cX4_claim 12 = .ok (.invokevirtual 71, 3) := by decide +kernel
theorem dX4_claim_15 : decode cX4_claim 15 = .ok (.aload_n 0, 1) := by decide +kernel
theorem dX4_claim_16 : decode cX4_claim 16 = .ok (.getfield 26, 3) := by decide +kernel
theorem dX4_claim_19 : decode cX4_claim 19 = .ok (.invokevirtual 113, 3) := by decide +kernel
theorem dX4_claim_22 : decode cX4_claim 22 = .ok (.ifCond .ne 13, 3) := by decide +kernel
theorem dX4_claim_25 : decode cX4_claim 25 = .ok (.new 57, 3) := by decide +kernel
theorem dX4_claim_28 : decode cX4_claim 28 = .ok (.dup, 1) := by decide +kernel
theorem dX4_claim_29 : decode cX4_claim 29 = .ok (.ldc 177, 2) := by decide +kernel
theorem dX4_claim_31 : decode cX4_claim 31 = .ok (.invokespecial 61, 3) := by decide +kernel
theorem dX4_claim_34 : decode cX4_claim 34 = .ok (.athrow, 1) := by decide +kernel
theorem dX4_claim_35 : decode cX4_claim 35 = .ok (.aload_n 0, 1) := by decide +kernel
theorem dX4_claim_36 : decode cX4_claim 36 = .ok (.aload_n 3, 1) := by decide +kernel
theorem dX4_claim_37 : decode cX4_claim 37 = .ok (.aload_n 3, 1) := by decide +kernel
theorem dX4_claim_38 : decode cX4_claim 38 = .ok (.iconst (-1), 1) := by decide +kernel
theorem dX4_claim_39 : decode cX4_claim 39 = .ok (.invokevirtual 155, 3) := by decide +kernel
theorem dX4_claim_42 : decode cX4_claim 42 = .ok (.invokevirtual 173, 3) := by decide +kernel
theorem dX4_claim_45 : decode cX4_claim 45 = .ok (.ireturn, 1) := by decide +kernel
theorem dX4_isWithin_0 : decode cX4_isWithin 0 = .ok (.iload_n 0, 1) := by decide +kernel
theorem dX4_isWithin_1 : decode cX4_isWithin 1 = .ok (.iload_n 1, 1) := by decide +kernel
theorem dX4_isWithin_2 : decode cX4_isWithin 2 = .ok (.if_icmp .lt 12, 3) := by decide +kernel
theorem dX4_isWithin_5 : decode cX4_isWithin 5 = .ok (.iload_n 0, 1) := by decide +kernel
theorem dX4_isWithin_6 : decode cX4_isWithin 6 = .ok (.iload_n 2, 1) := by decide +kernel
theorem dX4_isWithin_7 : decode cX4_isWithin 7 = .ok (.if_icmp .gt 7, 3) := by decide +kernel
theorem dX4_isWithin_10 : decode cX4_isWithin 10 = .ok (.iconst 1, 1) := by decide +kernel
theorem dX4_isWithin_11 : decode cX4_isWithin 11 = .ok (.goto 4, 3) := by decide +kernel
theorem dX4_isWithin_14 : decode cX4_isWithin 14 = .ok (.iconst 0, 1) := by decide +kernel
theorem dX4_isWithin_15 : decode cX4_isWithin 15 = .ok (.ireturn, 1) := by decide +kernel
set_option maxRecDepth 20000 in
theorem ggX4_isLand_X4_isWithin : GoodIn wsX4_isLand wsX4_isWithin := goodIn_r _ [4] (by decide +kernel) (by decide +kernel)
set_option maxRecDepth 20000 in
theorem gX4_isLand_X4_isWithin : GoodIn wsX4_isLand (va_wsS RX4 38 yX4_isWithin wsX4_isWithin) := goodIn_app (goodIn_of _ (by decide +kernel)) ggX4_isLand_X4_isWithin
theorem dX4_isLand_0 : decode cX4_isLand 0 = .ok (.iload_n 0, 1) := by decide +kernel
theorem dX4_isLand_1 : decode cX4_isLand 1 = .ok (.iconst 0, 1) := by decide +kernel
theorem dX4_isLand_2 : decode cX4_isLand 2 = .ok (.iconst 5, 1) := by decide +kernel
theorem dX4_isLand_3 : decode cX4_isLand 3 = .ok (.invokestatic 38, 3) := by decide +kernel
theorem dX4_isLand_6 : decode cX4_isLand 6 = .ok (.ireturn, 1) := by decide +kernel
set_option maxRecDepth 20000 in
theorem ggX4_isHolder_Jx4a65c_size_8abf5 : GoodIn wsX4_isHolder wsJx4a65c_size_8abf5 := goodIn_r _ [6, 7, 18, 19, 20] (by decide +kernel) (by decide +kernel)
set_option maxRecDepth 20000 in
theorem gX4_isHolder_Jx4a65c_size_8abf5 : GoodIn wsX4_isHolder (wsV RX4 53 RJx4a65c yJx4a65c_size_8abf5 wsJx4a65c_size_8abf5) := goodIn_app (goodIn_of _ (by decide +kernel)) ggX4_isHolder_Jx4a65c_size_8abf5
set_option maxRecDepth 20000 in
theorem ggX4_isHolder_X4_isWithin : GoodIn wsX4_isHolder wsX4_isWithin := goodIn_r _ [11] (by decide +kernel) (by decide +kernel)
set_option maxRecDepth 20000 in
theorem gX4_isHolder_X4_isWithin : GoodIn wsX4_isHolder (va_wsS RX4 38 yX4_isWithin wsX4_isWithin) := goodIn_app (goodIn_of _ (by decide +kernel)) ggX4_isHolder_X4_isWithin
theorem dX4_isHolder_0 : decode cX4_isHolder 0 = .ok (.iload_n 1, 1) := by decide +kernel
theorem dX4_isHolder_1 : decode cX4_isHolder 1 = .ok (.iconst 0, 1) := by decide +kernel
theorem dX4_isHolder_2 : decode cX4_isHolder 2 = .ok (.aload_n 0, 1) := by decide +kernel
theorem dX4_isHolder_3 : decode cX4_isHolder 3 = .ok (.getfield 19, 3) := by decide +kernel
theorem dX4_isHolder_6 : decode cX4_isHolder 6 = .ok (.invokevirtual 53, 3) := by decide +kernel
theorem dX4_isHolder_9 : decode cX4_isHolder 9 = .ok (.iconst 1, 1) := by decide +kernel
theorem dX4_isHolder_10 : decode cX4_isHolder 10 = .ok (.isub, 1) := by decide +kernel
theorem dX4_isHolder_11 : decode cX4_isHolder 11 = .ok (.invokestatic 38, 3) := by decide +kernel
theorem dX4_isHolder_14 : decode cX4_isHolder 14 = .ok (.ireturn, 1) := by decide +kernel
set_option maxRecDepth 20000 in
theorem ggX4_holderAt_X4_isHolder : GoodIn wsX4_holderAt wsX4_isHolder := goodIn_r _ [9, 3, 10, 11, 12, 13, 14, 15, 16, 17, 8, 18, 36, 37, 38, 39, 40, 41, 42, 43, 44] (by decide +kernel) (by decide +kernel)
set_option maxRecDepth 20000 in
theorem gX4_holderAt_X4_isHolder : GoodIn wsX4_holderAt (wsV RX4 179 RX4 yX4_isHolder wsX4_isHolder) := goodIn_app (goodIn_of _ (by decide +kernel)) ggX4_holderAt_X4_isHolder
set_option maxRecDepth 20000 in
theorem ggX4_holderAt_Jx4a65c_get_915e3 : GoodIn wsX4_holderAt wsJx4a65c_get_915e3 := goodIn_r _ [22, 15, 23, 24, 25, 26, 27, 28, 29, 30, 31, 32, 33, 13, 34, 35, 42, 43, 44] (by decide +kernel) (by decide +kernel)
set_option maxRecDepth 20000 in
theorem gX4_holderAt_Jx4a65c_get_915e3 : GoodIn wsX4_holderAt (wsV RX4 105 RJx4a65c yJx4a65c_get_915e3 wsJx4a65c_get_915e3) := goodIn_app (goodIn_of _ (by decide +kernel)) ggX4_holderAt_Jx4a65c_get_915e3
theorem dX4_holderAt_0 : decode cX4_holderAt 0 = .ok (.aload_n 0, 1) := by decide +kernel
theorem dX4_holderAt_1 : decode cX4_holderAt 1 = .ok (.iload_n 1, 1) := by decide +kernel
theorem dX4_holderAt_2 : decode cX4_holderAt 2 = .ok (.invokevirtual 179, 3) := by decide +kernel
theorem dX4_holderAt_5 : decode cX4_holderAt 5 = .ok (.ifCond .ne 13, 3) := by decide +kernel
theorem dX4_holderAt_8 : decode cX4_holderAt 8 = .ok (.new 182, 3) := by decide +kernel
theorem dX4_holderAt_11 : decode cX4_holderAt 11 = .ok (.dup, 1) := by decide +kernel
theorem dX4_holderAt_12 : decode cX4_holderAt 12 = .ok (.ldc 184, 2) := by decide +kernel
theorem dX4_holderAt_14 : decode cX4_holderAt 14 = .ok (.invokespecial 186, 3) := by decide +kernel
theorem dX4_holderAt_17 : decode cX4_holderAt 17 = .ok (.athrow, 1) := by decide +kernel
theorem dX4_holderAt_18 : decode cX4_holderAt 18 = .ok (.aload_n 0, 1) := by decide +kernel
theorem dX4_holderAt_19 : decode cX4_holderAt 19 = .ok (.getfield 19, 3) := by decide +kernel
theorem dX4_holderAt_22 : decode cX4_holderAt 22 = .ok (.iload_n 1, 1) := by decide +kernel
theorem dX4_holderAt_23 : decode cX4_holderAt 23 = .ok (.invokevirtual 105, 3) := by decide +kernel
theorem dX4_holderAt_26 : decode cX4_holderAt 26 = .ok (.checkcast 62, 3) := by decide +kernel
theorem dX4_holderAt_29 : decode cX4_holderAt 29 = .ok (.areturn, 1) := by decide +kernel
set_option maxRecDepth 20000 in
theorem ggX4_dividendAt_Jx4a65c_size_8abf5 : GoodIn wsX4_dividendAt wsJx4a65c_size_8abf5 := goodIn_r _ [9, 10, 38, 39, 40] (by decide +kernel) (by decide +kernel)
set_option maxRecDepth 20000 in
theorem gX4_dividendAt_Jx4a65c_size_8abf5 : GoodIn wsX4_dividendAt (wsV RX4 53 RJx4a65c yJx4a65c_size_8abf5 wsJx4a65c_size_8abf5) := goodIn_app (goodIn_of _ (by decide +kernel)) ggX4_dividendAt_Jx4a65c_size_8abf5
set_option maxRecDepth 20000 in
theorem ggX4_dividendAt_X4_isWithin : GoodIn wsX4_dividendAt wsX4_isWithin := goodIn_r _ [14] (by decide +kernel) (by decide +kernel)
set_option maxRecDepth 20000 in
theorem gX4_dividendAt_X4_isWithin : GoodIn wsX4_dividendAt (va_wsS RX4 38 yX4_isWithin wsX4_isWithin) := goodIn_app (goodIn_of _ (by decide +kernel)) ggX4_dividendAt_X4_isWithin
set_option maxRecDepth 20000 in
theorem ggX4_dividendAt_Jx4a65c_get_915e3 : GoodIn wsX4_dividendAt wsJx4a65c_get_915e3 := goodIn_r _ [18, 10, 19, 20, 21, 22, 23, 24, 25, 26, 27, 28, 29, 8, 30, 31, 38, 39, 40] (by decide +kernel) (by decide +kernel)
set_option maxRecDepth 20000 in
theorem gX4_dividendAt_Jx4a65c_get_915e3 : GoodIn wsX4_dividendAt (wsV RX4 105 RJx4a65c yJx4a65c_get_915e3 wsJx4a65c_get_915e3) := goodIn_app (goodIn_of _ (by decide +kernel)) ggX4_dividendAt_Jx4a65c_get_915e3
theorem dX4_dividendAt_0 : decode cX4_dividendAt 0 = .ok (.iload_n 1, 1) := by decide +kernel
theorem dX4_dividendAt_1 : decode cX4_dividendAt 1 = .ok (.iconst 0, 1) := by decide +kernel
theorem dX4_dividendAt_2 : decode cX4_dividendAt 2 = .ok (.aload_n 0, 1) := by decide +kernel
theorem dX4_dividendAt_3 : decode cX4_dividendAt 3 = .ok (.getfield 23, 3) := by decide +kernel
theorem dX4_dividendAt_6 : decode cX4_dividendAt 6 = .ok (.invokevirtual 53, 3) := by decide +kernel
theorem dX4_dividendAt_9 : decode cX4_dividendAt 9 = .ok (.iconst 1, 1) := by decide +kernel
theorem dX4_dividendAt_10 : decode cX4_dividendAt 10 = .ok (.isub, 1) := by decide +kernel
theorem dX4_dividendAt_11 : decode cX4_dividendAt 11 = .ok (.invokestatic 38, 3) := by decide +kernel
theorem dX4_dividendAt_14 : decode cX4_dividendAt 14 = .ok (.ifCond .ne 13, 3) := by decide +kernel
theorem dX4_dividendAt_17 : decode cX4_dividendAt 17 = .ok (.new 182, 3) := by decide +kernel
theorem dX4_dividendAt_20 : decode cX4_dividendAt 20 = .ok (.dup, 1) := by decide +kernel
theorem dX4_dividendAt_21 : decode cX4_dividendAt 21 = .ok (.ldc 187, 2) := by decide +kernel
theorem dX4_dividendAt_23 : decode cX4_dividendAt 23 = .ok (.invokespecial 186, 3) := by decide +kernel
theorem dX4_dividendAt_26 : decode cX4_dividendAt 26 = .ok (.athrow, 1) := by decide +kernel
theorem dX4_dividendAt_27 : decode cX4_dividendAt 27 = .ok (.aload_n 0, 1) := by decide +kernel
theorem dX4_dividendAt_28 : decode cX4_dividendAt 28 = .ok (.getfield 23, 3) := by decide +kernel
theorem dX4_dividendAt_31 : decode cX4_dividendAt 31 = .ok (.iload_n 1, 1) := by decide +kernel
theorem dX4_dividendAt_32 : decode cX4_dividendAt 32 = .ok (.invokevirtual 105, 3) := by decide +kernel
theorem dX4_dividendAt_35 : decode cX4_dividendAt 35 = .ok (.checkcast 129, 3) := by decide +kernel
theorem dX4_dividendAt_38 : decode cX4_dividendAt 38 = .ok (.areturn, 1) := by decide +kernel
set_option maxRecDepth 20000 in
theorem ggX4_paymentAt_X4_dividendAt : GoodIn wsX4_paymentAt wsX4_dividendAt := goodIn_ca (goodIn_r _ [7, 1, 2, 8, 9, 10, 11, 12, 13, 14, 15, 16, 17, 6, 18, 19, 20, 21, 22, 23, 24, 25, 26, 27, 28, 29, 30, 31, 32, 33, 34, 35, 46, 47, 48, 49, 50, 51, 52, 53, 54] (by decide +kernel) (by decide +kernel)) (goodIn_sub (fun _ h => List.mem_cons_of_mem _ (List.mem_append_right _ h)) (by decide +kernel))
set_option maxRecDepth 20000 in
theorem gX4_paymentAt_X4_dividendAt : GoodIn wsX4_paymentAt (wsV RX4 166 RX4 yX4_dividendAt wsX4_dividendAt) := goodIn_app (goodIn_of _ (by decide +kernel)) ggX4_paymentAt_X4_dividendAt
set_option maxRecDepth 20000 in
theorem ggX4_paymentAt_X4_isHolder : GoodIn wsX4_paymentAt wsX4_isHolder := goodIn_r _ [39, 40, 10, 11, 12, 13, 14, 15, 16, 17, 6, 18, 46, 47, 48, 49, 50, 51, 52, 53, 54] (by decide +kernel) (by decide +kernel)
set_option maxRecDepth 20000 in
theorem gX4_paymentAt_X4_isHolder : GoodIn wsX4_paymentAt (wsV RX4 179 RX4 yX4_isHolder wsX4_isHolder) := goodIn_app (goodIn_of _ (by decide +kernel)) ggX4_paymentAt_X4_isHolder
set_option maxRecDepth 20000 in
theorem ggX4_paymentAt_X0_paymentTo : GoodIn wsX4_paymentAt wsX0_paymentTo := goodIn_r _ [44, 45, 55, 56, 57] (by decide +kernel) (by decide +kernel)
set_option maxRecDepth 20000 in
theorem gX4_paymentAt_X0_paymentTo_n189 : GoodIn wsX4_paymentAt (wsX0_paymentTo) := ggX4_paymentAt_X0_paymentTo
theorem dX4_paymentAt_0 : decode cX4_paymentAt 0 = .ok (.aload_n 0, 1) := by decide +kernel
theorem dX4_paymentAt_1 : decode cX4_paymentAt 1 = .ok (.iload_n 1, 1) := by decide +kernel
theorem dX4_paymentAt_2 : decode cX4_paymentAt 2 = .ok (.invokevirtual 166, 3) := by decide +kernel
theorem dX4_paymentAt_5 : decode cX4_paymentAt 5 = .ok (.astore_n 3, 1) := by decide +kernel
theorem dX4_paymentAt_6 : decode cX4_paymentAt 6 = .ok (.aload_n 0, 1) := by decide +kernel
theorem dX4_paymentAt_7 : decode cX4_paymentAt 7 = .ok (.iload_n 2, 1) := by decide +kernel
theorem dX4_paymentAt_8 : decode cX4_paymentAt 8 = .ok (.invokevirtual 179, 3) := by decide +kernel
theorem dX4_paymentAt_11 : decode cX4_paymentAt 11 = .ok (.ifCond .ne 13, 3) := by decide +kernel
theorem dX4_paymentAt_14 : decode cX4_paymentAt 14 = .ok (.new 182, 3) := by decide +kernel
theorem dX4_paymentAt_17 : decode cX4_paymentAt 17 = .ok (.dup, 1) := by decide +kernel
theorem dX4_paymentAt_18 : decode cX4_paymentAt 18 = .ok (.ldc 184, 2) := by decide +kernel
theorem dX4_paymentAt_20 : decode cX4_paymentAt 20 = .ok (.invokespecial 186, 3) := by decide +kernel
theorem dX4_paymentAt_23 : decode cX4_paymentAt 23 = .ok (.athrow, 1) := by decide +kernel
theorem dX4_paymentAt_24 : decode cX4_paymentAt 24 = .ok (.aload_n 3, 1) := by decide +kernel
theorem dX4_paymentAt_25 : decode cX4_paymentAt 25 = .ok (.iload_n 2, 1) := by decide +kernel
theorem dX4_paymentAt_26 : decode cX4_paymentAt 26 = .ok (.invokevirtual 189, 3) := by decide +kernel
theorem dX4_paymentAt_29 : decode cX4_paymentAt 29 = .ok (.areturn, 1) := by decide +kernel
set_option maxRecDepth 20000 in
theorem ggX4_refundablePayment_X4_paymentAt : GoodIn wsX4_refundablePayment wsX4_paymentAt := goodIn_ca (goodIn_r _ [8, 9, 10, 11, 12, 13, 7, 14, 15, 16, 17, 18, 19, 20, 21, 22, 23, 24, 25, 26, 27, 28, 29, 30, 31, 32, 33, 34, 35, 36, 37, 38, 39, 40, 41, 42, 43, 44, 45, 46, 47, 48, 49, 50, 51, 52, 53, 54, 55, 56, 57, 58, 62, 63, 64, 59, 60, 61] (by decide +kernel) (by decide +kernel)) (goodIn_sub (fun _ h => List.mem_cons_of_mem _ (List.mem_append_right _ h)) (by decide +kernel))
set_option maxRecDepth 20000 in
theorem gX4_refundablePayment_X4_paymentAt : GoodIn wsX4_refundablePayment (wsV RX4 143 RX4 yX4_paymentAt wsX4_paymentAt) := goodIn_app (goodIn_of _ (by decide +kernel)) ggX4_refundablePayment_X4_paymentAt
set_option maxRecDepth 20000 in
theorem ggX4_refundablePayment_X4_dividendAt : GoodIn wsX4_refundablePayment wsX4_dividendAt := goodIn_ca (goodIn_r _ [14, 9, 10, 15, 16, 17, 18, 19, 20, 21, 22, 23, 24, 7, 25, 26, 27, 28, 29, 30, 31, 32, 33, 34, 35, 36, 37, 38, 39, 40, 41, 42, 53, 54, 55, 56, 57, 58, 62, 63, 64] (by decide +kernel) (by decide +kernel)) (goodIn_sub (fun _ h => List.mem_cons_of_mem _ (List.mem_append_right _ h)) (by decide +kernel))
set_option maxRecDepth 20000 in
theorem gX4_refundablePayment_X4_dividendAt : GoodIn wsX4_refundablePayment (wsV RX4 166 RX4 yX4_dividendAt wsX4_dividendAt) := goodIn_app (goodIn_of _ (by decide +kernel)) ggX4_refundablePayment_X4_dividendAt
theorem dX4_refundablePayment_0 : decode cX4_refundablePayment 0 = .ok (.aload_n 0, 1) := by decide +kernel
theorem dX4_refundablePayment_1 : decode cX4_refundablePayment 1 = .ok (.iload_n 1, 1) := by decide +kernel
theorem dX4_refundablePayment_2 : decode cX4_refundablePayment 2 = .ok (.iload_n 2, 1) := by decide +kernel
theorem dX4_refundablePayment_3 : decode cX4_refundablePayment 3 = .ok (.invokevirtual 143, 3) := by decide +kernel
theorem dX4_refundablePayment_6 : decode cX4_refundablePayment 6 = .ok (.astore 4, 2) := by decide +kernel
theorem dX4_refundablePayment_8 : decode cX4_refundablePayment 8 = .ok (.aload 4, 2) := by decide +kernel
theorem dX4_refundablePayment_10 : decode cX4_refundablePayment 10 = .ok (.ifnull 20, 3) := by decide +kernel
theorem dX4_refundablePayment_13 : decode cX4_refundablePayment 13 = .ok (.aload_n 0, 1) := by decide +kernel
theorem dX4_refundablePayment_14 : decode cX4_refundablePayment 14 = .ok (.getfield 26, 3) := by decide +kernel
theorem dX4_refundablePayment_17 : decode cX4_refundablePayment 17 = .ok (.aload_n 0, 1) := by decide +kernel
theorem dX4_refundablePayment_18 : decode cX4_refundablePayment 18 = .ok (.iload_n 1, 1) := by decide +kernel
theorem dX4_refundablePayment_19 : decode cX4_refundablePayment 19 = .ok (.invokevirtual 166, 3) := by decide +kernel
theorem dX4_refundablePayment_22 : decode cX4_refundablePayment 22 = .ok (.getfield 193, 3) := by decide +kernel
theorem dX4_refundablePayment_25 : decode cX4_refundablePayment 25 = .ok (.isub, 1) := by decide +kernel
theorem dX4_refundablePayment_26 : decode cX4_refundablePayment 26 = .ok (.iload_n 3, 1) := by decide +kernel
theorem dX4_refundablePayment_27 : decode cX4_refundablePayment 27 = .ok (.if_icmp .le 13, 3) := by decide +kernel
theorem dX4_refundablePayment_30 : decode cX4_refundablePayment 30 = .ok (.new 57, 3) := by decide +kernel
theorem dX4_refundablePayment_33 : decode cX4_refundablePayment 33 = .ok (.dup, 1) := by decide +kernel
theorem dX4_refundablePayment_34 : decode cX4_refundablePayment 34 = .ok (.ldc 196, 2) := by decide +kernel
theorem dX4_refundablePayment_36 : decode cX4_refundablePayment 36 = .ok (.invokespecial 61, 3) := by decide +kernel
theorem dX4_refundablePayment_39 : decode cX4_refundablePayment 39 = .ok (.athrow, 1) := by decide +kernel
theorem dX4_refundablePayment_40 : decode cX4_refundablePayment 40 = .ok (.aload 4, 2) := by decide +kernel
theorem dX4_refundablePayment_42 : decode cX4_refundablePayment 42 = .ok (.areturn, 1) := by decide +kernel
set_option maxRecDepth 20000 in
theorem ggX4_sharesInAll_Jx4a65c_size_8abf5 : GoodIn wsX4_sharesInAll wsJx4a65c_size_8abf5 := goodIn_r _ [7, 8, 38, 39, 40] (by decide +kernel) (by decide +kernel)
set_option maxRecDepth 20000 in
theorem gX4_sharesInAll_Jx4a65c_size_8abf5 : GoodIn wsX4_sharesInAll (wsV RX4 53 RJx4a65c yJx4a65c_size_8abf5 wsJx4a65c_size_8abf5) := goodIn_app (goodIn_of _ (by decide +kernel)) ggX4_sharesInAll_Jx4a65c_size_8abf5
set_option maxRecDepth 20000 in
theorem ggX4_sharesInAll_Jx4a65c_get_915e3 : GoodIn wsX4_sharesInAll wsJx4a65c_get_915e3 := goodIn_r _ [12, 8, 13, 14, 15, 16, 17, 18, 19, 20, 21, 22, 23, 6, 24, 25, 38, 39, 40] (by decide +kernel) (by decide +kernel)
set_option maxRecDepth 20000 in
theorem gX4_sharesInAll_Jx4a65c_get_915e3 : GoodIn wsX4_sharesInAll (wsV RX4 105 RJx4a65c yJx4a65c_get_915e3 wsJx4a65c_get_915e3) := goodIn_app (goodIn_of _ (by decide +kernel)) ggX4_sharesInAll_Jx4a65c_get_915e3
theorem dX4_sharesInAll_0 : decode cX4_sharesInAll 0 = .ok (.iconst 0, 1) := by decide +kernel
theorem dX4_sharesInAll_1 : decode cX4_sharesInAll 1 = .ok (.istore_n 1, 1) := by decide +kernel
theorem dX4_sharesInAll_2 : decode cX4_sharesInAll 2 = .ok (.iconst 0, 1) := by decide +kernel
theorem dX4_sharesInAll_3 : decode cX4_sharesInAll 3 = .ok (.istore_n 2, 1) := by decide +kernel
theorem dX4_sharesInAll_4 : decode cX4_sharesInAll 4 = .ok (.iload_n 2, 1) := by decide +kernel
theorem dX4_sharesInAll_5 : decode cX4_sharesInAll 5 = .ok (.aload_n 0, 1) := by decide +kernel
theorem dX4_sharesInAll_6 : decode cX4_sharesInAll 6 = .ok (.getfield 19, 3) := by decide +kernel
theorem dX4_sharesInAll_9 : decode cX4_sharesInAll 9 = .ok (.invokevirtual 53, 3) := by decide +kernel
theorem dX4_sharesInAll_12 : decode cX4_sharesInAll 12 = .ok (.if_icmp .ge 26, 3) := by decide +kernel
theorem dX4_sharesInAll_15 : decode cX4_sharesInAll 15 = .ok (.iload_n 1, 1) := by decide +kernel
theorem dX4_sharesInAll_16 : decode cX4_sharesInAll 16 = .ok (.aload_n 0, 1) := by decide +kernel
theorem dX4_sharesInAll_17 : decode cX4_sharesInAll 17 = .ok (.getfield 19, 3) := by decide +kernel
theorem dX4_sharesInAll_20 : decode cX4_sharesInAll 20 = .ok (.iload_n 2, 1) := by decide +kernel
theorem dX4_sharesInAll_21 : decode cX4_sharesInAll 21 = .ok (.invokevirtual 105, 3) := by decide +kernel
theorem dX4_sharesInAll_24 : decode cX4_sharesInAll 24 = .ok (.checkcast 62, 3) := by decide +kernel
theorem dX4_sharesInAll_27 : decode cX4_sharesInAll 27 = .ok (.getfield 90, 3) := by decide +kernel
theorem dX4_sharesInAll_30 : decode cX4_sharesInAll 30 = .ok (.iadd, 1) := by decide +kernel
theorem dX4_sharesInAll_31 : decode cX4_sharesInAll 31 = .ok (.istore_n 1, 1) := by decide +kernel
theorem dX4_sharesInAll_32 : decode cX4_sharesInAll 32 = .ok (.iinc 2 1, 3) := by decide +kernel
theorem dX4_sharesInAll_35 : decode cX4_sharesInAll 35 = .ok (.goto (-31), 3) := by decide +kernel
theorem dX4_sharesInAll_38 : decode cX4_sharesInAll 38 = .ok (.iload_n 1, 1) := by decide +kernel
theorem dX4_sharesInAll_39 : decode cX4_sharesInAll 39 = .ok (.ireturn, 1) := by decide +kernel
theorem dX4_formOf_0 : decode cX4_formOf 0 = .ok (.iconst 1, 1) := by decide +kernel
theorem dX4_formOf_1 : decode cX4_formOf 1 = .ok (.iload_n 0, 1) := by decide +kernel
theorem dX4_formOf_2 : decode cX4_formOf 2 = .ok (.ishl, 1) := by decide +kernel
theorem dX4_formOf_3 : decode cX4_formOf 3 = .ok (.ireturn, 1) := by decide +kernel
set_option maxRecDepth 20000 in
theorem ggX4_validForms_Jx4a65c_size_8abf5 : GoodIn wsX4_validForms wsJx4a65c_size_8abf5 := goodIn_r _ [8, 9, 42, 43, 44] (by decide +kernel) (by decide +kernel)
set_option maxRecDepth 20000 in
theorem gX4_validForms_Jx4a65c_size_8abf5 : GoodIn wsX4_validForms (wsV RX4 53 RJx4a65c yJx4a65c_size_8abf5 wsJx4a65c_size_8abf5) := goodIn_app (goodIn_of _ (by decide +kernel)) ggX4_validForms_Jx4a65c_size_8abf5
set_option maxRecDepth 20000 in
theorem ggX4_validForms_Jx4a65c_get_915e3 : GoodIn wsX4_validForms wsJx4a65c_get_915e3 := goodIn_r _ [13, 9, 14, 15, 16, 17, 18, 19, 20, 21, 22, 23, 24, 7, 25, 26, 42, 43, 44] (by decide +kernel) (by decide +kernel)
set_option maxRecDepth 20000 in
theorem gX4_validForms_Jx4a65c_get_915e3 : GoodIn wsX4_validForms (wsV RX4 105 RJx4a65c yJx4a65c_get_915e3 wsJx4a65c_get_915e3) := goodIn_app (goodIn_of _ (by decide +kernel)) ggX4_validForms_Jx4a65c_get_915e3
set_option maxRecDepth 20000 in
theorem ggX4_validForms_X1_hasFormOn : GoodIn wsX4_validForms wsX1_hasFormOn := goodIn_r _ [30, 31, 45, 46, 47, 48, 49, 50] (by decide +kernel) (by decide +kernel)
set_option maxRecDepth 20000 in
theorem gX4_validForms_X1_hasFormOn_n113 : GoodIn wsX4_validForms (wsX1_hasFormOn) := ggX4_validForms_X1_hasFormOn
set_option maxRecDepth 20000 in
theorem ggX4_validForms_X4_formOf : GoodIn wsX4_validForms wsX4_formOf := goodIn_r _ [35] (by decide +kernel) (by decide +kernel)
set_option maxRecDepth 20000 in
theorem gX4_validForms_X4_formOf : GoodIn wsX4_validForms (va_wsS RX4 198 yX4_formOf wsX4_formOf) := goodIn_app (goodIn_of _ (by decide +kernel)) ggX4_validForms_X4_formOf
theorem dX4_validForms_0 : decode cX4_validForms 0 = .ok (.iconst 0, 1) := by decide +kernel
theorem dX4_validForms_1 : decode cX4_validForms 1 = .ok (.istore_n 1, 1) := by decide +kernel
theorem dX4_validForms_2 : decode cX4_validForms 2 = .ok (.iconst 0, 1) := by decide +kernel
theorem dX4_validForms_3 : decode cX4_validForms 3 = .ok (.istore_n 2, 1) := by decide +kernel
theorem dX4_validForms_4 : decode cX4_validForms 4 = .ok (.iload_n 2, 1) := by decide +kernel
theorem dX4_validForms_5 : decode cX4_validForms 5 = .ok (.aload_n 0, 1) := by decide +kernel
theorem dX4_validForms_6 : decode cX4_validForms 6 = .ok (.getfield 19, 3) := by decide +kernel
theorem dX4_validForms_9 : decode cX4_validForms 9 = .ok (.invokevirtual 53, 3) := by decide +kernel
theorem dX4_validForms_12 : decode cX4_validForms 12 = .ok (.if_icmp .ge 37, 3) := by decide +kernel
theorem dX4_validForms_15 : decode cX4_validForms 15 = .ok (.aload_n 0, 1) := by decide +kernel
theorem dX4_validForms_16 : decode cX4_validForms 16 = .ok (.getfield 19, 3) := by decide +kernel
theorem dX4_validForms_19 : decode cX4_validForms 19 = .ok (.iload_n 2, 1) := by decide +kernel
theorem dX4_validForms_20 : decode cX4_validForms 20 = .ok (.invokevirtual 105, 3) := by decide +kernel
theorem dX4_validForms_23 : decode cX4_validForms 23 = .ok (.checkcast 62, 3) := by decide +kernel
theorem dX4_validForms_26 : decode cX4_validForms 26 = .ok (.aload_n 0, 1) := by decide +kernel
theorem dX4_validForms_27 : decode cX4_validForms 27 = .ok (.getfield 26, 3) := by decide +kernel
theorem dX4_validForms_30 : decode cX4_validForms 30 = .ok (.invokevirtual 113, 3) := by decide +kernel
theorem dX4_validForms_33 : decode cX4_validForms 33 = .ok (.ifCond .eq 10, 3) := by decide +kernel
theorem dX4_validForms_36 : decode cX4_validForms 36 = .ok (.iload_n 1, 1) := by decide +kernel
theorem dX4_validForms_37 : decode cX4_validForms 37 = .ok (.iload_n 2, 1) := by decide +kernel
theorem dX4_validForms_38 : decode cX4_validForms 38 = .ok (.invokestatic 198, 3) := by decide +kernel
theorem dX4_validForms_41 : decode cX4_validForms 41 = .ok (.ior, 1) := by decide +kernel
theorem dX4_validForms_42 : decode cX4_validForms 42 = .ok (.istore_n 1, 1) := by decide +kernel
theorem dX4_validForms_43 : decode cX4_validForms 43 = .ok (.iinc 2 1, 3) := by decide +kernel
theorem dX4_validForms_46 : decode cX4_validForms 46 = .ok (.goto (-42), 3) := by decide +kernel
theorem dX4_validForms_49 : decode cX4_validForms 49 = .ok (.iload_n 1, 1) := by decide +kernel
theorem dX4_validForms_50 : decode cX4_validForms 50 = .ok (.ireturn, 1) := by decide +kernel
set_option maxRecDepth 20000 in
theorem ggX4_rateOf_X4_isLand : GoodIn wsX4_rateOf wsX4_isLand := goodIn_r _ [4, 5, 6, 3, 7] (by decide +kernel) (by decide +kernel)
set_option maxRecDepth 20000 in
theorem gX4_rateOf_X4_isLand : GoodIn wsX4_rateOf (va_wsS RX4 34 yX4_isLand wsX4_isLand) := goodIn_app (goodIn_of _ (by decide +kernel)) ggX4_rateOf_X4_isLand
theorem dX4_rateOf_0 : decode cX4_rateOf 0 = .ok (.aload_n 1, 1) := by decide +kernel
theorem dX4_rateOf_1 : decode cX4_rateOf 1 = .ok (.getfield 201, 3) := by decide +kernel
theorem dX4_rateOf_4 : decode cX4_rateOf 4 = .ok (.invokestatic 34, 3) := by decide +kernel
theorem dX4_rateOf_7 : decode cX4_rateOf 7 = .ok (.ifCond .eq 21, 3) := by decide +kernel
theorem dX4_rateOf_10 : decode cX4_rateOf 10 = .ok (.aload_n 1, 1) := by decide +kernel
theorem dX4_rateOf_11 : decode cX4_rateOf 11 = .ok (.getfield 201, 3) := by decide +kernel
theorem dX4_rateOf_14 : decode cX4_rateOf 14 = .ok (.aload_n 0, 1) := by decide +kernel
theorem dX4_rateOf_15 : decode cX4_rateOf 15 = .ok (.arraylength, 1) := by decide +kernel
theorem dX4_rateOf_16 : decode cX4_rateOf 16 = .ok (.if_icmp .ge 12, 3) := by decide +kernel
theorem dX4_rateOf_19 : decode cX4_rateOf 19 = .ok (.aload_n 0, 1) := by decide +kernel
theorem dX4_rateOf_20 : decode cX4_rateOf 20 = .ok (.aload_n 1, 1) := by decide +kernel
theorem dX4_rateOf_21 : decode cX4_rateOf 21 = .ok (.getfield 201, 3) := by decide +kernel
theorem dX4_rateOf_24 : decode cX4_rateOf 24 = .ok (.iaload, 1) := by decide +kernel
theorem dX4_rateOf_25 : decode cX4_rateOf 25 = .ok (.goto 5, 3) := by decide +kernel
theorem dX4_rateOf_28 : decode cX4_rateOf 28 = .ok (.bipush 30, 2) := by decide +kernel
theorem dX4_rateOf_30 : decode cX4_rateOf 30 = .ok (.ireturn, 1) := by decide +kernel
set_option maxRecDepth 20000 in
theorem ggX4_ownRate_X4_rateOf : GoodIn wsX4_ownRate wsX4_rateOf := goodIn_r _ [11, 12, 13, 10, 14, 15, 16, 17, 32, 33, 34, 35, 36, 37] (by decide +kernel) (by decide +kernel)
set_option maxRecDepth 20000 in
theorem gX4_ownRate_X4_rateOf : GoodIn wsX4_ownRate (va_wsS RX4 204 yX4_rateOf wsX4_rateOf) := goodIn_app (goodIn_of _ (by decide +kernel)) ggX4_ownRate_X4_rateOf
set_option maxRecDepth 20000 in
theorem ggX4_ownRate_X1_hasLargeHoldingOn : GoodIn wsX4_ownRate wsX1_hasLargeHoldingOn := goodIn_r _ [21, 22, 23, 24, 25, 32, 33, 34, 35, 36, 37] (by decide +kernel) (by decide +kernel)
set_option maxRecDepth 20000 in
theorem gX4_ownRate_X1_hasLargeHoldingOn_n116 : GoodIn wsX4_ownRate (wsX1_hasLargeHoldingOn) := ggX4_ownRate_X1_hasLargeHoldingOn
theorem dX4_ownRate_0 : decode cX4_ownRate 0 = .ok (.aload_n 0, 1) := by decide +kernel
theorem dX4_ownRate_1 : decode cX4_ownRate 1 = .ok (.getfield 9, 3) := by decide +kernel
theorem dX4_ownRate_4 : decode cX4_ownRate 4 = .ok (.aload_n 1, 1) := by decide +kernel
theorem dX4_ownRate_5 : decode cX4_ownRate 5 = .ok (.invokestatic 204, 3) := by decide +kernel
theorem dX4_ownRate_8 : decode cX4_ownRate 8 = .ok (.istore_n 2, 1) := by decide +kernel
theorem dX4_ownRate_9 : decode cX4_ownRate 9 = .ok (.aload_n 1, 1) := by decide +kernel
theorem dX4_ownRate_10 : decode cX4_ownRate 10 = .ok (.aload_n 0, 1) := by decide +kernel
theorem dX4_ownRate_11 : decode cX4_ownRate 11 = .ok (.getfield 26, 3) := by decide +kernel
theorem dX4_ownRate_14 : decode cX4_ownRate 14 = .ok (.invokevirtual 116, 3) := by decide +kernel
theorem dX4_ownRate_17 : decode cX4_ownRate 17 = .ok (.ifCond .ne 5, 3) := by decide +kernel
theorem dX4_ownRate_20 : decode cX4_ownRate 20 = .ok (.iload_n 2, 1) := by decide +kernel
theorem dX4_ownRate_21 : decode cX4_ownRate 21 = .ok (.ireturn, 1) := by decide +kernel
theorem dX4_ownRate_22 : decode cX4_ownRate 22 = .ok (.iload_n 2, 1) := by decide +kernel
theorem dX4_ownRate_23 : decode cX4_ownRate 23 = .ok (.aload_n 0, 1) := by decide +kernel
theorem dX4_ownRate_24 : decode cX4_ownRate 24 = .ok (.getfield 13, 3) := by decide +kernel
theorem dX4_ownRate_27 : decode cX4_ownRate 27 = .ok (.aload_n 1, 1) := by decide +kernel
theorem dX4_ownRate_28 : decode cX4_ownRate 28 = .ok (.invokestatic 204, 3) := by decide +kernel
theorem dX4_ownRate_31 : decode cX4_ownRate 31 = .ok (.invokestatic 208, 3) := by decide +kernel
theorem dX4_ownRate_34 : decode cX4_ownRate 34 = .ok (.ireturn, 1) := by decide +kernel
set_option maxRecDepth 20000 in
theorem ggX4_makePayment_X2_init : GoodIn wsX4_makePayment wsX2_init := goodIn_r _ [8, 9, 10, 11, 12, 13, 14, 15, 16, 17, 18, 19, 20, 21, 22, 23, 24, 25, 26, 27, 28, 29, 30, 31, 32, 172, 173, 174, 160, 161, 162] (by decide +kernel) (by decide +kernel)
set_option maxRecDepth 20000 in
theorem gX4_makePayment_X2_init_n214 : GoodIn wsX4_makePayment (wsX2_init) := ggX4_makePayment_X2_init
set_option maxRecDepth 20000 in
theorem ggX4_makePayment_X4_addPortions : GoodIn wsX4_makePayment wsX4_addPortions := goodIn_r _ [37, 4, 5, 6, 38, 39, 40, 41, 42, 43, 44, 45, 46, 47, 48, 10, 11, 49, 50, 51, 52, 3, 53, 54, 15, 55, 56, 57, 14, 58, 59, 60, 22, 61, 62, 63, 64, 65, 66, 67, 68, 69, 70, 71, 72, 73, 21, 74, 75, 76, 77, 78, 79, 80, 81, 82, 83, 84, 85, 86, 87, 88, 89, 90, 91, 92, 93, 94, 95, 96, 97, 98, 99, 100, 101, 102, 103, 104, 105, 106, 107, 108, 109, 110, 111, 112, 113, 114, 115, 116, 36, 117, 118, 119, 120, 121, 122, 123, 124, 125, 126, 127, 128, 129, 130, 131, 132, 133, 134, 135, 136, 137, 138, 139, 140, 141, 142, 143, 144, 145, 169, 170, 171, 160, 161, 162, 175, 176, 177, 178, 179, 180, 163, 164, 165, 166, 167, 168, 172, 173, 174] (by decide +kernel) (by decide +kernel)
set_option maxRecDepth 20000 in
theorem gX4_makePayment_X4_addPortions : GoodIn wsX4_makePayment (wsV RX4 216 RX4 yX4_addPortions wsX4_addPortions) := goodIn_app (goodIn_of _ (by decide +kernel)) ggX4_makePayment_X4_addPortions
set_option maxRecDepth 20000 in
theorem ggX4_makePayment_X4_ownRate : GoodIn wsX4_makePayment wsX4_ownRate := goodIn_r _ [149, 39, 150, 151, 152, 102, 76, 103, 134, 135, 36, 136, 137, 138, 139, 140, 141, 142, 153, 42, 154, 155, 156, 157, 158, 159, 175, 176, 177, 178, 179, 180, 163, 164, 165, 166, 167, 168] (by decide +kernel) (by decide +kernel)
set_option maxRecDepth 20000 in
theorem gX4_makePayment_X4_ownRate : GoodIn wsX4_makePayment (wsV RX4 121 RX4 yX4_ownRate wsX4_ownRate) := goodIn_app (goodIn_of _ (by decide +kernel)) ggX4_makePayment_X4_ownRate
set_option maxRecDepth 20000 in
theorem ggX4_makePayment_X4_formOf : GoodIn wsX4_makePayment wsX4_formOf := goodIn_r _ [145] (by decide +kernel) (by decide +kernel)
set_option maxRecDepth 20000 in
theorem gX4_makePayment_X4_formOf : GoodIn wsX4_makePayment (va_wsS RX4 198 yX4_formOf wsX4_formOf) := goodIn_app (goodIn_of _ (by decide +kernel)) ggX4_makePayment_X4_formOf
set_option maxRecDepth 20000 in
theorem ggX4_makePayment_X3_init : GoodIn wsX4_makePayment wsX3_init := goodIn_r _ [47, 48, 10, 11, 49, 50, 51, 169, 170, 171] (by decide +kernel) (by decide +kernel)
set_option maxRecDepth 20000 in
theorem gX4_makePayment_X3_init_n222 : GoodIn wsX4_makePayment (wsX3_init) := ggX4_makePayment_X3_init
set_option maxRecDepth 20000 in
theorem ggX4_makePayment_X2_add : GoodIn wsX4_makePayment wsX2_add := goodIn_r _ [54, 15, 55, 56, 57, 14, 58, 59, 60, 22, 61, 62, 63, 64, 65, 66, 67, 68, 69, 70, 71, 72, 73, 21, 74, 75, 76, 77, 78, 79, 80, 81, 82, 83, 84, 85, 86, 87, 88, 89, 90, 91, 92, 93, 94, 95, 96, 97, 98, 99, 100, 101, 102, 103, 104, 105, 106, 107, 160, 161, 162, 172, 173, 174] (by decide +kernel) (by decide +kernel)
set_option maxRecDepth 20000 in
theorem gX4_makePayment_X2_add_n225 : GoodIn wsX4_makePayment (wsX2_add) := ggX4_makePayment_X2_add
theorem dX4_makePayment_0 : decode cX4_makePayment 0 = .ok (.new 148, 3) := by decide +kernel
theorem dX4_makePayment_3 : decode cX4_makePayment 3 = .ok (.dup, 1) := by decide +kernel
theorem dX4_makePayment_4 : decode cX4_makePayment 4 = .ok (.aload_n 2, 1) := by decide +kernel
theorem dX4_makePayment_5 : decode cX4_makePayment 5 = .ok (.getfield 90, 3) := by decide +kernel
theorem dX4_makePayment_8 : decode cX4_makePayment 8 = .ok (.iload_n 3, 1) := by decide +kernel
theorem dX4_makePayment_9 : decode cX4_makePayment 9 = .ok (.imul, 1) := by decide +kernel
theorem dX4_makePayment_10 : decode cX4_makePayment 10 = .ok (.invokespecial 214, 3) := by decide +kernel
theorem dX4_makePayment_13 : decode cX4_makePayment 13 = .ok (.astore 4, 2) := by decide +kernel
theorem dX4_makePayment_15 : decode cX4_makePayment 15 = .ok (.aload_n 2, 1) := by decide +kernel
theorem dX4_makePayment_16 : decode cX4_makePayment 16 = .ok (.getfield 75, 3) := by decide +kernel
theorem dX4_makePayment_19 : decode cX4_makePayment 19 = .ok (.iconst 2, 1) := by decide +kernel
theorem dX4_makePayment_20 : decode cX4_makePayment 20 = .ok (.if_icmp .ne 14, 3) := by decide +kernel
theorem dX4_makePayment_23 : decode cX4_makePayment 23 = .ok (.aload_n 0, 1) := by decide +kernel
theorem dX4_makePayment_24 : decode cX4_makePayment 24 = .ok (.aload 4, 2) := by decide +kernel
theorem dX4_makePayment_26 : decode cX4_makePayment 26 = .ok (.iload_n 1, 1) := by decide +kernel
theorem dX4_makePayment_27 : decode cX4_makePayment 27 = .ok (.aload_n 2, 1) := by decide +kernel
theorem dX4_makePayment_28 : decode cX4_makePayment 28 = .ok (.invokevirtual 216, 3) := by decide +kernel
theorem dX4_makePayment_31 : decode cX4_makePayment 31 = .ok (.goto 29, 3) := by decide +kernel
theorem dX4_makePayment_34 : decode cX4_makePayment 34 = .ok (.aload 4, 2) := by decide +kernel
theorem dX4_makePayment_36 : decode cX4_makePayment 36 = .ok (.new 220, 3) := by decide +kernel
theorem dX4_makePayment_39 : decode cX4_makePayment 39 = .ok (.dup, 1) := by decide +kernel
theorem dX4_makePayment_40 : decode cX4_makePayment 40 = .ok (.aload 4, 2) := by decide +kernel
theorem dX4_makePayment_42 : decode cX4_makePayment 42 = .ok (.getfield 147, 3) := by decide +kernel
theorem dX4_makePayment_45 : decode cX4_makePayment 45 = .ok (.aload_n 0, 1) := by decide +kernel
theorem dX4_makePayment_46 : decode cX4_makePayment 46 = .ok (.aload_n 2, 1) := by decide +kernel
theorem dX4_makePayment_47 : decode cX4_makePayment 47 = .ok (.invokevirtual 121, 3) := by decide +kernel
theorem dX4_makePayment_50 : decode cX4_makePayment 50 = .ok (.iload_n 1, 1) := by decide +kernel
theorem dX4_makePayment_51 : decode cX4_makePayment 51 = .ok (.invokestatic 198, 3) := by decide +kernel
theorem dX4_makePayment_54 : decode cX4_makePayment 54 = .ok (.invokespecial 222, 3) := by decide +kernel
theorem dX4_makePayment_57 : decode cX4_makePayment 57 = .ok (.invokevirtual 225, 3) := by decide +kernel
theorem dX4_makePayment_60 : decode cX4_makePayment 60 = .ok (.aload 4, 2) := by decide +kernel
theorem dX4_makePayment_62 : decode cX4_makePayment 62 = .ok (.areturn, 1) := by decide +kernel
set_option maxRecDepth 20000 in
theorem ggX4_addPortions_X1_partsInAll : GoodIn wsX4_addPortions wsX1_partsInAll := goodIn_r _ [10, 11, 132, 133, 134, 135, 136, 137] (by decide +kernel) (by decide +kernel)
set_option maxRecDepth 20000 in
theorem gX4_addPortions_X1_partsInAll_n228 : GoodIn wsX4_addPortions (wsX1_partsInAll) := ggX4_addPortions_X1_partsInAll
set_option maxRecDepth 20000 in
theorem ggX4_addPortions_X3_init : GoodIn wsX4_addPortions wsX3_init := goodIn_r _ [13, 14, 15, 16, 17, 18, 19, 120, 121, 122] (by decide +kernel) (by decide +kernel)
set_option maxRecDepth 20000 in
theorem gX4_addPortions_X3_init_n222 : GoodIn wsX4_addPortions (wsX3_init) := ggX4_addPortions_X3_init
set_option maxRecDepth 20000 in
theorem ggX4_addPortions_X2_add : GoodIn wsX4_addPortions wsX2_add := goodIn_r _ [23, 24, 25, 26, 27, 28, 29, 30, 31, 32, 33, 34, 35, 36, 37, 38, 39, 40, 41, 42, 43, 44, 45, 46, 47, 48, 49, 50, 51, 52, 53, 54, 55, 56, 57, 58, 59, 60, 61, 62, 63, 64, 65, 66, 67, 68, 69, 70, 71, 72, 73, 74, 75, 76, 77, 78, 79, 80, 123, 124, 125, 138, 139, 140] (by decide +kernel) (by decide +kernel)
set_option maxRecDepth 20000 in
theorem gX4_addPortions_X2_add_n225 : GoodIn wsX4_addPortions (wsX2_add) := ggX4_addPortions_X2_add
set_option maxRecDepth 20000 in
theorem ggX4_addPortions_Jx4a65c_size_8abf5 : GoodIn wsX4_addPortions wsJx4a65c_size_8abf5 := goodIn_r _ [84, 33, 138, 139, 140] (by decide +kernel) (by decide +kernel)
set_option maxRecDepth 20000 in
theorem gX4_addPortions_Jx4a65c_size_8abf5 : GoodIn wsX4_addPortions (wsV RX4 53 RJx4a65c yJx4a65c_size_8abf5 wsJx4a65c_size_8abf5) := goodIn_app (goodIn_of _ (by decide +kernel)) ggX4_addPortions_Jx4a65c_size_8abf5
set_option maxRecDepth 20000 in
theorem ggX4_addPortions_X1_partsOf : GoodIn wsX4_addPortions wsX1_partsOf := goodIn_r _ [87, 11, 132, 133, 134, 135, 136, 137] (by decide +kernel) (by decide +kernel)
set_option maxRecDepth 20000 in
theorem gX4_addPortions_X1_partsOf_n80 : GoodIn wsX4_addPortions (wsX1_partsOf) := ggX4_addPortions_X1_partsOf
set_option maxRecDepth 20000 in
theorem ggX4_addPortions_X4_proportion : GoodIn wsX4_addPortions wsX4_proportion := goodIn_r _ [91] (by decide +kernel) (by decide +kernel)
set_option maxRecDepth 20000 in
theorem gX4_addPortions_X4_proportion : GoodIn wsX4_addPortions (va_wsS RX4 231 yX4_proportion wsX4_proportion) := goodIn_app (goodIn_of _ (by decide +kernel)) ggX4_addPortions_X4_proportion
set_option maxRecDepth 20000 in
theorem ggX4_addPortions_Jx4a65c_get_915e3 : GoodIn wsX4_addPortions wsJx4a65c_get_915e3 := goodIn_r _ [95, 33, 96, 97, 98, 99, 100, 101, 102, 103, 104, 105, 106, 28, 107, 32, 138, 139, 140] (by decide +kernel) (by decide +kernel)
set_option maxRecDepth 20000 in
theorem gX4_addPortions_Jx4a65c_get_915e3 : GoodIn wsX4_addPortions (wsV RX4 105 RJx4a65c yJx4a65c_get_915e3 wsJx4a65c_get_915e3) := goodIn_app (goodIn_of _ (by decide +kernel)) ggX4_addPortions_Jx4a65c_get_915e3
set_option maxRecDepth 20000 in
theorem ggX4_addPortions_X4_rateOf : GoodIn wsX4_addPortions wsX4_rateOf := goodIn_r _ [110, 111, 112, 90, 113, 114, 115, 116, 132, 133, 134, 135, 136, 137] (by decide +kernel) (by decide +kernel)
set_option maxRecDepth 20000 in
theorem gX4_addPortions_X4_rateOf : GoodIn wsX4_addPortions (va_wsS RX4 204 yX4_rateOf wsX4_rateOf) := goodIn_app (goodIn_of _ (by decide +kernel)) ggX4_addPortions_X4_rateOf
set_option maxRecDepth 20000 in
theorem ggX4_addPortions_X4_formOf : GoodIn wsX4_addPortions wsX4_formOf := goodIn_r _ [119] (by decide +kernel) (by decide +kernel)
set_option maxRecDepth 20000 in
theorem gX4_addPortions_X4_formOf : GoodIn wsX4_addPortions (va_wsS RX4 198 yX4_formOf wsX4_formOf) := goodIn_app (goodIn_of _ (by decide +kernel)) ggX4_addPortions_X4_formOf
theorem dX4_addPortions_0 : decode cX4_addPortions 0 = .ok (.aload_n 3, 1) := by decide +kernel
theorem dX4_addPortions_1 : decode cX4_addPortions 1 = .ok (.invokevirtual 228, 3) := by decide +kernel
theorem dX4_addPortions_4 : decode cX4_addPortions 4 = .ok (.istore 4, 2) := by decide +kernel
theorem dX4_addPortions_6 : decode cX4_addPortions 6 = .ok (.iload 4, 2) := by decide +kernel
theorem dX4_addPortions_8 : decode cX4_addPortions 8 = .ok (.ifCond .ne 22, 3) := by decide +kernel
theorem dX4_addPortions_11 : decode cX4_addPortions 11 = .ok (.aload_n 1, 1) := by decide +kernel
theorem dX4_addPortions_12 : decode cX4_addPortions 12 = .ok (.new 220, 3) := by decide +kernel
theorem dX4_addPortions_15 : decode cX4_addPortions 15 = .ok (.dup, 1) := by decide +kernel
theorem dX4_addPortions_16 : decode cX4_addPortions 16 = .ok (.aload_n 1, 1) := by decide +kernel
theorem dX4_addPortions_17 : decode cX4_addPortions 17 = .ok (.getfield 147, 3) := by decide +kernel
theorem dX4_addPortions_20 : decode cX4_addPortions 20 = .ok (.bipush 30, 2) := by decide +kernel
theorem dX4_addPortions_22 : decode cX4_addPortions 22 = .ok (.iconst 0, 1) := by decide +kernel
theorem dX4_addPortions_23 : decode cX4_addPortions 23 = .ok (.invokespecial 222, 3) := by decide +kernel
theorem dX4_addPortions_26 : decode cX4_addPortions 26 = .ok (.invokevirtual 225, 3) := by decide +kernel
theorem dX4_addPortions_29 : decode cX4_addPortions 29 = .ok (.return_, 1) := by decide +kernel
theorem dX4_addPortions_30 : decode cX4_addPortions 30 = .ok (.aload_n 1, 1) := by decide +kernel
theorem dX4_addPortions_31 : decode cX4_addPortions 31 = .ok (.getfield 147, 3) := by decide +kernel
theorem dX4_addPortions_34 : decode cX4_addPortions 34 = .ok (.istore 5, 2) := by decide +kernel
theorem dX4_addPortions_36 : decode cX4_addPortions 36 = .ok (.iconst 0, 1) := by decide +kernel
theorem dX4_addPortions_37 : decode cX4_addPortions 37 = .ok (.istore 6, 2) := by decide +kernel
theorem dX4_addPortions_39 : decode cX4_addPortions 39 = .ok (.iload 6, 2) := by decide +kernel
theorem dX4_addPortions_41 : decode cX4_addPortions 41 = .ok (.aload_n 0, 1) := by decide +kernel
theorem dX4_addPortions_42 : decode cX4_addPortions 42 = .ok (.getfield 19, 3) := by decide +kernel
theorem dX4_addPortions_45 : decode cX4_addPortions 45 = .ok (.invokevirtual 53, 3) := by decide +kernel
theorem dX4_addPortions_48 : decode cX4_addPortions 48 = .ok (.if_icmp .ge 29, 3) := by decide +kernel
theorem dX4_addPortions_51 : decode cX4_addPortions 51 = .ok (.iload 5, 2) := by decide +kernel
theorem dX4_addPortions_53 : decode cX4_addPortions 53 = .ok (.aload_n 1, 1) := by decide +kernel
theorem dX4_addPortions_54 : decode cX4_addPortions 54 = .ok (.getfield 147, 3) := by decide +kernel
theorem dX4_addPortions_57 : decode cX4_addPortions 57 = .ok (.aload_n 3, 1) := by decide +kernel
theorem dX4_addPortions_58 : decode cX4_addPortions 58 = .ok (.iload 6, 2) := by decide +kernel
theorem dX4_addPortions_60 : decode cX4_addPortions 60 = .ok (.invokevirtual 80, 3) := by decide +kernel
theorem dX4_addPortions_63 : decode cX4_addPortions 63 = .ok (.iload 4, 2) := by decide +kernel
theorem dX4_addPortions_65 : decode cX4_addPortions 65 = .ok (.invokestatic 231, 3) := by decide +kernel
theorem dX4_addPortions_68 : decode cX4_addPortions 68 = .ok (.isub, 1) := by decide +kernel
theorem dX4_addPortions_69 : decode cX4_addPortions 69 = .ok (.istore 5, 2) := by decide +kernel
theorem dX4_addPortions_71 : decode cX4_addPortions 71 = .ok (.iinc 6 1, 3) := by decide +kernel
theorem dX4_addPortions_74 : decode cX4_addPortions 74 = .ok (.goto (-35), 3) := by decide +kernel
theorem dX4_addPortions_77 : decode cX4_addPortions 77 = .ok (.iconst 0, 1) := by decide +kernel
theorem dX4_addPortions_78 : decode cX4_addPortions 78 = .ok (.istore 6, 2) := by decide +kernel
theorem dX4_addPortions_80 : decode cX4_addPortions 80 = .ok (.iload 6, 2) := by decide +kernel
theorem dX4_addPortions_82 : decode cX4_addPortions 82 = .ok (.aload_n 0, 1) := by decide +kernel
theorem dX4_addPortions_83 : decode cX4_addPortions 83 = .ok (.getfield 19, 3) := by decide +kernel
theorem dX4_addPortions_86 : decode cX4_addPortions 86 = .ok (.invokevirtual 53, 3) := by decide +kernel
theorem dX4_addPortions_89 : decode cX4_addPortions 89 = .ok (.if_icmp .ge 87, 3) := by decide +kernel
theorem dX4_addPortions_92 : decode cX4_addPortions 92 = .ok (.aload_n 3, 1) := by decide +kernel
theorem dX4_addPortions_93 : decode cX4_addPortions 93 = .ok (.iload 6, 2) := by decide +kernel
theorem dX4_addPortions_95 : decode cX4_addPortions 95 = .ok (.invokevirtual 80, 3) := by decide +kernel
theorem dX4_addPortions_98 : decode cX4_addPortions 98 = .ok (.istore 7, 2) := by decide +kernel
theorem dX4_addPortions_100 : decode cX4_addPortions 100 = .ok (.iload 7, 2) := by decide +kernel
theorem dX4_addPortions_102 : decode cX4_addPortions 102 = .ok (.ifCond .le 68, 3) := by decide +kernel
theorem dX4_addPortions_105 : decode cX4_addPortions 105 = .ok (.aload_n 1, 1) := by decide +kernel
theorem dX4_addPortions_106 : decode cX4_addPortions 106 = .ok (.getfield 147, 3) := by decide +kernel
theorem dX4_addPortions_109 : decode cX4_addPortions 109 = .ok (.iload 7, 2) := by decide +kernel
theorem dX4_addPortions_111 : decode cX4_addPortions 111 = .ok (.iload 4, 2) := by decide +kernel
theorem dX4_addPortions_113 : decode cX4_addPortions 113 = .ok (.invokestatic 231, 3) := by decide +kernel
theorem dX4_addPortions_116 : decode cX4_addPortions 116 = .ok (.iload 5, 2) := by decide +kernel
theorem dX4_addPortions_118 : decode cX4_addPortions 118 = .ok (.iadd, 1) := by decide +kernel
theorem dX4_addPortions_119 : decode cX4_addPortions 119 = .ok (.istore 8, 2) := by decide +kernel
theorem dX4_addPortions_121 : decode cX4_addPortions 121 = .ok (.iconst 0, 1) := by decide +kernel
theorem dX4_addPortions_122 : decode cX4_addPortions 122 = .ok (.istore 5, 2) := by decide +kernel
theorem dX4_addPortions_124 : decode cX4_addPortions 124 = .ok (.aload_n 0, 1) := by decide +kernel
theorem dX4_addPortions_125 : decode cX4_addPortions 125 = .ok (.getfield 9, 3) := by decide +kernel
theorem dX4_addPortions_128 : decode cX4_addPortions 128 = .ok (.aload_n 0, 1) := by decide +kernel
theorem dX4_addPortions_129 : decode cX4_addPortions 129 = .ok (.getfield 19, 3) := by decide +kernel
theorem dX4_addPortions_132 : decode cX4_addPortions 132 = .ok (.iload 6, 2) := by decide +kernel
theorem dX4_addPortions_134 : decode cX4_addPortions 134 = .ok (.invokevirtual 105, 3) := by decide +kernel
theorem dX4_addPortions_137 : decode cX4_addPortions 137 = .ok (.checkcast 62, 3) := by decide +kernel
theorem dX4_addPortions_140 : decode cX4_addPortions 140 = .ok (.invokestatic 204, 3) := by decide +kernel
theorem dX4_addPortions_143 : decode cX4_addPortions 143 = .ok (.istore 9, 2) := by decide +kernel
theorem dX4_addPortions_145 : decode cX4_addPortions 145 = .ok (.aload_n 1, 1) := by decide +kernel
theorem dX4_addPortions_146 : decode cX4_addPortions 146 = .ok (.new 220, 3) := by decide +kernel
theorem dX4_addPortions_149 : decode cX4_addPortions 149 = .ok (.dup, 1) := by decide +kernel
theorem dX4_addPortions_150 : decode cX4_addPortions 150 = .ok (.iload 8, 2) := by decide +kernel
theorem dX4_addPortions_152 : decode cX4_addPortions 152 = .ok (.iload 9, 2) := by decide +kernel
theorem dX4_addPortions_154 : decode cX4_addPortions 154 = .ok (.iload_n 2, 1) := by decide +kernel
theorem dX4_addPortions_155 : decode cX4_addPortions 155 = .ok (.invokestatic 198, 3) := by decide +kernel
theorem dX4_addPortions_158 : decode cX4_addPortions 158 = .ok (.iload 6, 2) := by decide +kernel
theorem dX4_addPortions_160 : decode cX4_addPortions 160 = .ok (.invokestatic 198, 3) := by decide +kernel
theorem dX4_addPortions_163 : decode cX4_addPortions 163 = .ok (.ior, 1) := by decide +kernel
theorem dX4_addPortions_164 : decode cX4_addPortions 164 = .ok (.invokespecial 222, 3) := by decide +kernel
theorem dX4_addPortions_167 : decode cX4_addPortions 167 = .ok (.invokevirtual 225, 3) := by decide +kernel
theorem dX4_addPortions_170 : decode cX4_addPortions 170 = .ok (.iinc 6 1, 3) := by decide +kernel
theorem dX4_addPortions_173 : decode cX4_addPortions 173 = .ok (.goto (-93), 3) := by decide +kernel
theorem dX4_addPortions_176 : decode cX4_addPortions 176 = .ok (.return_, 1) := by decide +kernel
theorem dX4_proportion_0 : decode cX4_proportion 0 = .ok (.iload_n 2, 1) := by decide +kernel
theorem dX4_proportion_1 : decode cX4_proportion 1 = .ok (.ifCond .ne 7, 3) := by decide +kernel
theorem dX4_proportion_4 : decode cX4_proportion 4 = .ok (.iconst 0, 1) := by decide +kernel
theorem dX4_proportion_5 : decode cX4_proportion 5 = .ok (.goto 12, 3) := by decide +kernel
theorem dX4_proportion_8 : decode cX4_proportion 8 = .ok (.iload_n 0, 1) := by decide +kernel
theorem dX4_proportion_9 : decode cX4_proportion 9 = .ok (.i2l, 1) := by decide +kernel
theorem dX4_proportion_10 : decode cX4_proportion 10 = .ok (.iload_n 1, 1) := by decide +kernel
theorem dX4_proportion_11 : decode cX4_proportion 11 = .ok (.i2l, 1) := by decide +kernel
theorem dX4_proportion_12 : decode cX4_proportion 12 = .ok (.lmul, 1) := by decide +kernel
theorem dX4_proportion_13 : decode cX4_proportion 13 = .ok (.iload_n 2, 1) := by decide +kernel
theorem dX4_proportion_14 : decode cX4_proportion 14 = .ok (.i2l, 1) := by decide +kernel
theorem dX4_proportion_15 : decode cX4_proportion 15 = .ok (.ldiv, 1) := by decide +kernel
theorem dX4_proportion_16 : decode cX4_proportion 16 = .ok (.l2i, 1) := by decide +kernel
theorem dX4_proportion_17 : decode cX4_proportion 17 = .ok (.ireturn, 1) := by decide +kernel
set_option maxRecDepth 20000 in
theorem ggX4_giveBack_X2_lowerTo : GoodIn wsX4_giveBack wsX2_lowerTo := goodIn_r _ [5, 6, 7, 8, 9, 10, 17, 18, 19] (by decide +kernel) (by decide +kernel)
set_option maxRecDepth 20000 in
theorem gX4_giveBack_X2_lowerTo_n235 : GoodIn wsX4_giveBack (wsX2_lowerTo) := ggX4_giveBack_X2_lowerTo
theorem dX4_giveBack_0 : decode cX4_giveBack 0 = .ok (.aload_n 1, 1) := by decide +kernel
theorem dX4_giveBack_1 : decode cX4_giveBack 1 = .ok (.iload_n 2, 1) := by decide +kernel
theorem dX4_giveBack_2 : decode cX4_giveBack 2 = .ok (.invokevirtual 235, 3) := by decide +kernel
theorem dX4_giveBack_5 : decode cX4_giveBack 5 = .ok (.istore_n 3, 1) := by decide +kernel
theorem dX4_giveBack_6 : decode cX4_giveBack 6 = .ok (.aload_n 0, 1) := by decide +kernel
theorem dX4_giveBack_7 : decode cX4_giveBack 7 = .ok (.dup, 1) := by decide +kernel
theorem dX4_giveBack_8 : decode cX4_giveBack 8 = .ok (.getfield 30, 3) := by decide +kernel
theorem dX4_giveBack_11 : decode cX4_giveBack 11 = .ok (.iload_n 3, 1) := by decide +kernel
theorem dX4_giveBack_12 : decode cX4_giveBack 12 = .ok (.i2l, 1) := by decide +kernel
theorem dX4_giveBack_13 : decode cX4_giveBack 13 = .ok (.ladd, 1) := by decide +kernel
theorem dX4_giveBack_14 : decode cX4_giveBack 14 = .ok (.putfield 30, 3) := by decide +kernel
theorem dX4_giveBack_17 : decode cX4_giveBack 17 = .ok (.iload_n 3, 1) := by decide +kernel
theorem dX4_giveBack_18 : decode cX4_giveBack 18 = .ok (.ireturn, 1) := by decide +kernel
end
section
theorem dX5_init_0 : decode cX5_init 0 = .ok (.aload_n 0, 1) := by decide +kernel
theorem dX5_init_1 : decode cX5_init 1 = .ok (.invokespecial 1, 3) := by decide +kernel
theorem dX5_init_4 : decode cX5_init 4 = .ok (.aload_n 0, 1) := by decide +kernel
theorem dX5_init_5 : decode cX5_init 5 = .ok (.bipush 6, 2) := by decide +kernel
theorem dX5_init_7 : decode cX5_init 7 = .ok (.newarray .int, 2) := by decide +kernel
theorem dX5_init_9 : decode cX5_init 9 = .ok (.putfield 7, 3) := by decide +kernel
theorem dX5_init_12 : decode cX5_init 12 = .ok (.aload_n 0, 1) := by decide +kernel
theorem dX5_init_13 : decode cX5_init 13 = .ok (.bipush 6, 2) := by decide +kernel
theorem dX5_init_15 : decode cX5_init 15 = .ok (.newarray .int, 2) := by decide +kernel
theorem dX5_init_17 : decode cX5_init 17 = .ok (.putfield 13, 3) := by decide +kernel
theorem dX5_init_20 : decode cX5_init 20 = .ok (.aload_n 0, 1) := by decide +kernel
theorem dX5_init_21 : decode cX5_init 21 = .ok (.bipush 20, 2) := by decide +kernel
theorem dX5_init_23 : decode cX5_init 23 = .ok (.newarray .int, 2) := by decide +kernel
theorem dX5_init_25 : decode cX5_init 25 = .ok (.putfield 16, 3) := by decide +kernel
theorem dX5_init_28 : decode cX5_init 28 = .ok (.aload_n 0, 1) := by decide +kernel
theorem dX5_init_29 : decode cX5_init 29 = .ok (.bipush 20, 2) := by decide +kernel
theorem dX5_init_31 : decode cX5_init 31 = .ok (.newarray .int, 2) := by decide +kernel
theorem dX5_init_33 : decode cX5_init 33 = .ok (.putfield 19, 3) := by decide +kernel
theorem dX5_init_36 : decode cX5_init 36 = .ok (.aload_n 0, 1) := by decide +kernel
theorem dX5_init_37 : decode cX5_init 37 = .ok (.bipush 20, 2) := by decide +kernel
theorem dX5_init_39 : decode cX5_init 39 = .ok (.newarray .int, 2) := by decide +kernel
theorem dX5_init_41 : decode cX5_init 41 = .ok (.putfield 22, 3) := by decide +kernel
theorem dX5_init_44 : decode cX5_init 44 = .ok (.aload_n 0, 1) := by decide +kernel
theorem dX5_init_45 : decode cX5_init 45 = .ok (.bipush 20, 2) := by decide +kernel
theorem dX5_init_47 : decode cX5_init 47 = .ok (.newarray .int, 2) := by decide +kernel
theorem dX5_init_49 : decode cX5_init 49 = .ok (.putfield 25, 3) := by decide +kernel
theorem dX5_init_52 : decode cX5_init 52 = .ok (.aload_n 0, 1) := by decide +kernel
theorem dX5_init_53 : decode cX5_init 53 = .ok (.bipush 20, 2) := by decide +kernel
theorem dX5_init_55 : decode cX5_init 55 = .ok (.newarray .int, 2) := by decide +kernel
theorem dX5_init_57 : decode cX5_init 57 = .ok (.putfield 28, 3) := by decide +kernel
theorem dX5_init_60 : decode cX5_init 60 = .ok (.aload_n 0, 1) := by decide +kernel
theorem dX5_init_61 : decode cX5_init 61 = .ok (.sipush 400, 3) := by decide +kernel
theorem dX5_init_64 : decode cX5_init 64 = .ok (.newarray .int, 2) := by decide +kernel
theorem dX5_init_66 : decode cX5_init 66 = .ok (.putfield 31, 3) := by decide +kernel
theorem dX5_init_69 : decode cX5_init 69 = .ok (.aload_n 0, 1) := by decide +kernel
theorem dX5_init_70 : decode cX5_init 70 = .ok (.bipush 40, 2) := by decide +kernel
theorem dX5_init_72 : decode cX5_init 72 = .ok (.newarray .int, 2) := by decide +kernel
theorem dX5_init_74 : decode cX5_init 74 = .ok (.putfield 34, 3) := by decide +kernel
theorem dX5_init_77 : decode cX5_init 77 = .ok (.aload_n 0, 1) := by decide +kernel
theorem dX5_init_78 : decode cX5_init 78 = .ok (.sipush 800, 3) := by decide +kernel
theorem dX5_init_81 : decode cX5_init 81 = .ok (.newarray .int, 2) := by decide +kernel
theorem dX5_init_83 : decode cX5_init 83 = .ok (.putfield 37, 3) := by decide +kernel
theorem dX5_init_86 : decode cX5_init 86 = .ok (.aload_n 0, 1) := by decide +kernel
theorem dX5_init_87 : decode cX5_init 87 = .ok (.sipush 800, 3) := by decide +kernel
theorem dX5_init_90 : decode cX5_init 90 = .ok (.newarray .int, 2) := by decide +kernel
theorem dX5_init_92 : decode cX5_init 92 = .ok (.putfield 40, 3) := by decide +kernel
theorem dX5_init_95 : decode cX5_init 95 = .ok (.aload_n 0, 1) := by decide +kernel
theorem dX5_init_96 : decode cX5_init 96 = .ok (.sipush 800, 3) := by decide +kernel
theorem dX5_init_99 : decode cX5_init 99 = .ok (.newarray .int, 2) := by decide +kernel
theorem dX5_init_101 : decode cX5_init 101 = .ok (.putfield 43, 3) := by decide +kernel
theorem dX5_init_104 : decode cX5_init 104 = .ok (.aload_n 0, 1) := by decide +kernel
theorem dX5_init_105 : decode cX5_init 105 = .ok (.sipush 800, 3) := by decide +kernel
theorem dX5_init_108 : decode cX5_init 108 = .ok (.newarray .int, 2) := by decide +kernel
theorem dX5_init_110 : decode cX5_init 110 = .ok (.putfield 46, 3) := by decide +kernel
theorem dX5_init_113 : decode cX5_init 113 = .ok (.aload_n 0, 1) := by decide +kernel
theorem dX5_init_114 : decode cX5_init 114 = .ok (.sipush 800, 3) := by decide +kernel
theorem dX5_init_117 : decode cX5_init 117 = .ok (.newarray .int, 2) := by decide +kernel
theorem dX5_init_119 : decode cX5_init 119 = .ok (.putfield 49, 3) := by decide +kernel
theorem dX5_init_122 : decode cX5_init 122 = .ok (.aload_n 0, 1) := by decide +kernel
theorem dX5_init_123 : decode cX5_init 123 = .ok (.sipush 800, 3) := by decide +kernel
theorem dX5_init_126 : decode cX5_init 126 = .ok (.newarray .boolean, 2) := by decide +kernel
theorem dX5_init_128 : decode cX5_init 128 = .ok (.putfield 52, 3) := by decide +kernel
theorem dX5_init_131 : decode cX5_init 131 = .ok (.aload_n 0, 1) := by decide +kernel
theorem dX5_init_132 : decode cX5_init 132 = .ok (.sipush 16000, 3) := by decide +kernel
theorem dX5_init_135 : decode cX5_init 135 = .ok (.newarray .int, 2) := by decide +kernel
theorem dX5_init_137 : decode cX5_init 137 = .ok (.putfield 56, 3) := by decide +kernel
theorem dX5_init_140 : decode cX5_init 140 = .ok (.iconst 0, 1) := by decide +kernel
theorem dX5_init_141 : decode cX5_init 141 = .ok (.istore_n 1, 1) := by decide +kernel
theorem dX5_init_142 : decode cX5_init 142 = .ok (.iload_n 1, 1) := by decide +kernel
theorem dX5_init_143 : decode cX5_init 143 = .ok (.bipush 6, 2) := by decide +kernel
theorem dX5_init_145 : decode cX5_init 145 = .ok (.if_icmp .ge 25, 3) := by decide +kernel
theorem dX5_init_148 : decode cX5_init 148 = .ok (.aload_n 0, 1) := by decide +kernel
theorem dX5_init_149 : decode cX5_init 149 = .ok (.getfield 7, 3) := by decide +kernel
theorem dX5_init_152 : decode cX5_init 152 = .ok (.iload_n 1, 1) := by decide +kernel
theorem dX5_init_153 : decode cX5_init 153 = .ok (.bipush 30, 2) := by decide +kernel
theorem dX5_init_155 : decode cX5_init 155 = .ok (.iastore, 1) := by decide +kernel
theorem dX5_init_156 : decode cX5_init 156 = .ok (.aload_n 0, 1) := by decide +kernel
theorem dX5_init_157 : decode cX5_init 157 = .ok (.getfield 13, 3) := by decide +kernel
theorem dX5_init_160 : decode cX5_init 160 = .ok (.iload_n 1, 1) := by decide +kernel
theorem dX5_init_161 : decode cX5_init 161 = .ok (.bipush 30, 2) := by decide +kernel
theorem dX5_init_163 : decode cX5_init 163 = .ok (.iastore, 1) := by decide +kernel
theorem dX5_init_164 : decode cX5_init 164 = .ok (.iinc 1 1, 3) := by decide +kernel
theorem dX5_init_167 : decode cX5_init 167 = .ok (.goto (-25), 3) := by decide +kernel
theorem dX5_init_170 : decode cX5_init 170 = .ok (.iconst 0, 1) := by decide +kernel
theorem dX5_init_171 : decode cX5_init 171 = .ok (.istore_n 1, 1) := by decide +kernel
theorem dX5_init_172 : decode cX5_init 172 = .ok (.iload_n 1, 1) := by decide +kernel
theorem dX5_init_173 : decode cX5_init 173 = .ok (.bipush 20, 2) := by decide +kernel
theorem dX5_init_175 : decode cX5_init 175 = .ok (.if_icmp .ge 23, 3) := by decide +kernel
theorem dX5_init_178 : decode cX5_init 178 = .ok (.aload_n 0, 1) := by decide +kernel
theorem dX5_init_179 : decode cX5_init 179 = .ok (.getfield 25, 3) := by decide +kernel
theorem dX5_init_182 : decode cX5_init 182 = .ok (.iload_n 1, 1) := by decide +kernel
theorem dX5_init_183 : decode cX5_init 183 = .ok (.iconst (-1), 1) := by decide +kernel
theorem dX5_init_184 : decode cX5_init 184 = .ok (.iastore, 1) := by decide +kernel
theorem dX5_init_185 : decode cX5_init 185 = .ok (.aload_n 0, 1) := by decide +kernel
theorem dX5_init_186 : decode cX5_init 186 = .ok (.getfield 28, 3) := by decide +kernel
theorem dX5_init_189 : decode cX5_init 189 = .ok (.iload_n 1, 1) := by decide +kernel
theorem dX5_init_190 : decode cX5_init 190 = .ok (.iconst (-1), 1) := by decide +kernel
theorem dX5_init_191 : decode cX5_init 191 = .ok (.iastore, 1) := by decide +kernel
theorem dX5_init_192 : decode cX5_init 192 = .ok (.iinc 1 1, 3) := by decide +kernel
theorem dX5_init_195 : decode cX5_init 195 = .ok (.goto (-23), 3) := by decide +kernel
theorem dX5_init_198 : decode cX5_init 198 = .ok (.return_, 1) := by decide +kernel
theorem dX5_thrown_0 : decode cX5_thrown 0 = .ok (.aload_n 0, 1) := by decide +kernel
theorem dX5_thrown_1 : decode cX5_thrown 1 = .ok (.getfield 59, 3) := by decide +kernel
theorem dX5_thrown_4 : decode cX5_thrown 4 = .ok (.ireturn, 1) := by decide +kernel
theorem dX5_can_0 : decode cX5_can 0 = .ok (.aload_n 0, 1) := by decide +kernel
theorem dX5_can_1 : decode cX5_can 1 = .ok (.iload_n 1, 1) := by decide +kernel
theorem dX5_can_2 : decode cX5_can 2 = .ok (.putfield 59, 3) := by decide +kernel
theorem dX5_can_5 : decode cX5_can 5 = .ok (.iload_n 1, 1) := by decide +kernel
theorem dX5_can_6 : decode cX5_can 6 = .ok (.ifCond .ne 7, 3) := by decide +kernel
theorem dX5_can_9 : decode cX5_can 9 = .ok (.iconst 1, 1) := by decide +kernel
theorem dX5_can_10 : decode cX5_can 10 = .ok (.goto 4, 3) := by decide +kernel
theorem dX5_can_13 : decode cX5_can 13 = .ok (.iconst 0, 1) := by decide +kernel
theorem dX5_can_14 : decode cX5_can 14 = .ok (.ireturn, 1) := by decide +kernel
theorem dX5_isIn_0 : decode cX5_isIn 0 = .ok (.iload_n 0, 1) := by decide +kernel
theorem dX5_isIn_1 : decode cX5_isIn 1 = .ok (.iload_n 1, 1) := by decide +kernel
theorem dX5_isIn_2 : decode cX5_isIn 2 = .ok (.if_icmp .lt 12, 3) := by decide +kernel
theorem dX5_isIn_5 : decode cX5_isIn 5 = .ok (.iload_n 0, 1) := by decide +kernel
theorem dX5_isIn_6 : decode cX5_isIn 6 = .ok (.iload_n 2, 1) := by decide +kernel
theorem dX5_isIn_7 : decode cX5_isIn 7 = .ok (.if_icmp .gt 7, 3) := by decide +kernel
theorem dX5_isIn_10 : decode cX5_isIn 10 = .ok (.iconst 1, 1) := by decide +kernel
theorem dX5_isIn_11 : decode cX5_isIn 11 = .ok (.goto 4, 3) := by decide +kernel
theorem dX5_isIn_14 : decode cX5_isIn 14 = .ok (.iconst 0, 1) := by decide +kernel
theorem dX5_isIn_15 : decode cX5_isIn 15 = .ok (.ireturn, 1) := by decide +kernel
set_option maxRecDepth 20000 in
theorem ggX5_isHolder_X5_isIn : GoodIn wsX5_isHolder wsX5_isIn := goodIn_r _ [5] (by decide +kernel) (by decide +kernel)
set_option maxRecDepth 20000 in
theorem gX5_isHolder_X5_isIn : GoodIn wsX5_isHolder (va_wsS RX5 66 yX5_isIn wsX5_isIn) := goodIn_app (goodIn_of _ (by decide +kernel)) ggX5_isHolder_X5_isIn
theorem dX5_isHolder_0 : decode cX5_isHolder 0 = .ok (.iload_n 1, 1) := by decide +kernel
theorem dX5_isHolder_1 : decode cX5_isHolder 1 = .ok (.iconst 0, 1) := by decide +kernel
theorem dX5_isHolder_2 : decode cX5_isHolder 2 = .ok (.aload_n 0, 1) := by decide +kernel
theorem dX5_isHolder_3 : decode cX5_isHolder 3 = .ok (.getfield 63, 3) := by decide +kernel
theorem dX5_isHolder_6 : decode cX5_isHolder 6 = .ok (.iconst 1, 1) := by decide +kernel
theorem dX5_isHolder_7 : decode cX5_isHolder 7 = .ok (.isub, 1) := by decide +kernel
theorem dX5_isHolder_8 : decode cX5_isHolder 8 = .ok (.invokestatic 66, 3) := by decide +kernel
theorem dX5_isHolder_11 : decode cX5_isHolder 11 = .ok (.ireturn, 1) := by decide +kernel
set_option maxRecDepth 20000 in
theorem ggX5_isDividend_X5_isIn : GoodIn wsX5_isDividend wsX5_isIn := goodIn_r _ [5] (by decide +kernel) (by decide +kernel)
set_option maxRecDepth 20000 in
theorem gX5_isDividend_X5_isIn : GoodIn wsX5_isDividend (va_wsS RX5 66 yX5_isIn wsX5_isIn) := goodIn_app (goodIn_of _ (by decide +kernel)) ggX5_isDividend_X5_isIn
theorem dX5_isDividend_0 : decode cX5_isDividend 0 = .ok (.iload_n 1, 1) := by decide +kernel
theorem dX5_isDividend_1 : decode cX5_isDividend 1 = .ok (.iconst 0, 1) := by decide +kernel
theorem dX5_isDividend_2 : decode cX5_isDividend 2 = .ok (.aload_n 0, 1) := by decide +kernel
theorem dX5_isDividend_3 : decode cX5_isDividend 3 = .ok (.getfield 70, 3) := by decide +kernel
theorem dX5_isDividend_6 : decode cX5_isDividend 6 = .ok (.iconst 1, 1) := by decide +kernel
theorem dX5_isDividend_7 : decode cX5_isDividend 7 = .ok (.isub, 1) := by decide +kernel
theorem dX5_isDividend_8 : decode cX5_isDividend 8 = .ok (.invokestatic 66, 3) := by decide +kernel
theorem dX5_isDividend_11 : decode cX5_isDividend 11 = .ok (.ireturn, 1) := by decide +kernel
set_option maxRecDepth 20000 in
theorem ggX5_setTreaty_X5_isIn : GoodIn wsX5_setTreaty wsX5_isIn := goodIn_r _ [6] (by decide +kernel) (by decide +kernel)
set_option maxRecDepth 20000 in
theorem gX5_setTreaty_X5_isIn : GoodIn wsX5_setTreaty (va_wsS RX5 66 yX5_isIn wsX5_isIn) := goodIn_app (goodIn_of _ (by decide +kernel)) ggX5_setTreaty_X5_isIn
set_option maxRecDepth 20000 in
theorem ggX5_setTreaty_X5_can : GoodIn wsX5_setTreaty wsX5_can := goodIn_r _ [10, 11, 12, 13, 14, 15, 16, 17, 18, 19, 20, 21, 22, 23, 24, 25, 26, 27, 28, 29, 30, 31, 32] (by decide +kernel) (by decide +kernel)
set_option maxRecDepth 20000 in
theorem gX5_setTreaty_X5_can : GoodIn wsX5_setTreaty (wsV RX5 73 RX5 yX5_can wsX5_can) := goodIn_app (goodIn_of _ (by decide +kernel)) ggX5_setTreaty_X5_can
theorem dX5_setTreaty_0 : decode cX5_setTreaty 0 = .ok (.aload_n 0, 1) := by decide +kernel
theorem dX5_setTreaty_1 : decode cX5_setTreaty 1 = .ok (.iload_n 1, 1) := by decide +kernel
theorem dX5_setTreaty_2 : decode cX5_setTreaty 2 = .ok (.iconst 0, 1) := by decide +kernel
theorem dX5_setTreaty_3 : decode cX5_setTreaty 3 = .ok (.iconst 5, 1) := by decide +kernel
theorem dX5_setTreaty_4 : decode cX5_setTreaty 4 = .ok (.invokestatic 66, 3) := by decide +kernel
theorem dX5_setTreaty_7 : decode cX5_setTreaty 7 = .ok (.ifCond .eq 27, 3) := by decide +kernel
theorem dX5_setTreaty_10 : decode cX5_setTreaty 10 = .ok (.iload_n 2, 1) := by decide +kernel
theorem dX5_setTreaty_11 : decode cX5_setTreaty 11 = .ok (.iconst 0, 1) := by decide +kernel
theorem dX5_setTreaty_12 : decode cX5_setTreaty 12 = .ok (.bipush 30, 2) := by decide +kernel
theorem dX5_setTreaty_14 : decode cX5_setTreaty 14 = .ok (.invokestatic 66, 3) := by decide +kernel
theorem dX5_setTreaty_17 : decode cX5_setTreaty 17 = .ok (.ifCond .eq 17, 3) := by decide +kernel
theorem dX5_setTreaty_20 : decode cX5_setTreaty 20 = .ok (.iload_n 3, 1) := by decide +kernel
theorem dX5_setTreaty_21 : decode cX5_setTreaty 21 = .ok (.iconst 0, 1) := by decide +kernel
theorem dX5_setTreaty_22 : decode cX5_setTreaty 22 = .ok (.bipush 30, 2) := by decide +kernel
theorem dX5_setTreaty_24 : decode cX5_setTreaty 24 = .ok (.invokestatic 66, 3) := by decide +kernel
theorem dX5_setTreaty_27 : decode cX5_setTreaty 27 = .ok (.ifCond .eq 7, 3) := by decide +kernel
theorem dX5_setTreaty_30 : decode cX5_setTreaty 30 = .ok (.iconst 0, 1) := by decide +kernel
theorem dX5_setTreaty_31 : decode cX5_setTreaty 31 = .ok (.goto 4, 3) := by decide +kernel
theorem dX5_setTreaty_34 : decode cX5_setTreaty 34 = .ok (.iconst 1, 1) := by decide +kernel
theorem dX5_setTreaty_35 : decode cX5_setTreaty 35 = .ok (.invokevirtual 73, 3) := by decide +kernel
theorem dX5_setTreaty_38 : decode cX5_setTreaty 38 = .ok (.ifCond .ne 5, 3) := by decide +kernel
theorem dX5_setTreaty_41 : decode cX5_setTreaty 41 = .ok (.iconst 0, 1) := by decide +kernel
theorem dX5_setTreaty_42 : decode cX5_setTreaty 42 = .ok (.ireturn, 1) := by decide +kernel
theorem dX5_setTreaty_43 : decode cX5_setTreaty 43 = .ok (.aload_n 0, 1) := by decide +kernel
theorem dX5_setTreaty_44 : decode cX5_setTreaty 44 = .ok (.getfield 7, 3) := by decide +kernel
theorem dX5_setTreaty_47 : decode cX5_setTreaty 47 = .ok (.iload_n 1, 1) := by decide +kernel
theorem dX5_setTreaty_48 : decode cX5_setTreaty 48 = .ok (.iaload, 1) := by decide +kernel
theorem dX5_setTreaty_49 : decode cX5_setTreaty 49 = .ok (.istore 4, 2) := by decide +kernel
theorem dX5_setTreaty_51 : decode cX5_setTreaty 51 = .ok (.aload_n 0, 1) := by decide +kernel
theorem dX5_setTreaty_52 : decode cX5_setTreaty 52 = .ok (.getfield 7, 3) := by decide +kernel
theorem dX5_setTreaty_55 : decode cX5_setTreaty 55 = .ok (.iload_n 1, 1) := by decide +kernel
theorem dX5_setTreaty_56 : decode cX5_setTreaty 56 = .ok (.iload_n 2, 1) := by decide +kernel
theorem dX5_setTreaty_57 : decode cX5_setTreaty 57 = .ok (.iastore, 1) := by decide +kernel
theorem dX5_setTreaty_58 : decode cX5_setTreaty 58 = .ok (.aload_n 0, 1) := by decide +kernel
theorem dX5_setTreaty_59 : decode cX5_setTreaty 59 = .ok (.getfield 13, 3) := by decide +kernel
theorem dX5_setTreaty_62 : decode cX5_setTreaty 62 = .ok (.iload_n 1, 1) := by decide +kernel
theorem dX5_setTreaty_63 : decode cX5_setTreaty 63 = .ok (.iload_n 3, 1) := by decide +kernel
theorem dX5_setTreaty_64 : decode cX5_setTreaty 64 = .ok (.iastore, 1) := by decide +kernel
theorem dX5_setTreaty_65 : decode cX5_setTreaty 65 = .ok (.iload 4, 2) := by decide +kernel
theorem dX5_setTreaty_67 : decode cX5_setTreaty 67 = .ok (.ireturn, 1) := by decide +kernel
set_option maxRecDepth 20000 in
theorem ggX5_addHolder_X5_isIn : GoodIn wsX5_addHolder wsX5_isIn := goodIn_r _ [7] (by decide +kernel) (by decide +kernel)
set_option maxRecDepth 20000 in
theorem gX5_addHolder_X5_isIn : GoodIn wsX5_addHolder (va_wsS RX5 66 yX5_isIn wsX5_isIn) := goodIn_app (goodIn_of _ (by decide +kernel)) ggX5_addHolder_X5_isIn
set_option maxRecDepth 20000 in
theorem ggX5_addHolder_X5_can : GoodIn wsX5_addHolder wsX5_can := goodIn_r _ [11, 12, 13, 14, 15, 16, 17, 18, 19, 20, 21, 22, 23, 24, 25, 26, 27, 28, 29, 30, 31, 32, 33] (by decide +kernel) (by decide +kernel)
set_option maxRecDepth 20000 in
theorem gX5_addHolder_X5_can : GoodIn wsX5_addHolder (wsV RX5 73 RX5 yX5_can wsX5_can) := goodIn_app (goodIn_of _ (by decide +kernel)) ggX5_addHolder_X5_can
theorem dX5_addHolder_0 : decode cX5_addHolder 0 = .ok (.iload_n 1, 1) := by decide +kernel
theorem dX5_addHolder_1 : decode cX5_addHolder 1 = .ok (.iconst 0, 1) := by decide +kernel
theorem dX5_addHolder_2 : decode cX5_addHolder 2 = .ok (.iconst 2, 1) := by decide +kernel
theorem dX5_addHolder_3 : decode cX5_addHolder 3 = .ok (.invokestatic 66, 3) := by decide +kernel
theorem dX5_addHolder_6 : decode cX5_addHolder 6 = .ok (.ifCond .eq 29, 3) := by decide +kernel
theorem dX5_addHolder_9 : decode cX5_addHolder 9 = .ok (.iload_n 1, 1) := by decide +kernel
theorem dX5_addHolder_10 : decode cX5_addHolder 10 = .ok (.iconst 2, 1) := by decide +kernel
theorem dX5_addHolder_11 : decode cX5_addHolder 11 = .ok (.if_icmp .ne 11, 3) := by decide +kernel
theorem dX5_addHolder_14 : decode cX5_addHolder 14 = .ok (.iload_n 2, 1) := by decide +kernel
theorem dX5_addHolder_15 : decode cX5_addHolder 15 = .ok (.iconst (-1), 1) := by decide +kernel
theorem dX5_addHolder_16 : decode cX5_addHolder 16 = .ok (.if_icmp .ne 19, 3) := by decide +kernel
theorem dX5_addHolder_19 : decode cX5_addHolder 19 = .ok (.goto 12, 3) := by decide +kernel
theorem dX5_addHolder_22 : decode cX5_addHolder 22 = .ok (.iload_n 2, 1) := by decide +kernel
theorem dX5_addHolder_23 : decode cX5_addHolder 23 = .ok (.iconst 0, 1) := by decide +kernel
theorem dX5_addHolder_24 : decode cX5_addHolder 24 = .ok (.iconst 5, 1) := by decide +kernel
theorem dX5_addHolder_25 : decode cX5_addHolder 25 = .ok (.invokestatic 66, 3) := by decide +kernel
theorem dX5_addHolder_28 : decode cX5_addHolder 28 = .ok (.ifCond .eq 7, 3) := by decide +kernel
theorem dX5_addHolder_31 : decode cX5_addHolder 31 = .ok (.iconst 1, 1) := by decide +kernel
theorem dX5_addHolder_32 : decode cX5_addHolder 32 = .ok (.goto 4, 3) := by decide +kernel
theorem dX5_addHolder_35 : decode cX5_addHolder 35 = .ok (.iconst 0, 1) := by decide +kernel
theorem dX5_addHolder_36 : decode cX5_addHolder 36 = .ok (.istore_n 3, 1) := by decide +kernel
theorem dX5_addHolder_37 : decode cX5_addHolder 37 = .ok (.aload_n 0, 1) := by decide +kernel
theorem dX5_addHolder_38 : decode cX5_addHolder 38 = .ok (.iload_n 3, 1) := by decide +kernel
theorem dX5_addHolder_39 : decode cX5_addHolder 39 = .ok (.ifCond .ne 7, 3) := by decide +kernel
theorem dX5_addHolder_42 : decode cX5_addHolder 42 = .ok (.iconst 1, 1) := by decide +kernel
theorem dX5_addHolder_43 : decode cX5_addHolder 43 = .ok (.goto 17, 3) := by decide +kernel
theorem dX5_addHolder_46 : decode cX5_addHolder 46 = .ok (.aload_n 0, 1) := by decide +kernel
theorem dX5_addHolder_47 : decode cX5_addHolder 47 = .ok (.getfield 63, 3) := by decide +kernel
theorem dX5_addHolder_50 : decode cX5_addHolder 50 = .ok (.bipush 20, 2) := by decide +kernel
theorem dX5_addHolder_52 : decode cX5_addHolder 52 = .ok (.if_icmp .ne 7, 3) := by decide +kernel
theorem dX5_addHolder_55 : decode cX5_addHolder 55 = .ok (.iconst 2, 1) := by decide +kernel
theorem dX5_addHolder_56 : decode cX5_addHolder 56 = .ok (.goto 4, 3) := by decide +kernel
theorem dX5_addHolder_59 : decode cX5_addHolder 59 = .ok (.iconst 0, 1) := by decide +kernel
theorem dX5_addHolder_60 : decode cX5_addHolder 60 = .ok (.invokevirtual 73, 3) := by decide +kernel
theorem dX5_addHolder_63 : decode cX5_addHolder 63 = .ok (.ifCond .ne 5, 3) := by decide +kernel
theorem dX5_addHolder_66 : decode cX5_addHolder 66 = .ok (.iconst 0, 1) := by decide +kernel
theorem dX5_addHolder_67 : decode cX5_addHolder 67 = .ok (.ireturn, 1) := by decide +kernel
theorem dX5_addHolder_68 : decode cX5_addHolder 68 = .ok (.aload_n 0, 1) := by decide +kernel
theorem dX5_addHolder_69 : decode cX5_addHolder 69 = .ok (.getfield 16, 3) := by decide +kernel
theorem dX5_addHolder_72 : decode cX5_addHolder 72 = .ok (.aload_n 0, 1) := by decide +kernel
theorem dX5_addHolder_73 : decode cX5_addHolder 73 = .ok (.getfield 63, 3) := by decide +kernel
theorem dX5_addHolder_76 : decode cX5_addHolder 76 = .ok (.iload_n 1, 1) := by decide +kernel
theorem dX5_addHolder_77 : decode cX5_addHolder 77 = .ok (.iastore, 1) := by decide +kernel
theorem dX5_addHolder_78 : decode cX5_addHolder 78 = .ok (.aload_n 0, 1) := by decide +kernel
theorem dX5_addHolder_79 : decode cX5_addHolder 79 = .ok (.getfield 19, 3) := by decide +kernel
theorem dX5_addHolder_82 : decode cX5_addHolder 82 = .ok (.aload_n 0, 1) := by decide +kernel
theorem dX5_addHolder_83 : decode cX5_addHolder 83 = .ok (.getfield 63, 3) := by decide +kernel
theorem dX5_addHolder_86 : decode cX5_addHolder 86 = .ok (.iload_n 2, 1) := by decide +kernel
theorem dX5_addHolder_87 : decode cX5_addHolder 87 = .ok (.iastore, 1) := by decide +kernel
theorem dX5_addHolder_88 : decode cX5_addHolder 88 = .ok (.aload_n 0, 1) := by decide +kernel
theorem dX5_addHolder_89 : decode cX5_addHolder 89 = .ok (.dup, 1) := by decide +kernel
theorem dX5_addHolder_90 : decode cX5_addHolder 90 = .ok (.getfield 63, 3) := by decide +kernel
theorem dX5_addHolder_93 : decode cX5_addHolder 93 = .ok (.iconst 1, 1) := by decide +kernel
theorem dX5_addHolder_94 : decode cX5_addHolder 94 = .ok (.iadd, 1) := by decide +kernel
theorem dX5_addHolder_95 : decode cX5_addHolder 95 = .ok (.putfield 63, 3) := by decide +kernel
theorem dX5_addHolder_98 : decode cX5_addHolder 98 = .ok (.aload_n 0, 1) := by decide +kernel
theorem dX5_addHolder_99 : decode cX5_addHolder 99 = .ok (.getfield 63, 3) := by decide +kernel
theorem dX5_addHolder_102 : decode cX5_addHolder 102 = .ok (.iconst 1, 1) := by decide +kernel
theorem dX5_addHolder_103 : decode cX5_addHolder 103 = .ok (.isub, 1) := by decide +kernel
theorem dX5_addHolder_104 : decode cX5_addHolder 104 = .ok (.ireturn, 1) := by decide +kernel
set_option maxRecDepth 20000 in
theorem ggX5_setParts_X5_isHolder : GoodIn wsX5_setParts wsX5_isHolder := goodIn_r _ [7, 8, 9, 10, 6, 11, 17, 18, 19, 20, 21, 22, 23, 24, 25, 26, 27, 28, 29, 30, 31, 32, 33, 34, 35, 36, 37] (by decide +kernel) (by decide +kernel)
set_option maxRecDepth 20000 in
theorem gX5_setParts_X5_isHolder : GoodIn wsX5_setParts (wsV RX5 77 RX5 yX5_isHolder wsX5_isHolder) := goodIn_app (goodIn_of _ (by decide +kernel)) ggX5_setParts_X5_isHolder
set_option maxRecDepth 20000 in
theorem ggX5_setParts_X5_isIn : GoodIn wsX5_setParts wsX5_isIn := goodIn_r _ [11] (by decide +kernel) (by decide +kernel)
set_option maxRecDepth 20000 in
theorem gX5_setParts_X5_isIn : GoodIn wsX5_setParts (va_wsS RX5 66 yX5_isIn wsX5_isIn) := goodIn_app (goodIn_of _ (by decide +kernel)) ggX5_setParts_X5_isIn
set_option maxRecDepth 20000 in
theorem ggX5_setParts_X5_can : GoodIn wsX5_setParts wsX5_can := goodIn_r _ [15, 16, 17, 18, 19, 20, 21, 22, 23, 24, 25, 26, 27, 28, 29, 30, 31, 32, 33, 34, 35, 36, 37] (by decide +kernel) (by decide +kernel)
set_option maxRecDepth 20000 in
theorem gX5_setParts_X5_can : GoodIn wsX5_setParts (wsV RX5 73 RX5 yX5_can wsX5_can) := goodIn_app (goodIn_of _ (by decide +kernel)) ggX5_setParts_X5_can
theorem dX5_setParts_0 : decode cX5_setParts 0 = .ok (.aload_n 0, 1) := by decide +kernel
theorem dX5_setParts_1 : decode cX5_setParts 1 = .ok (.iload_n 1, 1) := by decide +kernel
theorem dX5_setParts_2 : decode cX5_setParts 2 = .ok (.invokevirtual 77, 3) := by decide +kernel
theorem dX5_setParts_5 : decode cX5_setParts 5 = .ok (.ifCond .eq 15, 3) := by decide +kernel
theorem dX5_setParts_8 : decode cX5_setParts 8 = .ok (.aload_n 0, 1) := by decide +kernel
theorem dX5_setParts_9 : decode cX5_setParts 9 = .ok (.iload_n 2, 1) := by decide +kernel
theorem dX5_setParts_10 : decode cX5_setParts 10 = .ok (.invokevirtual 77, 3) := by decide +kernel
theorem dX5_setParts_13 : decode cX5_setParts 13 = .ok (.ifCond .eq 7, 3) := by decide +kernel
theorem dX5_setParts_16 : decode cX5_setParts 16 = .ok (.iconst 1, 1) := by decide +kernel
theorem dX5_setParts_17 : decode cX5_setParts 17 = .ok (.goto 4, 3) := by decide +kernel
theorem dX5_setParts_20 : decode cX5_setParts 20 = .ok (.iconst 0, 1) := by decide +kernel
theorem dX5_setParts_21 : decode cX5_setParts 21 = .ok (.istore 4, 2) := by decide +kernel
theorem dX5_setParts_23 : decode cX5_setParts 23 = .ok (.iload 4, 2) := by decide +kernel
theorem dX5_setParts_25 : decode cX5_setParts 25 = .ok (.ifCond .eq 37, 3) := by decide +kernel
theorem dX5_setParts_28 : decode cX5_setParts 28 = .ok (.aload_n 0, 1) := by decide +kernel
theorem dX5_setParts_29 : decode cX5_setParts 29 = .ok (.getfield 16, 3) := by decide +kernel
theorem dX5_setParts_32 : decode cX5_setParts 32 = .ok (.iload_n 1, 1) := by decide +kernel
theorem dX5_setParts_33 : decode cX5_setParts 33 = .ok (.iaload, 1) := by decide +kernel
theorem dX5_setParts_34 : decode cX5_setParts 34 = .ok (.iconst 2, 1) := by decide +kernel
theorem dX5_setParts_35 : decode cX5_setParts 35 = .ok (.if_icmp .ne 27, 3) := by decide +kernel
theorem dX5_setParts_38 : decode cX5_setParts 38 = .ok (.aload_n 0, 1) := by decide +kernel
theorem dX5_setParts_39 : decode cX5_setParts 39 = .ok (.getfield 16, 3) := by decide +kernel
theorem dX5_setParts_42 : decode cX5_setParts 42 = .ok (.iload_n 2, 1) := by decide +kernel
theorem dX5_setParts_43 : decode cX5_setParts 43 = .ok (.iaload, 1) := by decide +kernel
theorem dX5_setParts_44 : decode cX5_setParts 44 = .ok (.iconst 2, 1) := by decide +kernel
theorem dX5_setParts_45 : decode cX5_setParts 45 = .ok (.if_icmp .eq 17, 3) := by decide +kernel
theorem dX5_setParts_48 : decode cX5_setParts 48 = .ok (.iload_n 3, 1) := by decide +kernel
theorem dX5_setParts_49 : decode cX5_setParts 49 = .ok (.iconst 0, 1) := by decide +kernel
theorem dX5_setParts_50 : decode cX5_setParts 50 = .ok (.bipush 100, 2) := by decide +kernel
theorem dX5_setParts_52 : decode cX5_setParts 52 = .ok (.invokestatic 66, 3) := by decide +kernel
theorem dX5_setParts_55 : decode cX5_setParts 55 = .ok (.ifCond .eq 7, 3) := by decide +kernel
theorem dX5_setParts_58 : decode cX5_setParts 58 = .ok (.iconst 1, 1) := by decide +kernel
theorem dX5_setParts_59 : decode cX5_setParts 59 = .ok (.goto 4, 3) := by decide +kernel
theorem dX5_setParts_62 : decode cX5_setParts 62 = .ok (.iconst 0, 1) := by decide +kernel
theorem dX5_setParts_63 : decode cX5_setParts 63 = .ok (.istore 5, 2) := by decide +kernel
theorem dX5_setParts_65 : decode cX5_setParts 65 = .ok (.aload_n 0, 1) := by decide +kernel
theorem dX5_setParts_66 : decode cX5_setParts 66 = .ok (.iload 4, 2) := by decide +kernel
theorem dX5_setParts_68 : decode cX5_setParts 68 = .ok (.ifCond .ne 7, 3) := by decide +kernel
theorem dX5_setParts_71 : decode cX5_setParts 71 = .ok (.iconst 1, 1) := by decide +kernel
theorem dX5_setParts_72 : decode cX5_setParts 72 = .ok (.goto 13, 3) := by decide +kernel
theorem dX5_setParts_75 : decode cX5_setParts 75 = .ok (.iload 5, 2) := by decide +kernel
theorem dX5_setParts_77 : decode cX5_setParts 77 = .ok (.ifCond .eq 7, 3) := by decide +kernel
theorem dX5_setParts_80 : decode cX5_setParts 80 = .ok (.iconst 0, 1) := by decide +kernel
theorem dX5_setParts_81 : decode cX5_setParts 81 = .ok (.goto 4, 3) := by decide +kernel
theorem dX5_setParts_84 : decode cX5_setParts 84 = .ok (.iconst 2, 1) := by decide +kernel
theorem dX5_setParts_85 : decode cX5_setParts 85 = .ok (.invokevirtual 73, 3) := by decide +kernel
theorem dX5_setParts_88 : decode cX5_setParts 88 = .ok (.ifCond .ne 5, 3) := by decide +kernel
theorem dX5_setParts_91 : decode cX5_setParts 91 = .ok (.iconst 0, 1) := by decide +kernel
theorem dX5_setParts_92 : decode cX5_setParts 92 = .ok (.ireturn, 1) := by decide +kernel
theorem dX5_setParts_93 : decode cX5_setParts 93 = .ok (.aload_n 0, 1) := by decide +kernel
theorem dX5_setParts_94 : decode cX5_setParts 94 = .ok (.getfield 31, 3) := by decide +kernel
theorem dX5_setParts_97 : decode cX5_setParts 97 = .ok (.bipush 20, 2) := by decide +kernel
theorem dX5_setParts_99 : decode cX5_setParts 99 = .ok (.iload_n 1, 1) := by decide +kernel
theorem dX5_setParts_100 : decode cX5_setParts 100 = .ok (.imul, 1) := by decide +kernel
theorem dX5_setParts_101 : decode cX5_setParts 101 = .ok (.iload_n 2, 1) := by decide +kernel
theorem dX5_setParts_102 : decode cX5_setParts 102 = .ok (.iadd, 1) := by decide +kernel
theorem dX5_setParts_103 : decode cX5_setParts 103 = .ok (.iaload, 1) := by decide +kernel
theorem dX5_setParts_104 : decode cX5_setParts 104 = .ok (.istore 6, 2) := by decide +kernel
theorem dX5_setParts_106 : decode cX5_setParts 106 = .ok (.aload_n 0, 1) := by decide +kernel
theorem dX5_setParts_107 : decode cX5_setParts 107 = .ok (.getfield 31, 3) := by decide +kernel
theorem dX5_setParts_110 : decode cX5_setParts 110 = .ok (.bipush 20, 2) := by decide +kernel
theorem dX5_setParts_112 : decode cX5_setParts 112 = .ok (.iload_n 1, 1) := by decide +kernel
theorem dX5_setParts_113 : decode cX5_setParts 113 = .ok (.imul, 1) := by decide +kernel
theorem dX5_setParts_114 : decode cX5_setParts 114 = .ok (.iload_n 2, 1) := by decide +kernel
theorem dX5_setParts_115 : decode cX5_setParts 115 = .ok (.iadd, 1) := by decide +kernel
theorem dX5_setParts_116 : decode cX5_setParts 116 = .ok (.iload_n 3, 1) := by decide +kernel
theorem dX5_setParts_117 : decode cX5_setParts 117 = .ok (.iastore, 1) := by decide +kernel
theorem dX5_setParts_118 : decode cX5_setParts 118 = .ok (.iload 6, 2) := by decide +kernel
theorem dX5_setParts_120 : decode cX5_setParts 120 = .ok (.ireturn, 1) := by decide +kernel
theorem dX5_allShares_0 : decode cX5_allShares 0 = .ok (.iconst 0, 1) := by decide +kernel
theorem dX5_allShares_1 : decode cX5_allShares 1 = .ok (.istore_n 1, 1) := by decide +kernel
theorem dX5_allShares_2 : decode cX5_allShares 2 = .ok (.iconst 0, 1) := by decide +kernel
theorem dX5_allShares_3 : decode cX5_allShares 3 = .ok (.istore_n 2, 1) := by decide +kernel
theorem dX5_allShares_4 : decode cX5_allShares 4 = .ok (.iload_n 2, 1) := by decide +kernel
theorem dX5_allShares_5 : decode cX5_allShares 5 = .ok (.aload_n 0, 1) := by decide +kernel
theorem dX5_allShares_6 : decode cX5_allShares 6 = .ok (.getfield 63, 3) := by decide +kernel
theorem dX5_allShares_9 : decode cX5_allShares 9 = .ok (.if_icmp .ge 18, 3) := by decide +kernel
theorem dX5_allShares_12 : decode cX5_allShares 12 = .ok (.iload_n 1, 1) := by decide +kernel
theorem dX5_allShares_13 : decode cX5_allShares 13 = .ok (.aload_n 0, 1) := by decide +kernel
theorem dX5_allShares_14 : decode cX5_allShares 14 = .ok (.getfield 22, 3) := by decide +kernel
theorem dX5_allShares_17 : decode cX5_allShares 17 = .ok (.iload_n 2, 1) := by decide +kernel
theorem dX5_allShares_18 : decode cX5_allShares 18 = .ok (.iaload, 1) := by decide +kernel
theorem dX5_allShares_19 : decode cX5_allShares 19 = .ok (.iadd, 1) := by decide +kernel
theorem dX5_allShares_20 : decode cX5_allShares 20 = .ok (.istore_n 1, 1) := by decide +kernel
theorem dX5_allShares_21 : decode cX5_allShares 21 = .ok (.iinc 2 1, 3) := by decide +kernel
theorem dX5_allShares_24 : decode cX5_allShares 24 = .ok (.goto (-20), 3) := by decide +kernel
theorem dX5_allShares_27 : decode cX5_allShares 27 = .ok (.iload_n 1, 1) := by decide +kernel
theorem dX5_allShares_28 : decode cX5_allShares 28 = .ok (.ireturn, 1) := by decide +kernel
set_option maxRecDepth 20000 in
theorem ggX5_setShares_X5_isHolder : GoodIn wsX5_setShares wsX5_isHolder := goodIn_r _ [7, 8, 9, 10, 6, 11, 21, 22, 23, 24, 25, 26, 27, 28, 29, 30, 31, 32, 33, 34, 35, 36, 37, 38, 39, 40, 41] (by decide +kernel) (by decide +kernel)
set_option maxRecDepth 20000 in
theorem gX5_setShares_X5_isHolder : GoodIn wsX5_setShares (wsV RX5 77 RX5 yX5_isHolder wsX5_isHolder) := goodIn_app (goodIn_of _ (by decide +kernel)) ggX5_setShares_X5_isHolder
set_option maxRecDepth 20000 in
theorem ggX5_setShares_X5_isIn : GoodIn wsX5_setShares wsX5_isIn := goodIn_r _ [11] (by decide +kernel) (by decide +kernel)
set_option maxRecDepth 20000 in
theorem gX5_setShares_X5_isIn : GoodIn wsX5_setShares (va_wsS RX5 66 yX5_isIn wsX5_isIn) := goodIn_app (goodIn_of _ (by decide +kernel)) ggX5_setShares_X5_isIn
set_option maxRecDepth 20000 in
theorem ggX5_setShares_X5_allShares : GoodIn wsX5_setShares wsX5_allShares := goodIn_r _ [15, 8, 2, 21, 22, 23, 24, 25, 26, 27, 28, 29, 30, 31, 32, 33, 34, 35, 36, 37, 38, 39, 40, 41] (by decide +kernel) (by decide +kernel)
set_option maxRecDepth 20000 in
theorem gX5_setShares_X5_allShares : GoodIn wsX5_setShares (wsV RX5 81 RX5 yX5_allShares wsX5_allShares) := goodIn_app (goodIn_of _ (by decide +kernel)) ggX5_setShares_X5_allShares
set_option maxRecDepth 20000 in
theorem ggX5_setShares_X5_can : GoodIn wsX5_setShares wsX5_can := goodIn_r _ [19, 20, 21, 22, 23, 24, 25, 26, 27, 28, 29, 30, 31, 32, 33, 34, 35, 36, 37, 38, 39, 40, 41] (by decide +kernel) (by decide +kernel)
set_option maxRecDepth 20000 in
theorem gX5_setShares_X5_can : GoodIn wsX5_setShares (wsV RX5 73 RX5 yX5_can wsX5_can) := goodIn_app (goodIn_of _ (by decide +kernel)) ggX5_setShares_X5_can
theorem dX5_setShares_0 : decode cX5_setShares 0 = .ok (.aload_n 0, 1) := by decide +kernel
theorem dX5_setShares_1 : decode cX5_setShares 1 = .ok (.aload_n 0, 1) := by decide +kernel
theorem dX5_setShares_2 : decode cX5_setShares 2 = .ok (.iload_n 1, 1) := by decide +kernel
theorem dX5_setShares_3 : decode cX5_setShares 3 = .ok (.invokevirtual 77, 3) := by decide +kernel
theorem dX5_setShares_6 : decode cX5_setShares 6 = .ok (.ifCond .ne 7, 3) := by decide +kernel
theorem dX5_setShares_9 : decode cX5_setShares 9 = .ok (.iconst 1, 1) := by decide +kernel
theorem dX5_setShares_10 : decode cX5_setShares 10 = .ok (.goto 40, 3) := by decide +kernel
theorem dX5_setShares_13 : decode cX5_setShares 13 = .ok (.iload_n 2, 1) := by decide +kernel
theorem dX5_setShares_14 : decode cX5_setShares 14 = .ok (.iconst 0, 1) := by decide +kernel
theorem dX5_setShares_15 : decode cX5_setShares 15 = .ok (.ldc 80, 2) := by decide +kernel
theorem dX5_setShares_17 : decode cX5_setShares 17 = .ok (.invokestatic 66, 3) := by decide +kernel
theorem dX5_setShares_20 : decode cX5_setShares 20 = .ok (.ifCond .ne 7, 3) := by decide +kernel
theorem dX5_setShares_23 : decode cX5_setShares 23 = .ok (.iconst 2, 1) := by decide +kernel
theorem dX5_setShares_24 : decode cX5_setShares 24 = .ok (.goto 26, 3) := by decide +kernel
theorem dX5_setShares_27 : decode cX5_setShares 27 = .ok (.aload_n 0, 1) := by decide +kernel
theorem dX5_setShares_28 : decode cX5_setShares 28 = .ok (.invokevirtual 81, 3) := by decide +kernel
theorem dX5_setShares_31 : decode cX5_setShares 31 = .ok (.aload_n 0, 1) := by decide +kernel
theorem dX5_setShares_32 : decode cX5_setShares 32 = .ok (.getfield 22, 3) := by decide +kernel
theorem dX5_setShares_35 : decode cX5_setShares 35 = .ok (.iload_n 1, 1) := by decide +kernel
theorem dX5_setShares_36 : decode cX5_setShares 36 = .ok (.iaload, 1) := by decide +kernel
theorem dX5_setShares_37 : decode cX5_setShares 37 = .ok (.isub, 1) := by decide +kernel
theorem dX5_setShares_38 : decode cX5_setShares 38 = .ok (.iload_n 2, 1) := by decide +kernel
theorem dX5_setShares_39 : decode cX5_setShares 39 = .ok (.iadd, 1) := by decide +kernel
theorem dX5_setShares_40 : decode cX5_setShares 40 = .ok (.ldc 80, 2) := by decide +kernel
theorem dX5_setShares_42 : decode cX5_setShares 42 = .ok (.if_icmp .le 7, 3) := by decide +kernel
theorem dX5_setShares_45 : decode cX5_setShares 45 = .ok (.iconst 3, 1) := by decide +kernel
theorem dX5_setShares_46 : decode cX5_setShares 46 = .ok (.goto 4, 3) := by decide +kernel
theorem dX5_setShares_49 : decode cX5_setShares 49 = .ok (.iconst 0, 1) := by decide +kernel
theorem dX5_setShares_50 : decode cX5_setShares 50 = .ok (.invokevirtual 73, 3) := by decide +kernel
theorem dX5_setShares_53 : decode cX5_setShares 53 = .ok (.ifCond .ne 5, 3) := by decide +kernel
theorem dX5_setShares_56 : decode cX5_setShares 56 = .ok (.iconst 0, 1) := by decide +kernel
theorem dX5_setShares_57 : decode cX5_setShares 57 = .ok (.ireturn, 1) := by decide +kernel
theorem dX5_setShares_58 : decode cX5_setShares 58 = .ok (.aload_n 0, 1) := by decide +kernel
theorem dX5_setShares_59 : decode cX5_setShares 59 = .ok (.getfield 22, 3) := by decide +kernel
theorem dX5_setShares_62 : decode cX5_setShares 62 = .ok (.iload_n 1, 1) := by decide +kernel
theorem dX5_setShares_63 : decode cX5_setShares 63 = .ok (.iaload, 1) := by decide +kernel
theorem dX5_setShares_64 : decode cX5_setShares 64 = .ok (.istore_n 3, 1) := by decide +kernel
theorem dX5_setShares_65 : decode cX5_setShares 65 = .ok (.aload_n 0, 1) := by decide +kernel
theorem dX5_setShares_66 : decode cX5_setShares 66 = .ok (.getfield 22, 3) := by decide +kernel
theorem dX5_setShares_69 : decode cX5_setShares 69 = .ok (.iload_n 1, 1) := by decide +kernel
theorem dX5_setShares_70 : decode cX5_setShares 70 = .ok (.iload_n 2, 1) := by decide +kernel
theorem dX5_setShares_71 : decode cX5_setShares 71 = .ok (.iastore, 1) := by decide +kernel
theorem dX5_setShares_72 : decode cX5_setShares 72 = .ok (.iload_n 3, 1) := by decide +kernel
theorem dX5_setShares_73 : decode cX5_setShares 73 = .ok (.ireturn, 1) := by decide +kernel
set_option maxRecDepth 20000 in
theorem ggX5_giveForm_X5_isHolder : GoodIn wsX5_giveForm wsX5_isHolder := goodIn_r _ [7, 8, 9, 10, 6, 11, 17, 18, 19, 20, 21, 22, 23, 24, 25, 26, 27, 28, 29, 30, 31, 32, 33, 34, 35, 36, 37] (by decide +kernel) (by decide +kernel)
set_option maxRecDepth 20000 in
theorem gX5_giveForm_X5_isHolder : GoodIn wsX5_giveForm (wsV RX5 77 RX5 yX5_isHolder wsX5_isHolder) := goodIn_app (goodIn_of _ (by decide +kernel)) ggX5_giveForm_X5_isHolder
set_option maxRecDepth 20000 in
theorem ggX5_giveForm_X5_can : GoodIn wsX5_giveForm wsX5_can := goodIn_r _ [15, 16, 17, 18, 19, 20, 21, 22, 23, 24, 25, 26, 27, 28, 29, 30, 31, 32, 33, 34, 35, 36, 37] (by decide +kernel) (by decide +kernel)
set_option maxRecDepth 20000 in
theorem gX5_giveForm_X5_can : GoodIn wsX5_giveForm (wsV RX5 73 RX5 yX5_can wsX5_can) := goodIn_app (goodIn_of _ (by decide +kernel)) ggX5_giveForm_X5_can
theorem dX5_giveForm_0 : decode cX5_giveForm 0 = .ok (.aload_n 0, 1) := by decide +kernel
theorem dX5_giveForm_1 : decode cX5_giveForm 1 = .ok (.aload_n 0, 1) := by decide +kernel
theorem dX5_giveForm_2 : decode cX5_giveForm 2 = .ok (.iload_n 1, 1) := by decide +kernel
theorem dX5_giveForm_3 : decode cX5_giveForm 3 = .ok (.invokevirtual 77, 3) := by decide +kernel
theorem dX5_giveForm_6 : decode cX5_giveForm 6 = .ok (.ifCond .eq 7, 3) := by decide +kernel
theorem dX5_giveForm_9 : decode cX5_giveForm 9 = .ok (.iconst 0, 1) := by decide +kernel
theorem dX5_giveForm_10 : decode cX5_giveForm 10 = .ok (.goto 4, 3) := by decide +kernel
theorem dX5_giveForm_13 : decode cX5_giveForm 13 = .ok (.iconst 1, 1) := by decide +kernel
theorem dX5_giveForm_14 : decode cX5_giveForm 14 = .ok (.invokevirtual 73, 3) := by decide +kernel
theorem dX5_giveForm_17 : decode cX5_giveForm 17 = .ok (.ifCond .ne 5, 3) := by decide +kernel
theorem dX5_giveForm_20 : decode cX5_giveForm 20 = .ok (.iconst 0, 1) := by decide +kernel
theorem dX5_giveForm_21 : decode cX5_giveForm 21 = .ok (.ireturn, 1) := by decide +kernel
theorem dX5_giveForm_22 : decode cX5_giveForm 22 = .ok (.aload_n 0, 1) := by decide +kernel
theorem dX5_giveForm_23 : decode cX5_giveForm 23 = .ok (.getfield 25, 3) := by decide +kernel
theorem dX5_giveForm_26 : decode cX5_giveForm 26 = .ok (.iload_n 1, 1) := by decide +kernel
theorem dX5_giveForm_27 : decode cX5_giveForm 27 = .ok (.aload_n 0, 1) := by decide +kernel
theorem dX5_giveForm_28 : decode cX5_giveForm 28 = .ok (.getfield 85, 3) := by decide +kernel
theorem dX5_giveForm_31 : decode cX5_giveForm 31 = .ok (.sipush 1080, 3) := by decide +kernel
theorem dX5_giveForm_34 : decode cX5_giveForm 34 = .ok (.iadd, 1) := by decide +kernel
theorem dX5_giveForm_35 : decode cX5_giveForm 35 = .ok (.iastore, 1) := by decide +kernel
theorem dX5_giveForm_36 : decode cX5_giveForm 36 = .ok (.aload_n 0, 1) := by decide +kernel
theorem dX5_giveForm_37 : decode cX5_giveForm 37 = .ok (.getfield 25, 3) := by decide +kernel
theorem dX5_giveForm_40 : decode cX5_giveForm 40 = .ok (.iload_n 1, 1) := by decide +kernel
theorem dX5_giveForm_41 : decode cX5_giveForm 41 = .ok (.iaload, 1) := by decide +kernel
theorem dX5_giveForm_42 : decode cX5_giveForm 42 = .ok (.ireturn, 1) := by decide +kernel
set_option maxRecDepth 20000 in
theorem ggX5_pass_X5_isIn : GoodIn wsX5_pass wsX5_isIn := goodIn_r _ [9] (by decide +kernel) (by decide +kernel)
set_option maxRecDepth 20000 in
theorem gX5_pass_X5_isIn : GoodIn wsX5_pass (va_wsS RX5 66 yX5_isIn wsX5_isIn) := goodIn_app (goodIn_of _ (by decide +kernel)) ggX5_pass_X5_isIn
set_option maxRecDepth 20000 in
theorem ggX5_pass_X5_can : GoodIn wsX5_pass wsX5_can := goodIn_r _ [13, 14, 15, 16, 17, 18, 19, 20, 21, 22, 23, 24, 25, 26, 27, 28, 29, 30, 31, 32, 33, 34, 35] (by decide +kernel) (by decide +kernel)
set_option maxRecDepth 20000 in
theorem gX5_pass_X5_can : GoodIn wsX5_pass (wsV RX5 73 RX5 yX5_can wsX5_can) := goodIn_app (goodIn_of _ (by decide +kernel)) ggX5_pass_X5_can
theorem dX5_pass_0 : decode cX5_pass 0 = .ok (.aload_n 0, 1) := by decide +kernel
theorem dX5_pass_1 : decode cX5_pass 1 = .ok (.iload_n 1, 1) := by decide +kernel
theorem dX5_pass_2 : decode cX5_pass 2 = .ok (.iconst 1, 1) := by decide +kernel
theorem dX5_pass_3 : decode cX5_pass 3 = .ok (.sipush 2000, 3) := by decide +kernel
theorem dX5_pass_6 : decode cX5_pass 6 = .ok (.invokestatic 66, 3) := by decide +kernel
theorem dX5_pass_9 : decode cX5_pass 9 = .ok (.ifCond .ne 7, 3) := by decide +kernel
theorem dX5_pass_12 : decode cX5_pass 12 = .ok (.iconst 1, 1) := by decide +kernel
theorem dX5_pass_13 : decode cX5_pass 13 = .ok (.goto 20, 3) := by decide +kernel
theorem dX5_pass_16 : decode cX5_pass 16 = .ok (.aload_n 0, 1) := by decide +kernel
theorem dX5_pass_17 : decode cX5_pass 17 = .ok (.getfield 85, 3) := by decide +kernel
theorem dX5_pass_20 : decode cX5_pass 20 = .ok (.iload_n 1, 1) := by decide +kernel
theorem dX5_pass_21 : decode cX5_pass 21 = .ok (.iadd, 1) := by decide +kernel
theorem dX5_pass_22 : decode cX5_pass 22 = .ok (.sipush 20000, 3) := by decide +kernel
theorem dX5_pass_25 : decode cX5_pass 25 = .ok (.if_icmp .le 7, 3) := by decide +kernel
theorem dX5_pass_28 : decode cX5_pass 28 = .ok (.iconst 2, 1) := by decide +kernel
theorem dX5_pass_29 : decode cX5_pass 29 = .ok (.goto 4, 3) := by decide +kernel
theorem dX5_pass_32 : decode cX5_pass 32 = .ok (.iconst 0, 1) := by decide +kernel
theorem dX5_pass_33 : decode cX5_pass 33 = .ok (.invokevirtual 73, 3) := by decide +kernel
theorem dX5_pass_36 : decode cX5_pass 36 = .ok (.ifCond .ne 5, 3) := by decide +kernel
theorem dX5_pass_39 : decode cX5_pass 39 = .ok (.iconst 0, 1) := by decide +kernel
theorem dX5_pass_40 : decode cX5_pass 40 = .ok (.ireturn, 1) := by decide +kernel
theorem dX5_pass_41 : decode cX5_pass 41 = .ok (.iconst 0, 1) := by decide +kernel
theorem dX5_pass_42 : decode cX5_pass 42 = .ok (.istore_n 2, 1) := by decide +kernel
theorem dX5_pass_43 : decode cX5_pass 43 = .ok (.iload_n 2, 1) := by decide +kernel
theorem dX5_pass_44 : decode cX5_pass 44 = .ok (.aload_n 0, 1) := by decide +kernel
theorem dX5_pass_45 : decode cX5_pass 45 = .ok (.getfield 63, 3) := by decide +kernel
theorem dX5_pass_48 : decode cX5_pass 48 = .ok (.if_icmp .ge 53, 3) := by decide +kernel
theorem dX5_pass_51 : decode cX5_pass 51 = .ok (.aload_n 0, 1) := by decide +kernel
theorem dX5_pass_52 : decode cX5_pass 52 = .ok (.getfield 28, 3) := by decide +kernel
theorem dX5_pass_55 : decode cX5_pass 55 = .ok (.iload_n 2, 1) := by decide +kernel
theorem dX5_pass_56 : decode cX5_pass 56 = .ok (.aload_n 0, 1) := by decide +kernel
theorem dX5_pass_57 : decode cX5_pass 57 = .ok (.getfield 22, 3) := by decide +kernel
theorem dX5_pass_60 : decode cX5_pass 60 = .ok (.iload_n 2, 1) := by decide +kernel
theorem dX5_pass_61 : decode cX5_pass 61 = .ok (.iaload, 1) := by decide +kernel
theorem dX5_pass_62 : decode cX5_pass 62 = .ok (.ldc 88, 2) := by decide +kernel
theorem dX5_pass_64 : decode cX5_pass 64 = .ok (.if_icmp .ge 7, 3) := by decide +kernel
theorem dX5_pass_67 : decode cX5_pass 67 = .ok (.iconst (-1), 1) := by decide +kernel
theorem dX5_pass_68 : decode cX5_pass 68 = .ok (.goto 26, 3) := by decide +kernel
theorem dX5_pass_71 : decode cX5_pass 71 = .ok (.aload_n 0, 1) := by decide +kernel
theorem dX5_pass_72 : decode cX5_pass 72 = .ok (.getfield 28, 3) := by decide +kernel
theorem dX5_pass_75 : decode cX5_pass 75 = .ok (.iload_n 2, 1) := by decide +kernel
theorem dX5_pass_76 : decode cX5_pass 76 = .ok (.iaload, 1) := by decide +kernel
theorem dX5_pass_77 : decode cX5_pass 77 = .ok (.iconst (-1), 1) := by decide +kernel
theorem dX5_pass_78 : decode cX5_pass 78 = .ok (.if_icmp .ne 10, 3) := by decide +kernel
theorem dX5_pass_81 : decode cX5_pass 81 = .ok (.aload_n 0, 1) := by decide +kernel
theorem dX5_pass_82 : decode cX5_pass 82 = .ok (.getfield 85, 3) := by decide +kernel
theorem dX5_pass_85 : decode cX5_pass 85 = .ok (.goto 9, 3) := by decide +kernel
theorem dX5_pass_88 : decode cX5_pass 88 = .ok (.aload_n 0, 1) := by decide +kernel
theorem dX5_pass_89 : decode cX5_pass 89 = .ok (.getfield 28, 3) := by decide +kernel
theorem dX5_pass_92 : decode cX5_pass 92 = .ok (.iload_n 2, 1) := by decide +kernel
theorem dX5_pass_93 : decode cX5_pass 93 = .ok (.iaload, 1) := by decide +kernel
theorem dX5_pass_94 : decode cX5_pass 94 = .ok (.iastore, 1) := by decide +kernel
theorem dX5_pass_95 : decode cX5_pass 95 = .ok (.iinc 2 1, 3) := by decide +kernel
theorem dX5_pass_98 : decode cX5_pass 98 = .ok (.goto (-55), 3) := by decide +kernel
theorem dX5_pass_101 : decode cX5_pass 101 = .ok (.aload_n 0, 1) := by decide +kernel
theorem dX5_pass_102 : decode cX5_pass 102 = .ok (.dup, 1) := by decide +kernel
theorem dX5_pass_103 : decode cX5_pass 103 = .ok (.getfield 85, 3) := by decide +kernel
theorem dX5_pass_106 : decode cX5_pass 106 = .ok (.iload_n 1, 1) := by decide +kernel
theorem dX5_pass_107 : decode cX5_pass 107 = .ok (.iadd, 1) := by decide +kernel
theorem dX5_pass_108 : decode cX5_pass 108 = .ok (.putfield 85, 3) := by decide +kernel
theorem dX5_pass_111 : decode cX5_pass 111 = .ok (.aload_n 0, 1) := by decide +kernel
theorem dX5_pass_112 : decode cX5_pass 112 = .ok (.getfield 85, 3) := by decide +kernel
theorem dX5_pass_115 : decode cX5_pass 115 = .ok (.ireturn, 1) := by decide +kernel
theorem dX5_day_0 : decode cX5_day 0 = .ok (.aload_n 0, 1) := by decide +kernel
theorem dX5_day_1 : decode cX5_day 1 = .ok (.iconst 0, 1) := by decide +kernel
theorem dX5_day_2 : decode cX5_day 2 = .ok (.putfield 59, 3) := by decide +kernel
theorem dX5_day_5 : decode cX5_day 5 = .ok (.aload_n 0, 1) := by decide +kernel
theorem dX5_day_6 : decode cX5_day 6 = .ok (.getfield 85, 3) := by decide +kernel
theorem dX5_day_9 : decode cX5_day 9 = .ok (.ireturn, 1) := by decide +kernel
set_option maxRecDepth 20000 in
theorem ggX5_isAsked_X5_isHolder : GoodIn wsX5_isAsked wsX5_isHolder := goodIn_r _ [5, 6, 7, 8, 4, 9, 15, 16, 17, 18, 19, 20, 21, 22, 23, 24, 25, 26, 27, 28, 29, 30, 31, 32, 33, 34, 35] (by decide +kernel) (by decide +kernel)
set_option maxRecDepth 20000 in
theorem gX5_isAsked_X5_isHolder : GoodIn wsX5_isAsked (wsV RX5 77 RX5 yX5_isHolder wsX5_isHolder) := goodIn_app (goodIn_of _ (by decide +kernel)) ggX5_isAsked_X5_isHolder
set_option maxRecDepth 20000 in
theorem ggX5_isAsked_X5_can : GoodIn wsX5_isAsked wsX5_can := goodIn_r _ [13, 14, 15, 16, 17, 18, 19, 20, 21, 22, 23, 24, 25, 26, 27, 28, 29, 30, 31, 32, 33, 34, 35] (by decide +kernel) (by decide +kernel)
set_option maxRecDepth 20000 in
theorem gX5_isAsked_X5_can : GoodIn wsX5_isAsked (wsV RX5 73 RX5 yX5_can wsX5_can) := goodIn_app (goodIn_of _ (by decide +kernel)) ggX5_isAsked_X5_can
theorem dX5_isAsked_0 : decode cX5_isAsked 0 = .ok (.aload_n 0, 1) := by decide +kernel
theorem dX5_isAsked_1 : decode cX5_isAsked 1 = .ok (.aload_n 0, 1) := by decide +kernel
theorem dX5_isAsked_2 : decode cX5_isAsked 2 = .ok (.iload_n 1, 1) := by decide +kernel
theorem dX5_isAsked_3 : decode cX5_isAsked 3 = .ok (.invokevirtual 77, 3) := by decide +kernel
theorem dX5_isAsked_6 : decode cX5_isAsked 6 = .ok (.ifCond .eq 7, 3) := by decide +kernel
theorem dX5_isAsked_9 : decode cX5_isAsked 9 = .ok (.iconst 0, 1) := by decide +kernel
theorem dX5_isAsked_10 : decode cX5_isAsked 10 = .ok (.goto 4, 3) := by decide +kernel
theorem dX5_isAsked_13 : decode cX5_isAsked 13 = .ok (.iconst 1, 1) := by decide +kernel
theorem dX5_isAsked_14 : decode cX5_isAsked 14 = .ok (.invokevirtual 73, 3) := by decide +kernel
theorem dX5_isAsked_17 : decode cX5_isAsked 17 = .ok (.ireturn, 1) := by decide +kernel
set_option maxRecDepth 20000 in
theorem ggX5_shares_X5_isAsked : GoodIn wsX5_shares wsX5_isAsked := goodIn_r _ [6, 7, 8, 9, 5, 10, 11, 12, 13, 14, 15, 16, 17, 18, 19, 20, 21, 22, 23, 24, 25, 26, 27, 28, 29, 30, 31, 32, 33, 34, 35, 36, 37, 38, 39, 40] (by decide +kernel) (by decide +kernel)
set_option maxRecDepth 20000 in
theorem gX5_shares_X5_isAsked : GoodIn wsX5_shares (wsV RX5 89 RX5 yX5_isAsked wsX5_isAsked) := goodIn_app (goodIn_of _ (by decide +kernel)) ggX5_shares_X5_isAsked
theorem dX5_shares_0 : decode cX5_shares 0 = .ok (.aload_n 0, 1) := by decide +kernel
theorem dX5_shares_1 : decode cX5_shares 1 = .ok (.iload_n 1, 1) := by decide +kernel
theorem dX5_shares_2 : decode cX5_shares 2 = .ok (.invokevirtual 89, 3) := by decide +kernel
theorem dX5_shares_5 : decode cX5_shares 5 = .ok (.ifCond .eq 12, 3) := by decide +kernel
theorem dX5_shares_8 : decode cX5_shares 8 = .ok (.aload_n 0, 1) := by decide +kernel
theorem dX5_shares_9 : decode cX5_shares 9 = .ok (.getfield 22, 3) := by decide +kernel
theorem dX5_shares_12 : decode cX5_shares 12 = .ok (.iload_n 1, 1) := by decide +kernel
theorem dX5_shares_13 : decode cX5_shares 13 = .ok (.iaload, 1) := by decide +kernel
theorem dX5_shares_14 : decode cX5_shares 14 = .ok (.goto 4, 3) := by decide +kernel
theorem dX5_shares_17 : decode cX5_shares 17 = .ok (.iconst 0, 1) := by decide +kernel
theorem dX5_shares_18 : decode cX5_shares 18 = .ok (.ireturn, 1) := by decide +kernel
theorem dX5_hasForm_0 : decode cX5_hasForm 0 = .ok (.aload_n 0, 1) := by decide +kernel
theorem dX5_hasForm_1 : decode cX5_hasForm 1 = .ok (.getfield 25, 3) := by decide +kernel
theorem dX5_hasForm_4 : decode cX5_hasForm 4 = .ok (.iload_n 1, 1) := by decide +kernel
theorem dX5_hasForm_5 : decode cX5_hasForm 5 = .ok (.iaload, 1) := by decide +kernel
theorem dX5_hasForm_6 : decode cX5_hasForm 6 = .ok (.aload_n 0, 1) := by decide +kernel
theorem dX5_hasForm_7 : decode cX5_hasForm 7 = .ok (.getfield 85, 3) := by decide +kernel
theorem dX5_hasForm_10 : decode cX5_hasForm 10 = .ok (.if_icmp .lt 7, 3) := by decide +kernel
theorem dX5_hasForm_13 : decode cX5_hasForm 13 = .ok (.iconst 1, 1) := by decide +kernel
theorem dX5_hasForm_14 : decode cX5_hasForm 14 = .ok (.goto 4, 3) := by decide +kernel
theorem dX5_hasForm_17 : decode cX5_hasForm 17 = .ok (.iconst 0, 1) := by decide +kernel
theorem dX5_hasForm_18 : decode cX5_hasForm 18 = .ok (.ireturn, 1) := by decide +kernel
set_option maxRecDepth 20000 in
theorem ggX5_isValid_X5_isAsked : GoodIn wsX5_isValid wsX5_isAsked := goodIn_r _ [5, 6, 7, 8, 4, 9, 10, 11, 12, 13, 14, 15, 16, 17, 18, 25, 26, 27, 28, 29, 30, 31, 32, 33, 34, 35, 36, 37, 38, 39, 40, 41, 42, 43, 44, 45] (by decide +kernel) (by decide +kernel)
set_option maxRecDepth 20000 in
theorem gX5_isValid_X5_isAsked : GoodIn wsX5_isValid (wsV RX5 89 RX5 yX5_isAsked wsX5_isAsked) := goodIn_app (goodIn_of _ (by decide +kernel)) ggX5_isValid_X5_isAsked
set_option maxRecDepth 20000 in
theorem ggX5_isValid_X5_hasForm : GoodIn wsX5_isValid wsX5_hasForm := goodIn_r _ [22, 23, 24, 25, 26, 27, 28, 29, 30, 31, 32, 33, 34, 35, 36, 37, 38, 39, 40, 41, 42, 43, 44, 45] (by decide +kernel) (by decide +kernel)
set_option maxRecDepth 20000 in
theorem gX5_isValid_X5_hasForm : GoodIn wsX5_isValid (wsV RX5 92 RX5 yX5_hasForm wsX5_hasForm) := goodIn_app (goodIn_of _ (by decide +kernel)) ggX5_isValid_X5_hasForm
theorem dX5_isValid_0 : decode cX5_isValid 0 = .ok (.aload_n 0, 1) := by decide +kernel
theorem dX5_isValid_1 : decode cX5_isValid 1 = .ok (.iload_n 1, 1) := by decide +kernel
theorem dX5_isValid_2 : decode cX5_isValid 2 = .ok (.invokevirtual 89, 3) := by decide +kernel
theorem dX5_isValid_5 : decode cX5_isValid 5 = .ok (.ifCond .eq 15, 3) := by decide +kernel
theorem dX5_isValid_8 : decode cX5_isValid 8 = .ok (.aload_n 0, 1) := by decide +kernel
theorem dX5_isValid_9 : decode cX5_isValid 9 = .ok (.iload_n 1, 1) := by decide +kernel
theorem dX5_isValid_10 : decode cX5_isValid 10 = .ok (.invokevirtual 92, 3) := by decide +kernel
theorem dX5_isValid_13 : decode cX5_isValid 13 = .ok (.ifCond .eq 7, 3) := by decide +kernel
theorem dX5_isValid_16 : decode cX5_isValid 16 = .ok (.iconst 1, 1) := by decide +kernel
theorem dX5_isValid_17 : decode cX5_isValid 17 = .ok (.goto 4, 3) := by decide +kernel
theorem dX5_isValid_20 : decode cX5_isValid 20 = .ok (.iconst 0, 1) := by decide +kernel
theorem dX5_isValid_21 : decode cX5_isValid 21 = .ok (.ireturn, 1) := by decide +kernel
theorem dX5_holdsLarge_0 : decode cX5_holdsLarge 0 = .ok (.aload_n 0, 1) := by decide +kernel
theorem dX5_holdsLarge_1 : decode cX5_holdsLarge 1 = .ok (.getfield 16, 3) := by decide +kernel
theorem dX5_holdsLarge_4 : decode cX5_holdsLarge 4 = .ok (.iload_n 1, 1) := by decide +kernel
theorem dX5_holdsLarge_5 : decode cX5_holdsLarge 5 = .ok (.iaload, 1) := by decide +kernel
theorem dX5_holdsLarge_6 : decode cX5_holdsLarge 6 = .ok (.iconst 1, 1) := by decide +kernel
theorem dX5_holdsLarge_7 : decode cX5_holdsLarge 7 = .ok (.if_icmp .ne 45, 3) := by decide +kernel
theorem dX5_holdsLarge_10 : decode cX5_holdsLarge 10 = .ok (.aload_n 0, 1) := by decide +kernel
theorem dX5_holdsLarge_11 : decode cX5_holdsLarge 11 = .ok (.getfield 22, 3) := by decide +kernel
theorem dX5_holdsLarge_14 : decode cX5_holdsLarge 14 = .ok (.iload_n 1, 1) := by decide +kernel
theorem dX5_holdsLarge_15 : decode cX5_holdsLarge 15 = .ok (.iaload, 1) := by decide +kernel
theorem dX5_holdsLarge_16 : decode cX5_holdsLarge 16 = .ok (.ldc 88, 2) := by decide +kernel
theorem dX5_holdsLarge_18 : decode cX5_holdsLarge 18 = .ok (.if_icmp .lt 34, 3) := by decide +kernel
theorem dX5_holdsLarge_21 : decode cX5_holdsLarge 21 = .ok (.aload_n 0, 1) := by decide +kernel
theorem dX5_holdsLarge_22 : decode cX5_holdsLarge 22 = .ok (.getfield 28, 3) := by decide +kernel
theorem dX5_holdsLarge_25 : decode cX5_holdsLarge 25 = .ok (.iload_n 1, 1) := by decide +kernel
theorem dX5_holdsLarge_26 : decode cX5_holdsLarge 26 = .ok (.iaload, 1) := by decide +kernel
theorem dX5_holdsLarge_27 : decode cX5_holdsLarge 27 = .ok (.iconst (-1), 1) := by decide +kernel
theorem dX5_holdsLarge_28 : decode cX5_holdsLarge 28 = .ok (.if_icmp .eq 24, 3) := by decide +kernel
theorem dX5_holdsLarge_31 : decode cX5_holdsLarge 31 = .ok (.aload_n 0, 1) := by decide +kernel
theorem dX5_holdsLarge_32 : decode cX5_holdsLarge 32 = .ok (.getfield 85, 3) := by decide +kernel
theorem dX5_holdsLarge_35 : decode cX5_holdsLarge 35 = .ok (.aload_n 0, 1) := by decide +kernel
theorem dX5_holdsLarge_36 : decode cX5_holdsLarge 36 = .ok (.getfield 28, 3) := by decide +kernel
theorem dX5_holdsLarge_39 : decode cX5_holdsLarge 39 = .ok (.iload_n 1, 1) := by decide +kernel
theorem dX5_holdsLarge_40 : decode cX5_holdsLarge 40 = .ok (.iaload, 1) := by decide +kernel
theorem dX5_holdsLarge_41 : decode cX5_holdsLarge 41 = .ok (.isub, 1) := by decide +kernel
theorem dX5_holdsLarge_42 : decode cX5_holdsLarge 42 = .ok (.sipush 365, 3) := by decide +kernel
theorem dX5_holdsLarge_45 : decode cX5_holdsLarge 45 = .ok (.if_icmp .lt 7, 3) := by decide +kernel
theorem dX5_holdsLarge_48 : decode cX5_holdsLarge 48 = .ok (.iconst 1, 1) := by decide +kernel
theorem dX5_holdsLarge_49 : decode cX5_holdsLarge 49 = .ok (.goto 4, 3) := by decide +kernel
theorem dX5_holdsLarge_52 : decode cX5_holdsLarge 52 = .ok (.iconst 0, 1) := by decide +kernel
theorem dX5_holdsLarge_53 : decode cX5_holdsLarge 53 = .ok (.ireturn, 1) := by decide +kernel
set_option maxRecDepth 20000 in
theorem ggX5_isLarge_X5_isAsked : GoodIn wsX5_isLarge wsX5_isAsked := goodIn_r _ [5, 6, 7, 8, 4, 9, 10, 11, 12, 13, 14, 15, 16, 17, 18, 28, 29, 30, 31, 32, 33, 34, 35, 36, 37, 38, 39, 40, 41, 42, 43, 44, 45, 46, 47, 48] (by decide +kernel) (by decide +kernel)
set_option maxRecDepth 20000 in
theorem gX5_isLarge_X5_isAsked : GoodIn wsX5_isLarge (wsV RX5 89 RX5 yX5_isAsked wsX5_isAsked) := goodIn_app (goodIn_of _ (by decide +kernel)) ggX5_isLarge_X5_isAsked
set_option maxRecDepth 20000 in
theorem ggX5_isLarge_X5_holdsLarge : GoodIn wsX5_isLarge wsX5_holdsLarge := goodIn_r _ [22, 23, 24, 25, 26, 27, 28, 29, 30, 31, 32, 33, 34, 35, 36, 37, 38, 39, 40, 41, 42, 43, 44, 45, 46, 47, 48] (by decide +kernel) (by decide +kernel)
set_option maxRecDepth 20000 in
theorem gX5_isLarge_X5_holdsLarge : GoodIn wsX5_isLarge (wsV RX5 95 RX5 yX5_holdsLarge wsX5_holdsLarge) := goodIn_app (goodIn_of _ (by decide +kernel)) ggX5_isLarge_X5_holdsLarge
theorem dX5_isLarge_0 : decode cX5_isLarge 0 = .ok (.aload_n 0, 1) := by decide +kernel
theorem dX5_isLarge_1 : decode cX5_isLarge 1 = .ok (.iload_n 1, 1) := by decide +kernel
theorem dX5_isLarge_2 : decode cX5_isLarge 2 = .ok (.invokevirtual 89, 3) := by decide +kernel
theorem dX5_isLarge_5 : decode cX5_isLarge 5 = .ok (.ifCond .eq 15, 3) := by decide +kernel
theorem dX5_isLarge_8 : decode cX5_isLarge 8 = .ok (.aload_n 0, 1) := by decide +kernel
theorem dX5_isLarge_9 : decode cX5_isLarge 9 = .ok (.iload_n 1, 1) := by decide +kernel
theorem dX5_isLarge_10 : decode cX5_isLarge 10 = .ok (.invokevirtual 95, 3) := by decide +kernel
theorem dX5_isLarge_13 : decode cX5_isLarge 13 = .ok (.ifCond .eq 7, 3) := by decide +kernel
theorem dX5_isLarge_16 : decode cX5_isLarge 16 = .ok (.iconst 1, 1) := by decide +kernel
theorem dX5_isLarge_17 : decode cX5_isLarge 17 = .ok (.goto 4, 3) := by decide +kernel
theorem dX5_isLarge_20 : decode cX5_isLarge 20 = .ok (.iconst 0, 1) := by decide +kernel
theorem dX5_isLarge_21 : decode cX5_isLarge 21 = .ok (.ireturn, 1) := by decide +kernel
set_option maxRecDepth 20000 in
theorem ggX5_rateOf_X5_holdsLarge : GoodIn wsX5_rateOf wsX5_holdsLarge := goodIn_r _ [8, 9, 10, 11, 12, 13, 14, 15, 16, 17, 18, 19, 20, 21, 22, 23, 24, 25, 26, 27, 28, 29, 30, 31, 32, 33, 34] (by decide +kernel) (by decide +kernel)
set_option maxRecDepth 20000 in
theorem gX5_rateOf_X5_holdsLarge : GoodIn wsX5_rateOf (wsV RX5 95 RX5 yX5_holdsLarge wsX5_holdsLarge) := goodIn_app (goodIn_of _ (by decide +kernel)) ggX5_rateOf_X5_holdsLarge
theorem dX5_rateOf_0 : decode cX5_rateOf 0 = .ok (.aload_n 0, 1) := by decide +kernel
theorem dX5_rateOf_1 : decode cX5_rateOf 1 = .ok (.getfield 7, 3) := by decide +kernel
theorem dX5_rateOf_4 : decode cX5_rateOf 4 = .ok (.aload_n 0, 1) := by decide +kernel
theorem dX5_rateOf_5 : decode cX5_rateOf 5 = .ok (.getfield 19, 3) := by decide +kernel
theorem dX5_rateOf_8 : decode cX5_rateOf 8 = .ok (.iload_n 1, 1) := by decide +kernel
theorem dX5_rateOf_9 : decode cX5_rateOf 9 = .ok (.iaload, 1) := by decide +kernel
theorem dX5_rateOf_10 : decode cX5_rateOf 10 = .ok (.iaload, 1) := by decide +kernel
theorem dX5_rateOf_11 : decode cX5_rateOf 11 = .ok (.istore_n 2, 1) := by decide +kernel
theorem dX5_rateOf_12 : decode cX5_rateOf 12 = .ok (.aload_n 0, 1) := by decide +kernel
theorem dX5_rateOf_13 : decode cX5_rateOf 13 = .ok (.iload_n 1, 1) := by decide +kernel
theorem dX5_rateOf_14 : decode cX5_rateOf 14 = .ok (.invokevirtual 95, 3) := by decide +kernel
theorem dX5_rateOf_17 : decode cX5_rateOf 17 = .ok (.ifCond .eq 32, 3) := by decide +kernel
theorem dX5_rateOf_20 : decode cX5_rateOf 20 = .ok (.aload_n 0, 1) := by decide +kernel
theorem dX5_rateOf_21 : decode cX5_rateOf 21 = .ok (.getfield 13, 3) := by decide +kernel
theorem dX5_rateOf_24 : decode cX5_rateOf 24 = .ok (.aload_n 0, 1) := by decide +kernel
theorem dX5_rateOf_25 : decode cX5_rateOf 25 = .ok (.getfield 19, 3) := by decide +kernel
theorem dX5_rateOf_28 : decode cX5_rateOf 28 = .ok (.iload_n 1, 1) := by decide +kernel
theorem dX5_rateOf_29 : decode cX5_rateOf 29 = .ok (.iaload, 1) := by decide +kernel
theorem dX5_rateOf_30 : decode cX5_rateOf 30 = .ok (.iaload, 1) := by decide +kernel
theorem dX5_rateOf_31 : decode cX5_rateOf 31 = .ok (.iload_n 2, 1) := by decide +kernel
theorem dX5_rateOf_32 : decode cX5_rateOf 32 = .ok (.if_icmp .ge 17, 3) := by decide +kernel
theorem dX5_rateOf_35 : decode cX5_rateOf 35 = .ok (.aload_n 0, 1) := by decide +kernel
theorem dX5_rateOf_36 : decode cX5_rateOf 36 = .ok (.getfield 13, 3) := by decide +kernel
theorem dX5_rateOf_39 : decode cX5_rateOf 39 = .ok (.aload_n 0, 1) := by decide +kernel
theorem dX5_rateOf_40 : decode cX5_rateOf 40 = .ok (.getfield 19, 3) := by decide +kernel
theorem dX5_rateOf_43 : decode cX5_rateOf 43 = .ok (.iload_n 1, 1) := by decide +kernel
theorem dX5_rateOf_44 : decode cX5_rateOf 44 = .ok (.iaload, 1) := by decide +kernel
theorem dX5_rateOf_45 : decode cX5_rateOf 45 = .ok (.iaload, 1) := by decide +kernel
theorem dX5_rateOf_46 : decode cX5_rateOf 46 = .ok (.goto 4, 3) := by decide +kernel
theorem dX5_rateOf_49 : decode cX5_rateOf 49 = .ok (.iload_n 2, 1) := by decide +kernel
theorem dX5_rateOf_50 : decode cX5_rateOf 50 = .ok (.ireturn, 1) := by decide +kernel
set_option maxRecDepth 20000 in
theorem ggX5_treatyRate_X5_isHolder : GoodIn wsX5_treatyRate wsX5_isHolder := goodIn_r _ [6, 7, 8, 9, 5, 10, 31, 32, 33, 34, 35, 36, 37, 38, 39, 40, 41, 42, 43, 44, 45, 46, 47, 48, 49, 50, 51] (by decide +kernel) (by decide +kernel)
set_option maxRecDepth 20000 in
theorem gX5_treatyRate_X5_isHolder : GoodIn wsX5_treatyRate (wsV RX5 77 RX5 yX5_isHolder wsX5_isHolder) := goodIn_app (goodIn_of _ (by decide +kernel)) ggX5_treatyRate_X5_isHolder
set_option maxRecDepth 20000 in
theorem ggX5_treatyRate_X5_can : GoodIn wsX5_treatyRate wsX5_can := goodIn_r _ [14, 15, 31, 32, 33, 34, 35, 36, 37, 38, 39, 40, 41, 42, 43, 44, 45, 46, 47, 48, 49, 50, 51] (by decide +kernel) (by decide +kernel)
set_option maxRecDepth 20000 in
theorem gX5_treatyRate_X5_can : GoodIn wsX5_treatyRate (wsV RX5 73 RX5 yX5_can wsX5_can) := goodIn_app (goodIn_of _ (by decide +kernel)) ggX5_treatyRate_X5_can
set_option maxRecDepth 20000 in
theorem ggX5_treatyRate_X5_rateOf : GoodIn wsX5_treatyRate wsX5_rateOf := goodIn_r _ [19, 20, 21, 22, 23, 24, 25, 5, 26, 1, 27, 28, 29, 30, 31, 32, 33, 34, 35, 36, 37, 38, 39, 40, 41, 42, 43, 44, 45, 46, 47, 48, 49, 50, 51] (by decide +kernel) (by decide +kernel)
set_option maxRecDepth 20000 in
theorem gX5_treatyRate_X5_rateOf : GoodIn wsX5_treatyRate (wsV RX5 98 RX5 yX5_rateOf wsX5_rateOf) := goodIn_app (goodIn_of _ (by decide +kernel)) ggX5_treatyRate_X5_rateOf
theorem dX5_treatyRate_0 : decode cX5_treatyRate 0 = .ok (.aload_n 0, 1) := by decide +kernel
theorem dX5_treatyRate_1 : decode cX5_treatyRate 1 = .ok (.aload_n 0, 1) := by decide +kernel
theorem dX5_treatyRate_2 : decode cX5_treatyRate 2 = .ok (.iload_n 1, 1) := by decide +kernel
theorem dX5_treatyRate_3 : decode cX5_treatyRate 3 = .ok (.invokevirtual 77, 3) := by decide +kernel
theorem dX5_treatyRate_6 : decode cX5_treatyRate 6 = .ok (.ifCond .ne 7, 3) := by decide +kernel
theorem dX5_treatyRate_9 : decode cX5_treatyRate 9 = .ok (.iconst 1, 1) := by decide +kernel
theorem dX5_treatyRate_10 : decode cX5_treatyRate 10 = .ok (.goto 18, 3) := by decide +kernel
theorem dX5_treatyRate_13 : decode cX5_treatyRate 13 = .ok (.aload_n 0, 1) := by decide +kernel
theorem dX5_treatyRate_14 : decode cX5_treatyRate 14 = .ok (.getfield 16, 3) := by decide +kernel
theorem dX5_treatyRate_17 : decode cX5_treatyRate 17 = .ok (.iload_n 1, 1) := by decide +kernel
theorem dX5_treatyRate_18 : decode cX5_treatyRate 18 = .ok (.iaload, 1) := by decide +kernel
theorem dX5_treatyRate_19 : decode cX5_treatyRate 19 = .ok (.iconst 2, 1) := by decide +kernel
theorem dX5_treatyRate_20 : decode cX5_treatyRate 20 = .ok (.if_icmp .ne 7, 3) := by decide +kernel
theorem dX5_treatyRate_23 : decode cX5_treatyRate 23 = .ok (.iconst 2, 1) := by decide +kernel
theorem dX5_treatyRate_24 : decode cX5_treatyRate 24 = .ok (.goto 4, 3) := by decide +kernel
theorem dX5_treatyRate_27 : decode cX5_treatyRate 27 = .ok (.iconst 0, 1) := by decide +kernel
theorem dX5_treatyRate_28 : decode cX5_treatyRate 28 = .ok (.invokevirtual 73, 3) := by decide +kernel
theorem dX5_treatyRate_31 : decode cX5_treatyRate 31 = .ok (.ifCond .eq 11, 3) := by decide +kernel
theorem dX5_treatyRate_34 : decode cX5_treatyRate 34 = .ok (.aload_n 0, 1) := by decide +kernel
theorem dX5_treatyRate_35 : decode cX5_treatyRate 35 = .ok (.iload_n 1, 1) := by decide +kernel
theorem dX5_treatyRate_36 : decode cX5_treatyRate 36 = .ok (.invokevirtual 98, 3) := by decide +kernel
theorem dX5_treatyRate_39 : decode cX5_treatyRate 39 = .ok (.goto 4, 3) := by decide +kernel
theorem dX5_treatyRate_42 : decode cX5_treatyRate 42 = .ok (.iconst 0, 1) := by decide +kernel
theorem dX5_treatyRate_43 : decode cX5_treatyRate 43 = .ok (.ireturn, 1) := by decide +kernel
theorem dX5_taxOf_0 : decode cX5_taxOf 0 = .ok (.lload_n 0, 1) := by decide +kernel
theorem dX5_taxOf_1 : decode cX5_taxOf 1 = .ok (.iload_n 2, 1) := by decide +kernel
theorem dX5_taxOf_2 : decode cX5_taxOf 2 = .ok (.i2l, 1) := by decide +kernel
theorem dX5_taxOf_3 : decode cX5_taxOf 3 = .ok (.lmul, 1) := by decide +kernel
theorem dX5_taxOf_4 : decode cX5_taxOf 4 = .ok (.ldc2_w 102, 3) := by decide +kernel
theorem dX5_taxOf_7 : decode cX5_taxOf 7 = .ok (.ldiv, 1) := by decide +kernel
theorem dX5_taxOf_8 : decode cX5_taxOf 8 = .ok (.l2i, 1) := by decide +kernel
theorem dX5_taxOf_9 : decode cX5_taxOf 9 = .ok (.ireturn, 1) := by decide +kernel
set_option maxRecDepth 20000 in
theorem ggX5_counts_X5_hasForm : GoodIn wsX5_counts wsX5_hasForm := goodIn_r _ [6, 7, 8, 9, 10, 11, 12, 13, 14, 15, 16, 17, 18, 19, 20, 21, 22, 23, 24, 25, 26, 27, 28, 29] (by decide +kernel) (by decide +kernel)
set_option maxRecDepth 20000 in
theorem gX5_counts_X5_hasForm : GoodIn wsX5_counts (wsV RX5 92 RX5 yX5_hasForm wsX5_hasForm) := goodIn_app (goodIn_of _ (by decide +kernel)) ggX5_counts_X5_hasForm
theorem dX5_counts_0 : decode cX5_counts 0 = .ok (.iload 4, 2) := by decide +kernel
theorem dX5_counts_2 : decode cX5_counts 2 = .ok (.ifCond .ne 29, 3) := by decide +kernel
theorem dX5_counts_5 : decode cX5_counts 5 = .ok (.aload_n 0, 1) := by decide +kernel
theorem dX5_counts_6 : decode cX5_counts 6 = .ok (.getfield 52, 3) := by decide +kernel
theorem dX5_counts_9 : decode cX5_counts 9 = .ok (.bipush 20, 2) := by decide +kernel
theorem dX5_counts_11 : decode cX5_counts 11 = .ok (.iload_n 1, 1) := by decide +kernel
theorem dX5_counts_12 : decode cX5_counts 12 = .ok (.imul, 1) := by decide +kernel
theorem dX5_counts_13 : decode cX5_counts 13 = .ok (.iload_n 2, 1) := by decide +kernel
theorem dX5_counts_14 : decode cX5_counts 14 = .ok (.iadd, 1) := by decide +kernel
theorem dX5_counts_15 : decode cX5_counts 15 = .ok (.baload, 1) := by decide +kernel
theorem dX5_counts_16 : decode cX5_counts 16 = .ok (.ifCond .ne 15, 3) := by decide +kernel
theorem dX5_counts_19 : decode cX5_counts 19 = .ok (.iload_n 3, 1) := by decide +kernel
theorem dX5_counts_20 : decode cX5_counts 20 = .ok (.ifCond .eq 15, 3) := by decide +kernel
theorem dX5_counts_23 : decode cX5_counts 23 = .ok (.aload_n 0, 1) := by decide +kernel
theorem dX5_counts_24 : decode cX5_counts 24 = .ok (.iload_n 2, 1) := by decide +kernel
theorem dX5_counts_25 : decode cX5_counts 25 = .ok (.invokevirtual 92, 3) := by decide +kernel
theorem dX5_counts_28 : decode cX5_counts 28 = .ok (.ifCond .eq 7, 3) := by decide +kernel
theorem dX5_counts_31 : decode cX5_counts 31 = .ok (.iconst 1, 1) := by decide +kernel
theorem dX5_counts_32 : decode cX5_counts 32 = .ok (.goto 4, 3) := by decide +kernel
theorem dX5_counts_35 : decode cX5_counts 35 = .ok (.iconst 0, 1) := by decide +kernel
theorem dX5_counts_36 : decode cX5_counts 36 = .ok (.ireturn, 1) := by decide +kernel
set_option maxRecDepth 20000 in
theorem ggX5_partnersTax_X5_taxOf : GoodIn wsX5_partnersTax wsX5_taxOf := goodIn_r _ [8, 9] (by decide +kernel) (by decide +kernel)
set_option maxRecDepth 20000 in
theorem gX5_partnersTax_X5_taxOf : GoodIn wsX5_partnersTax (va_wsS RX5 104 yX5_taxOf wsX5_taxOf) := goodIn_app (goodIn_of _ (by decide +kernel)) ggX5_partnersTax_X5_taxOf
set_option maxRecDepth 20000 in
theorem ggX5_partnersTax_X5_counts : GoodIn wsX5_partnersTax wsX5_counts := goodIn_r _ [13, 14, 15, 16, 17, 7, 18, 19, 20, 21, 22, 23, 24, 25, 26, 27, 28, 29, 30, 31, 32, 33, 34, 35, 36, 37, 38, 39, 40, 41] (by decide +kernel) (by decide +kernel)
set_option maxRecDepth 20000 in
theorem gX5_partnersTax_X5_counts : GoodIn wsX5_partnersTax (wsV RX5 108 RX5 yX5_counts wsX5_counts) := goodIn_app (goodIn_of _ (by decide +kernel)) ggX5_partnersTax_X5_counts
theorem dX5_partnersTax_0 : decode cX5_partnersTax 0 = .ok (.bipush 20, 2) := by decide +kernel
theorem dX5_partnersTax_2 : decode cX5_partnersTax 2 = .ok (.bipush 20, 2) := by decide +kernel
theorem dX5_partnersTax_4 : decode cX5_partnersTax 4 = .ok (.iload_n 1, 1) := by decide +kernel
theorem dX5_partnersTax_5 : decode cX5_partnersTax 5 = .ok (.imul, 1) := by decide +kernel
theorem dX5_partnersTax_6 : decode cX5_partnersTax 6 = .ok (.iload_n 2, 1) := by decide +kernel
theorem dX5_partnersTax_7 : decode cX5_partnersTax 7 = .ok (.iadd, 1) := by decide +kernel
theorem dX5_partnersTax_8 : decode cX5_partnersTax 8 = .ok (.imul, 1) := by decide +kernel
theorem dX5_partnersTax_9 : decode cX5_partnersTax 9 = .ok (.istore 5, 2) := by decide +kernel
theorem dX5_partnersTax_11 : decode cX5_partnersTax 11 = .ok (.aload_n 0, 1) := by decide +kernel
theorem dX5_partnersTax_12 : decode cX5_partnersTax 12 = .ok (.getfield 37, 3) := by decide +kernel
theorem dX5_partnersTax_15 : decode cX5_partnersTax 15 = .ok (.bipush 20, 2) := by decide +kernel
theorem dX5_partnersTax_17 : decode cX5_partnersTax 17 = .ok (.iload_n 1, 1) := by decide +kernel
theorem dX5_partnersTax_18 : decode cX5_partnersTax 18 = .ok (.imul, 1) := by decide +kernel
theorem dX5_partnersTax_19 : decode cX5_partnersTax 19 = .ok (.iload_n 2, 1) := by decide +kernel
theorem dX5_partnersTax_20 : decode cX5_partnersTax 20 = .ok (.iadd, 1) := by decide +kernel
theorem dX5_partnersTax_21 : decode cX5_partnersTax 21 = .ok (.iaload, 1) := by decide +kernel
theorem dX5_partnersTax_22 : decode cX5_partnersTax 22 = .ok (.i2l, 1) := by decide +kernel
theorem dX5_partnersTax_23 : decode cX5_partnersTax 23 = .ok (.lstore 6, 2) := by decide +kernel
theorem dX5_partnersTax_25 : decode cX5_partnersTax 25 = .ok (.iconst 0, 1) := by decide +kernel
theorem dX5_partnersTax_26 : decode cX5_partnersTax 26 = .ok (.istore 8, 2) := by decide +kernel
theorem dX5_partnersTax_28 : decode cX5_partnersTax 28 = .ok (.iconst (-1), 1) := by decide +kernel
theorem dX5_partnersTax_29 : decode cX5_partnersTax 29 = .ok (.istore 9, 2) := by decide +kernel
theorem dX5_partnersTax_31 : decode cX5_partnersTax 31 = .ok (.bipush 19, 2) := by decide +kernel
theorem dX5_partnersTax_33 : decode cX5_partnersTax 33 = .ok (.istore 10, 2) := by decide +kernel
theorem dX5_partnersTax_35 : decode cX5_partnersTax 35 = .ok (.iload 10, 2) := by decide +kernel
theorem dX5_partnersTax_37 : decode cX5_partnersTax 37 = .ok (.ifCond .lt 46, 3) := by decide +kernel
theorem dX5_partnersTax_40 : decode cX5_partnersTax 40 = .ok (.iload 8, 2) := by decide +kernel
theorem dX5_partnersTax_42 : decode cX5_partnersTax 42 = .ok (.aload_n 0, 1) := by decide +kernel
theorem dX5_partnersTax_43 : decode cX5_partnersTax 43 = .ok (.getfield 56, 3) := by decide +kernel
theorem dX5_partnersTax_46 : decode cX5_partnersTax 46 = .ok (.iload 5, 2) := by decide +kernel
theorem dX5_partnersTax_48 : decode cX5_partnersTax 48 = .ok (.iload 10, 2) := by decide +kernel
theorem dX5_partnersTax_50 : decode cX5_partnersTax 50 = .ok (.iadd, 1) := by decide +kernel
theorem dX5_partnersTax_51 : decode cX5_partnersTax 51 = .ok (.iaload, 1) := by decide +kernel
theorem dX5_partnersTax_52 : decode cX5_partnersTax 52 = .ok (.iadd, 1) := by decide +kernel
theorem dX5_partnersTax_53 : decode cX5_partnersTax 53 = .ok (.istore 8, 2) := by decide +kernel
theorem dX5_partnersTax_55 : decode cX5_partnersTax 55 = .ok (.aload_n 0, 1) := by decide +kernel
theorem dX5_partnersTax_56 : decode cX5_partnersTax 56 = .ok (.getfield 56, 3) := by decide +kernel
theorem dX5_partnersTax_59 : decode cX5_partnersTax 59 = .ok (.iload 5, 2) := by decide +kernel
theorem dX5_partnersTax_61 : decode cX5_partnersTax 61 = .ok (.iload 10, 2) := by decide +kernel
theorem dX5_partnersTax_63 : decode cX5_partnersTax 63 = .ok (.iadd, 1) := by decide +kernel
theorem dX5_partnersTax_64 : decode cX5_partnersTax 64 = .ok (.iaload, 1) := by decide +kernel
theorem dX5_partnersTax_65 : decode cX5_partnersTax 65 = .ok (.ifCond .le 8, 3) := by decide +kernel
theorem dX5_partnersTax_68 : decode cX5_partnersTax 68 = .ok (.iload 10, 2) := by decide +kernel
theorem dX5_partnersTax_70 : decode cX5_partnersTax 70 = .ok (.goto 5, 3) := by decide +kernel
theorem dX5_partnersTax_73 : decode cX5_partnersTax 73 = .ok (.iload 9, 2) := by decide +kernel
theorem dX5_partnersTax_75 : decode cX5_partnersTax 75 = .ok (.istore 9, 2) := by decide +kernel
theorem dX5_partnersTax_77 : decode cX5_partnersTax 77 = .ok (.iinc 10 (-1), 3) := by decide +kernel
theorem dX5_partnersTax_80 : decode cX5_partnersTax 80 = .ok (.goto (-45), 3) := by decide +kernel
theorem dX5_partnersTax_83 : decode cX5_partnersTax 83 = .ok (.iload 8, 2) := by decide +kernel
theorem dX5_partnersTax_85 : decode cX5_partnersTax 85 = .ok (.ifCond .ne 11, 3) := by decide +kernel
theorem dX5_partnersTax_88 : decode cX5_partnersTax 88 = .ok (.lload 6, 2) := by decide +kernel
theorem dX5_partnersTax_90 : decode cX5_partnersTax 90 = .ok (.bipush 30, 2) := by decide +kernel
theorem dX5_partnersTax_92 : decode cX5_partnersTax 92 = .ok (.invokestatic 104, 3) := by decide +kernel
theorem dX5_partnersTax_95 : decode cX5_partnersTax 95 = .ok (.ireturn, 1) := by decide +kernel
theorem dX5_partnersTax_96 : decode cX5_partnersTax 96 = .ok (.lload 6, 2) := by decide +kernel
theorem dX5_partnersTax_98 : decode cX5_partnersTax 98 = .ok (.lstore 10, 2) := by decide +kernel
theorem dX5_partnersTax_100 : decode cX5_partnersTax 100 = .ok (.iconst 0, 1) := by decide +kernel
theorem dX5_partnersTax_101 : decode cX5_partnersTax 101 = .ok (.istore 12, 2) := by decide +kernel
theorem dX5_partnersTax_103 : decode cX5_partnersTax 103 = .ok (.iload 12, 2) := by decide +kernel
theorem dX5_partnersTax_105 : decode cX5_partnersTax 105 = .ok (.bipush 20, 2) := by decide +kernel
theorem dX5_partnersTax_107 : decode cX5_partnersTax 107 = .ok (.if_icmp .ge 32, 3) := by decide +kernel
theorem dX5_partnersTax_110 : decode cX5_partnersTax 110 = .ok (.lload 10, 2) := by decide +kernel
theorem dX5_partnersTax_112 : decode cX5_partnersTax 112 = .ok (.lload 6, 2) := by decide +kernel
theorem dX5_partnersTax_114 : decode cX5_partnersTax 114 = .ok (.aload_n 0, 1) := by decide +kernel
theorem dX5_partnersTax_115 : decode cX5_partnersTax 115 = .ok (.getfield 56, 3) := by decide +kernel
theorem dX5_partnersTax_118 : decode cX5_partnersTax 118 = .ok (.iload 5, 2) := by decide +kernel
theorem dX5_partnersTax_120 : decode cX5_partnersTax 120 = .ok (.iload 12, 2) := by decide +kernel
theorem dX5_partnersTax_122 : decode cX5_partnersTax 122 = .ok (.iadd, 1) := by decide +kernel
theorem dX5_partnersTax_123 : decode cX5_partnersTax 123 = .ok (.iaload, 1) := by decide +kernel
theorem dX5_partnersTax_124 : decode cX5_partnersTax 124 = .ok (.i2l, 1) := by decide +kernel
theorem dX5_partnersTax_125 : decode cX5_partnersTax 125 = .ok (.lmul, 1) := by decide +kernel
theorem dX5_partnersTax_126 : decode cX5_partnersTax 126 = .ok (.iload 8, 2) := by decide +kernel
theorem dX5_partnersTax_128 : decode cX5_partnersTax 128 = .ok (.i2l, 1) := by decide +kernel
theorem dX5_partnersTax_129 : decode cX5_partnersTax 129 = .ok (.ldiv, 1) := by decide +kernel
theorem dX5_partnersTax_130 : decode cX5_partnersTax 130 = .ok (.lsub, 1) := by decide +kernel
theorem dX5_partnersTax_131 : decode cX5_partnersTax 131 = .ok (.lstore 10, 2) := by decide +kernel
theorem dX5_partnersTax_133 : decode cX5_partnersTax 133 = .ok (.iinc 12 1, 3) := by decide +kernel
theorem dX5_partnersTax_136 : decode cX5_partnersTax 136 = .ok (.goto (-33), 3) := by decide +kernel
theorem dX5_partnersTax_139 : decode cX5_partnersTax 139 = .ok (.iconst 0, 1) := by decide +kernel
theorem dX5_partnersTax_140 : decode cX5_partnersTax 140 = .ok (.istore 12, 2) := by decide +kernel
theorem dX5_partnersTax_142 : decode cX5_partnersTax 142 = .ok (.iconst 0, 1) := by decide +kernel
theorem dX5_partnersTax_143 : decode cX5_partnersTax 143 = .ok (.istore 13, 2) := by decide +kernel
theorem dX5_partnersTax_145 : decode cX5_partnersTax 145 = .ok (.iload 13, 2) := by decide +kernel
theorem dX5_partnersTax_147 : decode cX5_partnersTax 147 = .ok (.aload_n 0, 1) := by decide +kernel
theorem dX5_partnersTax_148 : decode cX5_partnersTax 148 = .ok (.getfield 63, 3) := by decide +kernel
theorem dX5_partnersTax_151 : decode cX5_partnersTax 151 = .ok (.if_icmp .ge 124, 3) := by decide +kernel
theorem dX5_partnersTax_154 : decode cX5_partnersTax 154 = .ok (.lload 6, 2) := by decide +kernel
theorem dX5_partnersTax_156 : decode cX5_partnersTax 156 = .ok (.aload_n 0, 1) := by decide +kernel
theorem dX5_partnersTax_157 : decode cX5_partnersTax 157 = .ok (.getfield 56, 3) := by decide +kernel
theorem dX5_partnersTax_160 : decode cX5_partnersTax 160 = .ok (.iload 5, 2) := by decide +kernel
theorem dX5_partnersTax_162 : decode cX5_partnersTax 162 = .ok (.iload 13, 2) := by decide +kernel
theorem dX5_partnersTax_164 : decode cX5_partnersTax 164 = .ok (.iadd, 1) := by decide +kernel
theorem dX5_partnersTax_165 : decode cX5_partnersTax 165 = .ok (.iaload, 1) := by decide +kernel
theorem dX5_partnersTax_166 : decode cX5_partnersTax 166 = .ok (.i2l, 1) := by decide +kernel
theorem dX5_partnersTax_167 : decode cX5_partnersTax 167 = .ok (.lmul, 1) := by decide +kernel
theorem dX5_partnersTax_168 : decode cX5_partnersTax 168 = .ok (.iload 8, 2) := by decide +kernel
theorem dX5_partnersTax_170 : decode cX5_partnersTax 170 = .ok (.i2l, 1) := by decide +kernel
theorem dX5_partnersTax_171 : decode cX5_partnersTax 171 = .ok (.ldiv, 1) := by decide +kernel
theorem dX5_partnersTax_172 : decode cX5_partnersTax 172 = .ok (.iload 13, 2) := by decide +kernel
theorem dX5_partnersTax_174 : decode cX5_partnersTax 174 = .ok (.iload 9, 2) := by decide +kernel
theorem dX5_partnersTax_176 : decode cX5_partnersTax 176 = .ok (.if_icmp .ne 8, 3) := by decide +kernel
theorem dX5_partnersTax_179 : decode cX5_partnersTax 179 = .ok (.lload 10, 2) := by decide +kernel
theorem dX5_partnersTax_181 : decode cX5_partnersTax 181 = .ok (.goto 4, 3) := by decide +kernel
theorem dX5_partnersTax_184 : decode cX5_partnersTax 184 = .ok (.lconst 0, 1) := by decide +kernel
theorem dX5_partnersTax_185 : decode cX5_partnersTax 185 = .ok (.ladd, 1) := by decide +kernel
theorem dX5_partnersTax_186 : decode cX5_partnersTax 186 = .ok (.lstore 14, 2) := by decide +kernel
theorem dX5_partnersTax_188 : decode cX5_partnersTax 188 = .ok (.aload_n 0, 1) := by decide +kernel
theorem dX5_partnersTax_189 : decode cX5_partnersTax 189 = .ok (.iload_n 1, 1) := by decide +kernel
theorem dX5_partnersTax_190 : decode cX5_partnersTax 190 = .ok (.iload_n 2, 1) := by decide +kernel
theorem dX5_partnersTax_191 : decode cX5_partnersTax 191 = .ok (.iload_n 3, 1) := by decide +kernel
theorem dX5_partnersTax_192 : decode cX5_partnersTax 192 = .ok (.iload 4, 2) := by decide +kernel
theorem dX5_partnersTax_194 : decode cX5_partnersTax 194 = .ok (.invokevirtual 108, 3) := by decide +kernel
theorem dX5_partnersTax_197 : decode cX5_partnersTax 197 = .ok (.ifCond .eq 20, 3) := by decide +kernel
theorem dX5_partnersTax_200 : decode cX5_partnersTax 200 = .ok (.aload_n 0, 1) := by decide +kernel
theorem dX5_partnersTax_201 : decode cX5_partnersTax 201 = .ok (.iload_n 1, 1) := by decide +kernel
theorem dX5_partnersTax_202 : decode cX5_partnersTax 202 = .ok (.iload 13, 2) := by decide +kernel
theorem dX5_partnersTax_204 : decode cX5_partnersTax 204 = .ok (.iload_n 3, 1) := by decide +kernel
theorem dX5_partnersTax_205 : decode cX5_partnersTax 205 = .ok (.iload 4, 2) := by decide +kernel
theorem dX5_partnersTax_207 : decode cX5_partnersTax 207 = .ok (.invokevirtual 108, 3) := by decide +kernel
theorem dX5_partnersTax_210 : decode cX5_partnersTax 210 = .ok (.ifCond .eq 7, 3) := by decide +kernel
theorem dX5_partnersTax_213 : decode cX5_partnersTax 213 = .ok (.iconst 1, 1) := by decide +kernel
theorem dX5_partnersTax_214 : decode cX5_partnersTax 214 = .ok (.goto 4, 3) := by decide +kernel
theorem dX5_partnersTax_217 : decode cX5_partnersTax 217 = .ok (.iconst 0, 1) := by decide +kernel
theorem dX5_partnersTax_218 : decode cX5_partnersTax 218 = .ok (.istore 16, 2) := by decide +kernel
theorem dX5_partnersTax_220 : decode cX5_partnersTax 220 = .ok (.iload 12, 2) := by decide +kernel
theorem dX5_partnersTax_222 : decode cX5_partnersTax 222 = .ok (.aload_n 0, 1) := by decide +kernel
theorem dX5_partnersTax_223 : decode cX5_partnersTax 223 = .ok (.getfield 56, 3) := by decide +kernel
theorem dX5_partnersTax_226 : decode cX5_partnersTax 226 = .ok (.iload 5, 2) := by decide +kernel
theorem dX5_partnersTax_228 : decode cX5_partnersTax 228 = .ok (.iload 13, 2) := by decide +kernel
theorem dX5_partnersTax_230 : decode cX5_partnersTax 230 = .ok (.iadd, 1) := by decide +kernel
theorem dX5_partnersTax_231 : decode cX5_partnersTax 231 = .ok (.iaload, 1) := by decide +kernel
theorem dX5_partnersTax_232 : decode cX5_partnersTax 232 = .ok (.ifCond .ne 7, 3) := by decide +kernel
theorem dX5_partnersTax_235 : decode cX5_partnersTax 235 = .ok (.iconst 0, 1) := by decide +kernel
theorem dX5_partnersTax_236 : decode cX5_partnersTax 236 = .ok (.goto 30, 3) := by decide +kernel
theorem dX5_partnersTax_239 : decode cX5_partnersTax 239 = .ok (.lload 14, 2) := by decide +kernel
theorem dX5_partnersTax_241 : decode cX5_partnersTax 241 = .ok (.iload 16, 2) := by decide +kernel
theorem dX5_partnersTax_243 : decode cX5_partnersTax 243 = .ok (.ifCond .eq 18, 3) := by decide +kernel
theorem dX5_partnersTax_246 : decode cX5_partnersTax 246 = .ok (.aload_n 0, 1) := by decide +kernel
theorem dX5_partnersTax_247 : decode cX5_partnersTax 247 = .ok (.getfield 46, 3) := by decide +kernel
theorem dX5_partnersTax_250 : decode cX5_partnersTax 250 = .ok (.bipush 20, 2) := by decide +kernel
theorem dX5_partnersTax_252 : decode cX5_partnersTax 252 = .ok (.iload_n 1, 1) := by decide +kernel
theorem dX5_partnersTax_253 : decode cX5_partnersTax 253 = .ok (.imul, 1) := by decide +kernel
theorem dX5_partnersTax_254 : decode cX5_partnersTax 254 = .ok (.iload 13, 2) := by decide +kernel
theorem dX5_partnersTax_256 : decode cX5_partnersTax 256 = .ok (.iadd, 1) := by decide +kernel
theorem dX5_partnersTax_257 : decode cX5_partnersTax 257 = .ok (.iaload, 1) := by decide +kernel
theorem dX5_partnersTax_258 : decode cX5_partnersTax 258 = .ok (.goto 5, 3) := by decide +kernel
theorem dX5_partnersTax_261 : decode cX5_partnersTax 261 = .ok (.bipush 30, 2) := by decide +kernel
theorem dX5_partnersTax_263 : decode cX5_partnersTax 263 = .ok (.invokestatic 104, 3) := by decide +kernel
theorem dX5_partnersTax_266 : decode cX5_partnersTax 266 = .ok (.iadd, 1) := by decide +kernel
theorem dX5_partnersTax_267 : decode cX5_partnersTax 267 = .ok (.istore 12, 2) := by decide +kernel
theorem dX5_partnersTax_269 : decode cX5_partnersTax 269 = .ok (.iinc 13 1, 3) := by decide +kernel
theorem dX5_partnersTax_272 : decode cX5_partnersTax 272 = .ok (.goto (-127), 3) := by decide +kernel
theorem dX5_partnersTax_275 : decode cX5_partnersTax 275 = .ok (.iload 12, 2) := by decide +kernel
theorem dX5_partnersTax_277 : decode cX5_partnersTax 277 = .ok (.ireturn, 1) := by decide +kernel
set_option maxRecDepth 20000 in
theorem ggX5_tax_X5_partnersTax : GoodIn wsX5_tax wsX5_partnersTax := goodIn_r _ [8, 2, 9, 10, 11, 12, 13, 7, 14, 15, 16, 17, 18, 19, 20, 21, 22, 23, 24, 25, 26, 27, 28, 29, 30, 31, 32, 33, 34, 35, 36, 37, 38, 39, 40, 41, 42, 43, 44, 45, 46, 47] (by decide +kernel) (by decide +kernel)
set_option maxRecDepth 20000 in
theorem gX5_tax_X5_partnersTax : GoodIn wsX5_tax (wsV RX5 112 RX5 yX5_partnersTax wsX5_partnersTax) := goodIn_app (goodIn_of _ (by decide +kernel)) ggX5_tax_X5_partnersTax
set_option maxRecDepth 20000 in
theorem ggX5_tax_X5_counts : GoodIn wsX5_tax wsX5_counts := goodIn_r _ [19, 20, 21, 22, 23, 7, 24, 25, 26, 27, 28, 29, 30, 31, 32, 33, 34, 35, 36, 37, 38, 39, 40, 41, 42, 43, 44, 45, 46, 47] (by decide +kernel) (by decide +kernel)
set_option maxRecDepth 20000 in
theorem gX5_tax_X5_counts : GoodIn wsX5_tax (wsV RX5 108 RX5 yX5_counts wsX5_counts) := goodIn_app (goodIn_of _ (by decide +kernel)) ggX5_tax_X5_counts
set_option maxRecDepth 20000 in
theorem ggX5_tax_X5_taxOf : GoodIn wsX5_tax wsX5_taxOf := goodIn_r _ [14, 15] (by decide +kernel) (by decide +kernel)
set_option maxRecDepth 20000 in
theorem gX5_tax_X5_taxOf : GoodIn wsX5_tax (va_wsS RX5 104 yX5_taxOf wsX5_taxOf) := goodIn_app (goodIn_of _ (by decide +kernel)) ggX5_tax_X5_taxOf
theorem dX5_tax_0 : decode cX5_tax 0 = .ok (.aload_n 0, 1) := by decide +kernel
theorem dX5_tax_1 : decode cX5_tax 1 = .ok (.getfield 16, 3) := by decide +kernel
theorem dX5_tax_4 : decode cX5_tax 4 = .ok (.iload_n 2, 1) := by decide +kernel
theorem dX5_tax_5 : decode cX5_tax 5 = .ok (.iaload, 1) := by decide +kernel
theorem dX5_tax_6 : decode cX5_tax 6 = .ok (.iconst 2, 1) := by decide +kernel
theorem dX5_tax_7 : decode cX5_tax 7 = .ok (.if_icmp .ne 13, 3) := by decide +kernel
theorem dX5_tax_10 : decode cX5_tax 10 = .ok (.aload_n 0, 1) := by decide +kernel
theorem dX5_tax_11 : decode cX5_tax 11 = .ok (.iload_n 1, 1) := by decide +kernel
theorem dX5_tax_12 : decode cX5_tax 12 = .ok (.iload_n 2, 1) := by decide +kernel
theorem dX5_tax_13 : decode cX5_tax 13 = .ok (.iload_n 3, 1) := by decide +kernel
theorem dX5_tax_14 : decode cX5_tax 14 = .ok (.iload 4, 2) := by decide +kernel
theorem dX5_tax_16 : decode cX5_tax 16 = .ok (.invokevirtual 112, 3) := by decide +kernel
theorem dX5_tax_19 : decode cX5_tax 19 = .ok (.ireturn, 1) := by decide +kernel
theorem dX5_tax_20 : decode cX5_tax 20 = .ok (.bipush 20, 2) := by decide +kernel
theorem dX5_tax_22 : decode cX5_tax 22 = .ok (.iload_n 1, 1) := by decide +kernel
theorem dX5_tax_23 : decode cX5_tax 23 = .ok (.imul, 1) := by decide +kernel
theorem dX5_tax_24 : decode cX5_tax 24 = .ok (.iload_n 2, 1) := by decide +kernel
theorem dX5_tax_25 : decode cX5_tax 25 = .ok (.iadd, 1) := by decide +kernel
theorem dX5_tax_26 : decode cX5_tax 26 = .ok (.istore 5, 2) := by decide +kernel
theorem dX5_tax_28 : decode cX5_tax 28 = .ok (.aload_n 0, 1) := by decide +kernel
theorem dX5_tax_29 : decode cX5_tax 29 = .ok (.getfield 37, 3) := by decide +kernel
theorem dX5_tax_32 : decode cX5_tax 32 = .ok (.iload 5, 2) := by decide +kernel
theorem dX5_tax_34 : decode cX5_tax 34 = .ok (.iaload, 1) := by decide +kernel
theorem dX5_tax_35 : decode cX5_tax 35 = .ok (.i2l, 1) := by decide +kernel
theorem dX5_tax_36 : decode cX5_tax 36 = .ok (.aload_n 0, 1) := by decide +kernel
theorem dX5_tax_37 : decode cX5_tax 37 = .ok (.iload_n 1, 1) := by decide +kernel
theorem dX5_tax_38 : decode cX5_tax 38 = .ok (.iload_n 2, 1) := by decide +kernel
theorem dX5_tax_39 : decode cX5_tax 39 = .ok (.iload_n 3, 1) := by decide +kernel
theorem dX5_tax_40 : decode cX5_tax 40 = .ok (.iload 4, 2) := by decide +kernel
theorem dX5_tax_42 : decode cX5_tax 42 = .ok (.invokevirtual 108, 3) := by decide +kernel
theorem dX5_tax_45 : decode cX5_tax 45 = .ok (.ifCond .eq 13, 3) := by decide +kernel
theorem dX5_tax_48 : decode cX5_tax 48 = .ok (.aload_n 0, 1) := by decide +kernel
theorem dX5_tax_49 : decode cX5_tax 49 = .ok (.getfield 49, 3) := by decide +kernel
theorem dX5_tax_52 : decode cX5_tax 52 = .ok (.iload 5, 2) := by decide +kernel
theorem dX5_tax_54 : decode cX5_tax 54 = .ok (.iaload, 1) := by decide +kernel
theorem dX5_tax_55 : decode cX5_tax 55 = .ok (.goto 5, 3) := by decide +kernel
theorem dX5_tax_58 : decode cX5_tax 58 = .ok (.bipush 30, 2) := by decide +kernel
theorem dX5_tax_60 : decode cX5_tax 60 = .ok (.invokestatic 104, 3) := by decide +kernel
theorem dX5_tax_63 : decode cX5_tax 63 = .ok (.ireturn, 1) := by decide +kernel
set_option maxRecDepth 20000 in
theorem ggX5_pay_X5_isIn : GoodIn wsX5_pay wsX5_isIn := goodIn_r _ [20] (by decide +kernel) (by decide +kernel)
set_option maxRecDepth 20000 in
theorem gX5_pay_X5_isIn : GoodIn wsX5_pay (va_wsS RX5 66 yX5_isIn wsX5_isIn) := goodIn_app (goodIn_of _ (by decide +kernel)) ggX5_pay_X5_isIn
set_option maxRecDepth 20000 in
theorem ggX5_pay_X5_allShares : GoodIn wsX5_pay wsX5_allShares := goodIn_r _ [24, 4, 6, 62, 63, 64, 65, 66, 67, 68, 69, 70, 71, 72, 73, 74, 75, 76, 77, 78, 79, 80, 81, 82] (by decide +kernel) (by decide +kernel)
set_option maxRecDepth 20000 in
theorem gX5_pay_X5_allShares : GoodIn wsX5_pay (wsV RX5 81 RX5 yX5_allShares wsX5_allShares) := goodIn_app (goodIn_of _ (by decide +kernel)) ggX5_pay_X5_allShares
set_option maxRecDepth 20000 in
theorem ggX5_pay_X5_can : GoodIn wsX5_pay wsX5_can := goodIn_r _ [28, 29, 62, 63, 64, 65, 66, 67, 68, 69, 70, 71, 72, 73, 74, 75, 76, 77, 78, 79, 80, 81, 82] (by decide +kernel) (by decide +kernel)
set_option maxRecDepth 20000 in
theorem gX5_pay_X5_can : GoodIn wsX5_pay (wsV RX5 73 RX5 yX5_can wsX5_can) := goodIn_app (goodIn_of _ (by decide +kernel)) ggX5_pay_X5_can
set_option maxRecDepth 20000 in
theorem ggX5_pay_X5_hasForm : GoodIn wsX5_pay wsX5_hasForm := goodIn_r _ [33, 34, 3, 62, 63, 64, 65, 66, 67, 68, 69, 70, 71, 72, 73, 74, 75, 76, 77, 78, 79, 80, 81, 82] (by decide +kernel) (by decide +kernel)
set_option maxRecDepth 20000 in
theorem gX5_pay_X5_hasForm : GoodIn wsX5_pay (wsV RX5 92 RX5 yX5_hasForm wsX5_hasForm) := goodIn_app (goodIn_of _ (by decide +kernel)) ggX5_pay_X5_hasForm
set_option maxRecDepth 20000 in
theorem ggX5_pay_X5_rateOf : GoodIn wsX5_pay wsX5_rateOf := goodIn_r _ [38, 10, 11, 39, 40, 41, 42, 19, 43, 9, 6, 44, 45, 3, 62, 63, 64, 65, 66, 67, 68, 69, 70, 71, 72, 73, 74, 75, 76, 77, 78, 79, 80, 81, 82] (by decide +kernel) (by decide +kernel)
set_option maxRecDepth 20000 in
theorem gX5_pay_X5_rateOf : GoodIn wsX5_pay (wsV RX5 98 RX5 yX5_rateOf wsX5_rateOf) := goodIn_app (goodIn_of _ (by decide +kernel)) ggX5_pay_X5_rateOf
set_option maxRecDepth 20000 in
theorem ggX5_pay_X5_tax : GoodIn wsX5_pay wsX5_tax := goodIn_r _ [49, 9, 5, 12, 50, 51, 52, 19, 53, 13, 4, 8, 54, 55, 56, 57, 58, 59, 60, 61, 7, 30, 31, 32, 33, 34, 3, 62, 63, 64, 65, 66, 67, 68, 69, 70, 71, 72, 73, 74, 75, 76, 77, 78, 79, 80, 81, 82] (by decide +kernel) (by decide +kernel)
set_option maxRecDepth 20000 in
theorem gX5_pay_X5_tax : GoodIn wsX5_pay (wsV RX5 116 RX5 yX5_tax wsX5_tax) := goodIn_app (goodIn_of _ (by decide +kernel)) ggX5_pay_X5_tax
theorem dX5_pay_0 : decode cX5_pay 0 = .ok (.aload_n 0, 1) := by decide +kernel
theorem dX5_pay_1 : decode cX5_pay 1 = .ok (.iload_n 1, 1) := by decide +kernel
theorem dX5_pay_2 : decode cX5_pay 2 = .ok (.iconst 1, 1) := by decide +kernel
theorem dX5_pay_3 : decode cX5_pay 3 = .ok (.sipush 1000, 3) := by decide +kernel
theorem dX5_pay_6 : decode cX5_pay 6 = .ok (.invokestatic 66, 3) := by decide +kernel
theorem dX5_pay_9 : decode cX5_pay 9 = .ok (.ifCond .ne 7, 3) := by decide +kernel
theorem dX5_pay_12 : decode cX5_pay 12 = .ok (.iconst 1, 1) := by decide +kernel
theorem dX5_pay_13 : decode cX5_pay 13 = .ok (.goto 24, 3) := by decide +kernel
theorem dX5_pay_16 : decode cX5_pay 16 = .ok (.aload_n 0, 1) := by decide +kernel
theorem dX5_pay_17 : decode cX5_pay 17 = .ok (.getfield 70, 3) := by decide +kernel
theorem dX5_pay_20 : decode cX5_pay 20 = .ok (.bipush 40, 2) := by decide +kernel
theorem dX5_pay_22 : decode cX5_pay 22 = .ok (.if_icmp .eq 10, 3) := by decide +kernel
theorem dX5_pay_25 : decode cX5_pay 25 = .ok (.aload_n 0, 1) := by decide +kernel
theorem dX5_pay_26 : decode cX5_pay 26 = .ok (.invokevirtual 81, 3) := by decide +kernel
theorem dX5_pay_29 : decode cX5_pay 29 = .ok (.ifCond .ne 7, 3) := by decide +kernel
theorem dX5_pay_32 : decode cX5_pay 32 = .ok (.iconst 2, 1) := by decide +kernel
theorem dX5_pay_33 : decode cX5_pay 33 = .ok (.goto 4, 3) := by decide +kernel
theorem dX5_pay_36 : decode cX5_pay 36 = .ok (.iconst 0, 1) := by decide +kernel
theorem dX5_pay_37 : decode cX5_pay 37 = .ok (.invokevirtual 73, 3) := by decide +kernel
theorem dX5_pay_40 : decode cX5_pay 40 = .ok (.ifCond .ne 5, 3) := by decide +kernel
theorem dX5_pay_43 : decode cX5_pay 43 = .ok (.iconst 0, 1) := by decide +kernel
theorem dX5_pay_44 : decode cX5_pay 44 = .ok (.ireturn, 1) := by decide +kernel
theorem dX5_pay_45 : decode cX5_pay 45 = .ok (.aload_n 0, 1) := by decide +kernel
theorem dX5_pay_46 : decode cX5_pay 46 = .ok (.getfield 34, 3) := by decide +kernel
theorem dX5_pay_49 : decode cX5_pay 49 = .ok (.aload_n 0, 1) := by decide +kernel
theorem dX5_pay_50 : decode cX5_pay 50 = .ok (.getfield 70, 3) := by decide +kernel
theorem dX5_pay_53 : decode cX5_pay 53 = .ok (.aload_n 0, 1) := by decide +kernel
theorem dX5_pay_54 : decode cX5_pay 54 = .ok (.getfield 85, 3) := by decide +kernel
theorem dX5_pay_57 : decode cX5_pay 57 = .ok (.iastore, 1) := by decide +kernel
theorem dX5_pay_58 : decode cX5_pay 58 = .ok (.iconst 0, 1) := by decide +kernel
theorem dX5_pay_59 : decode cX5_pay 59 = .ok (.istore_n 2, 1) := by decide +kernel
theorem dX5_pay_60 : decode cX5_pay 60 = .ok (.iload_n 2, 1) := by decide +kernel
theorem dX5_pay_61 : decode cX5_pay 61 = .ok (.aload_n 0, 1) := by decide +kernel
theorem dX5_pay_62 : decode cX5_pay 62 = .ok (.getfield 63, 3) := by decide +kernel
theorem dX5_pay_65 : decode cX5_pay 65 = .ok (.if_icmp .ge 142, 3) := by decide +kernel
theorem dX5_pay_68 : decode cX5_pay 68 = .ok (.bipush 20, 2) := by decide +kernel
theorem dX5_pay_70 : decode cX5_pay 70 = .ok (.aload_n 0, 1) := by decide +kernel
theorem dX5_pay_71 : decode cX5_pay 71 = .ok (.getfield 70, 3) := by decide +kernel
theorem dX5_pay_74 : decode cX5_pay 74 = .ok (.imul, 1) := by decide +kernel
theorem dX5_pay_75 : decode cX5_pay 75 = .ok (.iload_n 2, 1) := by decide +kernel
theorem dX5_pay_76 : decode cX5_pay 76 = .ok (.iadd, 1) := by decide +kernel
theorem dX5_pay_77 : decode cX5_pay 77 = .ok (.istore_n 3, 1) := by decide +kernel
theorem dX5_pay_78 : decode cX5_pay 78 = .ok (.aload_n 0, 1) := by decide +kernel
theorem dX5_pay_79 : decode cX5_pay 79 = .ok (.getfield 37, 3) := by decide +kernel
theorem dX5_pay_82 : decode cX5_pay 82 = .ok (.iload_n 3, 1) := by decide +kernel
theorem dX5_pay_83 : decode cX5_pay 83 = .ok (.aload_n 0, 1) := by decide +kernel
theorem dX5_pay_84 : decode cX5_pay 84 = .ok (.getfield 22, 3) := by decide +kernel
theorem dX5_pay_87 : decode cX5_pay 87 = .ok (.iload_n 2, 1) := by decide +kernel
theorem dX5_pay_88 : decode cX5_pay 88 = .ok (.iaload, 1) := by decide +kernel
theorem dX5_pay_89 : decode cX5_pay 89 = .ok (.iload_n 1, 1) := by decide +kernel
theorem dX5_pay_90 : decode cX5_pay 90 = .ok (.imul, 1) := by decide +kernel
theorem dX5_pay_91 : decode cX5_pay 91 = .ok (.iastore, 1) := by decide +kernel
theorem dX5_pay_92 : decode cX5_pay 92 = .ok (.aload_n 0, 1) := by decide +kernel
theorem dX5_pay_93 : decode cX5_pay 93 = .ok (.getfield 52, 3) := by decide +kernel
theorem dX5_pay_96 : decode cX5_pay 96 = .ok (.iload_n 3, 1) := by decide +kernel
theorem dX5_pay_97 : decode cX5_pay 97 = .ok (.aload_n 0, 1) := by decide +kernel
theorem dX5_pay_98 : decode cX5_pay 98 = .ok (.iload_n 2, 1) := by decide +kernel
theorem dX5_pay_99 : decode cX5_pay 99 = .ok (.invokevirtual 92, 3) := by decide +kernel
theorem dX5_pay_102 : decode cX5_pay 102 = .ok (.bastore, 1) := by decide +kernel
theorem dX5_pay_103 : decode cX5_pay 103 = .ok (.aload_n 0, 1) := by decide +kernel
theorem dX5_pay_104 : decode cX5_pay 104 = .ok (.getfield 46, 3) := by decide +kernel
theorem dX5_pay_107 : decode cX5_pay 107 = .ok (.iload_n 3, 1) := by decide +kernel
theorem dX5_pay_108 : decode cX5_pay 108 = .ok (.aload_n 0, 1) := by decide +kernel
theorem dX5_pay_109 : decode cX5_pay 109 = .ok (.getfield 16, 3) := by decide +kernel
theorem dX5_pay_112 : decode cX5_pay 112 = .ok (.iload_n 2, 1) := by decide +kernel
theorem dX5_pay_113 : decode cX5_pay 113 = .ok (.iaload, 1) := by decide +kernel
theorem dX5_pay_114 : decode cX5_pay 114 = .ok (.iconst 2, 1) := by decide +kernel
theorem dX5_pay_115 : decode cX5_pay 115 = .ok (.if_icmp .ne 8, 3) := by decide +kernel
theorem dX5_pay_118 : decode cX5_pay 118 = .ok (.bipush 30, 2) := by decide +kernel
theorem dX5_pay_120 : decode cX5_pay 120 = .ok (.goto 14, 3) := by decide +kernel
theorem dX5_pay_123 : decode cX5_pay 123 = .ok (.aload_n 0, 1) := by decide +kernel
theorem dX5_pay_124 : decode cX5_pay 124 = .ok (.getfield 7, 3) := by decide +kernel
theorem dX5_pay_127 : decode cX5_pay 127 = .ok (.aload_n 0, 1) := by decide +kernel
theorem dX5_pay_128 : decode cX5_pay 128 = .ok (.getfield 19, 3) := by decide +kernel
theorem dX5_pay_131 : decode cX5_pay 131 = .ok (.iload_n 2, 1) := by decide +kernel
theorem dX5_pay_132 : decode cX5_pay 132 = .ok (.iaload, 1) := by decide +kernel
theorem dX5_pay_133 : decode cX5_pay 133 = .ok (.iaload, 1) := by decide +kernel
theorem dX5_pay_134 : decode cX5_pay 134 = .ok (.iastore, 1) := by decide +kernel
theorem dX5_pay_135 : decode cX5_pay 135 = .ok (.aload_n 0, 1) := by decide +kernel
theorem dX5_pay_136 : decode cX5_pay 136 = .ok (.getfield 49, 3) := by decide +kernel
theorem dX5_pay_139 : decode cX5_pay 139 = .ok (.iload_n 3, 1) := by decide +kernel
theorem dX5_pay_140 : decode cX5_pay 140 = .ok (.aload_n 0, 1) := by decide +kernel
theorem dX5_pay_141 : decode cX5_pay 141 = .ok (.getfield 16, 3) := by decide +kernel
theorem dX5_pay_144 : decode cX5_pay 144 = .ok (.iload_n 2, 1) := by decide +kernel
theorem dX5_pay_145 : decode cX5_pay 145 = .ok (.iaload, 1) := by decide +kernel
theorem dX5_pay_146 : decode cX5_pay 146 = .ok (.iconst 2, 1) := by decide +kernel
theorem dX5_pay_147 : decode cX5_pay 147 = .ok (.if_icmp .ne 8, 3) := by decide +kernel
theorem dX5_pay_150 : decode cX5_pay 150 = .ok (.bipush 30, 2) := by decide +kernel
theorem dX5_pay_152 : decode cX5_pay 152 = .ok (.goto 8, 3) := by decide +kernel
theorem dX5_pay_155 : decode cX5_pay 155 = .ok (.aload_n 0, 1) := by decide +kernel
theorem dX5_pay_156 : decode cX5_pay 156 = .ok (.iload_n 2, 1) := by decide +kernel
theorem dX5_pay_157 : decode cX5_pay 157 = .ok (.invokevirtual 98, 3) := by decide +kernel
theorem dX5_pay_160 : decode cX5_pay 160 = .ok (.iastore, 1) := by decide +kernel
theorem dX5_pay_161 : decode cX5_pay 161 = .ok (.iconst 0, 1) := by decide +kernel
theorem dX5_pay_162 : decode cX5_pay 162 = .ok (.istore 4, 2) := by decide +kernel
theorem dX5_pay_164 : decode cX5_pay 164 = .ok (.iload 4, 2) := by decide +kernel
theorem dX5_pay_166 : decode cX5_pay 166 = .ok (.bipush 20, 2) := by decide +kernel
theorem dX5_pay_168 : decode cX5_pay 168 = .ok (.if_icmp .ge 33, 3) := by decide +kernel
theorem dX5_pay_171 : decode cX5_pay 171 = .ok (.aload_n 0, 1) := by decide +kernel
theorem dX5_pay_172 : decode cX5_pay 172 = .ok (.getfield 56, 3) := by decide +kernel
theorem dX5_pay_175 : decode cX5_pay 175 = .ok (.bipush 20, 2) := by decide +kernel
theorem dX5_pay_177 : decode cX5_pay 177 = .ok (.iload_n 3, 1) := by decide +kernel
theorem dX5_pay_178 : decode cX5_pay 178 = .ok (.imul, 1) := by decide +kernel
theorem dX5_pay_179 : decode cX5_pay 179 = .ok (.iload 4, 2) := by decide +kernel
theorem dX5_pay_181 : decode cX5_pay 181 = .ok (.iadd, 1) := by decide +kernel
theorem dX5_pay_182 : decode cX5_pay 182 = .ok (.aload_n 0, 1) := by decide +kernel
theorem dX5_pay_183 : decode cX5_pay 183 = .ok (.getfield 31, 3) := by decide +kernel
theorem dX5_pay_186 : decode cX5_pay 186 = .ok (.bipush 20, 2) := by decide +kernel
theorem dX5_pay_188 : decode cX5_pay 188 = .ok (.iload_n 2, 1) := by decide +kernel
theorem dX5_pay_189 : decode cX5_pay 189 = .ok (.imul, 1) := by decide +kernel
theorem dX5_pay_190 : decode cX5_pay 190 = .ok (.iload 4, 2) := by decide +kernel
theorem dX5_pay_192 : decode cX5_pay 192 = .ok (.iadd, 1) := by decide +kernel
theorem dX5_pay_193 : decode cX5_pay 193 = .ok (.iaload, 1) := by decide +kernel
theorem dX5_pay_194 : decode cX5_pay 194 = .ok (.iastore, 1) := by decide +kernel
theorem dX5_pay_195 : decode cX5_pay 195 = .ok (.iinc 4 1, 3) := by decide +kernel
theorem dX5_pay_198 : decode cX5_pay 198 = .ok (.goto (-34), 3) := by decide +kernel
theorem dX5_pay_201 : decode cX5_pay 201 = .ok (.iinc 2 1, 3) := by decide +kernel
theorem dX5_pay_204 : decode cX5_pay 204 = .ok (.goto (-144), 3) := by decide +kernel
theorem dX5_pay_207 : decode cX5_pay 207 = .ok (.iconst 0, 1) := by decide +kernel
theorem dX5_pay_208 : decode cX5_pay 208 = .ok (.istore_n 2, 1) := by decide +kernel
theorem dX5_pay_209 : decode cX5_pay 209 = .ok (.iload_n 2, 1) := by decide +kernel
theorem dX5_pay_210 : decode cX5_pay 210 = .ok (.aload_n 0, 1) := by decide +kernel
theorem dX5_pay_211 : decode cX5_pay 211 = .ok (.getfield 63, 3) := by decide +kernel
theorem dX5_pay_214 : decode cX5_pay 214 = .ok (.if_icmp .ge 59, 3) := by decide +kernel
theorem dX5_pay_217 : decode cX5_pay 217 = .ok (.aload_n 0, 1) := by decide +kernel
theorem dX5_pay_218 : decode cX5_pay 218 = .ok (.getfield 40, 3) := by decide +kernel
theorem dX5_pay_221 : decode cX5_pay 221 = .ok (.bipush 20, 2) := by decide +kernel
theorem dX5_pay_223 : decode cX5_pay 223 = .ok (.aload_n 0, 1) := by decide +kernel
theorem dX5_pay_224 : decode cX5_pay 224 = .ok (.getfield 70, 3) := by decide +kernel
theorem dX5_pay_227 : decode cX5_pay 227 = .ok (.imul, 1) := by decide +kernel
theorem dX5_pay_228 : decode cX5_pay 228 = .ok (.iload_n 2, 1) := by decide +kernel
theorem dX5_pay_229 : decode cX5_pay 229 = .ok (.iadd, 1) := by decide +kernel
theorem dX5_pay_230 : decode cX5_pay 230 = .ok (.aload_n 0, 1) := by decide +kernel
theorem dX5_pay_231 : decode cX5_pay 231 = .ok (.aload_n 0, 1) := by decide +kernel
theorem dX5_pay_232 : decode cX5_pay 232 = .ok (.getfield 70, 3) := by decide +kernel
theorem dX5_pay_235 : decode cX5_pay 235 = .ok (.iload_n 2, 1) := by decide +kernel
theorem dX5_pay_236 : decode cX5_pay 236 = .ok (.iconst 0, 1) := by decide +kernel
theorem dX5_pay_237 : decode cX5_pay 237 = .ok (.iconst 0, 1) := by decide +kernel
theorem dX5_pay_238 : decode cX5_pay 238 = .ok (.invokevirtual 116, 3) := by decide +kernel
theorem dX5_pay_241 : decode cX5_pay 241 = .ok (.iastore, 1) := by decide +kernel
theorem dX5_pay_242 : decode cX5_pay 242 = .ok (.aload_n 0, 1) := by decide +kernel
theorem dX5_pay_243 : decode cX5_pay 243 = .ok (.getfield 43, 3) := by decide +kernel
theorem dX5_pay_246 : decode cX5_pay 246 = .ok (.bipush 20, 2) := by decide +kernel
theorem dX5_pay_248 : decode cX5_pay 248 = .ok (.aload_n 0, 1) := by decide +kernel
theorem dX5_pay_249 : decode cX5_pay 249 = .ok (.getfield 70, 3) := by decide +kernel
theorem dX5_pay_252 : decode cX5_pay 252 = .ok (.imul, 1) := by decide +kernel
theorem dX5_pay_253 : decode cX5_pay 253 = .ok (.iload_n 2, 1) := by decide +kernel
theorem dX5_pay_254 : decode cX5_pay 254 = .ok (.iadd, 1) := by decide +kernel
theorem dX5_pay_255 : decode cX5_pay 255 = .ok (.aload_n 0, 1) := by decide +kernel
theorem dX5_pay_256 : decode cX5_pay 256 = .ok (.aload_n 0, 1) := by decide +kernel
theorem dX5_pay_257 : decode cX5_pay 257 = .ok (.getfield 70, 3) := by decide +kernel
theorem dX5_pay_260 : decode cX5_pay 260 = .ok (.iload_n 2, 1) := by decide +kernel
theorem dX5_pay_261 : decode cX5_pay 261 = .ok (.iconst 0, 1) := by decide +kernel
theorem dX5_pay_262 : decode cX5_pay 262 = .ok (.iconst 1, 1) := by decide +kernel
theorem dX5_pay_263 : decode cX5_pay 263 = .ok (.invokevirtual 116, 3) := by decide +kernel
theorem dX5_pay_266 : decode cX5_pay 266 = .ok (.iastore, 1) := by decide +kernel
theorem dX5_pay_267 : decode cX5_pay 267 = .ok (.iinc 2 1, 3) := by decide +kernel
theorem dX5_pay_270 : decode cX5_pay 270 = .ok (.goto (-61), 3) := by decide +kernel
theorem dX5_pay_273 : decode cX5_pay 273 = .ok (.aload_n 0, 1) := by decide +kernel
theorem dX5_pay_274 : decode cX5_pay 274 = .ok (.dup, 1) := by decide +kernel
theorem dX5_pay_275 : decode cX5_pay 275 = .ok (.getfield 70, 3) := by decide +kernel
theorem dX5_pay_278 : decode cX5_pay 278 = .ok (.iconst 1, 1) := by decide +kernel
theorem dX5_pay_279 : decode cX5_pay 279 = .ok (.iadd, 1) := by decide +kernel
theorem dX5_pay_280 : decode cX5_pay 280 = .ok (.putfield 70, 3) := by decide +kernel
theorem dX5_pay_283 : decode cX5_pay 283 = .ok (.aload_n 0, 1) := by decide +kernel
theorem dX5_pay_284 : decode cX5_pay 284 = .ok (.getfield 70, 3) := by decide +kernel
theorem dX5_pay_287 : decode cX5_pay 287 = .ok (.iconst 1, 1) := by decide +kernel
theorem dX5_pay_288 : decode cX5_pay 288 = .ok (.isub, 1) := by decide +kernel
theorem dX5_pay_289 : decode cX5_pay 289 = .ok (.ireturn, 1) := by decide +kernel
theorem dX5_dividends_0 : decode cX5_dividends 0 = .ok (.aload_n 0, 1) := by decide +kernel
theorem dX5_dividends_1 : decode cX5_dividends 1 = .ok (.iconst 0, 1) := by decide +kernel
theorem dX5_dividends_2 : decode cX5_dividends 2 = .ok (.putfield 59, 3) := by decide +kernel
theorem dX5_dividends_5 : decode cX5_dividends 5 = .ok (.aload_n 0, 1) := by decide +kernel
theorem dX5_dividends_6 : decode cX5_dividends 6 = .ok (.getfield 70, 3) := by decide +kernel
theorem dX5_dividends_9 : decode cX5_dividends 9 = .ok (.ireturn, 1) := by decide +kernel
set_option maxRecDepth 20000 in
theorem ggX5_areAsked_X5_isDividend : GoodIn wsX5_areAsked wsX5_isDividend := goodIn_r _ [5, 6, 7, 8, 4, 9, 20, 21, 22, 23, 24, 25, 26, 27, 28, 29, 30, 31, 32, 33, 34, 35, 36, 37, 38, 39, 40] (by decide +kernel) (by decide +kernel)
set_option maxRecDepth 20000 in
theorem gX5_areAsked_X5_isDividend : GoodIn wsX5_areAsked (wsV RX5 119 RX5 yX5_isDividend wsX5_isDividend) := goodIn_app (goodIn_of _ (by decide +kernel)) ggX5_areAsked_X5_isDividend
set_option maxRecDepth 20000 in
theorem ggX5_areAsked_X5_isHolder : GoodIn wsX5_areAsked wsX5_isHolder := goodIn_r _ [13, 14, 7, 8, 4, 9, 20, 21, 22, 23, 24, 25, 26, 27, 28, 29, 30, 31, 32, 33, 34, 35, 36, 37, 38, 39, 40] (by decide +kernel) (by decide +kernel)
set_option maxRecDepth 20000 in
theorem gX5_areAsked_X5_isHolder : GoodIn wsX5_areAsked (wsV RX5 77 RX5 yX5_isHolder wsX5_isHolder) := goodIn_app (goodIn_of _ (by decide +kernel)) ggX5_areAsked_X5_isHolder
set_option maxRecDepth 20000 in
theorem ggX5_areAsked_X5_can : GoodIn wsX5_areAsked wsX5_can := goodIn_r _ [18, 19, 20, 21, 22, 23, 24, 25, 26, 27, 28, 29, 30, 31, 32, 33, 34, 35, 36, 37, 38, 39, 40] (by decide +kernel) (by decide +kernel)
set_option maxRecDepth 20000 in
theorem gX5_areAsked_X5_can : GoodIn wsX5_areAsked (wsV RX5 73 RX5 yX5_can wsX5_can) := goodIn_app (goodIn_of _ (by decide +kernel)) ggX5_areAsked_X5_can
theorem dX5_areAsked_0 : decode cX5_areAsked 0 = .ok (.aload_n 0, 1) := by decide +kernel
theorem dX5_areAsked_1 : decode cX5_areAsked 1 = .ok (.aload_n 0, 1) := by decide +kernel
theorem dX5_areAsked_2 : decode cX5_areAsked 2 = .ok (.iload_n 1, 1) := by decide +kernel
theorem dX5_areAsked_3 : decode cX5_areAsked 3 = .ok (.invokevirtual 119, 3) := by decide +kernel
theorem dX5_areAsked_6 : decode cX5_areAsked 6 = .ok (.ifCond .eq 15, 3) := by decide +kernel
theorem dX5_areAsked_9 : decode cX5_areAsked 9 = .ok (.aload_n 0, 1) := by decide +kernel
theorem dX5_areAsked_10 : decode cX5_areAsked 10 = .ok (.iload_n 2, 1) := by decide +kernel
theorem dX5_areAsked_11 : decode cX5_areAsked 11 = .ok (.invokevirtual 77, 3) := by decide +kernel
theorem dX5_areAsked_14 : decode cX5_areAsked 14 = .ok (.ifCond .eq 7, 3) := by decide +kernel
theorem dX5_areAsked_17 : decode cX5_areAsked 17 = .ok (.iconst 0, 1) := by decide +kernel
theorem dX5_areAsked_18 : decode cX5_areAsked 18 = .ok (.goto 4, 3) := by decide +kernel
theorem dX5_areAsked_21 : decode cX5_areAsked 21 = .ok (.iconst 1, 1) := by decide +kernel
theorem dX5_areAsked_22 : decode cX5_areAsked 22 = .ok (.invokevirtual 73, 3) := by decide +kernel
theorem dX5_areAsked_25 : decode cX5_areAsked 25 = .ok (.ireturn, 1) := by decide +kernel
set_option maxRecDepth 20000 in
theorem ggX5_gross_X5_areAsked : GoodIn wsX5_gross wsX5_areAsked := goodIn_r _ [6, 7, 8, 9, 5, 10, 11, 12, 13, 14, 15, 16, 17, 18, 19, 20, 21, 22, 23, 24, 25, 26, 27, 28, 29, 30, 31, 32, 33, 34, 35, 36, 37, 38, 39, 40, 41, 42, 43, 44, 45] (by decide +kernel) (by decide +kernel)
set_option maxRecDepth 20000 in
theorem gX5_gross_X5_areAsked : GoodIn wsX5_gross (wsV RX5 122 RX5 yX5_areAsked wsX5_areAsked) := goodIn_app (goodIn_of _ (by decide +kernel)) ggX5_gross_X5_areAsked
theorem dX5_gross_0 : decode cX5_gross 0 = .ok (.aload_n 0, 1) := by decide +kernel
theorem dX5_gross_1 : decode cX5_gross 1 = .ok (.iload_n 1, 1) := by decide +kernel
theorem dX5_gross_2 : decode cX5_gross 2 = .ok (.iload_n 2, 1) := by decide +kernel
theorem dX5_gross_3 : decode cX5_gross 3 = .ok (.invokevirtual 122, 3) := by decide +kernel
theorem dX5_gross_6 : decode cX5_gross 6 = .ok (.ifCond .eq 17, 3) := by decide +kernel
theorem dX5_gross_9 : decode cX5_gross 9 = .ok (.aload_n 0, 1) := by decide +kernel
theorem dX5_gross_10 : decode cX5_gross 10 = .ok (.getfield 37, 3) := by decide +kernel
theorem dX5_gross_13 : decode cX5_gross 13 = .ok (.bipush 20, 2) := by decide +kernel
theorem dX5_gross_15 : decode cX5_gross 15 = .ok (.iload_n 1, 1) := by decide +kernel
theorem dX5_gross_16 : decode cX5_gross 16 = .ok (.imul, 1) := by decide +kernel
theorem dX5_gross_17 : decode cX5_gross 17 = .ok (.iload_n 2, 1) := by decide +kernel
theorem dX5_gross_18 : decode cX5_gross 18 = .ok (.iadd, 1) := by decide +kernel
theorem dX5_gross_19 : decode cX5_gross 19 = .ok (.iaload, 1) := by decide +kernel
theorem dX5_gross_20 : decode cX5_gross 20 = .ok (.goto 4, 3) := by decide +kernel
theorem dX5_gross_23 : decode cX5_gross 23 = .ok (.iconst 0, 1) := by decide +kernel
theorem dX5_gross_24 : decode cX5_gross 24 = .ok (.ireturn, 1) := by decide +kernel
set_option maxRecDepth 20000 in
theorem ggX5_held_X5_areAsked : GoodIn wsX5_held wsX5_areAsked := goodIn_r _ [6, 7, 8, 9, 5, 10, 11, 12, 13, 14, 15, 16, 17, 18, 19, 20, 21, 22, 23, 24, 25, 26, 27, 28, 29, 30, 31, 32, 33, 34, 35, 36, 37, 38, 39, 40, 41, 42, 43, 44, 45] (by decide +kernel) (by decide +kernel)
set_option maxRecDepth 20000 in
theorem gX5_held_X5_areAsked : GoodIn wsX5_held (wsV RX5 122 RX5 yX5_areAsked wsX5_areAsked) := goodIn_app (goodIn_of _ (by decide +kernel)) ggX5_held_X5_areAsked
theorem dX5_held_0 : decode cX5_held 0 = .ok (.aload_n 0, 1) := by decide +kernel
theorem dX5_held_1 : decode cX5_held 1 = .ok (.iload_n 1, 1) := by decide +kernel
theorem dX5_held_2 : decode cX5_held 2 = .ok (.iload_n 2, 1) := by decide +kernel
theorem dX5_held_3 : decode cX5_held 3 = .ok (.invokevirtual 122, 3) := by decide +kernel
theorem dX5_held_6 : decode cX5_held 6 = .ok (.ifCond .eq 17, 3) := by decide +kernel
theorem dX5_held_9 : decode cX5_held 9 = .ok (.aload_n 0, 1) := by decide +kernel
theorem dX5_held_10 : decode cX5_held 10 = .ok (.getfield 40, 3) := by decide +kernel
theorem dX5_held_13 : decode cX5_held 13 = .ok (.bipush 20, 2) := by decide +kernel
theorem dX5_held_15 : decode cX5_held 15 = .ok (.iload_n 1, 1) := by decide +kernel
theorem dX5_held_16 : decode cX5_held 16 = .ok (.imul, 1) := by decide +kernel
theorem dX5_held_17 : decode cX5_held 17 = .ok (.iload_n 2, 1) := by decide +kernel
theorem dX5_held_18 : decode cX5_held 18 = .ok (.iadd, 1) := by decide +kernel
theorem dX5_held_19 : decode cX5_held 19 = .ok (.iaload, 1) := by decide +kernel
theorem dX5_held_20 : decode cX5_held 20 = .ok (.goto 4, 3) := by decide +kernel
theorem dX5_held_23 : decode cX5_held 23 = .ok (.iconst 0, 1) := by decide +kernel
theorem dX5_held_24 : decode cX5_held 24 = .ok (.ireturn, 1) := by decide +kernel
set_option maxRecDepth 20000 in
theorem ggX5_due_X5_areAsked : GoodIn wsX5_due wsX5_areAsked := goodIn_r _ [6, 7, 8, 9, 5, 10, 11, 12, 13, 14, 15, 16, 17, 18, 19, 20, 21, 22, 23, 24, 25, 26, 27, 28, 29, 30, 31, 32, 33, 34, 35, 36, 37, 38, 39, 40, 41, 42, 43, 44, 45] (by decide +kernel) (by decide +kernel)
set_option maxRecDepth 20000 in
theorem gX5_due_X5_areAsked : GoodIn wsX5_due (wsV RX5 122 RX5 yX5_areAsked wsX5_areAsked) := goodIn_app (goodIn_of _ (by decide +kernel)) ggX5_due_X5_areAsked
theorem dX5_due_0 : decode cX5_due 0 = .ok (.aload_n 0, 1) := by decide +kernel
theorem dX5_due_1 : decode cX5_due 1 = .ok (.iload_n 1, 1) := by decide +kernel
theorem dX5_due_2 : decode cX5_due 2 = .ok (.iload_n 2, 1) := by decide +kernel
theorem dX5_due_3 : decode cX5_due 3 = .ok (.invokevirtual 122, 3) := by decide +kernel
theorem dX5_due_6 : decode cX5_due 6 = .ok (.ifCond .eq 17, 3) := by decide +kernel
theorem dX5_due_9 : decode cX5_due 9 = .ok (.aload_n 0, 1) := by decide +kernel
theorem dX5_due_10 : decode cX5_due 10 = .ok (.getfield 43, 3) := by decide +kernel
theorem dX5_due_13 : decode cX5_due 13 = .ok (.bipush 20, 2) := by decide +kernel
theorem dX5_due_15 : decode cX5_due 15 = .ok (.iload_n 1, 1) := by decide +kernel
theorem dX5_due_16 : decode cX5_due 16 = .ok (.imul, 1) := by decide +kernel
theorem dX5_due_17 : decode cX5_due 17 = .ok (.iload_n 2, 1) := by decide +kernel
theorem dX5_due_18 : decode cX5_due 18 = .ok (.iadd, 1) := by decide +kernel
theorem dX5_due_19 : decode cX5_due 19 = .ok (.iaload, 1) := by decide +kernel
theorem dX5_due_20 : decode cX5_due 20 = .ok (.goto 4, 3) := by decide +kernel
theorem dX5_due_23 : decode cX5_due 23 = .ok (.iconst 0, 1) := by decide +kernel
theorem dX5_due_24 : decode cX5_due 24 = .ok (.ireturn, 1) := by decide +kernel
theorem dX5_heldInAll_0 : decode cX5_heldInAll 0 = .ok (.aload_n 0, 1) := by decide +kernel
theorem dX5_heldInAll_1 : decode cX5_heldInAll 1 = .ok (.iconst 0, 1) := by decide +kernel
theorem dX5_heldInAll_2 : decode cX5_heldInAll 2 = .ok (.putfield 59, 3) := by decide +kernel
theorem dX5_heldInAll_5 : decode cX5_heldInAll 5 = .ok (.lconst 0, 1) := by decide +kernel
theorem dX5_heldInAll_6 : decode cX5_heldInAll 6 = .ok (.lstore_n 1, 1) := by decide +kernel
theorem dX5_heldInAll_7 : decode cX5_heldInAll 7 = .ok (.iconst 0, 1) := by decide +kernel
theorem dX5_heldInAll_8 : decode cX5_heldInAll 8 = .ok (.istore_n 3, 1) := by decide +kernel
theorem dX5_heldInAll_9 : decode cX5_heldInAll 9 = .ok (.iload_n 3, 1) := by decide +kernel
theorem dX5_heldInAll_10 : decode cX5_heldInAll 10 = .ok (.sipush 800, 3) := by decide +kernel
theorem dX5_heldInAll_13 : decode cX5_heldInAll 13 = .ok (.if_icmp .ge 19, 3) := by decide +kernel
theorem dX5_heldInAll_16 : decode cX5_heldInAll 16 = .ok (.lload_n 1, 1) := by decide +kernel
theorem dX5_heldInAll_17 : decode cX5_heldInAll 17 = .ok (.aload_n 0, 1) := by decide +kernel
theorem dX5_heldInAll_18 : decode cX5_heldInAll 18 = .ok (.getfield 40, 3) := by decide +kernel
theorem dX5_heldInAll_21 : decode cX5_heldInAll 21 = .ok (.iload_n 3, 1) := by decide +kernel
theorem dX5_heldInAll_22 : decode cX5_heldInAll 22 = .ok (.iaload, 1) := by decide +kernel
theorem dX5_heldInAll_23 : decode cX5_heldInAll 23 = .ok (.i2l, 1) := by decide +kernel
theorem dX5_heldInAll_24 : decode cX5_heldInAll 24 = .ok (.ladd, 1) := by decide +kernel
theorem dX5_heldInAll_25 : decode cX5_heldInAll 25 = .ok (.lstore_n 1, 1) := by decide +kernel
theorem dX5_heldInAll_26 : decode cX5_heldInAll 26 = .ok (.iinc 3 1, 3) := by decide +kernel
theorem dX5_heldInAll_29 : decode cX5_heldInAll 29 = .ok (.goto (-20), 3) := by decide +kernel
theorem dX5_heldInAll_32 : decode cX5_heldInAll 32 = .ok (.lload_n 1, 1) := by decide +kernel
theorem dX5_heldInAll_33 : decode cX5_heldInAll 33 = .ok (.lreturn, 1) := by decide +kernel
theorem dX5_refunded_0 : decode cX5_refunded 0 = .ok (.aload_n 0, 1) := by decide +kernel
theorem dX5_refunded_1 : decode cX5_refunded 1 = .ok (.iconst 0, 1) := by decide +kernel
theorem dX5_refunded_2 : decode cX5_refunded 2 = .ok (.putfield 59, 3) := by decide +kernel
theorem dX5_refunded_5 : decode cX5_refunded 5 = .ok (.aload_n 0, 1) := by decide +kernel
theorem dX5_refunded_6 : decode cX5_refunded 6 = .ok (.getfield 126, 3) := by decide +kernel
theorem dX5_refunded_9 : decode cX5_refunded 9 = .ok (.lreturn, 1) := by decide +kernel
theorem dX5_isOver_0 : decode cX5_isOver 0 = .ok (.aload_n 0, 1) := by decide +kernel
theorem dX5_isOver_1 : decode cX5_isOver 1 = .ok (.getfield 37, 3) := by decide +kernel
theorem dX5_isOver_4 : decode cX5_isOver 4 = .ok (.bipush 20, 2) := by decide +kernel
theorem dX5_isOver_6 : decode cX5_isOver 6 = .ok (.iload_n 1, 1) := by decide +kernel
theorem dX5_isOver_7 : decode cX5_isOver 7 = .ok (.imul, 1) := by decide +kernel
theorem dX5_isOver_8 : decode cX5_isOver 8 = .ok (.iload_n 2, 1) := by decide +kernel
theorem dX5_isOver_9 : decode cX5_isOver 9 = .ok (.iadd, 1) := by decide +kernel
theorem dX5_isOver_10 : decode cX5_isOver 10 = .ok (.iaload, 1) := by decide +kernel
theorem dX5_isOver_11 : decode cX5_isOver 11 = .ok (.ifCond .eq 18, 3) := by decide +kernel
theorem dX5_isOver_14 : decode cX5_isOver 14 = .ok (.aload_n 0, 1) := by decide +kernel
theorem dX5_isOver_15 : decode cX5_isOver 15 = .ok (.getfield 85, 3) := by decide +kernel
theorem dX5_isOver_18 : decode cX5_isOver 18 = .ok (.aload_n 0, 1) := by decide +kernel
theorem dX5_isOver_19 : decode cX5_isOver 19 = .ok (.getfield 34, 3) := by decide +kernel
theorem dX5_isOver_22 : decode cX5_isOver 22 = .ok (.iload_n 1, 1) := by decide +kernel
theorem dX5_isOver_23 : decode cX5_isOver 23 = .ok (.iaload, 1) := by decide +kernel
theorem dX5_isOver_24 : decode cX5_isOver 24 = .ok (.isub, 1) := by decide +kernel
theorem dX5_isOver_25 : decode cX5_isOver 25 = .ok (.iload_n 3, 1) := by decide +kernel
theorem dX5_isOver_26 : decode cX5_isOver 26 = .ok (.if_icmp .le 7, 3) := by decide +kernel
theorem dX5_isOver_29 : decode cX5_isOver 29 = .ok (.iconst 1, 1) := by decide +kernel
theorem dX5_isOver_30 : decode cX5_isOver 30 = .ok (.goto 4, 3) := by decide +kernel
theorem dX5_isOver_33 : decode cX5_isOver 33 = .ok (.iconst 0, 1) := by decide +kernel
theorem dX5_isOver_34 : decode cX5_isOver 34 = .ok (.ireturn, 1) := by decide +kernel
theorem dX5_gives_0 : decode cX5_gives 0 = .ok (.bipush 20, 2) := by decide +kernel
theorem dX5_gives_2 : decode cX5_gives 2 = .ok (.iload_n 1, 1) := by decide +kernel
theorem dX5_gives_3 : decode cX5_gives 3 = .ok (.imul, 1) := by decide +kernel
theorem dX5_gives_4 : decode cX5_gives 4 = .ok (.iload_n 2, 1) := by decide +kernel
theorem dX5_gives_5 : decode cX5_gives 5 = .ok (.iadd, 1) := by decide +kernel
theorem dX5_gives_6 : decode cX5_gives 6 = .ok (.istore 4, 2) := by decide +kernel
theorem dX5_gives_8 : decode cX5_gives 8 = .ok (.aload_n 0, 1) := by decide +kernel
theorem dX5_gives_9 : decode cX5_gives 9 = .ok (.getfield 40, 3) := by decide +kernel
theorem dX5_gives_12 : decode cX5_gives 12 = .ok (.iload 4, 2) := by decide +kernel
theorem dX5_gives_14 : decode cX5_gives 14 = .ok (.iaload, 1) := by decide +kernel
theorem dX5_gives_15 : decode cX5_gives 15 = .ok (.iload_n 3, 1) := by decide +kernel
theorem dX5_gives_16 : decode cX5_gives 16 = .ok (.if_icmp .le 15, 3) := by decide +kernel
theorem dX5_gives_19 : decode cX5_gives 19 = .ok (.aload_n 0, 1) := by decide +kernel
theorem dX5_gives_20 : decode cX5_gives 20 = .ok (.getfield 40, 3) := by decide +kernel
theorem dX5_gives_23 : decode cX5_gives 23 = .ok (.iload 4, 2) := by decide +kernel
theorem dX5_gives_25 : decode cX5_gives 25 = .ok (.iaload, 1) := by decide +kernel
theorem dX5_gives_26 : decode cX5_gives 26 = .ok (.iload_n 3, 1) := by decide +kernel
theorem dX5_gives_27 : decode cX5_gives 27 = .ok (.isub, 1) := by decide +kernel
theorem dX5_gives_28 : decode cX5_gives 28 = .ok (.goto 4, 3) := by decide +kernel
theorem dX5_gives_31 : decode cX5_gives 31 = .ok (.iconst 0, 1) := by decide +kernel
theorem dX5_gives_32 : decode cX5_gives 32 = .ok (.istore 5, 2) := by decide +kernel
theorem dX5_gives_34 : decode cX5_gives 34 = .ok (.aload_n 0, 1) := by decide +kernel
theorem dX5_gives_35 : decode cX5_gives 35 = .ok (.getfield 40, 3) := by decide +kernel
theorem dX5_gives_38 : decode cX5_gives 38 = .ok (.iload 4, 2) := by decide +kernel
theorem dX5_gives_40 : decode cX5_gives 40 = .ok (.dup2, 1) := by decide +kernel
theorem dX5_gives_41 : decode cX5_gives 41 = .ok (.iaload, 1) := by decide +kernel
theorem dX5_gives_42 : decode cX5_gives 42 = .ok (.iload 5, 2) := by decide +kernel
theorem dX5_gives_44 : decode cX5_gives 44 = .ok (.isub, 1) := by decide +kernel
theorem dX5_gives_45 : decode cX5_gives 45 = .ok (.iastore, 1) := by decide +kernel
theorem dX5_gives_46 : decode cX5_gives 46 = .ok (.aload_n 0, 1) := by decide +kernel
theorem dX5_gives_47 : decode cX5_gives 47 = .ok (.dup, 1) := by decide +kernel
theorem dX5_gives_48 : decode cX5_gives 48 = .ok (.getfield 126, 3) := by decide +kernel
theorem dX5_gives_51 : decode cX5_gives 51 = .ok (.iload 5, 2) := by decide +kernel
theorem dX5_gives_53 : decode cX5_gives 53 = .ok (.i2l, 1) := by decide +kernel
theorem dX5_gives_54 : decode cX5_gives 54 = .ok (.ladd, 1) := by decide +kernel
theorem dX5_gives_55 : decode cX5_gives 55 = .ok (.putfield 126, 3) := by decide +kernel
theorem dX5_gives_58 : decode cX5_gives 58 = .ok (.iload 5, 2) := by decide +kernel
theorem dX5_gives_60 : decode cX5_gives 60 = .ok (.ireturn, 1) := by decide +kernel
set_option maxRecDepth 20000 in
theorem ggX5_refund_X5_isDividend : GoodIn wsX5_refund wsX5_isDividend := goodIn_r _ [5, 6, 7, 8, 4, 9, 59, 60, 61, 62, 63, 64, 65, 66, 67, 68, 69, 70, 71, 72, 73, 74, 75, 76, 77, 78, 79] (by decide +kernel) (by decide +kernel)
set_option maxRecDepth 20000 in
theorem gX5_refund_X5_isDividend : GoodIn wsX5_refund (wsV RX5 119 RX5 yX5_isDividend wsX5_isDividend) := goodIn_app (goodIn_of _ (by decide +kernel)) ggX5_refund_X5_isDividend
set_option maxRecDepth 20000 in
theorem ggX5_refund_X5_isHolder : GoodIn wsX5_refund wsX5_isHolder := goodIn_r _ [13, 14, 7, 8, 4, 9, 59, 60, 61, 62, 63, 64, 65, 66, 67, 68, 69, 70, 71, 72, 73, 74, 75, 76, 77, 78, 79] (by decide +kernel) (by decide +kernel)
set_option maxRecDepth 20000 in
theorem gX5_refund_X5_isHolder : GoodIn wsX5_refund (wsV RX5 77 RX5 yX5_isHolder wsX5_isHolder) := goodIn_app (goodIn_of _ (by decide +kernel)) ggX5_refund_X5_isHolder
set_option maxRecDepth 20000 in
theorem ggX5_refund_X5_isOver : GoodIn wsX5_refund wsX5_isOver := goodIn_r _ [18, 19, 20, 21, 59, 60, 61, 62, 63, 64, 65, 66, 67, 68, 69, 70, 71, 72, 73, 74, 75, 76, 77, 78, 79] (by decide +kernel) (by decide +kernel)
set_option maxRecDepth 20000 in
theorem gX5_refund_X5_isOver : GoodIn wsX5_refund (wsV RX5 130 RX5 yX5_isOver wsX5_isOver) := goodIn_app (goodIn_of _ (by decide +kernel)) ggX5_refund_X5_isOver
set_option maxRecDepth 20000 in
theorem ggX5_refund_X5_can : GoodIn wsX5_refund wsX5_can := goodIn_r _ [25, 26, 59, 60, 61, 62, 63, 64, 65, 66, 67, 68, 69, 70, 71, 72, 73, 74, 75, 76, 77, 78, 79] (by decide +kernel) (by decide +kernel)
set_option maxRecDepth 20000 in
theorem gX5_refund_X5_can : GoodIn wsX5_refund (wsV RX5 73 RX5 yX5_can wsX5_can) := goodIn_app (goodIn_of _ (by decide +kernel)) ggX5_refund_X5_can
set_option maxRecDepth 20000 in
theorem ggX5_refund_X5_tax : GoodIn wsX5_refund wsX5_tax := goodIn_r _ [30, 31, 19, 32, 33, 34, 35, 4, 36, 37, 14, 38, 39, 40, 41, 42, 43, 44, 45, 46, 47, 48, 49, 50, 51, 52, 20, 59, 60, 61, 62, 63, 64, 65, 66, 67, 68, 69, 70, 71, 72, 73, 74, 75, 76, 77, 78, 79] (by decide +kernel) (by decide +kernel)
set_option maxRecDepth 20000 in
theorem gX5_refund_X5_tax : GoodIn wsX5_refund (wsV RX5 116 RX5 yX5_tax wsX5_tax) := goodIn_app (goodIn_of _ (by decide +kernel)) ggX5_refund_X5_tax
set_option maxRecDepth 20000 in
theorem ggX5_refund_X5_gives : GoodIn wsX5_refund wsX5_gives := goodIn_r _ [56, 57, 58, 59, 60, 61, 62, 63, 64, 65, 66, 67, 68, 69, 70, 71, 72, 73, 74, 75, 76, 77, 78, 79] (by decide +kernel) (by decide +kernel)
set_option maxRecDepth 20000 in
theorem gX5_refund_X5_gives : GoodIn wsX5_refund (wsV RX5 133 RX5 yX5_gives wsX5_gives) := goodIn_app (goodIn_of _ (by decide +kernel)) ggX5_refund_X5_gives
theorem dX5_refund_0 : decode cX5_refund 0 = .ok (.aload_n 0, 1) := by decide +kernel
theorem dX5_refund_1 : decode cX5_refund 1 = .ok (.aload_n 0, 1) := by decide +kernel
theorem dX5_refund_2 : decode cX5_refund 2 = .ok (.iload_n 1, 1) := by decide +kernel
theorem dX5_refund_3 : decode cX5_refund 3 = .ok (.invokevirtual 119, 3) := by decide +kernel
theorem dX5_refund_6 : decode cX5_refund 6 = .ok (.ifCond .eq 11, 3) := by decide +kernel
theorem dX5_refund_9 : decode cX5_refund 9 = .ok (.aload_n 0, 1) := by decide +kernel
theorem dX5_refund_10 : decode cX5_refund 10 = .ok (.iload_n 2, 1) := by decide +kernel
theorem dX5_refund_11 : decode cX5_refund 11 = .ok (.invokevirtual 77, 3) := by decide +kernel
theorem dX5_refund_14 : decode cX5_refund 14 = .ok (.ifCond .ne 7, 3) := by decide +kernel
theorem dX5_refund_17 : decode cX5_refund 17 = .ok (.iconst 1, 1) := by decide +kernel
theorem dX5_refund_18 : decode cX5_refund 18 = .ok (.goto 19, 3) := by decide +kernel
theorem dX5_refund_21 : decode cX5_refund 21 = .ok (.aload_n 0, 1) := by decide +kernel
theorem dX5_refund_22 : decode cX5_refund 22 = .ok (.iload_n 1, 1) := by decide +kernel
theorem dX5_refund_23 : decode cX5_refund 23 = .ok (.iload_n 2, 1) := by decide +kernel
theorem dX5_refund_24 : decode cX5_refund 24 = .ok (.bipush 60, 2) := by decide +kernel
theorem dX5_refund_26 : decode cX5_refund 26 = .ok (.invokevirtual 130, 3) := by decide +kernel
theorem dX5_refund_29 : decode cX5_refund 29 = .ok (.ifCond .eq 7, 3) := by decide +kernel
theorem dX5_refund_32 : decode cX5_refund 32 = .ok (.iconst 2, 1) := by decide +kernel
theorem dX5_refund_33 : decode cX5_refund 33 = .ok (.goto 4, 3) := by decide +kernel
theorem dX5_refund_36 : decode cX5_refund 36 = .ok (.iconst 0, 1) := by decide +kernel
theorem dX5_refund_37 : decode cX5_refund 37 = .ok (.invokevirtual 73, 3) := by decide +kernel
theorem dX5_refund_40 : decode cX5_refund 40 = .ok (.ifCond .ne 5, 3) := by decide +kernel
theorem dX5_refund_43 : decode cX5_refund 43 = .ok (.iconst 0, 1) := by decide +kernel
theorem dX5_refund_44 : decode cX5_refund 44 = .ok (.ireturn, 1) := by decide +kernel
theorem dX5_refund_45 : decode cX5_refund 45 = .ok (.aload_n 0, 1) := by decide +kernel
theorem dX5_refund_46 : decode cX5_refund 46 = .ok (.iload_n 1, 1) := by decide +kernel
theorem dX5_refund_47 : decode cX5_refund 47 = .ok (.iload_n 2, 1) := by decide +kernel
theorem dX5_refund_48 : decode cX5_refund 48 = .ok (.aload_n 0, 1) := by decide +kernel
theorem dX5_refund_49 : decode cX5_refund 49 = .ok (.iload_n 1, 1) := by decide +kernel
theorem dX5_refund_50 : decode cX5_refund 50 = .ok (.iload_n 2, 1) := by decide +kernel
theorem dX5_refund_51 : decode cX5_refund 51 = .ok (.iconst 1, 1) := by decide +kernel
theorem dX5_refund_52 : decode cX5_refund 52 = .ok (.iconst 0, 1) := by decide +kernel
theorem dX5_refund_53 : decode cX5_refund 53 = .ok (.invokevirtual 116, 3) := by decide +kernel
theorem dX5_refund_56 : decode cX5_refund 56 = .ok (.invokevirtual 133, 3) := by decide +kernel
theorem dX5_refund_59 : decode cX5_refund 59 = .ok (.ireturn, 1) := by decide +kernel
set_option maxRecDepth 20000 in
theorem ggX5_claim_X5_isDividend : GoodIn wsX5_claim wsX5_isDividend := goodIn_r _ [6, 7, 8, 9, 5, 10, 39, 40, 41, 42, 43, 44, 45, 46, 47, 48, 49, 50, 51, 52, 53, 54, 55, 56, 57, 58, 59] (by decide +kernel) (by decide +kernel)
set_option maxRecDepth 20000 in
theorem gX5_claim_X5_isDividend : GoodIn wsX5_claim (wsV RX5 119 RX5 yX5_isDividend wsX5_isDividend) := goodIn_app (goodIn_of _ (by decide +kernel)) ggX5_claim_X5_isDividend
set_option maxRecDepth 20000 in
theorem ggX5_claim_X5_isHolder : GoodIn wsX5_claim wsX5_isHolder := goodIn_r _ [14, 15, 8, 9, 5, 10, 39, 40, 41, 42, 43, 44, 45, 46, 47, 48, 49, 50, 51, 52, 53, 54, 55, 56, 57, 58, 59] (by decide +kernel) (by decide +kernel)
set_option maxRecDepth 20000 in
theorem gX5_claim_X5_isHolder : GoodIn wsX5_claim (wsV RX5 77 RX5 yX5_isHolder wsX5_isHolder) := goodIn_app (goodIn_of _ (by decide +kernel)) ggX5_claim_X5_isHolder
set_option maxRecDepth 20000 in
theorem ggX5_claim_X5_isOver : GoodIn wsX5_claim wsX5_isOver := goodIn_r _ [19, 20, 21, 22, 39, 40, 41, 42, 43, 44, 45, 46, 47, 48, 49, 50, 51, 52, 53, 54, 55, 56, 57, 58, 59] (by decide +kernel) (by decide +kernel)
set_option maxRecDepth 20000 in
theorem gX5_claim_X5_isOver : GoodIn wsX5_claim (wsV RX5 130 RX5 yX5_isOver wsX5_isOver) := goodIn_app (goodIn_of _ (by decide +kernel)) ggX5_claim_X5_isOver
set_option maxRecDepth 20000 in
theorem ggX5_claim_X5_hasForm : GoodIn wsX5_claim wsX5_hasForm := goodIn_r _ [26, 27, 21, 39, 40, 41, 42, 43, 44, 45, 46, 47, 48, 49, 50, 51, 52, 53, 54, 55, 56, 57, 58, 59] (by decide +kernel) (by decide +kernel)
set_option maxRecDepth 20000 in
theorem gX5_claim_X5_hasForm : GoodIn wsX5_claim (wsV RX5 92 RX5 yX5_hasForm wsX5_hasForm) := goodIn_app (goodIn_of _ (by decide +kernel)) ggX5_claim_X5_hasForm
set_option maxRecDepth 20000 in
theorem ggX5_claim_X5_can : GoodIn wsX5_claim wsX5_can := goodIn_r _ [31, 32, 39, 40, 41, 42, 43, 44, 45, 46, 47, 48, 49, 50, 51, 52, 53, 54, 55, 56, 57, 58, 59] (by decide +kernel) (by decide +kernel)
set_option maxRecDepth 20000 in
theorem gX5_claim_X5_can : GoodIn wsX5_claim (wsV RX5 73 RX5 yX5_can wsX5_can) := goodIn_app (goodIn_of _ (by decide +kernel)) ggX5_claim_X5_can
set_option maxRecDepth 20000 in
theorem ggX5_claim_X5_gives : GoodIn wsX5_claim wsX5_gives := goodIn_r _ [36, 37, 38, 39, 40, 41, 42, 43, 44, 45, 46, 47, 48, 49, 50, 51, 52, 53, 54, 55, 56, 57, 58, 59] (by decide +kernel) (by decide +kernel)
set_option maxRecDepth 20000 in
theorem gX5_claim_X5_gives : GoodIn wsX5_claim (wsV RX5 133 RX5 yX5_gives wsX5_gives) := goodIn_app (goodIn_of _ (by decide +kernel)) ggX5_claim_X5_gives
theorem dX5_claim_0 : decode cX5_claim 0 = .ok (.aload_n 0, 1) := by decide +kernel
theorem dX5_claim_1 : decode cX5_claim 1 = .ok (.aload_n 0, 1) := by decide +kernel
theorem dX5_claim_2 : decode cX5_claim 2 = .ok (.iload_n 1, 1) := by decide +kernel
theorem dX5_claim_3 : decode cX5_claim 3 = .ok (.invokevirtual 119, 3) := by decide +kernel
theorem dX5_claim_6 : decode cX5_claim 6 = .ok (.ifCond .eq 11, 3) := by decide +kernel
theorem dX5_claim_9 : decode cX5_claim 9 = .ok (.aload_n 0, 1) := by decide +kernel
theorem dX5_claim_10 : decode cX5_claim 10 = .ok (.iload_n 2, 1) := by decide +kernel
theorem dX5_claim_11 : decode cX5_claim 11 = .ok (.invokevirtual 77, 3) := by decide +kernel
theorem dX5_claim_14 : decode cX5_claim 14 = .ok (.ifCond .ne 7, 3) := by decide +kernel
theorem dX5_claim_17 : decode cX5_claim 17 = .ok (.iconst 1, 1) := by decide +kernel
theorem dX5_claim_18 : decode cX5_claim 18 = .ok (.goto 28, 3) := by decide +kernel
theorem dX5_claim_21 : decode cX5_claim 21 = .ok (.aload_n 0, 1) := by decide +kernel
theorem dX5_claim_22 : decode cX5_claim 22 = .ok (.iload_n 1, 1) := by decide +kernel
theorem dX5_claim_23 : decode cX5_claim 23 = .ok (.iload_n 2, 1) := by decide +kernel
theorem dX5_claim_24 : decode cX5_claim 24 = .ok (.sipush 1080, 3) := by decide +kernel
theorem dX5_claim_27 : decode cX5_claim 27 = .ok (.invokevirtual 130, 3) := by decide +kernel
theorem dX5_claim_30 : decode cX5_claim 30 = .ok (.ifCond .ne 11, 3) := by decide +kernel
theorem dX5_claim_33 : decode cX5_claim 33 = .ok (.aload_n 0, 1) := by decide +kernel
theorem dX5_claim_34 : decode cX5_claim 34 = .ok (.iload_n 2, 1) := by decide +kernel
theorem dX5_claim_35 : decode cX5_claim 35 = .ok (.invokevirtual 92, 3) := by decide +kernel
theorem dX5_claim_38 : decode cX5_claim 38 = .ok (.ifCond .ne 7, 3) := by decide +kernel
theorem dX5_claim_41 : decode cX5_claim 41 = .ok (.iconst 2, 1) := by decide +kernel
theorem dX5_claim_42 : decode cX5_claim 42 = .ok (.goto 4, 3) := by decide +kernel
theorem dX5_claim_45 : decode cX5_claim 45 = .ok (.iconst 0, 1) := by decide +kernel
theorem dX5_claim_46 : decode cX5_claim 46 = .ok (.invokevirtual 73, 3) := by decide +kernel
theorem dX5_claim_49 : decode cX5_claim 49 = .ok (.ifCond .ne 5, 3) := by decide +kernel
theorem dX5_claim_52 : decode cX5_claim 52 = .ok (.iconst 0, 1) := by decide +kernel
theorem dX5_claim_53 : decode cX5_claim 53 = .ok (.ireturn, 1) := by decide +kernel
theorem dX5_claim_54 : decode cX5_claim 54 = .ok (.aload_n 0, 1) := by decide +kernel
theorem dX5_claim_55 : decode cX5_claim 55 = .ok (.iload_n 1, 1) := by decide +kernel
theorem dX5_claim_56 : decode cX5_claim 56 = .ok (.iload_n 2, 1) := by decide +kernel
theorem dX5_claim_57 : decode cX5_claim 57 = .ok (.aload_n 0, 1) := by decide +kernel
theorem dX5_claim_58 : decode cX5_claim 58 = .ok (.getfield 43, 3) := by decide +kernel
theorem dX5_claim_61 : decode cX5_claim 61 = .ok (.bipush 20, 2) := by decide +kernel
theorem dX5_claim_63 : decode cX5_claim 63 = .ok (.iload_n 1, 1) := by decide +kernel
theorem dX5_claim_64 : decode cX5_claim 64 = .ok (.imul, 1) := by decide +kernel
theorem dX5_claim_65 : decode cX5_claim 65 = .ok (.iload_n 2, 1) := by decide +kernel
theorem dX5_claim_66 : decode cX5_claim 66 = .ok (.iadd, 1) := by decide +kernel
theorem dX5_claim_67 : decode cX5_claim 67 = .ok (.iaload, 1) := by decide +kernel
theorem dX5_claim_68 : decode cX5_claim 68 = .ok (.invokevirtual 133, 3) := by decide +kernel
theorem dX5_claim_71 : decode cX5_claim 71 = .ok (.ireturn, 1) := by decide +kernel
theorem dJ9_max_7cf53_0 : decode cJ9_max_7cf53 0 = .ok (.iload_n 0, 1) := by decide +kernel
theorem dJ9_max_7cf53_1 : decode cJ9_max_7cf53 1 = .ok (.iload_n 1, 1) := by decide +kernel
theorem dJ9_max_7cf53_2 : decode cJ9_max_7cf53 2 = .ok (.if_icmp .lt 7, 3) := by decide +kernel
theorem dJ9_max_7cf53_5 : decode cJ9_max_7cf53 5 = .ok (.iload_n 0, 1) := by decide +kernel
theorem dJ9_max_7cf53_6 : decode cJ9_max_7cf53 6 = .ok (.goto 4, 3) := by decide +kernel
theorem dJ9_max_7cf53_9 : decode cJ9_max_7cf53 9 = .ok (.iload_n 1, 1) := by decide +kernel
theorem dJ9_max_7cf53_10 : decode cJ9_max_7cf53 10 = .ok (.ireturn, 1) := by decide +kernel
theorem dJ9_min_7cf53_0 : decode cJ9_min_7cf53 0 = .ok (.iload_n 0, 1) := by decide +kernel
theorem dJ9_min_7cf53_1 : decode cJ9_min_7cf53 1 = .ok (.iload_n 1, 1) := by decide +kernel
theorem dJ9_min_7cf53_2 : decode cJ9_min_7cf53 2 = .ok (.if_icmp .gt 7, 3) := by decide +kernel
theorem dJ9_min_7cf53_5 : decode cJ9_min_7cf53 5 = .ok (.iload_n 0, 1) := by decide +kernel
theorem dJ9_min_7cf53_6 : decode cJ9_min_7cf53 6 = .ok (.goto 4, 3) := by decide +kernel
theorem dJ9_min_7cf53_9 : decode cJ9_min_7cf53 9 = .ok (.iload_n 1, 1) := by decide +kernel
theorem dJ9_min_7cf53_10 : decode cJ9_min_7cf53 10 = .ok (.ireturn, 1) := by decide +kernel
theorem dJxa1e45_init_da8c8_0 : decode cJxa1e45_init_da8c8 0 = .ok (.aload_n 0, 1) := by decide +kernel
theorem dJxa1e45_init_da8c8_1 : decode cJxa1e45_init_da8c8 1 = .ok (.invokespecial 1, 3) := by decide +kernel
theorem dJxa1e45_init_da8c8_4 : decode cJxa1e45_init_da8c8 4 = .ok (.return_, 1) := by decide +kernel
set_option maxRecDepth 20000 in
theorem ggJxc12de_init_da8c8_Jxa1e45_init_da8c8 : GoodIn wsJxc12de_init_da8c8 wsJxa1e45_init_da8c8 := goodIn_r _ [5, 6, 7, 8] (by decide +kernel) (by decide +kernel)
set_option maxRecDepth 20000 in
theorem gJxc12de_init_da8c8_Jxa1e45_init_da8c8 : GoodIn wsJxc12de_init_da8c8 (wsJxa1e45_init_da8c8) := ggJxc12de_init_da8c8_Jxa1e45_init_da8c8
theorem dJxc12de_init_da8c8_0 : decode cJxc12de_init_da8c8 0 = .ok (.aload_n 0, 1) := by decide +kernel
theorem dJxc12de_init_da8c8_1 : decode cJxc12de_init_da8c8 1 = .ok (.invokespecial 1, 3) := by decide +kernel
theorem dJxc12de_init_da8c8_4 : decode cJxc12de_init_da8c8 4 = .ok (.aload_n 0, 1) := by decide +kernel
theorem dJxc12de_init_da8c8_5 : decode cJxc12de_init_da8c8 5 = .ok (.iconst 0, 1) := by decide +kernel
theorem dJxc12de_init_da8c8_6 : decode cJxc12de_init_da8c8 6 = .ok (.putfield 7, 3) := by decide +kernel
theorem dJxc12de_init_da8c8_9 : decode cJxc12de_init_da8c8 9 = .ok (.return_, 1) := by decide +kernel
set_option maxRecDepth 20000 in
theorem ggJx4a65c_init_da8c8_Jxc12de_init_da8c8 : GoodIn wsJx4a65c_init_da8c8 wsJxc12de_init_da8c8 := goodIn_r _ [6, 7, 8, 9, 10, 11, 12, 13, 14, 15, 16, 17] (by decide +kernel) (by decide +kernel)
set_option maxRecDepth 20000 in
theorem gJx4a65c_init_da8c8_Jxc12de_init_da8c8 : GoodIn wsJx4a65c_init_da8c8 (wsJxc12de_init_da8c8) := ggJx4a65c_init_da8c8_Jxc12de_init_da8c8
theorem dJx4a65c_init_da8c8_0 : decode cJx4a65c_init_da8c8 0 = .ok (.aload_n 0, 1) := by decide +kernel
theorem dJx4a65c_init_da8c8_1 : decode cJx4a65c_init_da8c8 1 = .ok (.invokespecial 1, 3) := by decide +kernel
theorem dJx4a65c_init_da8c8_4 : decode cJx4a65c_init_da8c8 4 = .ok (.aload_n 0, 1) := by decide +kernel
theorem dJx4a65c_init_da8c8_5 : decode cJx4a65c_init_da8c8 5 = .ok (.getstatic 39, 3) := by decide +kernel
theorem dJx4a65c_init_da8c8_8 : decode cJx4a65c_init_da8c8 8 = .ok (.putfield 9, 3) := by decide +kernel
theorem dJx4a65c_init_da8c8_11 : decode cJx4a65c_init_da8c8 11 = .ok (.return_, 1) := by decide +kernel
set_option maxRecDepth 20000 in
theorem ggJx4a65c_grow_92f84_J8_newLength_cabcc : GoodIn wsJx4a65c_grow_92f84 wsJ8_newLength_cabcc := goodIn_r _ [11, 12, 4, 5, 6, 13, 14, 15, 10, 16] (by decide +kernel) (by decide +kernel)
set_option maxRecDepth 20000 in
theorem gJx4a65c_grow_92f84_J8_newLength_cabcc : GoodIn wsJx4a65c_grow_92f84 (va_wsS RJx4a65c 73 yJ8_newLength_cabcc wsJ8_newLength_cabcc) := goodIn_app (goodIn_of _ (by decide +kernel)) ggJx4a65c_grow_92f84_J8_newLength_cabcc
set_option maxRecDepth 20000 in
theorem ggJx4a65c_grow_92f84_J7_copyOf_1904c : GoodIn wsJx4a65c_grow_92f84 wsJ7_copyOf_1904c := goodIn_r _ [20, 21, 22, 23, 24, 25, 26, 19, 27, 28, 29, 30, 31, 5, 32, 33, 34, 35, 36] (by decide +kernel) (by decide +kernel)
set_option maxRecDepth 20000 in
theorem gJx4a65c_grow_92f84_J7_copyOf_1904c : GoodIn wsJx4a65c_grow_92f84 (va_wsS RJx4a65c 66 yJ7_copyOf_1904c wsJ7_copyOf_1904c) := goodIn_app (goodIn_of _ (by decide +kernel)) ggJx4a65c_grow_92f84_J7_copyOf_1904c
theorem dJx4a65c_grow_92f84_0 : decode cJx4a65c_grow_92f84 0 = .ok (.aload_n 0, 1) := by decide +kernel
theorem dJx4a65c_grow_92f84_1 : decode cJx4a65c_grow_92f84 1 = .ok (.getfield 9, 3) := by decide +kernel
theorem dJx4a65c_grow_92f84_4 : decode cJx4a65c_grow_92f84 4 = .ok (.arraylength, 1) := by decide +kernel
theorem dJx4a65c_grow_92f84_5 : decode cJx4a65c_grow_92f84 5 = .ok (.istore_n 2, 1) := by decide +kernel
theorem dJx4a65c_grow_92f84_6 : decode cJx4a65c_grow_92f84 6 = .ok (.iload_n 2, 1) := by decide +kernel
theorem dJx4a65c_grow_92f84_7 : decode cJx4a65c_grow_92f84 7 = .ok (.ifCond .gt 13, 3) := by decide +kernel
theorem dJx4a65c_grow_92f84_10 : decode cJx4a65c_grow_92f84 10 = .ok (.aload_n 0, 1) := by decide +kernel
theorem dJx4a65c_grow_92f84_11 : decode cJx4a65c_grow_92f84 11 = .ok (.getfield 9, 3) := by decide +kernel
theorem dJx4a65c_grow_92f84_14 : decode cJx4a65c_grow_92f84 14 = .ok (.getstatic 39, 3) := by decide +kernel
theorem dJx4a65c_grow_92f84_17 : decode cJx4a65c_grow_92f84 17 = .ok (.if_acmp .eq 28, 3) := by decide +kernel
theorem dJx4a65c_grow_92f84_20 : decode cJx4a65c_grow_92f84 20 = .ok (.iload_n 2, 1) := by decide +kernel
theorem dJx4a65c_grow_92f84_21 : decode cJx4a65c_grow_92f84 21 = .ok (.iload_n 1, 1) := by decide +kernel
theorem dJx4a65c_grow_92f84_22 : decode cJx4a65c_grow_92f84 22 = .ok (.iload_n 2, 1) := by decide +kernel
theorem dJx4a65c_grow_92f84_23 : decode cJx4a65c_grow_92f84 23 = .ok (.isub, 1) := by decide +kernel
theorem dJx4a65c_grow_92f84_24 : decode cJx4a65c_grow_92f84 24 = .ok (.iload_n 2, 1) := by decide +kernel
theorem dJx4a65c_grow_92f84_25 : decode cJx4a65c_grow_92f84 25 = .ok (.iconst 1, 1) := by decide +kernel
theorem dJx4a65c_grow_92f84_26 : decode cJx4a65c_grow_92f84 26 = .ok (.ishr, 1) := by decide +kernel
theorem dJx4a65c_grow_92f84_27 : decode cJx4a65c_grow_92f84 27 = .ok (.invokestatic 73, 3) := by decide +kernel
theorem dJx4a65c_grow_92f84_30 : decode cJx4a65c_grow_92f84 30 = .ok (.istore_n 3, 1) := by decide +kernel
theorem dJx4a65c_grow_92f84_31 : decode cJx4a65c_grow_92f84 31 = .ok (.aload_n 0, 1) := by decide +kernel
theorem dJx4a65c_grow_92f84_32 : decode cJx4a65c_grow_92f84 32 = .ok (.aload_n 0, 1) := by decide +kernel
theorem dJx4a65c_grow_92f84_33 : decode cJx4a65c_grow_92f84 33 = .ok (.getfield 9, 3) := by decide +kernel
theorem dJx4a65c_grow_92f84_36 : decode cJx4a65c_grow_92f84 36 = .ok (.iload_n 3, 1) := by decide +kernel
theorem dJx4a65c_grow_92f84_37 : decode cJx4a65c_grow_92f84 37 = .ok (.invokestatic 66, 3) := by decide +kernel
theorem dJx4a65c_grow_92f84_40 : decode cJx4a65c_grow_92f84 40 = .ok (.dup_x1, 1) := by decide +kernel
theorem dJx4a65c_grow_92f84_41 : decode cJx4a65c_grow_92f84 41 = .ok (.putfield 9, 3) := by decide +kernel
theorem dJx4a65c_grow_92f84_44 : decode cJx4a65c_grow_92f84 44 = .ok (.areturn, 1) := by decide +kernel
theorem dJx4a65c_grow_92f84_45 : decode cJx4a65c_grow_92f84 45 = .ok (.aload_n 0, 1) := by decide +kernel
theorem dJx4a65c_grow_92f84_46 : decode cJx4a65c_grow_92f84 46 = .ok (.bipush 10, 2) := by decide +kernel
theorem dJx4a65c_grow_92f84_48 : decode cJx4a65c_grow_92f84 48 = .ok (.iload_n 1, 1) := by decide +kernel
theorem dJx4a65c_grow_92f84_49 : decode cJx4a65c_grow_92f84 49 = .ok (.invokestatic 79, 3) := by decide +kernel
theorem dJx4a65c_grow_92f84_52 : decode cJx4a65c_grow_92f84 52 = .ok (.anewarray 7, 3) := by decide +kernel
theorem dJx4a65c_grow_92f84_55 : decode cJx4a65c_grow_92f84 55 = .ok (.dup_x1, 1) := by decide +kernel
theorem dJx4a65c_grow_92f84_56 : decode cJx4a65c_grow_92f84 56 = .ok (.putfield 9, 3) := by decide +kernel
theorem dJx4a65c_grow_92f84_59 : decode cJx4a65c_grow_92f84 59 = .ok (.areturn, 1) := by decide +kernel
set_option maxRecDepth 20000 in
theorem ggJx4a65c_grow_d5877_Jx4a65c_grow_92f84 : GoodIn wsJx4a65c_grow_d5877 wsJx4a65c_grow_92f84 := goodIn_r _ [6, 7, 8, 9, 10, 11, 12, 13, 14, 15, 16, 17, 18, 19, 20, 21, 22, 23, 24, 25, 26, 27, 28, 29, 30, 31, 32, 33, 34, 35, 36, 37, 38, 39, 40, 41, 42, 43, 44, 45] (by decide +kernel) (by decide +kernel)
set_option maxRecDepth 20000 in
theorem gJx4a65c_grow_d5877_Jx4a65c_grow_92f84 : GoodIn wsJx4a65c_grow_d5877 (wsV RJx4a65c 69 RJx4a65c yJx4a65c_grow_92f84 wsJx4a65c_grow_92f84) := goodIn_app (goodIn_of _ (by decide +kernel)) ggJx4a65c_grow_d5877_Jx4a65c_grow_92f84
theorem dJx4a65c_grow_d5877_0 : decode cJx4a65c_grow_d5877 0 = .ok (.aload_n 0, 1) := by decide +kernel
theorem dJx4a65c_grow_d5877_1 : decode cJx4a65c_grow_d5877 1 = .ok (.aload_n 0, 1) := by decide +kernel
theorem dJx4a65c_grow_d5877_2 : decode cJx4a65c_grow_d5877 2 = .ok (.getfield 48, 3) := by decide +kernel
theorem dJx4a65c_grow_d5877_5 : decode cJx4a65c_grow_d5877 5 = .ok (.iconst 1, 1) := by decide +kernel
theorem dJx4a65c_grow_d5877_6 : decode cJx4a65c_grow_d5877 6 = .ok (.iadd, 1) := by decide +kernel
theorem dJx4a65c_grow_d5877_7 : decode cJx4a65c_grow_d5877 7 = .ok (.invokevirtual 69, 3) := by decide +kernel
theorem dJx4a65c_grow_d5877_10 : decode cJx4a65c_grow_d5877 10 = .ok (.areturn, 1) := by decide +kernel
theorem dJx4a65c_size_8abf5_0 : decode cJx4a65c_size_8abf5 0 = .ok (.aload_n 0, 1) := by decide +kernel
theorem dJx4a65c_size_8abf5_1 : decode cJx4a65c_size_8abf5 1 = .ok (.getfield 48, 3) := by decide +kernel
theorem dJx4a65c_size_8abf5_4 : decode cJx4a65c_size_8abf5 4 = .ok (.ireturn, 1) := by decide +kernel
theorem dJx4a65c_elementData_915e3_0 : decode cJx4a65c_elementData_915e3 0 = .ok (.aload_n 0, 1) := by decide +kernel
theorem dJx4a65c_elementData_915e3_1 : decode cJx4a65c_elementData_915e3 1 = .ok (.getfield 9, 3) := by decide +kernel
theorem dJx4a65c_elementData_915e3_4 : decode cJx4a65c_elementData_915e3 4 = .ok (.iload_n 1, 1) := by decide +kernel
theorem dJx4a65c_elementData_915e3_5 : decode cJx4a65c_elementData_915e3 5 = .ok (.aaload, 1) := by decide +kernel
theorem dJx4a65c_elementData_915e3_6 : decode cJx4a65c_elementData_915e3 6 = .ok (.areturn, 1) := by decide +kernel
set_option maxRecDepth 20000 in
theorem ggJx4a65c_get_915e3_J15_checkIndex_7cf53 : GoodIn wsJx4a65c_get_915e3 wsJ15_checkIndex_7cf53 := goodIn_r _ [5, 6, 7, 8, 9] (by decide +kernel) (by decide +kernel)
set_option maxRecDepth 20000 in
theorem gJx4a65c_get_915e3_J15_checkIndex_7cf53 : GoodIn wsJx4a65c_get_915e3 (va_wsS RJx4a65c 118 yJ15_checkIndex_7cf53 wsJ15_checkIndex_7cf53) := goodIn_app (goodIn_of _ (by decide +kernel)) ggJx4a65c_get_915e3_J15_checkIndex_7cf53
set_option maxRecDepth 20000 in
theorem ggJx4a65c_get_915e3_Jx4a65c_elementData_915e3 : GoodIn wsJx4a65c_get_915e3 wsJx4a65c_elementData_915e3 := goodIn_r _ [14, 15, 16, 17, 18] (by decide +kernel) (by decide +kernel)
set_option maxRecDepth 20000 in
theorem gJx4a65c_get_915e3_Jx4a65c_elementData_915e3 : GoodIn wsJx4a65c_get_915e3 (wsV RJx4a65c 123 RJx4a65c yJx4a65c_elementData_915e3 wsJx4a65c_elementData_915e3) := goodIn_app (goodIn_of _ (by decide +kernel)) ggJx4a65c_get_915e3_Jx4a65c_elementData_915e3
theorem dJx4a65c_get_915e3_0 : decode cJx4a65c_get_915e3 0 = .ok (.iload_n 1, 1) := by decide +kernel
theorem dJx4a65c_get_915e3_1 : decode cJx4a65c_get_915e3 1 = .ok (.aload_n 0, 1) := by decide +kernel
theorem dJx4a65c_get_915e3_2 : decode cJx4a65c_get_915e3 2 = .ok (.getfield 48, 3) := by decide +kernel
theorem dJx4a65c_get_915e3_5 : decode cJx4a65c_get_915e3 5 = .ok (.invokestatic 118, 3) := by decide +kernel
theorem dJx4a65c_get_915e3_8 : decode cJx4a65c_get_915e3 8 = .ok (.pop, 1) := by decide +kernel
theorem dJx4a65c_get_915e3_9 : decode cJx4a65c_get_915e3 9 = .ok (.aload_n 0, 1) := by decide +kernel
theorem dJx4a65c_get_915e3_10 : decode cJx4a65c_get_915e3 10 = .ok (.iload_n 1, 1) := by decide +kernel
theorem dJx4a65c_get_915e3_11 : decode cJx4a65c_get_915e3 11 = .ok (.invokevirtual 123, 3) := by decide +kernel
theorem dJx4a65c_get_915e3_14 : decode cJx4a65c_get_915e3 14 = .ok (.areturn, 1) := by decide +kernel
set_option maxRecDepth 20000 in
theorem ggJx4a65c_add_72be8_Jx4a65c_grow_d5877 : GoodIn wsJx4a65c_add_72be8 wsJx4a65c_grow_d5877 := goodIn_r _ [6, 1, 7, 8, 9, 5, 10, 11, 12, 13, 14, 15, 16, 17, 18, 19, 20, 21, 22, 23, 24, 25, 26, 27, 28, 29, 30, 31, 32, 33, 34, 35, 36, 37, 38, 39, 40, 41, 42, 43, 44, 45, 46, 47, 48, 49] (by decide +kernel) (by decide +kernel)
set_option maxRecDepth 20000 in
theorem gJx4a65c_add_72be8_Jx4a65c_grow_d5877 : GoodIn wsJx4a65c_add_72be8 (wsV RJx4a65c 129 RJx4a65c yJx4a65c_grow_d5877 wsJx4a65c_grow_d5877) := goodIn_app (goodIn_of _ (by decide +kernel)) ggJx4a65c_add_72be8_Jx4a65c_grow_d5877
theorem dJx4a65c_add_72be8_0 : decode cJx4a65c_add_72be8 0 = .ok (.iload_n 3, 1) := by decide +kernel
theorem dJx4a65c_add_72be8_1 : decode cJx4a65c_add_72be8 1 = .ok (.aload_n 2, 1) := by decide +kernel
theorem dJx4a65c_add_72be8_2 : decode cJx4a65c_add_72be8 2 = .ok (.arraylength, 1) := by decide +kernel
theorem dJx4a65c_add_72be8_3 : decode cJx4a65c_add_72be8 3 = .ok (.if_icmp .ne 8, 3) := by decide +kernel
theorem dJx4a65c_add_72be8_6 : decode cJx4a65c_add_72be8 6 = .ok (.aload_n 0, 1) := by decide +kernel
theorem dJx4a65c_add_72be8_7 : decode cJx4a65c_add_72be8 7 = .ok (.invokevirtual 129, 3) := by decide +kernel
theorem dJx4a65c_add_72be8_10 : decode cJx4a65c_add_72be8 10 = .ok (.astore_n 2, 1) := by decide +kernel
theorem dJx4a65c_add_72be8_11 : decode cJx4a65c_add_72be8 11 = .ok (.aload_n 2, 1) := by decide +kernel
theorem dJx4a65c_add_72be8_12 : decode cJx4a65c_add_72be8 12 = .ok (.iload_n 3, 1) := by decide +kernel
theorem dJx4a65c_add_72be8_13 : decode cJx4a65c_add_72be8 13 = .ok (.aload_n 1, 1) := by decide +kernel
theorem dJx4a65c_add_72be8_14 : decode cJx4a65c_add_72be8 14 = .ok (.aastore, 1) := by decide +kernel
theorem dJx4a65c_add_72be8_15 : decode cJx4a65c_add_72be8 15 = .ok (.aload_n 0, 1) := by decide +kernel
theorem dJx4a65c_add_72be8_16 : decode cJx4a65c_add_72be8 16 = .ok (.iload_n 3, 1) := by decide +kernel
theorem dJx4a65c_add_72be8_17 : decode cJx4a65c_add_72be8 17 = .ok (.iconst 1, 1) := by decide +kernel
theorem dJx4a65c_add_72be8_18 : decode cJx4a65c_add_72be8 18 = .ok (.iadd, 1) := by decide +kernel
theorem dJx4a65c_add_72be8_19 : decode cJx4a65c_add_72be8 19 = .ok (.putfield 48, 3) := by decide +kernel
theorem dJx4a65c_add_72be8_22 : decode cJx4a65c_add_72be8 22 = .ok (.return_, 1) := by decide +kernel
set_option maxRecDepth 20000 in
theorem ggJx4a65c_add_9ea2d_Jx4a65c_add_72be8 : GoodIn wsJx4a65c_add_9ea2d wsJx4a65c_add_72be8 := goodIn_r _ [9, 4, 10, 11, 12, 8, 13, 14, 15, 16, 17, 3, 18, 19, 20, 21, 22, 23, 24, 25, 26, 27, 28, 29, 30, 31, 32, 33, 34, 35, 36, 37, 38, 39, 40, 41, 42, 43, 44, 45, 46, 47, 48, 49, 50, 51, 52, 53, 54, 55] (by decide +kernel) (by decide +kernel)
set_option maxRecDepth 20000 in
theorem gJx4a65c_add_9ea2d_Jx4a65c_add_72be8 : GoodIn wsJx4a65c_add_9ea2d (wsV RJx4a65c 131 RJx4a65c yJx4a65c_add_72be8 wsJx4a65c_add_72be8) := goodIn_app (goodIn_of _ (by decide +kernel)) ggJx4a65c_add_9ea2d_Jx4a65c_add_72be8
theorem dJx4a65c_add_9ea2d_0 : decode cJx4a65c_add_9ea2d 0 = .ok (.aload_n 0, 1) := by decide +kernel
theorem dJx4a65c_add_9ea2d_1 : decode cJx4a65c_add_9ea2d 1 = .ok (.dup, 1) := by decide +kernel
theorem dJx4a65c_add_9ea2d_2 : decode cJx4a65c_add_9ea2d 2 = .ok (.getfield 63, 3) := by decide +kernel
theorem dJx4a65c_add_9ea2d_5 : decode cJx4a65c_add_9ea2d 5 = .ok (.iconst 1, 1) := by decide +kernel
theorem dJx4a65c_add_9ea2d_6 : decode cJx4a65c_add_9ea2d 6 = .ok (.iadd, 1) := by decide +kernel
theorem dJx4a65c_add_9ea2d_7 : decode cJx4a65c_add_9ea2d 7 = .ok (.putfield 63, 3) := by decide +kernel
theorem dJx4a65c_add_9ea2d_10 : decode cJx4a65c_add_9ea2d 10 = .ok (.aload_n 0, 1) := by decide +kernel
theorem dJx4a65c_add_9ea2d_11 : decode cJx4a65c_add_9ea2d 11 = .ok (.aload_n 1, 1) := by decide +kernel
theorem dJx4a65c_add_9ea2d_12 : decode cJx4a65c_add_9ea2d 12 = .ok (.aload_n 0, 1) := by decide +kernel
theorem dJx4a65c_add_9ea2d_13 : decode cJx4a65c_add_9ea2d 13 = .ok (.getfield 9, 3) := by decide +kernel
theorem dJx4a65c_add_9ea2d_16 : decode cJx4a65c_add_9ea2d 16 = .ok (.aload_n 0, 1) := by decide +kernel
theorem dJx4a65c_add_9ea2d_17 : decode cJx4a65c_add_9ea2d 17 = .ok (.getfield 48, 3) := by decide +kernel
theorem dJx4a65c_add_9ea2d_20 : decode cJx4a65c_add_9ea2d 20 = .ok (.invokevirtual 131, 3) := by decide +kernel
theorem dJx4a65c_add_9ea2d_23 : decode cJx4a65c_add_9ea2d 23 = .ok (.iconst 1, 1) := by decide +kernel
theorem dJx4a65c_add_9ea2d_24 : decode cJx4a65c_add_9ea2d 24 = .ok (.ireturn, 1) := by decide +kernel
set_option maxRecDepth 20000 in
theorem ggJ7_copyOf_1904c_J7_copyOf_6403c : GoodIn wsJ7_copyOf_1904c wsJ7_copyOf_6403c := goodIn_r _ [8, 9, 10, 11, 12, 13, 14, 15, 16, 17, 18] (by decide +kernel) (by decide +kernel)
set_option maxRecDepth 20000 in
theorem gJ7_copyOf_1904c_J7_copyOf_6403c : GoodIn wsJ7_copyOf_1904c (va_wsS RJ7 300 yJ7_copyOf_6403c wsJ7_copyOf_6403c) := goodIn_app (goodIn_of _ (by decide +kernel)) ggJ7_copyOf_1904c_J7_copyOf_6403c
theorem dJ7_copyOf_1904c_0 : decode cJ7_copyOf_1904c 0 = .ok (.aload_n 0, 1) := by decide +kernel
theorem dJ7_copyOf_1904c_1 : decode cJ7_copyOf_1904c 1 = .ok (.iload_n 1, 1) := by decide +kernel
theorem dJ7_copyOf_1904c_2 : decode cJ7_copyOf_1904c 2 = .ok (.aload_n 0, 1) := by decide +kernel
theorem dJ7_copyOf_1904c_3 : decode cJ7_copyOf_1904c 3 = .ok (.invokevirtual 86, 3) := by decide +kernel
theorem dJ7_copyOf_1904c_6 : decode cJ7_copyOf_1904c 6 = .ok (.invokestatic 300, 3) := by decide +kernel
theorem dJ7_copyOf_1904c_9 : decode cJ7_copyOf_1904c 9 = .ok (.areturn, 1) := by decide +kernel
theorem dJ7_copyOf_6403c_0 : decode cJ7_copyOf_6403c 0 = .ok (.aload_n 2, 1) := by decide +kernel
theorem dJ7_copyOf_6403c_1 : decode cJ7_copyOf_6403c 1 = .ok (.ldc 110, 2) := by decide +kernel
theorem dJ7_copyOf_6403c_3 : decode cJ7_copyOf_6403c 3 = .ok (.if_acmp .ne 10, 3) := by decide +kernel
theorem dJ7_copyOf_6403c_6 : decode cJ7_copyOf_6403c 6 = .ok (.iload_n 1, 1) := by decide +kernel
theorem dJ7_copyOf_6403c_7 : decode cJ7_copyOf_6403c 7 = .ok (.anewarray 2, 3) := by decide +kernel
theorem dJ7_copyOf_6403c_10 : decode cJ7_copyOf_6403c 10 = .ok (.goto 14, 3) := by decide +kernel
theorem dJ7_copyOf_6403c_13 : decode cJ7_copyOf_6403c 13 = .ok (.aload_n 2, 1) := by decide +kernel
theorem dJ7_copyOf_6403c_14 : decode cJ7_copyOf_6403c 14 = .ok (.invokevirtual 90, 3) := by decide +kernel
theorem dJ7_copyOf_6403c_17 : decode cJ7_copyOf_6403c 17 = .ok (.iload_n 1, 1) := by decide +kernel
theorem dJ7_copyOf_6403c_18 : decode cJ7_copyOf_6403c 18 = .ok (.invokestatic 95, 3) := by decide +kernel
theorem dJ7_copyOf_6403c_21 : decode cJ7_copyOf_6403c 21 = .ok (.checkcast 110, 3) := by decide +kernel
theorem dJ7_copyOf_6403c_24 : decode cJ7_copyOf_6403c 24 = .ok (.astore_n 3, 1) := by decide +kernel
theorem dJ7_copyOf_6403c_25 : decode cJ7_copyOf_6403c 25 = .ok (.aload_n 0, 1) := by decide +kernel
theorem dJ7_copyOf_6403c_26 : decode cJ7_copyOf_6403c 26 = .ok (.iconst 0, 1) := by decide +kernel
theorem dJ7_copyOf_6403c_27 : decode cJ7_copyOf_6403c 27 = .ok (.aload_n 3, 1) := by decide +kernel
theorem dJ7_copyOf_6403c_28 : decode cJ7_copyOf_6403c 28 = .ok (.iconst 0, 1) := by decide +kernel
theorem dJ7_copyOf_6403c_29 : decode cJ7_copyOf_6403c 29 = .ok (.aload_n 0, 1) := by decide +kernel
theorem dJ7_copyOf_6403c_30 : decode cJ7_copyOf_6403c 30 = .ok (.arraylength, 1) := by decide +kernel
theorem dJ7_copyOf_6403c_31 : decode cJ7_copyOf_6403c 31 = .ok (.iload_n 1, 1) := by decide +kernel
theorem dJ7_copyOf_6403c_32 : decode cJ7_copyOf_6403c 32 = .ok (.invokestatic 304, 3) := by decide +kernel
theorem dJ7_copyOf_6403c_35 : decode cJ7_copyOf_6403c 35 = .ok (.invokestatic 150, 3) := by decide +kernel
theorem dJ7_copyOf_6403c_38 : decode cJ7_copyOf_6403c 38 = .ok (.aload_n 3, 1) := by decide +kernel
theorem dJ7_copyOf_6403c_39 : decode cJ7_copyOf_6403c 39 = .ok (.areturn, 1) := by decide +kernel
set_option maxRecDepth 20000 in
theorem ggJ15_checkIndex_7cf53_J3_checkIndex_8e157 : GoodIn wsJ15_checkIndex_7cf53 wsJ3_checkIndex_8e157 := goodIn_r _ [4] (by decide +kernel) (by decide +kernel)
set_option maxRecDepth 20000 in
theorem gJ15_checkIndex_7cf53_J3_checkIndex_8e157 : GoodIn wsJ15_checkIndex_7cf53 (va_wsS RJ15 105 yJ3_checkIndex_8e157 wsJ3_checkIndex_8e157) := goodIn_app (goodIn_of _ (by decide +kernel)) ggJ15_checkIndex_7cf53_J3_checkIndex_8e157
theorem dJ15_checkIndex_7cf53_0 : decode cJ15_checkIndex_7cf53 0 = .ok (.iload_n 0, 1) := by decide +kernel
theorem dJ15_checkIndex_7cf53_1 : decode cJ15_checkIndex_7cf53 1 = .ok (.iload_n 1, 1) := by decide +kernel
theorem dJ15_checkIndex_7cf53_2 : decode cJ15_checkIndex_7cf53 2 = .ok (.aconst_null, 1) := by decide +kernel
theorem dJ15_checkIndex_7cf53_3 : decode cJ15_checkIndex_7cf53 3 = .ok (.invokestatic 105, 3) := by decide +kernel
theorem dJ15_checkIndex_7cf53_6 : decode cJ15_checkIndex_7cf53 6 = .ok (.ireturn, 1) := by decide +kernel
set_option maxRecDepth 20000 in
theorem ggJ8_newLength_cabcc_J8_hugeLength_7cf53 : GoodIn wsJ8_newLength_cabcc wsJ8_hugeLength_7cf53 := goodIn_r _ [9, 5] (by decide +kernel) (by decide +kernel)
set_option maxRecDepth 20000 in
theorem gJ8_newLength_cabcc_J8_hugeLength_7cf53 : GoodIn wsJ8_newLength_cabcc (va_wsS RJ8 201 yJ8_hugeLength_7cf53 wsJ8_hugeLength_7cf53) := goodIn_app (goodIn_of _ (by decide +kernel)) ggJ8_newLength_cabcc_J8_hugeLength_7cf53
theorem dJ8_newLength_cabcc_0 : decode cJ8_newLength_cabcc 0 = .ok (.iload_n 0, 1) := by decide +kernel
theorem dJ8_newLength_cabcc_1 : decode cJ8_newLength_cabcc 1 = .ok (.iload_n 1, 1) := by decide +kernel
theorem dJ8_newLength_cabcc_2 : decode cJ8_newLength_cabcc 2 = .ok (.iload_n 2, 1) := by decide +kernel
theorem dJ8_newLength_cabcc_3 : decode cJ8_newLength_cabcc 3 = .ok (.invokestatic 194, 3) := by decide +kernel
theorem dJ8_newLength_cabcc_6 : decode cJ8_newLength_cabcc 6 = .ok (.iadd, 1) := by decide +kernel
theorem dJ8_newLength_cabcc_7 : decode cJ8_newLength_cabcc 7 = .ok (.istore_n 3, 1) := by decide +kernel
theorem dJ8_newLength_cabcc_8 : decode cJ8_newLength_cabcc 8 = .ok (.iconst 0, 1) := by decide +kernel
theorem dJ8_newLength_cabcc_9 : decode cJ8_newLength_cabcc 9 = .ok (.iload_n 3, 1) := by decide +kernel
theorem dJ8_newLength_cabcc_10 : decode cJ8_newLength_cabcc 10 = .ok (.if_icmp .ge 11, 3) := by decide +kernel
theorem dJ8_newLength_cabcc_13 : decode cJ8_newLength_cabcc 13 = .ok (.iload_n 3, 1) := by decide +kernel
theorem dJ8_newLength_cabcc_14 : decode cJ8_newLength_cabcc 14 = .ok (.ldc 200, 2) := by decide +kernel
theorem dJ8_newLength_cabcc_16 : decode cJ8_newLength_cabcc 16 = .ok (.if_icmp .gt 5, 3) := by decide +kernel
theorem dJ8_newLength_cabcc_19 : decode cJ8_newLength_cabcc 19 = .ok (.iload_n 3, 1) := by decide +kernel
theorem dJ8_newLength_cabcc_20 : decode cJ8_newLength_cabcc 20 = .ok (.ireturn, 1) := by decide +kernel
theorem dJ8_newLength_cabcc_21 : decode cJ8_newLength_cabcc 21 = .ok (.iload_n 0, 1) := by decide +kernel
theorem dJ8_newLength_cabcc_22 : decode cJ8_newLength_cabcc 22 = .ok (.iload_n 1, 1) := by decide +kernel
theorem dJ8_newLength_cabcc_23 : decode cJ8_newLength_cabcc 23 = .ok (.invokestatic 201, 3) := by decide +kernel
theorem dJ8_newLength_cabcc_26 : decode cJ8_newLength_cabcc 26 = .ok (.ireturn, 1) := by decide +kernel
theorem dJ8_hugeLength_7cf53_0 : decode cJ8_hugeLength_7cf53 0 = .ok (.iload_n 0, 1) := by decide +kernel
theorem dJ8_hugeLength_7cf53_1 : decode cJ8_hugeLength_7cf53 1 = .ok (.iload_n 1, 1) := by decide +kernel
theorem dJ8_hugeLength_7cf53_2 : decode cJ8_hugeLength_7cf53 2 = .ok (.iadd, 1) := by decide +kernel
theorem dJ8_hugeLength_7cf53_3 : decode cJ8_hugeLength_7cf53 3 = .ok (.istore_n 2, 1) := by decide +kernel
theorem dJ8_hugeLength_7cf53_4 : decode cJ8_hugeLength_7cf53 4 = .ok (.iload_n 2, 1) := by decide +kernel
theorem dJ8_hugeLength_7cf53_5 : decode cJ8_hugeLength_7cf53 5 = .ok (.ifCond .ge 44, 3) := by decide +kernel
theorem dJ8_hugeLength_7cf53_8 : decode cJ8_hugeLength_7cf53 8 = .ok (.new 204, 3) := by decide +kernel
theorem dJ8_hugeLength_7cf53_11 : decode cJ8_hugeLength_7cf53 11 = .ok (.dup, 1) := by decide +kernel
theorem dJ8_hugeLength_7cf53_12 : decode cJ8_hugeLength_7cf53 12 = .ok (.new 89, 3) := by decide +kernel
theorem dJ8_hugeLength_7cf53_15 : decode cJ8_hugeLength_7cf53 15 = .ok (.dup, 1) := by decide +kernel
theorem dJ8_hugeLength_7cf53_16 : decode cJ8_hugeLength_7cf53 16 = .ok (.invokespecial 91, 3) := by decide +kernel
theorem dJ8_hugeLength_7cf53_19 : decode cJ8_hugeLength_7cf53 19 = .ok (.ldc 206, 2) := by decide +kernel
theorem dJ8_hugeLength_7cf53_21 : decode cJ8_hugeLength_7cf53 21 = .ok (.invokevirtual 94, 3) := by decide +kernel
theorem dJ8_hugeLength_7cf53_24 : decode cJ8_hugeLength_7cf53 24 = .ok (.iload_n 0, 1) := by decide +kernel
theorem dJ8_hugeLength_7cf53_25 : decode cJ8_hugeLength_7cf53 25 = .ok (.invokevirtual 98, 3) := by decide +kernel
theorem dJ8_hugeLength_7cf53_28 : decode cJ8_hugeLength_7cf53 28 = .ok (.ldc 208, 2) := by decide +kernel
theorem dJ8_hugeLength_7cf53_30 : decode cJ8_hugeLength_7cf53 30 = .ok (.invokevirtual 94, 3) := by decide +kernel
theorem dJ8_hugeLength_7cf53_33 : decode cJ8_hugeLength_7cf53 33 = .ok (.iload_n 1, 1) := by decide +kernel
theorem dJ8_hugeLength_7cf53_34 : decode cJ8_hugeLength_7cf53 34 = .ok (.invokevirtual 98, 3) := by decide +kernel
theorem dJ8_hugeLength_7cf53_37 : decode cJ8_hugeLength_7cf53 37 = .ok (.ldc 210, 2) := by decide +kernel
theorem dJ8_hugeLength_7cf53_39 : decode cJ8_hugeLength_7cf53 39 = .ok (.invokevirtual 94, 3) := by decide +kernel
theorem dJ8_hugeLength_7cf53_42 : decode cJ8_hugeLength_7cf53 42 = .ok (.invokevirtual 101, 3) := by decide +kernel
theorem dJ8_hugeLength_7cf53_45 : decode cJ8_hugeLength_7cf53 45 = .ok (.invokespecial 212, 3) := by decide +kernel
theorem dJ8_hugeLength_7cf53_48 : decode cJ8_hugeLength_7cf53 48 = .ok (.athrow, 1) := by decide +kernel
theorem dJ8_hugeLength_7cf53_49 : decode cJ8_hugeLength_7cf53 49 = .ok (.iload_n 2, 1) := by decide +kernel
theorem dJ8_hugeLength_7cf53_50 : decode cJ8_hugeLength_7cf53 50 = .ok (.ldc 200, 2) := by decide +kernel
theorem dJ8_hugeLength_7cf53_52 : decode cJ8_hugeLength_7cf53 52 = .ok (.if_icmp .gt 6, 3) := by decide +kernel
theorem dJ8_hugeLength_7cf53_55 : decode cJ8_hugeLength_7cf53 55 = .ok (.ldc 200, 2) := by decide +kernel
theorem dJ8_hugeLength_7cf53_57 : decode cJ8_hugeLength_7cf53 57 = .ok (.ireturn, 1) := by decide +kernel
theorem dJ8_hugeLength_7cf53_58 : decode cJ8_hugeLength_7cf53 58 = .ok (.iload_n 2, 1) := by decide +kernel
theorem dJ8_hugeLength_7cf53_59 : decode cJ8_hugeLength_7cf53 59 = .ok (.ireturn, 1) := by decide +kernel
theorem dJ3_checkIndex_8e157_0 : decode cJ3_checkIndex_8e157 0 = .ok (.iload_n 0, 1) := by decide +kernel
theorem dJ3_checkIndex_8e157_1 : decode cJ3_checkIndex_8e157 1 = .ok (.ifCond .lt 8, 3) := by decide +kernel
theorem dJ3_checkIndex_8e157_4 : decode cJ3_checkIndex_8e157 4 = .ok (.iload_n 0, 1) := by decide +kernel
theorem dJ3_checkIndex_8e157_5 : decode cJ3_checkIndex_8e157 5 = .ok (.iload_n 1, 1) := by decide +kernel
theorem dJ3_checkIndex_8e157_6 : decode cJ3_checkIndex_8e157 6 = .ok (.if_icmp .lt 10, 3) := by decide +kernel
theorem dJ3_checkIndex_8e157_9 : decode cJ3_checkIndex_8e157 9 = .ok (.aload_n 2, 1) := by decide +kernel
theorem dJ3_checkIndex_8e157_10 : decode cJ3_checkIndex_8e157 10 = .ok (.iload_n 0, 1) := by decide +kernel
theorem dJ3_checkIndex_8e157_11 : decode cJ3_checkIndex_8e157 11 = .ok (.iload_n 1, 1) := by decide +kernel
theorem dJ3_checkIndex_8e157_12 : decode cJ3_checkIndex_8e157 12 = .ok (.invokestatic 95, 3) := by decide +kernel
theorem dJ3_checkIndex_8e157_15 : decode cJ3_checkIndex_8e157 15 = .ok (.athrow, 1) := by decide +kernel
theorem dJ3_checkIndex_8e157_16 : decode cJ3_checkIndex_8e157 16 = .ok (.iload_n 0, 1) := by decide +kernel
theorem dJ3_checkIndex_8e157_17 : decode cJ3_checkIndex_8e157 17 = .ok (.ireturn, 1) := by decide +kernel
set_option maxRecDepth 20000 in
theorem ggL_setTreaty_X4_setTreaty : GoodIn wsL_setTreaty wsX4_setTreaty := goodIn_ca (goodIn_r _ [6, 7, 8, 9, 10, 11, 12, 5, 13, 14, 15, 16, 17, 18, 19, 20, 21, 22] (by decide +kernel) (by decide +kernel)) (goodIn_sub (fun _ h => List.mem_cons_of_mem _ (List.mem_append_right _ h)) (by decide +kernel))
set_option maxRecDepth 20000 in
theorem gL_setTreaty_X4_setTreaty : GoodIn wsL_setTreaty (wsV RL 7 RX4 yX4_setTreaty wsX4_setTreaty) := goodIn_app (goodIn_of _ (by decide +kernel)) ggL_setTreaty_X4_setTreaty
theorem dL_setTreaty_0 : decode cL_setTreaty 0 = .ok (.aload 4, 2) := by decide +kernel
theorem dL_setTreaty_2 : decode cL_setTreaty 2 = .ok (.iconst 0, 1) := by decide +kernel
theorem dL_setTreaty_3 : decode cL_setTreaty 3 = .ok (.aload_n 0, 1) := by decide +kernel
theorem dL_setTreaty_4 : decode cL_setTreaty 4 = .ok (.iload_n 1, 1) := by decide +kernel
theorem dL_setTreaty_5 : decode cL_setTreaty 5 = .ok (.iload_n 2, 1) := by decide +kernel
theorem dL_setTreaty_6 : decode cL_setTreaty 6 = .ok (.iload_n 3, 1) := by decide +kernel
theorem dL_setTreaty_7 : decode cL_setTreaty 7 = .ok (.invokevirtual 7, 3) := by decide +kernel
theorem dL_setTreaty_10 : decode cL_setTreaty 10 = .ok (.i2l, 1) := by decide +kernel
theorem dL_setTreaty_11 : decode cL_setTreaty 11 = .ok (.lastore, 1) := by decide +kernel
theorem dL_setTreaty_12 : decode cL_setTreaty 12 = .ok (.goto 7, 3) := by decide +kernel
theorem dL_setTreaty_15 : decode cL_setTreaty 15 = .ok (.astore 5, 2) := by decide +kernel
theorem dL_setTreaty_17 : decode cL_setTreaty 17 = .ok (.iconst 1, 1) := by decide +kernel
theorem dL_setTreaty_18 : decode cL_setTreaty 18 = .ok (.ireturn, 1) := by decide +kernel
theorem dL_setTreaty_19 : decode cL_setTreaty 19 = .ok (.iconst 0, 1) := by decide +kernel
theorem dL_setTreaty_20 : decode cL_setTreaty 20 = .ok (.ireturn, 1) := by decide +kernel
set_option maxRecDepth 20000 in
theorem ggL_addHolder_X4_addHolder : GoodIn wsL_addHolder wsX4_addHolder := goodIn_ca (goodIn_ca (goodIn_r _ [7, 8, 9, 10, 11, 12, 13, 14, 15, 16, 17, 6, 18, 19, 20, 21, 22, 23, 24, 25, 26, 27, 28, 29, 30, 31, 32, 33, 34, 35, 36, 37, 38, 39, 40, 41, 42, 43, 44, 45, 46, 47, 48, 49, 50, 51, 52, 53, 54, 55, 56, 57, 58, 59, 60, 61, 62, 63, 64, 65, 66, 67, 68, 69, 70, 71, 72, 73, 74, 75, 76, 77, 78, 79, 80, 81, 82, 83, 84, 85, 86, 87, 88, 89, 90, 91, 92, 93, 94, 95, 96, 97, 98, 99, 100, 101, 102, 103, 104, 105, 106, 107, 108] (by decide +kernel) (by decide +kernel)) (goodIn_sub (fun _ h => List.mem_cons_of_mem _ (List.mem_append_left _ (List.mem_append_right _ h))) (by decide +kernel))) (goodIn_sub (fun _ h => List.mem_cons_of_mem _ (List.mem_append_right _ h)) (by decide +kernel))
set_option maxRecDepth 20000 in
theorem gL_addHolder_X4_addHolder : GoodIn wsL_addHolder (wsV RL 15 RX4 yX4_addHolder wsX4_addHolder) := goodIn_app (goodIn_of _ (by decide +kernel)) ggL_addHolder_X4_addHolder
theorem dL_addHolder_0 : decode cL_addHolder 0 = .ok (.aload_n 3, 1) := by decide +kernel
theorem dL_addHolder_1 : decode cL_addHolder 1 = .ok (.iconst 0, 1) := by decide +kernel
theorem dL_addHolder_2 : decode cL_addHolder 2 = .ok (.aload_n 0, 1) := by decide +kernel
theorem dL_addHolder_3 : decode cL_addHolder 3 = .ok (.iload_n 1, 1) := by decide +kernel
theorem dL_addHolder_4 : decode cL_addHolder 4 = .ok (.iload_n 2, 1) := by decide +kernel
theorem dL_addHolder_5 : decode cL_addHolder 5 = .ok (.invokevirtual 15, 3) := by decide +kernel
theorem dL_addHolder_8 : decode cL_addHolder 8 = .ok (.i2l, 1) := by decide +kernel
theorem dL_addHolder_9 : decode cL_addHolder 9 = .ok (.lastore, 1) := by decide +kernel
theorem dL_addHolder_10 : decode cL_addHolder 10 = .ok (.goto 11, 3) := by decide +kernel
theorem dL_addHolder_13 : decode cL_addHolder 13 = .ok (.astore 4, 2) := by decide +kernel
theorem dL_addHolder_15 : decode cL_addHolder 15 = .ok (.iconst 1, 1) := by decide +kernel
theorem dL_addHolder_16 : decode cL_addHolder 16 = .ok (.ireturn, 1) := by decide +kernel
theorem dL_addHolder_17 : decode cL_addHolder 17 = .ok (.astore 4, 2) := by decide +kernel
theorem dL_addHolder_19 : decode cL_addHolder 19 = .ok (.iconst 2, 1) := by decide +kernel
theorem dL_addHolder_20 : decode cL_addHolder 20 = .ok (.ireturn, 1) := by decide +kernel
theorem dL_addHolder_21 : decode cL_addHolder 21 = .ok (.iconst 0, 1) := by decide +kernel
theorem dL_addHolder_22 : decode cL_addHolder 22 = .ok (.ireturn, 1) := by decide +kernel
set_option maxRecDepth 20000 in
theorem ggL_setParts_X4_setParts : GoodIn wsL_setParts wsX4_setParts := goodIn_ca (goodIn_ca (goodIn_r _ [7, 8, 9, 10, 11, 12, 6, 13, 14, 15, 16, 17, 18, 19, 20, 21, 22, 23, 24, 25, 26, 27, 28, 29, 30, 31, 32, 33, 34, 35, 36, 37, 38, 39, 40, 41, 42, 43, 44, 45, 46, 47, 48, 49, 50, 51, 52, 53, 54, 55, 56, 57, 58, 59, 60, 61, 62, 63, 64, 65, 66, 67, 68, 69, 70] (by decide +kernel) (by decide +kernel)) (goodIn_sub (fun _ h => List.mem_cons_of_mem _ (List.mem_append_left _ (List.mem_append_right _ h))) (by decide +kernel))) (goodIn_sub (fun _ h => List.mem_cons_of_mem _ (List.mem_append_right _ h)) (by decide +kernel))
set_option maxRecDepth 20000 in
theorem gL_setParts_X4_setParts : GoodIn wsL_setParts (wsV RL 21 RX4 yX4_setParts wsX4_setParts) := goodIn_app (goodIn_of _ (by decide +kernel)) ggL_setParts_X4_setParts
theorem dL_setParts_0 : decode cL_setParts 0 = .ok (.aload 4, 2) := by decide +kernel
theorem dL_setParts_2 : decode cL_setParts 2 = .ok (.iconst 0, 1) := by decide +kernel
theorem dL_setParts_3 : decode cL_setParts 3 = .ok (.aload_n 0, 1) := by decide +kernel
theorem dL_setParts_4 : decode cL_setParts 4 = .ok (.iload_n 1, 1) := by decide +kernel
theorem dL_setParts_5 : decode cL_setParts 5 = .ok (.iload_n 2, 1) := by decide +kernel
theorem dL_setParts_6 : decode cL_setParts 6 = .ok (.iload_n 3, 1) := by decide +kernel
theorem dL_setParts_7 : decode cL_setParts 7 = .ok (.invokevirtual 21, 3) := by decide +kernel
theorem dL_setParts_10 : decode cL_setParts 10 = .ok (.i2l, 1) := by decide +kernel
theorem dL_setParts_11 : decode cL_setParts 11 = .ok (.lastore, 1) := by decide +kernel
theorem dL_setParts_12 : decode cL_setParts 12 = .ok (.goto 11, 3) := by decide +kernel
theorem dL_setParts_15 : decode cL_setParts 15 = .ok (.astore 5, 2) := by decide +kernel
theorem dL_setParts_17 : decode cL_setParts 17 = .ok (.iconst 1, 1) := by decide +kernel
theorem dL_setParts_18 : decode cL_setParts 18 = .ok (.ireturn, 1) := by decide +kernel
theorem dL_setParts_19 : decode cL_setParts 19 = .ok (.astore 5, 2) := by decide +kernel
theorem dL_setParts_21 : decode cL_setParts 21 = .ok (.iconst 2, 1) := by decide +kernel
theorem dL_setParts_22 : decode cL_setParts 22 = .ok (.ireturn, 1) := by decide +kernel
theorem dL_setParts_23 : decode cL_setParts 23 = .ok (.iconst 0, 1) := by decide +kernel
theorem dL_setParts_24 : decode cL_setParts 24 = .ok (.ireturn, 1) := by decide +kernel
set_option maxRecDepth 20000 in
theorem ggL_setShares_X4_setShares : GoodIn wsL_setShares wsX4_setShares := goodIn_ca (goodIn_ca (goodIn_ca (goodIn_r _ [8, 9, 10, 11, 12, 13, 14, 15, 16, 7, 17, 18, 19, 20, 21, 22, 23, 24, 25, 26, 27, 28, 29, 30, 31, 32, 33, 34, 35, 36, 37, 38, 39, 40, 41, 42, 43, 44, 45, 46, 47, 48, 49, 50, 51, 52, 53, 54, 55, 56, 57, 58, 59, 60, 61, 62, 63, 64, 65, 66, 67, 68, 69, 70] (by decide +kernel) (by decide +kernel)) (goodIn_sub (fun _ h => List.mem_cons_of_mem _ (List.mem_append_left _ (List.mem_append_left _ (List.mem_append_right _ h)))) (by decide +kernel))) (goodIn_sub (fun _ h => List.mem_cons_of_mem _ (List.mem_append_left _ (List.mem_append_right _ h))) (by decide +kernel))) (goodIn_sub (fun _ h => List.mem_cons_of_mem _ (List.mem_append_right _ h)) (by decide +kernel))
set_option maxRecDepth 20000 in
theorem gL_setShares_X4_setShares : GoodIn wsL_setShares (wsV RL 26 RX4 yX4_setShares wsX4_setShares) := goodIn_app (goodIn_of _ (by decide +kernel)) ggL_setShares_X4_setShares
theorem dL_setShares_0 : decode cL_setShares 0 = .ok (.aload_n 3, 1) := by decide +kernel
theorem dL_setShares_1 : decode cL_setShares 1 = .ok (.iconst 0, 1) := by decide +kernel
theorem dL_setShares_2 : decode cL_setShares 2 = .ok (.aload_n 0, 1) := by decide +kernel
theorem dL_setShares_3 : decode cL_setShares 3 = .ok (.iload_n 1, 1) := by decide +kernel
theorem dL_setShares_4 : decode cL_setShares 4 = .ok (.iload_n 2, 1) := by decide +kernel
theorem dL_setShares_5 : decode cL_setShares 5 = .ok (.invokevirtual 26, 3) := by decide +kernel
theorem dL_setShares_8 : decode cL_setShares 8 = .ok (.i2l, 1) := by decide +kernel
theorem dL_setShares_9 : decode cL_setShares 9 = .ok (.lastore, 1) := by decide +kernel
theorem dL_setShares_10 : decode cL_setShares 10 = .ok (.goto 15, 3) := by decide +kernel
theorem dL_setShares_13 : decode cL_setShares 13 = .ok (.astore 4, 2) := by decide +kernel
theorem dL_setShares_15 : decode cL_setShares 15 = .ok (.iconst 1, 1) := by decide +kernel
theorem dL_setShares_16 : decode cL_setShares 16 = .ok (.ireturn, 1) := by decide +kernel
theorem dL_setShares_17 : decode cL_setShares 17 = .ok (.astore 4, 2) := by decide +kernel
theorem dL_setShares_19 : decode cL_setShares 19 = .ok (.iconst 2, 1) := by decide +kernel
theorem dL_setShares_20 : decode cL_setShares 20 = .ok (.ireturn, 1) := by decide +kernel
theorem dL_setShares_21 : decode cL_setShares 21 = .ok (.astore 4, 2) := by decide +kernel
theorem dL_setShares_23 : decode cL_setShares 23 = .ok (.iconst 3, 1) := by decide +kernel
theorem dL_setShares_24 : decode cL_setShares 24 = .ok (.ireturn, 1) := by decide +kernel
theorem dL_setShares_25 : decode cL_setShares 25 = .ok (.iconst 0, 1) := by decide +kernel
theorem dL_setShares_26 : decode cL_setShares 26 = .ok (.ireturn, 1) := by decide +kernel
set_option maxRecDepth 20000 in
theorem ggL_giveForm_X4_giveForm : GoodIn wsL_giveForm wsX4_giveForm := goodIn_ca (goodIn_r _ [6, 7, 8, 9, 10, 5, 11, 12, 13, 14, 15, 16, 17, 18, 19, 20, 21, 22, 23, 24, 25, 26, 27, 28, 29, 30, 31, 32, 33, 34, 35, 36, 37, 38, 39, 40, 41, 42, 43, 44, 45, 46, 47, 48, 49, 50, 51, 52, 53, 54, 55, 56, 57, 58, 59, 60] (by decide +kernel) (by decide +kernel)) (goodIn_sub (fun _ h => List.mem_cons_of_mem _ (List.mem_append_right _ h)) (by decide +kernel))
set_option maxRecDepth 20000 in
theorem gL_giveForm_X4_giveForm : GoodIn wsL_giveForm (wsV RL 29 RX4 yX4_giveForm wsX4_giveForm) := goodIn_app (goodIn_of _ (by decide +kernel)) ggL_giveForm_X4_giveForm
theorem dL_giveForm_0 : decode cL_giveForm 0 = .ok (.aload_n 2, 1) := by decide +kernel
theorem dL_giveForm_1 : decode cL_giveForm 1 = .ok (.iconst 0, 1) := by decide +kernel
theorem dL_giveForm_2 : decode cL_giveForm 2 = .ok (.aload_n 0, 1) := by decide +kernel
theorem dL_giveForm_3 : decode cL_giveForm 3 = .ok (.iload_n 1, 1) := by decide +kernel
theorem dL_giveForm_4 : decode cL_giveForm 4 = .ok (.invokevirtual 29, 3) := by decide +kernel
theorem dL_giveForm_7 : decode cL_giveForm 7 = .ok (.i2l, 1) := by decide +kernel
theorem dL_giveForm_8 : decode cL_giveForm 8 = .ok (.lastore, 1) := by decide +kernel
theorem dL_giveForm_9 : decode cL_giveForm 9 = .ok (.goto 6, 3) := by decide +kernel
theorem dL_giveForm_12 : decode cL_giveForm 12 = .ok (.astore_n 3, 1) := by decide +kernel
theorem dL_giveForm_13 : decode cL_giveForm 13 = .ok (.iconst 1, 1) := by decide +kernel
theorem dL_giveForm_14 : decode cL_giveForm 14 = .ok (.ireturn, 1) := by decide +kernel
theorem dL_giveForm_15 : decode cL_giveForm 15 = .ok (.iconst 0, 1) := by decide +kernel
theorem dL_giveForm_16 : decode cL_giveForm 16 = .ok (.ireturn, 1) := by decide +kernel
set_option maxRecDepth 20000 in
theorem ggL_pass_X4_pass : GoodIn wsL_pass wsX4_pass := goodIn_ca (goodIn_ca (goodIn_r _ [7, 8, 9, 10, 11, 12, 13, 14, 15, 16, 6, 17, 18, 19, 20, 21, 22, 23, 24, 25, 26, 27, 28, 29, 30, 31, 32, 33, 34, 35, 36, 37, 38, 39, 40, 41, 42, 43, 44, 45, 46, 47, 48, 49, 50, 51, 52, 53, 54, 55, 56, 57, 58, 59, 60, 61, 62] (by decide +kernel) (by decide +kernel)) (goodIn_sub (fun _ h => List.mem_cons_of_mem _ (List.mem_append_left _ (List.mem_append_right _ h))) (by decide +kernel))) (goodIn_sub (fun _ h => List.mem_cons_of_mem _ (List.mem_append_right _ h)) (by decide +kernel))
set_option maxRecDepth 20000 in
theorem gL_pass_X4_pass : GoodIn wsL_pass (wsV RL 33 RX4 yX4_pass wsX4_pass) := goodIn_app (goodIn_of _ (by decide +kernel)) ggL_pass_X4_pass
theorem dL_pass_0 : decode cL_pass 0 = .ok (.aload_n 2, 1) := by decide +kernel
theorem dL_pass_1 : decode cL_pass 1 = .ok (.iconst 0, 1) := by decide +kernel
theorem dL_pass_2 : decode cL_pass 2 = .ok (.aload_n 0, 1) := by decide +kernel
theorem dL_pass_3 : decode cL_pass 3 = .ok (.iload_n 1, 1) := by decide +kernel
theorem dL_pass_4 : decode cL_pass 4 = .ok (.invokevirtual 33, 3) := by decide +kernel
theorem dL_pass_7 : decode cL_pass 7 = .ok (.i2l, 1) := by decide +kernel
theorem dL_pass_8 : decode cL_pass 8 = .ok (.lastore, 1) := by decide +kernel
theorem dL_pass_9 : decode cL_pass 9 = .ok (.goto 9, 3) := by decide +kernel
theorem dL_pass_12 : decode cL_pass 12 = .ok (.astore_n 3, 1) := by decide +kernel
theorem dL_pass_13 : decode cL_pass 13 = .ok (.iconst 1, 1) := by decide +kernel
theorem dL_pass_14 : decode cL_pass 14 = .ok (.ireturn, 1) := by decide +kernel
theorem dL_pass_15 : decode cL_pass 15 = .ok (.astore_n 3, 1) := by decide +kernel
theorem dL_pass_16 : decode cL_pass 16 = .ok (.iconst 2, 1) := by decide +kernel
theorem dL_pass_17 : decode cL_pass 17 = .ok (.ireturn, 1) := by decide +kernel
theorem dL_pass_18 : decode cL_pass 18 = .ok (.iconst 0, 1) := by decide +kernel
theorem dL_pass_19 : decode cL_pass 19 = .ok (.ireturn, 1) := by decide +kernel
set_option maxRecDepth 20000 in
theorem ggL_shares_X4_shares : GoodIn wsL_shares wsX4_shares := goodIn_ca (goodIn_r _ [6, 7, 8, 9, 5, 10, 11, 12, 13, 14, 15, 16, 17, 18, 19, 20, 21, 22, 23, 24, 25, 26, 27, 28, 29, 30, 31, 32, 33, 34, 35, 36, 37, 38, 39, 40, 41, 42, 43, 44, 45, 46, 47, 48, 49, 50, 51, 52, 53, 54, 55, 56, 57, 58, 59] (by decide +kernel) (by decide +kernel)) (goodIn_sub (fun _ h => List.mem_cons_of_mem _ (List.mem_append_right _ h)) (by decide +kernel))
set_option maxRecDepth 20000 in
theorem gL_shares_X4_shares : GoodIn wsL_shares (wsV RL 36 RX4 yX4_shares wsX4_shares) := goodIn_app (goodIn_of _ (by decide +kernel)) ggL_shares_X4_shares
theorem dL_shares_0 : decode cL_shares 0 = .ok (.aload_n 2, 1) := by decide +kernel
theorem dL_shares_1 : decode cL_shares 1 = .ok (.iconst 0, 1) := by decide +kernel
theorem dL_shares_2 : decode cL_shares 2 = .ok (.aload_n 0, 1) := by decide +kernel
theorem dL_shares_3 : decode cL_shares 3 = .ok (.iload_n 1, 1) := by decide +kernel
theorem dL_shares_4 : decode cL_shares 4 = .ok (.invokevirtual 36, 3) := by decide +kernel
theorem dL_shares_7 : decode cL_shares 7 = .ok (.i2l, 1) := by decide +kernel
theorem dL_shares_8 : decode cL_shares 8 = .ok (.lastore, 1) := by decide +kernel
theorem dL_shares_9 : decode cL_shares 9 = .ok (.goto 6, 3) := by decide +kernel
theorem dL_shares_12 : decode cL_shares 12 = .ok (.astore_n 3, 1) := by decide +kernel
theorem dL_shares_13 : decode cL_shares 13 = .ok (.iconst 1, 1) := by decide +kernel
theorem dL_shares_14 : decode cL_shares 14 = .ok (.ireturn, 1) := by decide +kernel
theorem dL_shares_15 : decode cL_shares 15 = .ok (.iconst 0, 1) := by decide +kernel
theorem dL_shares_16 : decode cL_shares 16 = .ok (.ireturn, 1) := by decide +kernel
set_option maxRecDepth 20000 in
theorem ggL_isValid_X4_isValid : GoodIn wsL_isValid wsX4_isValid := goodIn_ca (goodIn_r _ [6, 7, 8, 9, 10, 5, 11, 12, 13, 14, 15, 16, 17, 18, 19, 20, 21, 22, 23, 24, 25, 26, 27, 28, 29, 30, 31, 32, 33, 34, 35, 36, 37, 38, 39, 40, 41, 42, 43, 44, 45, 46, 47, 48, 49, 50, 51, 52, 53, 54, 55, 56, 57, 58, 59, 60, 61, 62, 63, 64, 65] (by decide +kernel) (by decide +kernel)) (goodIn_sub (fun _ h => List.mem_cons_of_mem _ (List.mem_append_right _ h)) (by decide +kernel))
set_option maxRecDepth 20000 in
theorem gL_isValid_X4_isValid : GoodIn wsL_isValid (wsV RL 39 RX4 yX4_isValid wsX4_isValid) := goodIn_app (goodIn_of _ (by decide +kernel)) ggL_isValid_X4_isValid
theorem dL_isValid_0 : decode cL_isValid 0 = .ok (.aload_n 2, 1) := by decide +kernel
theorem dL_isValid_1 : decode cL_isValid 1 = .ok (.iconst 0, 1) := by decide +kernel
theorem dL_isValid_2 : decode cL_isValid 2 = .ok (.aload_n 0, 1) := by decide +kernel
theorem dL_isValid_3 : decode cL_isValid 3 = .ok (.iload_n 1, 1) := by decide +kernel
theorem dL_isValid_4 : decode cL_isValid 4 = .ok (.invokevirtual 39, 3) := by decide +kernel
theorem dL_isValid_7 : decode cL_isValid 7 = .ok (.ifCond .eq 7, 3) := by decide +kernel
theorem dL_isValid_10 : decode cL_isValid 10 = .ok (.lconst 1, 1) := by decide +kernel
theorem dL_isValid_11 : decode cL_isValid 11 = .ok (.goto 4, 3) := by decide +kernel
theorem dL_isValid_14 : decode cL_isValid 14 = .ok (.lconst 0, 1) := by decide +kernel
theorem dL_isValid_15 : decode cL_isValid 15 = .ok (.lastore, 1) := by decide +kernel
theorem dL_isValid_16 : decode cL_isValid 16 = .ok (.goto 6, 3) := by decide +kernel
theorem dL_isValid_19 : decode cL_isValid 19 = .ok (.astore_n 3, 1) := by decide +kernel
theorem dL_isValid_20 : decode cL_isValid 20 = .ok (.iconst 1, 1) := by decide +kernel
theorem dL_isValid_21 : decode cL_isValid 21 = .ok (.ireturn, 1) := by decide +kernel
theorem dL_isValid_22 : decode cL_isValid 22 = .ok (.iconst 0, 1) := by decide +kernel
theorem dL_isValid_23 : decode cL_isValid 23 = .ok (.ireturn, 1) := by decide +kernel
set_option maxRecDepth 20000 in
theorem ggL_isLarge_X4_isLarge : GoodIn wsL_isLarge wsX4_isLarge := goodIn_ca (goodIn_r _ [6, 7, 8, 9, 10, 5, 11, 12, 13, 14, 15, 16, 17, 18, 19, 20, 21, 22, 23, 24, 25, 26, 27, 28, 29, 30, 31, 32, 33, 34, 35, 36, 37, 38, 39, 40, 41, 42, 43, 44, 45, 46, 47, 48, 49, 50, 51, 52, 53, 54, 55, 56, 57, 58, 59, 60, 61, 62, 63, 64, 65, 66, 67, 68] (by decide +kernel) (by decide +kernel)) (goodIn_sub (fun _ h => List.mem_cons_of_mem _ (List.mem_append_right _ h)) (by decide +kernel))
set_option maxRecDepth 20000 in
theorem gL_isLarge_X4_isLarge : GoodIn wsL_isLarge (wsV RL 43 RX4 yX4_isLarge wsX4_isLarge) := goodIn_app (goodIn_of _ (by decide +kernel)) ggL_isLarge_X4_isLarge
theorem dL_isLarge_0 : decode cL_isLarge 0 = .ok (.aload_n 2, 1) := by decide +kernel
theorem dL_isLarge_1 : decode cL_isLarge 1 = .ok (.iconst 0, 1) := by decide +kernel
theorem dL_isLarge_2 : decode cL_isLarge 2 = .ok (.aload_n 0, 1) := by decide +kernel
theorem dL_isLarge_3 : decode cL_isLarge 3 = .ok (.iload_n 1, 1) := by decide +kernel
theorem dL_isLarge_4 : decode cL_isLarge 4 = .ok (.invokevirtual 43, 3) := by decide +kernel
theorem dL_isLarge_7 : decode cL_isLarge 7 = .ok (.ifCond .eq 7, 3) := by decide +kernel
theorem dL_isLarge_10 : decode cL_isLarge 10 = .ok (.lconst 1, 1) := by decide +kernel
theorem dL_isLarge_11 : decode cL_isLarge 11 = .ok (.goto 4, 3) := by decide +kernel
theorem dL_isLarge_14 : decode cL_isLarge 14 = .ok (.lconst 0, 1) := by decide +kernel
theorem dL_isLarge_15 : decode cL_isLarge 15 = .ok (.lastore, 1) := by decide +kernel
theorem dL_isLarge_16 : decode cL_isLarge 16 = .ok (.goto 6, 3) := by decide +kernel
theorem dL_isLarge_19 : decode cL_isLarge 19 = .ok (.astore_n 3, 1) := by decide +kernel
theorem dL_isLarge_20 : decode cL_isLarge 20 = .ok (.iconst 1, 1) := by decide +kernel
theorem dL_isLarge_21 : decode cL_isLarge 21 = .ok (.ireturn, 1) := by decide +kernel
theorem dL_isLarge_22 : decode cL_isLarge 22 = .ok (.iconst 0, 1) := by decide +kernel
theorem dL_isLarge_23 : decode cL_isLarge 23 = .ok (.ireturn, 1) := by decide +kernel
set_option maxRecDepth 20000 in
theorem ggL_treatyRate_X4_treatyRate : GoodIn wsL_treatyRate wsX4_treatyRate := goodIn_ca (goodIn_ca (goodIn_r _ [7, 8, 9, 10, 11, 12, 6, 13, 14, 15, 16, 17, 18, 19, 20, 21, 22, 23, 24, 25, 26, 27, 28, 29, 30, 31, 32, 33, 34, 35, 36, 37, 38, 39, 40, 41, 42, 43, 44, 45, 46, 47, 48, 49, 50, 51, 52, 53, 54, 55, 56, 57, 58, 59, 60, 61, 62, 63, 64, 65, 66, 67, 68, 69, 70, 71, 72, 73, 74, 75, 76, 77, 78, 79, 80, 81, 82, 83, 84, 85, 86, 87] (by decide +kernel) (by decide +kernel)) (goodIn_sub (fun _ h => List.mem_cons_of_mem _ (List.mem_append_left _ (List.mem_append_right _ h))) (by decide +kernel))) (goodIn_sub (fun _ h => List.mem_cons_of_mem _ (List.mem_append_right _ h)) (by decide +kernel))
set_option maxRecDepth 20000 in
theorem gL_treatyRate_X4_treatyRate : GoodIn wsL_treatyRate (wsV RL 46 RX4 yX4_treatyRate wsX4_treatyRate) := goodIn_app (goodIn_of _ (by decide +kernel)) ggL_treatyRate_X4_treatyRate
theorem dL_treatyRate_0 : decode cL_treatyRate 0 = .ok (.aload_n 2, 1) := by decide +kernel
theorem dL_treatyRate_1 : decode cL_treatyRate 1 = .ok (.iconst 0, 1) := by decide +kernel
theorem dL_treatyRate_2 : decode cL_treatyRate 2 = .ok (.aload_n 0, 1) := by decide +kernel
theorem dL_treatyRate_3 : decode cL_treatyRate 3 = .ok (.iload_n 1, 1) := by decide +kernel
theorem dL_treatyRate_4 : decode cL_treatyRate 4 = .ok (.invokevirtual 46, 3) := by decide +kernel
theorem dL_treatyRate_7 : decode cL_treatyRate 7 = .ok (.i2l, 1) := by decide +kernel
theorem dL_treatyRate_8 : decode cL_treatyRate 8 = .ok (.lastore, 1) := by decide +kernel
theorem dL_treatyRate_9 : decode cL_treatyRate 9 = .ok (.goto 9, 3) := by decide +kernel
theorem dL_treatyRate_12 : decode cL_treatyRate 12 = .ok (.astore_n 3, 1) := by decide +kernel
theorem dL_treatyRate_13 : decode cL_treatyRate 13 = .ok (.iconst 1, 1) := by decide +kernel
theorem dL_treatyRate_14 : decode cL_treatyRate 14 = .ok (.ireturn, 1) := by decide +kernel
theorem dL_treatyRate_15 : decode cL_treatyRate 15 = .ok (.astore_n 3, 1) := by decide +kernel
theorem dL_treatyRate_16 : decode cL_treatyRate 16 = .ok (.iconst 2, 1) := by decide +kernel
theorem dL_treatyRate_17 : decode cL_treatyRate 17 = .ok (.ireturn, 1) := by decide +kernel
theorem dL_treatyRate_18 : decode cL_treatyRate 18 = .ok (.iconst 0, 1) := by decide +kernel
theorem dL_treatyRate_19 : decode cL_treatyRate 19 = .ok (.ireturn, 1) := by decide +kernel
set_option maxRecDepth 20000 in
theorem ggL_pay_X4_pay : GoodIn wsL_pay wsX4_pay := goodIn_ca (goodIn_ca (goodIn_r _ [7, 8, 9, 10, 11, 12, 13, 14, 15, 16, 17, 18, 19, 20, 6, 21, 22, 23, 24, 25, 26, 27, 28, 29, 30, 31, 32, 33, 34, 35, 36, 37, 38, 39, 40, 41, 42, 43, 44, 45, 46, 47, 48, 49, 50, 51, 52, 53, 54, 55, 56, 57, 58, 59, 60, 61, 62, 63, 64, 65, 66, 67, 68, 69, 70, 71, 72, 73, 74, 75, 76, 77, 78, 79, 80, 81, 82, 83, 84, 85, 86, 87, 88, 89, 90, 91, 92, 93, 94, 95, 96, 97, 98, 99, 100, 101, 102, 103, 104, 105, 106, 107, 108, 109, 110, 111, 112, 113, 114, 115, 116, 117, 118, 119, 120, 121, 122, 123, 124, 125, 126, 127, 128, 129, 130, 131, 132, 133, 134, 135, 136, 137, 138, 139, 140, 141, 142, 143, 144, 145, 146, 147, 148, 149, 150, 151, 152, 153, 154, 155, 156, 157, 158, 159, 160, 161, 162, 163, 164, 165, 166, 167, 168, 169, 170, 171, 172, 173, 174, 175, 176, 177, 178, 179, 180, 181, 182, 183, 184, 185, 186, 187, 188, 189, 190, 191, 192, 193, 194, 195, 196, 197, 198, 199, 200, 201, 202, 203, 204, 205, 206, 207, 208, 209, 210, 211, 212, 213, 214, 215, 216, 217, 218, 219, 220, 221, 222, 223, 224, 225, 226, 227, 228, 229, 230, 231, 232, 233, 234] (by decide +kernel) (by decide +kernel)) (goodIn_sub (fun _ h => List.mem_cons_of_mem _ (List.mem_append_left _ (List.mem_append_right _ h))) (by decide +kernel))) (goodIn_sub (fun _ h => List.mem_cons_of_mem _ (List.mem_append_right _ h)) (by decide +kernel))
set_option maxRecDepth 20000 in
theorem gL_pay_X4_pay : GoodIn wsL_pay (wsV RL 49 RX4 yX4_pay wsX4_pay) := goodIn_app (goodIn_of _ (by decide +kernel)) ggL_pay_X4_pay
theorem dL_pay_0 : decode cL_pay 0 = .ok (.aload_n 2, 1) := by decide +kernel
theorem dL_pay_1 : decode cL_pay 1 = .ok (.iconst 0, 1) := by decide +kernel
theorem dL_pay_2 : decode cL_pay 2 = .ok (.aload_n 0, 1) := by decide +kernel
theorem dL_pay_3 : decode cL_pay 3 = .ok (.iload_n 1, 1) := by decide +kernel
theorem dL_pay_4 : decode cL_pay 4 = .ok (.invokevirtual 49, 3) := by decide +kernel
theorem dL_pay_7 : decode cL_pay 7 = .ok (.i2l, 1) := by decide +kernel
theorem dL_pay_8 : decode cL_pay 8 = .ok (.lastore, 1) := by decide +kernel
theorem dL_pay_9 : decode cL_pay 9 = .ok (.goto 9, 3) := by decide +kernel
theorem dL_pay_12 : decode cL_pay 12 = .ok (.astore_n 3, 1) := by decide +kernel
theorem dL_pay_13 : decode cL_pay 13 = .ok (.iconst 1, 1) := by decide +kernel
theorem dL_pay_14 : decode cL_pay 14 = .ok (.ireturn, 1) := by decide +kernel
theorem dL_pay_15 : decode cL_pay 15 = .ok (.astore_n 3, 1) := by decide +kernel
theorem dL_pay_16 : decode cL_pay 16 = .ok (.iconst 2, 1) := by decide +kernel
theorem dL_pay_17 : decode cL_pay 17 = .ok (.ireturn, 1) := by decide +kernel
theorem dL_pay_18 : decode cL_pay 18 = .ok (.iconst 0, 1) := by decide +kernel
theorem dL_pay_19 : decode cL_pay 19 = .ok (.ireturn, 1) := by decide +kernel
set_option maxRecDepth 20000 in
theorem ggL_gross_X4_gross : GoodIn wsL_gross wsX4_gross := goodIn_ca (goodIn_r _ [6, 7, 8, 9, 5, 10, 11, 12, 13, 14, 15, 16, 17, 18, 19, 20, 21, 22, 23, 24, 25, 26, 27, 28, 29, 30, 31, 32, 33, 34, 35, 36, 37, 38, 39, 40, 41, 42, 43, 44, 45, 46, 47, 48, 49, 50, 51, 52, 53, 54, 55, 56, 57, 58, 59, 60, 61, 62, 63, 64, 65, 66, 67, 68, 69] (by decide +kernel) (by decide +kernel)) (goodIn_sub (fun _ h => List.mem_cons_of_mem _ (List.mem_append_right _ h)) (by decide +kernel))
set_option maxRecDepth 20000 in
theorem gL_gross_X4_gross : GoodIn wsL_gross (wsV RL 52 RX4 yX4_gross wsX4_gross) := goodIn_app (goodIn_of _ (by decide +kernel)) ggL_gross_X4_gross
theorem dL_gross_0 : decode cL_gross 0 = .ok (.aload_n 3, 1) := by decide +kernel
theorem dL_gross_1 : decode cL_gross 1 = .ok (.iconst 0, 1) := by decide +kernel
theorem dL_gross_2 : decode cL_gross 2 = .ok (.aload_n 0, 1) := by decide +kernel
theorem dL_gross_3 : decode cL_gross 3 = .ok (.iload_n 1, 1) := by decide +kernel
theorem dL_gross_4 : decode cL_gross 4 = .ok (.iload_n 2, 1) := by decide +kernel
theorem dL_gross_5 : decode cL_gross 5 = .ok (.invokevirtual 52, 3) := by decide +kernel
theorem dL_gross_8 : decode cL_gross 8 = .ok (.i2l, 1) := by decide +kernel
theorem dL_gross_9 : decode cL_gross 9 = .ok (.lastore, 1) := by decide +kernel
theorem dL_gross_10 : decode cL_gross 10 = .ok (.goto 7, 3) := by decide +kernel
theorem dL_gross_13 : decode cL_gross 13 = .ok (.astore 4, 2) := by decide +kernel
theorem dL_gross_15 : decode cL_gross 15 = .ok (.iconst 1, 1) := by decide +kernel
theorem dL_gross_16 : decode cL_gross 16 = .ok (.ireturn, 1) := by decide +kernel
theorem dL_gross_17 : decode cL_gross 17 = .ok (.iconst 0, 1) := by decide +kernel
theorem dL_gross_18 : decode cL_gross 18 = .ok (.ireturn, 1) := by decide +kernel
set_option maxRecDepth 20000 in
theorem ggL_held_X4_held : GoodIn wsL_held wsX4_held := goodIn_ca (goodIn_r _ [6, 7, 8, 9, 5, 10, 11, 12, 13, 14, 15, 16, 17, 18, 19, 20, 21, 22, 23, 24, 25, 26, 27, 28, 29, 30, 31, 32, 33, 34, 35, 36, 37, 38, 39, 40, 41, 42, 43, 44, 45, 46, 47, 48, 49, 50, 51, 52, 53, 54, 55, 56, 57, 58, 59, 60, 61, 62, 63, 64, 65, 66, 67, 68, 69] (by decide +kernel) (by decide +kernel)) (goodIn_sub (fun _ h => List.mem_cons_of_mem _ (List.mem_append_right _ h)) (by decide +kernel))
set_option maxRecDepth 20000 in
theorem gL_held_X4_held : GoodIn wsL_held (wsV RL 55 RX4 yX4_held wsX4_held) := goodIn_app (goodIn_of _ (by decide +kernel)) ggL_held_X4_held
theorem dL_held_0 : decode cL_held 0 = .ok (.aload_n 3, 1) := by decide +kernel
theorem dL_held_1 : decode cL_held 1 = .ok (.iconst 0, 1) := by decide +kernel
theorem dL_held_2 : decode cL_held 2 = .ok (.aload_n 0, 1) := by decide +kernel
theorem dL_held_3 : decode cL_held 3 = .ok (.iload_n 1, 1) := by decide +kernel
theorem dL_held_4 : decode cL_held 4 = .ok (.iload_n 2, 1) := by decide +kernel
theorem dL_held_5 : decode cL_held 5 = .ok (.invokevirtual 55, 3) := by decide +kernel
theorem dL_held_8 : decode cL_held 8 = .ok (.i2l, 1) := by decide +kernel
theorem dL_held_9 : decode cL_held 9 = .ok (.lastore, 1) := by decide +kernel
theorem dL_held_10 : decode cL_held 10 = .ok (.goto 7, 3) := by decide +kernel
theorem dL_held_13 : decode cL_held 13 = .ok (.astore 4, 2) := by decide +kernel
theorem dL_held_15 : decode cL_held 15 = .ok (.iconst 1, 1) := by decide +kernel
theorem dL_held_16 : decode cL_held 16 = .ok (.ireturn, 1) := by decide +kernel
theorem dL_held_17 : decode cL_held 17 = .ok (.iconst 0, 1) := by decide +kernel
theorem dL_held_18 : decode cL_held 18 = .ok (.ireturn, 1) := by decide +kernel
set_option maxRecDepth 20000 in
theorem ggL_due_X4_due : GoodIn wsL_due wsX4_due := goodIn_ca (goodIn_r _ [6, 7, 8, 9, 5, 10, 11, 12, 13, 14, 15, 16, 17, 18, 19, 20, 21, 22, 23, 24, 25, 26, 27, 28, 29, 30, 31, 32, 33, 34, 35, 36, 37, 38, 39, 40, 41, 42, 43, 44, 45, 46, 47, 48, 49, 50, 51, 52, 53, 54, 55, 56, 57, 58, 59, 60, 61, 62, 63, 64, 65, 66, 67, 68, 69, 70, 71, 72, 73, 74, 75, 76, 77, 78, 79, 80, 81, 82, 83, 84, 85, 86, 87, 88] (by decide +kernel) (by decide +kernel)) (goodIn_sub (fun _ h => List.mem_cons_of_mem _ (List.mem_append_right _ h)) (by decide +kernel))
set_option maxRecDepth 20000 in
theorem gL_due_X4_due : GoodIn wsL_due (wsV RL 58 RX4 yX4_due wsX4_due) := goodIn_app (goodIn_of _ (by decide +kernel)) ggL_due_X4_due
theorem dL_due_0 : decode cL_due 0 = .ok (.aload_n 3, 1) := by decide +kernel
theorem dL_due_1 : decode cL_due 1 = .ok (.iconst 0, 1) := by decide +kernel
theorem dL_due_2 : decode cL_due 2 = .ok (.aload_n 0, 1) := by decide +kernel
theorem dL_due_3 : decode cL_due 3 = .ok (.iload_n 1, 1) := by decide +kernel
theorem dL_due_4 : decode cL_due 4 = .ok (.iload_n 2, 1) := by decide +kernel
theorem dL_due_5 : decode cL_due 5 = .ok (.invokevirtual 58, 3) := by decide +kernel
theorem dL_due_8 : decode cL_due 8 = .ok (.i2l, 1) := by decide +kernel
theorem dL_due_9 : decode cL_due 9 = .ok (.lastore, 1) := by decide +kernel
theorem dL_due_10 : decode cL_due 10 = .ok (.goto 7, 3) := by decide +kernel
theorem dL_due_13 : decode cL_due 13 = .ok (.astore 4, 2) := by decide +kernel
theorem dL_due_15 : decode cL_due 15 = .ok (.iconst 1, 1) := by decide +kernel
theorem dL_due_16 : decode cL_due 16 = .ok (.ireturn, 1) := by decide +kernel
theorem dL_due_17 : decode cL_due 17 = .ok (.iconst 0, 1) := by decide +kernel
theorem dL_due_18 : decode cL_due 18 = .ok (.ireturn, 1) := by decide +kernel
set_option maxRecDepth 20000 in
theorem ggL_refund_X4_refund : GoodIn wsL_refund wsX4_refund := goodIn_ca (goodIn_ca (goodIn_r _ [7, 8, 9, 10, 6, 11, 12, 13, 14, 15, 16, 17, 18, 19, 20, 21, 22, 23, 24, 25, 26, 27, 28, 29, 30, 31, 32, 33, 34, 35, 36, 37, 38, 39, 40, 41, 42, 43, 44, 45, 46, 47, 48, 49, 50, 51, 52, 53, 54, 55, 56, 57, 58, 59, 60, 61, 62, 63, 64, 65, 66, 67, 68, 69, 70, 71, 72, 73, 74, 75, 76, 77, 78, 79, 80, 81, 82, 83, 84, 85, 86, 87, 88, 89, 90, 91, 92, 93, 94, 95, 96, 97, 98, 99, 100, 101, 102, 103, 104, 105, 106, 107, 108, 109, 110, 111, 112, 113, 114, 115, 116, 117, 118, 119, 120, 121, 122, 123, 124, 125, 126, 127, 128] (by decide +kernel) (by decide +kernel)) (goodIn_sub (fun _ h => List.mem_cons_of_mem _ (List.mem_append_left _ (List.mem_append_right _ h))) (by decide +kernel))) (goodIn_sub (fun _ h => List.mem_cons_of_mem _ (List.mem_append_right _ h)) (by decide +kernel))
set_option maxRecDepth 20000 in
theorem gL_refund_X4_refund : GoodIn wsL_refund (wsV RL 61 RX4 yX4_refund wsX4_refund) := goodIn_app (goodIn_of _ (by decide +kernel)) ggL_refund_X4_refund
theorem dL_refund_0 : decode cL_refund 0 = .ok (.aload_n 3, 1) := by decide +kernel
theorem dL_refund_1 : decode cL_refund 1 = .ok (.iconst 0, 1) := by decide +kernel
theorem dL_refund_2 : decode cL_refund 2 = .ok (.aload_n 0, 1) := by decide +kernel
theorem dL_refund_3 : decode cL_refund 3 = .ok (.iload_n 1, 1) := by decide +kernel
theorem dL_refund_4 : decode cL_refund 4 = .ok (.iload_n 2, 1) := by decide +kernel
theorem dL_refund_5 : decode cL_refund 5 = .ok (.invokevirtual 61, 3) := by decide +kernel
theorem dL_refund_8 : decode cL_refund 8 = .ok (.i2l, 1) := by decide +kernel
theorem dL_refund_9 : decode cL_refund 9 = .ok (.lastore, 1) := by decide +kernel
theorem dL_refund_10 : decode cL_refund 10 = .ok (.goto 11, 3) := by decide +kernel
theorem dL_refund_13 : decode cL_refund 13 = .ok (.astore 4, 2) := by decide +kernel
theorem dL_refund_15 : decode cL_refund 15 = .ok (.iconst 1, 1) := by decide +kernel
theorem dL_refund_16 : decode cL_refund 16 = .ok (.ireturn, 1) := by decide +kernel
theorem dL_refund_17 : decode cL_refund 17 = .ok (.astore 4, 2) := by decide +kernel
theorem dL_refund_19 : decode cL_refund 19 = .ok (.iconst 2, 1) := by decide +kernel
theorem dL_refund_20 : decode cL_refund 20 = .ok (.ireturn, 1) := by decide +kernel
theorem dL_refund_21 : decode cL_refund 21 = .ok (.iconst 0, 1) := by decide +kernel
theorem dL_refund_22 : decode cL_refund 22 = .ok (.ireturn, 1) := by decide +kernel
set_option maxRecDepth 20000 in
theorem ggL_claim_X4_claim : GoodIn wsL_claim wsX4_claim := goodIn_ca (goodIn_ca (goodIn_r _ [7, 8, 9, 10, 11, 12, 13, 6, 14, 15, 16, 17, 18, 19, 20, 21, 22, 23, 24, 25, 26, 27, 28, 29, 30, 31, 32, 33, 34, 35, 36, 37, 38, 39, 40, 41, 42, 43, 44, 45, 46, 47, 48, 49, 50, 51, 52, 53, 54, 55, 56, 57, 58, 59, 60, 61, 62, 63, 64, 65, 66, 67, 68, 69, 70, 71, 72, 73, 74, 75, 76, 77, 78, 79, 80, 81, 82, 83, 84, 85, 86, 87, 88, 89, 90, 91, 92, 93, 94, 95, 96, 97, 98, 99, 100, 101, 102, 103, 104, 105, 106, 107, 108, 109, 110, 111, 112, 113, 114, 115, 116, 117, 118, 119, 120, 121, 122, 123, 124, 125] (by decide +kernel) (by decide +kernel)) (goodIn_sub (fun _ h => List.mem_cons_of_mem _ (List.mem_append_left _ (List.mem_append_right _ h))) (by decide +kernel))) (goodIn_sub (fun _ h => List.mem_cons_of_mem _ (List.mem_append_right _ h)) (by decide +kernel))
set_option maxRecDepth 20000 in
theorem gL_claim_X4_claim : GoodIn wsL_claim (wsV RL 64 RX4 yX4_claim wsX4_claim) := goodIn_app (goodIn_of _ (by decide +kernel)) ggL_claim_X4_claim
theorem dL_claim_0 : decode cL_claim 0 = .ok (.aload_n 3, 1) := by decide +kernel
theorem dL_claim_1 : decode cL_claim 1 = .ok (.iconst 0, 1) := by decide +kernel
theorem dL_claim_2 : decode cL_claim 2 = .ok (.aload_n 0, 1) := by decide +kernel
theorem dL_claim_3 : decode cL_claim 3 = .ok (.iload_n 1, 1) := by decide +kernel
theorem dL_claim_4 : decode cL_claim 4 = .ok (.iload_n 2, 1) := by decide +kernel
theorem dL_claim_5 : decode cL_claim 5 = .ok (.invokevirtual 64, 3) := by decide +kernel
theorem dL_claim_8 : decode cL_claim 8 = .ok (.i2l, 1) := by decide +kernel
theorem dL_claim_9 : decode cL_claim 9 = .ok (.lastore, 1) := by decide +kernel
theorem dL_claim_10 : decode cL_claim 10 = .ok (.goto 11, 3) := by decide +kernel
theorem dL_claim_13 : decode cL_claim 13 = .ok (.astore 4, 2) := by decide +kernel
theorem dL_claim_15 : decode cL_claim 15 = .ok (.iconst 1, 1) := by decide +kernel
theorem dL_claim_16 : decode cL_claim 16 = .ok (.ireturn, 1) := by decide +kernel
theorem dL_claim_17 : decode cL_claim 17 = .ok (.astore 4, 2) := by decide +kernel
theorem dL_claim_19 : decode cL_claim 19 = .ok (.iconst 2, 1) := by decide +kernel
theorem dL_claim_20 : decode cL_claim 20 = .ok (.ireturn, 1) := by decide +kernel
theorem dL_claim_21 : decode cL_claim 21 = .ok (.iconst 0, 1) := by decide +kernel
theorem dL_claim_22 : decode cL_claim 22 = .ok (.ireturn, 1) := by decide +kernel
set_option maxRecDepth 20000 in
theorem ggL_law_X4_init : GoodIn wsL_law wsX4_init := goodIn_r _ [9, 10, 11, 12, 13, 14, 15, 16, 17, 18, 19, 20, 21, 22, 23, 24, 25, 26, 27, 28, 29, 30, 31, 32, 33, 34, 35, 36, 37, 575, 576, 577, 578, 579, 580, 602, 603, 604] (by decide +kernel) (by decide +kernel)
set_option maxRecDepth 20000 in
theorem gL_law_X4_init : GoodIn wsL_law (wsX4_init) := ggL_law_X4_init
set_option maxRecDepth 20000 in
theorem ggL_law_X5_init : GoodIn wsL_law wsX5_init := goodIn_r _ [40, 41, 11, 12, 13, 42, 43, 44, 45, 46, 47, 48, 49, 50, 51, 52, 53, 54, 55, 56, 57, 58, 581, 582, 583, 584, 585, 586, 587, 588, 589, 590, 591, 592, 593, 594, 595, 596, 597, 598, 599, 600, 601] (by decide +kernel) (by decide +kernel)
set_option maxRecDepth 20000 in
theorem gL_law_X5_init : GoodIn wsL_law (wsX5_init) := ggL_law_X5_init
set_option maxRecDepth 20000 in
theorem ggL_law_L_setTreaty : GoodIn wsL_law wsL_setTreaty := goodIn_ca (goodIn_r _ [62, 63, 64, 65, 66, 2, 67, 68, 69, 14, 15, 70, 71, 72, 73, 74, 75, 575, 576, 577, 578, 579, 580] (by decide +kernel) (by decide +kernel)) (goodIn_sub (fun _ h => List.mem_append_left _ (List.mem_append_left _ (List.mem_append_right _ h))) (by decide +kernel))
set_option maxRecDepth 20000 in
theorem gL_law_L_setTreaty : GoodIn wsL_law (va_wsS RL 71 yL_setTreaty wsL_setTreaty) := goodIn_app (goodIn_of _ (by decide +kernel)) ggL_law_L_setTreaty
set_option maxRecDepth 20000 in
theorem ggL_law_X5_setTreaty : GoodIn wsL_law wsX5_setTreaty := goodIn_r _ [79, 42, 43, 80, 81, 5, 82, 83, 84, 85, 86, 87, 581, 582, 583, 584, 585, 586, 587, 588, 589, 590, 591, 592, 593, 594, 595, 596, 597, 598, 599, 600, 601] (by decide +kernel) (by decide +kernel)
set_option maxRecDepth 20000 in
theorem gL_law_X5_setTreaty : GoodIn wsL_law (wsV RL 76 RX5 yX5_setTreaty wsX5_setTreaty) := goodIn_app (goodIn_of _ (by decide +kernel)) ggL_law_X5_setTreaty
set_option maxRecDepth 20000 in
theorem ggL_law_X5_thrown : GoodIn wsL_law wsX5_thrown := goodIn_r _ [91, 87, 581, 582, 583, 584, 585, 586, 587, 588, 589, 590, 591, 592, 593, 594, 595, 596, 597, 598, 599, 600, 601] (by decide +kernel) (by decide +kernel)
set_option maxRecDepth 20000 in
theorem gL_law_X5_thrown : GoodIn wsL_law (wsV RL 77 RX5 yX5_thrown wsX5_thrown) := goodIn_app (goodIn_of _ (by decide +kernel)) ggL_law_X5_thrown
set_option maxRecDepth 20000 in
theorem ggL_law_L_addHolder : GoodIn wsL_law wsL_addHolder := goodIn_ca (goodIn_ca (goodIn_r _ [94, 63, 95, 96, 97, 98, 2, 99, 68, 69, 100, 101, 19, 102, 103, 104, 73, 74, 75, 70, 71, 72, 105, 106, 107, 18, 108, 109, 110, 111, 112, 11, 12, 13, 113, 114, 115, 116, 117, 118, 119, 120, 121, 122, 123, 124, 27, 125, 126, 127, 128, 129, 130, 131, 132, 133, 134, 135, 136, 26, 137, 138, 139, 140, 141, 142, 143, 144, 145, 146, 147, 148, 149, 150, 151, 152, 153, 154, 155, 156, 157, 158, 159, 160, 161, 162, 163, 164, 165, 166, 167, 168, 169, 170, 575, 576, 577, 578, 579, 580, 605, 606, 607, 608, 609, 610, 602, 603, 604] (by decide +kernel) (by decide +kernel)) (goodIn_sub (fun _ h => List.mem_append_left _ (List.mem_append_left _ (List.mem_append_right _ h))) (by decide +kernel))) (goodIn_sub (fun _ h => List.mem_append_left _ (List.mem_append_right _ h)) (by decide +kernel))
set_option maxRecDepth 20000 in
theorem gL_law_L_addHolder : GoodIn wsL_law (va_wsS RL 81 yL_addHolder wsL_addHolder) := goodIn_app (goodIn_of _ (by decide +kernel)) ggL_law_L_addHolder
set_option maxRecDepth 20000 in
theorem ggL_law_X5_addHolder : GoodIn wsL_law wsX5_addHolder := goodIn_r _ [174, 175, 44, 45, 80, 81, 5, 82, 83, 84, 85, 86, 87, 581, 582, 583, 584, 585, 586, 587, 588, 589, 590, 591, 592, 593, 594, 595, 596, 597, 598, 599, 600, 601] (by decide +kernel) (by decide +kernel)
set_option maxRecDepth 20000 in
theorem gL_law_X5_addHolder : GoodIn wsL_law (wsV RL 84 RX5 yX5_addHolder wsX5_addHolder) := goodIn_app (goodIn_of _ (by decide +kernel)) ggL_law_X5_addHolder
set_option maxRecDepth 20000 in
theorem ggL_law_L_setParts : GoodIn wsL_law wsL_setParts := goodIn_ca (goodIn_ca (goodIn_r _ [178, 179, 63, 180, 181, 182, 2, 183, 68, 69, 184, 185, 186, 187, 188, 189, 19, 190, 191, 192, 193, 194, 105, 106, 107, 18, 108, 109, 73, 74, 75, 195, 196, 197, 198, 199, 200, 201, 202, 203, 204, 205, 206, 207, 208, 209, 210, 27, 211, 104, 212, 213, 113, 214, 215, 216, 605, 606, 607, 608, 609, 610, 575, 576, 577, 578, 579, 580, 602, 603, 604] (by decide +kernel) (by decide +kernel)) (goodIn_sub (fun _ h => List.mem_append_left _ (List.mem_append_left _ (List.mem_append_right _ h))) (by decide +kernel))) (goodIn_sub (fun _ h => List.mem_append_right _ h) (by decide +kernel))
set_option maxRecDepth 20000 in
theorem gL_law_L_setParts : GoodIn wsL_law (va_wsS RL 85 yL_setParts wsL_setParts) := goodIn_app (goodIn_of _ (by decide +kernel)) ggL_law_L_setParts
set_option maxRecDepth 20000 in
theorem ggL_law_X5_setParts : GoodIn wsL_law wsX5_setParts := goodIn_r _ [220, 44, 49, 221, 222, 223, 5, 224, 175, 80, 81, 82, 83, 84, 85, 86, 87, 581, 582, 583, 584, 585, 586, 587, 588, 589, 590, 591, 592, 593, 594, 595, 596, 597, 598, 599, 600, 601] (by decide +kernel) (by decide +kernel)
set_option maxRecDepth 20000 in
theorem gL_law_X5_setParts : GoodIn wsL_law (wsV RL 87 RX5 yX5_setParts wsX5_setParts) := goodIn_app (goodIn_of _ (by decide +kernel)) ggL_law_X5_setParts
set_option maxRecDepth 20000 in
theorem ggL_law_L_setShares : GoodIn wsL_law wsL_setShares := goodIn_ca (goodIn_ca (goodIn_ca (goodIn_r _ [227, 179, 63, 95, 228, 229, 230, 2, 231, 68, 69, 100, 101, 232, 184, 185, 186, 187, 188, 189, 19, 190, 191, 192, 193, 194, 105, 106, 107, 18, 108, 109, 73, 74, 75, 195, 196, 197, 198, 199, 200, 201, 202, 203, 204, 205, 206, 207, 208, 209, 210, 27, 233, 234, 235, 236, 605, 606, 607, 608, 609, 610, 575, 576, 577, 578, 579, 580, 602, 603, 604] (by decide +kernel) (by decide +kernel)) (goodIn_sub (fun _ h => List.mem_append_left _ (List.mem_append_left _ (List.mem_append_right _ h))) (by decide +kernel))) (goodIn_sub (fun _ h => List.mem_append_left _ (List.mem_append_right _ h)) (by decide +kernel))) (goodIn_sub (fun _ h => List.mem_append_right _ h) (by decide +kernel))
set_option maxRecDepth 20000 in
theorem gL_law_L_setShares : GoodIn wsL_law (va_wsS RL 88 yL_setShares wsL_setShares) := goodIn_app (goodIn_of _ (by decide +kernel)) ggL_law_L_setShares
set_option maxRecDepth 20000 in
theorem ggL_law_X5_setShares : GoodIn wsL_law wsX5_setShares := goodIn_r _ [240, 241, 46, 221, 222, 223, 5, 224, 175, 80, 81, 82, 242, 243, 244, 245, 83, 84, 85, 86, 87, 581, 582, 583, 584, 585, 586, 587, 588, 589, 590, 591, 592, 593, 594, 595, 596, 597, 598, 599, 600, 601] (by decide +kernel) (by decide +kernel)
set_option maxRecDepth 20000 in
theorem gL_law_X5_setShares : GoodIn wsL_law (wsV RL 90 RX5 yX5_setShares wsX5_setShares) := goodIn_app (goodIn_of _ (by decide +kernel)) ggL_law_X5_setShares
set_option maxRecDepth 20000 in
theorem ggL_law_L_giveForm : GoodIn wsL_law wsL_giveForm := goodIn_ca (goodIn_r _ [248, 179, 249, 250, 251, 2, 252, 21, 184, 185, 186, 187, 188, 189, 19, 190, 191, 192, 193, 194, 105, 106, 107, 18, 108, 109, 73, 74, 75, 195, 196, 197, 198, 199, 200, 201, 202, 203, 204, 205, 206, 207, 208, 209, 210, 27, 575, 576, 577, 578, 579, 580, 605, 606, 607, 608, 609, 610, 602, 603, 604] (by decide +kernel) (by decide +kernel)) (goodIn_sub (fun _ h => List.mem_append_right _ h) (by decide +kernel))
set_option maxRecDepth 20000 in
theorem gL_law_L_giveForm : GoodIn wsL_law (va_wsS RL 91 yL_giveForm wsL_giveForm) := goodIn_app (goodIn_of _ (by decide +kernel)) ggL_law_L_giveForm
set_option maxRecDepth 20000 in
theorem ggL_law_X5_giveForm : GoodIn wsL_law wsX5_giveForm := goodIn_r _ [256, 47, 257, 221, 222, 223, 5, 224, 175, 80, 81, 82, 83, 84, 85, 86, 87, 581, 582, 583, 584, 585, 586, 587, 588, 589, 590, 591, 592, 593, 594, 595, 596, 597, 598, 599, 600, 601] (by decide +kernel) (by decide +kernel)
set_option maxRecDepth 20000 in
theorem gL_law_X5_giveForm : GoodIn wsL_law (wsV RL 94 RX5 yX5_giveForm wsX5_giveForm) := goodIn_app (goodIn_of _ (by decide +kernel)) ggL_law_X5_giveForm
set_option maxRecDepth 20000 in
theorem ggL_law_L_pass : GoodIn wsL_law wsL_pass := goodIn_ca (goodIn_ca (goodIn_r _ [260, 63, 95, 261, 262, 263, 2, 264, 68, 69, 100, 101, 21, 19, 190, 73, 74, 75, 105, 106, 107, 18, 108, 109, 195, 196, 197, 198, 199, 200, 201, 202, 203, 204, 205, 206, 207, 208, 209, 210, 27, 265, 104, 266, 267, 114, 268, 116, 575, 576, 577, 578, 579, 580, 602, 603, 604, 605, 606, 607, 608, 609, 610] (by decide +kernel) (by decide +kernel)) (goodIn_sub (fun _ h => List.mem_append_left _ (List.mem_append_left _ (List.mem_append_right _ h))) (by decide +kernel))) (goodIn_sub (fun _ h => List.mem_append_left _ (List.mem_append_right _ h)) (by decide +kernel))
set_option maxRecDepth 20000 in
theorem gL_law_L_pass : GoodIn wsL_law (va_wsS RL 95 yL_pass wsL_pass) := goodIn_app (goodIn_of _ (by decide +kernel)) ggL_law_L_pass
set_option maxRecDepth 20000 in
theorem ggL_law_X5_pass : GoodIn wsL_law wsX5_pass := goodIn_r _ [272, 257, 175, 48, 46, 273, 80, 81, 5, 82, 83, 84, 85, 86, 87, 581, 582, 583, 584, 585, 586, 587, 588, 589, 590, 591, 592, 593, 594, 595, 596, 597, 598, 599, 600, 601] (by decide +kernel) (by decide +kernel)
set_option maxRecDepth 20000 in
theorem gL_law_X5_pass : GoodIn wsL_law (wsV RL 97 RX5 yX5_pass wsX5_pass) := goodIn_app (goodIn_of _ (by decide +kernel)) ggL_law_X5_pass
set_option maxRecDepth 20000 in
theorem ggL_law_X4_day : GoodIn wsL_law wsX4_day := goodIn_r _ [277, 21, 575, 576, 577, 578, 579, 580] (by decide +kernel) (by decide +kernel)
set_option maxRecDepth 20000 in
theorem gL_law_X4_day : GoodIn wsL_law (wsV RL 98 RX4 yX4_day wsX4_day) := goodIn_app (goodIn_of _ (by decide +kernel)) ggL_law_X4_day
set_option maxRecDepth 20000 in
theorem ggL_law_X5_day : GoodIn wsL_law wsX5_day := goodIn_r _ [281, 87, 257, 581, 582, 583, 584, 585, 586, 587, 588, 589, 590, 591, 592, 593, 594, 595, 596, 597, 598, 599, 600, 601] (by decide +kernel) (by decide +kernel)
set_option maxRecDepth 20000 in
theorem gL_law_X5_day : GoodIn wsL_law (wsV RL 101 RX5 yX5_day wsX5_day) := goodIn_app (goodIn_of _ (by decide +kernel)) ggL_law_X5_day
set_option maxRecDepth 20000 in
theorem ggL_law_L_shares : GoodIn wsL_law wsL_shares := goodIn_ca (goodIn_r _ [284, 179, 285, 286, 287, 2, 288, 184, 185, 186, 187, 188, 189, 19, 190, 191, 192, 193, 194, 105, 106, 107, 18, 108, 109, 73, 74, 75, 195, 196, 197, 198, 199, 200, 201, 202, 203, 204, 205, 206, 207, 208, 209, 210, 27, 605, 606, 607, 608, 609, 610, 575, 576, 577, 578, 579, 580, 602, 603, 604] (by decide +kernel) (by decide +kernel)) (goodIn_sub (fun _ h => List.mem_append_right _ h) (by decide +kernel))
set_option maxRecDepth 20000 in
theorem gL_law_L_shares : GoodIn wsL_law (va_wsS RL 102 yL_shares wsL_shares) := goodIn_app (goodIn_of _ (by decide +kernel)) ggL_law_L_shares
set_option maxRecDepth 20000 in
theorem ggL_law_X5_shares : GoodIn wsL_law wsX5_shares := goodIn_r _ [292, 46, 293, 294, 295, 5, 296, 221, 222, 223, 224, 175, 80, 81, 82, 83, 84, 85, 86, 87, 581, 582, 583, 584, 585, 586, 587, 588, 589, 590, 591, 592, 593, 594, 595, 596, 597, 598, 599, 600, 601] (by decide +kernel) (by decide +kernel)
set_option maxRecDepth 20000 in
theorem gL_law_X5_shares : GoodIn wsL_law (wsV RL 104 RX5 yX5_shares wsX5_shares) := goodIn_app (goodIn_of _ (by decide +kernel)) ggL_law_X5_shares
set_option maxRecDepth 20000 in
theorem ggL_law_L_isValid : GoodIn wsL_law wsL_isValid := goodIn_ca (goodIn_r _ [299, 179, 300, 301, 302, 2, 303, 21, 184, 185, 186, 187, 188, 189, 19, 190, 191, 192, 193, 194, 105, 106, 107, 18, 108, 109, 73, 74, 75, 195, 196, 197, 198, 199, 200, 201, 202, 203, 204, 205, 206, 207, 208, 209, 210, 27, 304, 104, 305, 306, 115, 575, 576, 577, 578, 579, 580, 602, 603, 604, 605, 606, 607, 608, 609, 610] (by decide +kernel) (by decide +kernel)) (goodIn_sub (fun _ h => List.mem_append_right _ h) (by decide +kernel))
set_option maxRecDepth 20000 in
theorem gL_law_L_isValid : GoodIn wsL_law (va_wsS RL 105 yL_isValid wsL_isValid) := goodIn_app (goodIn_of _ (by decide +kernel)) ggL_law_L_isValid
set_option maxRecDepth 20000 in
theorem ggL_law_X5_isValid : GoodIn wsL_law wsX5_isValid := goodIn_r _ [310, 293, 294, 295, 5, 296, 221, 222, 223, 224, 175, 80, 81, 82, 83, 84, 85, 86, 87, 311, 312, 313, 314, 47, 257, 581, 582, 583, 584, 585, 586, 587, 588, 589, 590, 591, 592, 593, 594, 595, 596, 597, 598, 599, 600, 601] (by decide +kernel) (by decide +kernel)
set_option maxRecDepth 20000 in
theorem gL_law_X5_isValid : GoodIn wsL_law (wsV RL 107 RX5 yX5_isValid wsX5_isValid) := goodIn_app (goodIn_of _ (by decide +kernel)) ggL_law_X5_isValid
set_option maxRecDepth 20000 in
theorem ggL_law_L_isLarge : GoodIn wsL_law wsL_isLarge := goodIn_ca (goodIn_r _ [317, 179, 318, 319, 320, 2, 321, 21, 184, 185, 186, 187, 188, 189, 19, 190, 191, 192, 193, 194, 105, 106, 107, 18, 108, 109, 73, 74, 75, 195, 196, 197, 198, 199, 200, 201, 202, 203, 204, 205, 206, 207, 208, 209, 210, 27, 322, 104, 323, 324, 117, 114, 268, 116, 575, 576, 577, 578, 579, 580, 602, 603, 604, 605, 606, 607, 608, 609, 610] (by decide +kernel) (by decide +kernel)) (goodIn_sub (fun _ h => List.mem_append_right _ h) (by decide +kernel))
set_option maxRecDepth 20000 in
theorem gL_law_L_isLarge : GoodIn wsL_law (va_wsS RL 108 yL_isLarge wsL_isLarge) := goodIn_app (goodIn_of _ (by decide +kernel)) ggL_law_L_isLarge
set_option maxRecDepth 20000 in
theorem ggL_law_X5_isLarge : GoodIn wsL_law wsX5_isLarge := goodIn_r _ [328, 293, 294, 295, 5, 296, 221, 222, 223, 224, 175, 80, 81, 82, 83, 84, 85, 86, 87, 329, 330, 331, 332, 44, 46, 273, 48, 257, 581, 582, 583, 584, 585, 586, 587, 588, 589, 590, 591, 592, 593, 594, 595, 596, 597, 598, 599, 600, 601] (by decide +kernel) (by decide +kernel)
set_option maxRecDepth 20000 in
theorem gL_law_X5_isLarge : GoodIn wsL_law (wsV RL 110 RX5 yX5_isLarge wsX5_isLarge) := goodIn_app (goodIn_of _ (by decide +kernel)) ggL_law_X5_isLarge
set_option maxRecDepth 20000 in
theorem ggL_law_L_treatyRate : GoodIn wsL_law wsL_treatyRate := goodIn_ca (goodIn_ca (goodIn_r _ [335, 179, 63, 336, 337, 338, 2, 339, 68, 69, 184, 185, 186, 187, 188, 189, 19, 190, 191, 192, 193, 194, 105, 106, 107, 18, 108, 109, 73, 74, 75, 195, 196, 197, 198, 199, 200, 201, 202, 203, 204, 205, 206, 207, 208, 209, 210, 27, 340, 341, 342, 343, 14, 21, 15, 344, 165, 139, 166, 345, 346, 347, 70, 71, 72, 322, 104, 323, 324, 117, 114, 268, 116, 605, 606, 607, 608, 609, 610, 575, 576, 577, 578, 579, 580, 602, 603, 604] (by decide +kernel) (by decide +kernel)) (goodIn_sub (fun _ h => List.mem_append_left _ (List.mem_append_left _ (List.mem_append_right _ h))) (by decide +kernel))) (goodIn_sub (fun _ h => List.mem_append_right _ h) (by decide +kernel))
set_option maxRecDepth 20000 in
theorem gL_law_L_treatyRate : GoodIn wsL_law (va_wsS RL 111 yL_treatyRate wsL_treatyRate) := goodIn_app (goodIn_of _ (by decide +kernel)) ggL_law_L_treatyRate
set_option maxRecDepth 20000 in
theorem ggL_law_X5_treatyRate : GoodIn wsL_law wsX5_treatyRate := goodIn_r _ [351, 44, 221, 222, 223, 5, 224, 175, 80, 81, 82, 83, 84, 85, 86, 87, 352, 353, 354, 355, 42, 45, 43, 329, 330, 331, 332, 46, 273, 48, 257, 581, 582, 583, 584, 585, 586, 587, 588, 589, 590, 591, 592, 593, 594, 595, 596, 597, 598, 599, 600, 601] (by decide +kernel) (by decide +kernel)
set_option maxRecDepth 20000 in
theorem gL_law_X5_treatyRate : GoodIn wsL_law (wsV RL 113 RX5 yX5_treatyRate wsX5_treatyRate) := goodIn_app (goodIn_of _ (by decide +kernel)) ggL_law_X5_treatyRate
set_option maxRecDepth 20000 in
theorem ggL_law_L_pay : GoodIn wsL_law wsL_pay := goodIn_ca (goodIn_ca (goodIn_r _ [358, 63, 95, 359, 360, 361, 2, 362, 68, 69, 100, 101, 20, 363, 364, 365, 21, 19, 190, 73, 74, 75, 105, 106, 107, 18, 108, 109, 233, 234, 235, 236, 195, 196, 197, 198, 199, 200, 201, 202, 203, 204, 205, 206, 207, 208, 209, 210, 27, 366, 367, 368, 369, 304, 104, 305, 306, 115, 370, 371, 372, 373, 374, 375, 11, 12, 376, 377, 378, 379, 380, 381, 382, 383, 384, 385, 386, 387, 388, 389, 390, 391, 392, 393, 17, 394, 395, 396, 397, 24, 25, 26, 28, 29, 30, 31, 32, 33, 34, 35, 36, 37, 398, 399, 400, 401, 14, 402, 403, 404, 113, 405, 406, 407, 408, 409, 410, 411, 412, 413, 414, 120, 121, 122, 123, 124, 125, 126, 127, 128, 129, 130, 131, 132, 133, 134, 135, 136, 137, 138, 139, 140, 141, 142, 143, 144, 145, 146, 147, 148, 149, 150, 151, 152, 153, 154, 155, 156, 157, 158, 159, 160, 161, 162, 163, 164, 165, 166, 167, 168, 169, 170, 211, 212, 213, 415, 416, 417, 345, 346, 347, 70, 71, 72, 340, 341, 342, 343, 15, 344, 322, 323, 324, 117, 114, 268, 116, 418, 419, 420, 421, 422, 423, 424, 425, 426, 427, 428, 429, 430, 119, 575, 576, 577, 578, 579, 580, 611, 612, 613, 605, 606, 607, 608, 609, 610, 602, 603, 604, 614, 615, 616, 617, 618, 619] (by decide +kernel) (by decide +kernel)) (goodIn_sub (fun _ h => List.mem_append_left _ (List.mem_append_left _ (List.mem_append_right _ h))) (by decide +kernel))) (goodIn_sub (fun _ h => List.mem_append_left _ (List.mem_append_right _ h)) (by decide +kernel))
set_option maxRecDepth 20000 in
theorem gL_law_L_pay : GoodIn wsL_law (va_wsS RL 114 yL_pay wsL_pay) := goodIn_app (goodIn_of _ (by decide +kernel)) ggL_law_L_pay
set_option maxRecDepth 20000 in
theorem ggL_law_X5_pay : GoodIn wsL_law wsX5_pay := goodIn_r _ [434, 435, 50, 257, 175, 51, 46, 57, 54, 44, 42, 45, 55, 58, 49, 52, 53, 80, 81, 5, 82, 242, 243, 244, 245, 83, 84, 85, 86, 87, 311, 312, 313, 314, 47, 352, 353, 354, 355, 43, 329, 330, 331, 332, 273, 48, 436, 437, 438, 439, 440, 441, 442, 443, 444, 445, 446, 447, 448, 449, 450, 451, 581, 582, 583, 584, 585, 586, 587, 588, 589, 590, 591, 592, 593, 594, 595, 596, 597, 598, 599, 600, 601] (by decide +kernel) (by decide +kernel)
set_option maxRecDepth 20000 in
theorem gL_law_X5_pay : GoodIn wsL_law (wsV RL 116 RX5 yX5_pay wsX5_pay) := goodIn_app (goodIn_of _ (by decide +kernel)) ggL_law_X5_pay
set_option maxRecDepth 20000 in
theorem ggL_law_X4_dividends : GoodIn wsL_law wsX4_dividends := goodIn_r _ [455, 20, 105, 106, 107, 18, 108, 109, 575, 576, 577, 578, 579, 580, 602, 603, 604] (by decide +kernel) (by decide +kernel)
set_option maxRecDepth 20000 in
theorem gL_law_X4_dividends : GoodIn wsL_law (wsV RL 117 RX4 yX4_dividends wsX4_dividends) := goodIn_app (goodIn_of _ (by decide +kernel)) ggL_law_X4_dividends
set_option maxRecDepth 20000 in
theorem ggL_law_X5_dividends : GoodIn wsL_law wsX5_dividends := goodIn_r _ [459, 87, 435, 581, 582, 583, 584, 585, 586, 587, 588, 589, 590, 591, 592, 593, 594, 595, 596, 597, 598, 599, 600, 601] (by decide +kernel) (by decide +kernel)
set_option maxRecDepth 20000 in
theorem gL_law_X5_dividends : GoodIn wsL_law (wsV RL 120 RX5 yX5_dividends wsX5_dividends) := goodIn_app (goodIn_of _ (by decide +kernel)) ggL_law_X5_dividends
set_option maxRecDepth 20000 in
theorem ggL_law_L_gross : GoodIn wsL_law wsL_gross := goodIn_ca (goodIn_r _ [462, 179, 463, 464, 465, 2, 466, 467, 468, 469, 470, 188, 189, 471, 472, 473, 474, 20, 475, 105, 106, 107, 18, 108, 109, 73, 74, 75, 195, 196, 197, 198, 199, 200, 201, 202, 203, 204, 205, 206, 207, 208, 209, 210, 27, 191, 192, 193, 194, 19, 476, 365, 477, 478, 377, 614, 615, 616, 575, 576, 577, 578, 579, 580, 602, 603, 604, 611, 612, 613] (by decide +kernel) (by decide +kernel)) (goodIn_sub (fun _ h => List.mem_append_right _ h) (by decide +kernel))
set_option maxRecDepth 20000 in
theorem gL_law_L_gross : GoodIn wsL_law (va_wsS RL 121 yL_gross wsL_gross) := goodIn_app (goodIn_of _ (by decide +kernel)) ggL_law_L_gross
set_option maxRecDepth 20000 in
theorem ggL_law_X5_gross : GoodIn wsL_law wsX5_gross := goodIn_r _ [482, 51, 483, 484, 485, 5, 486, 487, 488, 489, 490, 435, 80, 81, 82, 221, 222, 223, 224, 175, 83, 84, 85, 86, 87, 581, 582, 583, 584, 585, 586, 587, 588, 589, 590, 591, 592, 593, 594, 595, 596, 597, 598, 599, 600, 601] (by decide +kernel) (by decide +kernel)
set_option maxRecDepth 20000 in
theorem gL_law_X5_gross : GoodIn wsL_law (wsV RL 123 RX5 yX5_gross wsX5_gross) := goodIn_app (goodIn_of _ (by decide +kernel)) ggL_law_X5_gross
set_option maxRecDepth 20000 in
theorem ggL_law_L_held : GoodIn wsL_law wsL_held := goodIn_ca (goodIn_r _ [493, 179, 494, 495, 496, 2, 497, 467, 468, 469, 470, 188, 189, 471, 472, 473, 474, 20, 475, 105, 106, 107, 18, 108, 109, 73, 74, 75, 195, 196, 197, 198, 199, 200, 201, 202, 203, 204, 205, 206, 207, 208, 209, 210, 27, 191, 192, 193, 194, 19, 476, 365, 477, 478, 377, 614, 615, 616, 575, 576, 577, 578, 579, 580, 602, 603, 604, 611, 612, 613] (by decide +kernel) (by decide +kernel)) (goodIn_sub (fun _ h => List.mem_append_right _ h) (by decide +kernel))
set_option maxRecDepth 20000 in
theorem gL_law_L_held : GoodIn wsL_law (va_wsS RL 124 yL_held wsL_held) := goodIn_app (goodIn_of _ (by decide +kernel)) ggL_law_L_held
set_option maxRecDepth 20000 in
theorem ggL_law_X5_held : GoodIn wsL_law wsX5_held := goodIn_r _ [501, 52, 483, 484, 485, 5, 486, 487, 488, 489, 490, 435, 80, 81, 82, 221, 222, 223, 224, 175, 83, 84, 85, 86, 87, 581, 582, 583, 584, 585, 586, 587, 588, 589, 590, 591, 592, 593, 594, 595, 596, 597, 598, 599, 600, 601] (by decide +kernel) (by decide +kernel)
set_option maxRecDepth 20000 in
theorem gL_law_X5_held : GoodIn wsL_law (wsV RL 126 RX5 yX5_held wsX5_held) := goodIn_app (goodIn_of _ (by decide +kernel)) ggL_law_X5_held
set_option maxRecDepth 20000 in
theorem ggL_law_L_due : GoodIn wsL_law wsL_due := goodIn_ca (goodIn_r _ [504, 179, 505, 506, 507, 2, 508, 467, 468, 469, 470, 188, 189, 471, 472, 473, 474, 20, 475, 105, 106, 107, 18, 108, 109, 73, 74, 75, 195, 196, 197, 198, 199, 200, 201, 202, 203, 204, 205, 206, 207, 208, 209, 210, 27, 191, 192, 193, 194, 19, 476, 365, 477, 478, 377, 421, 386, 422, 423, 394, 424, 425, 426, 427, 389, 428, 429, 410, 409, 408, 430, 575, 576, 577, 578, 579, 580, 602, 603, 604, 611, 612, 613, 614, 615, 616, 617, 618, 619] (by decide +kernel) (by decide +kernel)) (goodIn_sub (fun _ h => List.mem_append_right _ h) (by decide +kernel))
set_option maxRecDepth 20000 in
theorem gL_law_L_due : GoodIn wsL_law (va_wsS RL 127 yL_due wsL_due) := goodIn_app (goodIn_of _ (by decide +kernel)) ggL_law_L_due
set_option maxRecDepth 20000 in
theorem ggL_law_X5_due : GoodIn wsL_law wsX5_due := goodIn_r _ [512, 53, 483, 484, 485, 5, 486, 487, 488, 489, 490, 435, 80, 81, 82, 221, 222, 223, 224, 175, 83, 84, 85, 86, 87, 581, 582, 583, 584, 585, 586, 587, 588, 589, 590, 591, 592, 593, 594, 595, 596, 597, 598, 599, 600, 601] (by decide +kernel) (by decide +kernel)
set_option maxRecDepth 20000 in
theorem gL_law_X5_due : GoodIn wsL_law (wsV RL 129 RX5 yX5_due wsX5_due) := goodIn_app (goodIn_of _ (by decide +kernel)) ggL_law_X5_due
set_option maxRecDepth 20000 in
theorem ggL_law_X4_heldInAll : GoodIn wsL_law wsX4_heldInAll := goodIn_r _ [516, 20, 475, 105, 106, 107, 18, 108, 109, 195, 196, 197, 198, 199, 200, 201, 202, 203, 204, 205, 206, 207, 208, 209, 210, 27, 517, 365, 518, 519, 377, 575, 576, 577, 578, 579, 580, 602, 603, 604, 611, 612, 613, 614, 615, 616] (by decide +kernel) (by decide +kernel)
set_option maxRecDepth 20000 in
theorem gL_law_X4_heldInAll : GoodIn wsL_law (wsV RL 130 RX4 yX4_heldInAll wsX4_heldInAll) := goodIn_app (goodIn_of _ (by decide +kernel)) ggL_law_X4_heldInAll
set_option maxRecDepth 20000 in
theorem ggL_law_X5_heldInAll : GoodIn wsL_law wsX5_heldInAll := goodIn_r _ [523, 87, 52, 581, 582, 583, 584, 585, 586, 587, 588, 589, 590, 591, 592, 593, 594, 595, 596, 597, 598, 599, 600, 601] (by decide +kernel) (by decide +kernel)
set_option maxRecDepth 20000 in
theorem gL_law_X5_heldInAll : GoodIn wsL_law (wsV RL 134 RX5 yX5_heldInAll wsX5_heldInAll) := goodIn_app (goodIn_of _ (by decide +kernel)) ggL_law_X5_heldInAll
set_option maxRecDepth 20000 in
theorem ggL_law_X4_refunded : GoodIn wsL_law wsX4_refunded := goodIn_r _ [527, 22, 575, 576, 577, 578, 579, 580] (by decide +kernel) (by decide +kernel)
set_option maxRecDepth 20000 in
theorem gL_law_X4_refunded : GoodIn wsL_law (wsV RL 135 RX4 yX4_refunded wsX4_refunded) := goodIn_app (goodIn_of _ (by decide +kernel)) ggL_law_X4_refunded
set_option maxRecDepth 20000 in
theorem ggL_law_X5_refunded : GoodIn wsL_law wsX5_refunded := goodIn_r _ [531, 87, 532, 581, 582, 583, 584, 585, 586, 587, 588, 589, 590, 591, 592, 593, 594, 595, 596, 597, 598, 599, 600, 601] (by decide +kernel) (by decide +kernel)
set_option maxRecDepth 20000 in
theorem gL_law_X5_refunded : GoodIn wsL_law (wsV RL 138 RX5 yX5_refunded wsX5_refunded) := goodIn_app (goodIn_of _ (by decide +kernel)) ggL_law_X5_refunded
set_option maxRecDepth 20000 in
theorem ggL_law_L_refund : GoodIn wsL_law wsL_refund := goodIn_ca (goodIn_ca (goodIn_r _ [535, 179, 95, 536, 537, 538, 2, 539, 540, 541, 542, 543, 100, 101, 21, 467, 468, 469, 470, 188, 189, 471, 472, 473, 474, 20, 475, 105, 106, 107, 18, 108, 109, 73, 74, 75, 195, 196, 197, 198, 199, 200, 201, 202, 203, 204, 205, 206, 207, 208, 209, 210, 27, 191, 192, 193, 194, 19, 476, 365, 477, 478, 377, 366, 367, 368, 369, 190, 304, 104, 305, 306, 115, 370, 371, 372, 421, 386, 422, 423, 394, 424, 425, 426, 427, 389, 428, 429, 410, 409, 408, 430, 544, 545, 546, 547, 22, 548, 549, 550, 395, 551, 138, 139, 140, 611, 612, 613, 575, 576, 577, 578, 579, 580, 602, 603, 604, 605, 606, 607, 608, 609, 610, 614, 615, 616, 617, 618, 619] (by decide +kernel) (by decide +kernel)) (goodIn_sub (fun _ h => List.mem_append_left _ (List.mem_append_right _ h)) (by decide +kernel))) (goodIn_sub (fun _ h => List.mem_append_right _ h) (by decide +kernel))
set_option maxRecDepth 20000 in
theorem gL_law_L_refund : GoodIn wsL_law (va_wsS RL 139 yL_refund wsL_refund) := goodIn_app (goodIn_of _ (by decide +kernel)) ggL_law_L_refund
set_option maxRecDepth 20000 in
theorem ggL_law_X5_refund : GoodIn wsL_law wsX5_refund := goodIn_r _ [555, 487, 488, 489, 5, 490, 435, 80, 81, 82, 221, 222, 223, 224, 175, 556, 557, 558, 559, 51, 257, 50, 83, 84, 85, 86, 87, 436, 437, 438, 439, 44, 55, 440, 441, 442, 443, 58, 54, 444, 445, 446, 447, 448, 449, 450, 451, 57, 311, 312, 313, 314, 47, 560, 561, 562, 563, 52, 532, 581, 582, 583, 584, 585, 586, 587, 588, 589, 590, 591, 592, 593, 594, 595, 596, 597, 598, 599, 600, 601] (by decide +kernel) (by decide +kernel)
set_option maxRecDepth 20000 in
theorem gL_law_X5_refund : GoodIn wsL_law (wsV RL 141 RX5 yX5_refund wsX5_refund) := goodIn_app (goodIn_of _ (by decide +kernel)) ggL_law_X5_refund
set_option maxRecDepth 20000 in
theorem ggL_law_L_claim : GoodIn wsL_law wsL_claim := goodIn_ca (goodIn_ca (goodIn_r _ [566, 179, 95, 567, 568, 569, 2, 570, 100, 101, 21, 540, 541, 542, 543, 467, 468, 469, 470, 188, 189, 471, 472, 473, 474, 20, 475, 105, 106, 107, 18, 108, 109, 73, 74, 75, 195, 196, 197, 198, 199, 200, 201, 202, 203, 204, 205, 206, 207, 208, 209, 210, 27, 191, 192, 193, 194, 19, 476, 365, 477, 478, 377, 184, 185, 186, 187, 190, 304, 104, 305, 306, 115, 421, 386, 422, 423, 394, 424, 425, 426, 427, 389, 428, 429, 410, 409, 408, 430, 544, 545, 546, 547, 22, 548, 549, 550, 395, 551, 138, 139, 140, 575, 576, 577, 578, 579, 580, 611, 612, 613, 602, 603, 604, 605, 606, 607, 608, 609, 610, 614, 615, 616, 617, 618, 619] (by decide +kernel) (by decide +kernel)) (goodIn_sub (fun _ h => List.mem_append_left _ (List.mem_append_right _ h)) (by decide +kernel))) (goodIn_sub (fun _ h => List.mem_append_right _ h) (by decide +kernel))
set_option maxRecDepth 20000 in
theorem gL_law_L_claim : GoodIn wsL_law (va_wsS RL 142 yL_claim wsL_claim) := goodIn_app (goodIn_of _ (by decide +kernel)) ggL_law_L_claim
set_option maxRecDepth 20000 in
theorem ggL_law_X5_claim : GoodIn wsL_law wsX5_claim := goodIn_r _ [574, 53, 487, 488, 489, 5, 490, 435, 80, 81, 82, 221, 222, 223, 224, 175, 556, 557, 558, 559, 51, 257, 50, 311, 312, 313, 314, 47, 83, 84, 85, 86, 87, 560, 561, 562, 563, 52, 532, 581, 582, 583, 584, 585, 586, 587, 588, 589, 590, 591, 592, 593, 594, 595, 596, 597, 598, 599, 600, 601] (by decide +kernel) (by decide +kernel)
set_option maxRecDepth 20000 in
theorem gL_law_X5_claim : GoodIn wsL_law (wsV RL 144 RX5 yX5_claim wsX5_claim) := goodIn_app (goodIn_of _ (by decide +kernel)) ggL_law_X5_claim
theorem dL_law_0 : decode cL_law 0 = .ok (.new 8, 3) := by decide +kernel
theorem dL_law_3 : decode cL_law 3 = .ok (.dup, 1) := by decide +kernel
theorem dL_law_4 : decode cL_law 4 = .ok (.invokespecial 67, 3) := by decide +kernel
theorem dL_law_7 : decode cL_law 7 = .ok (.astore_n 1, 1) := by decide +kernel
theorem dL_law_8 : decode cL_law 8 = .ok (.new 68, 3) := by decide +kernel
theorem dL_law_11 : decode cL_law 11 = .ok (.dup, 1) := by decide +kernel
theorem dL_law_12 : decode cL_law 12 = .ok (.invokespecial 70, 3) := by decide +kernel
theorem dL_law_15 : decode cL_law 15 = .ok (.astore_n 2, 1) := by decide +kernel
theorem dL_law_16 : decode cL_law 16 = .ok (.iconst 1, 1) := by decide +kernel
theorem dL_law_17 : decode cL_law 17 = .ok (.newarray .long, 2) := by decide +kernel
theorem dL_law_19 : decode cL_law 19 = .ok (.astore_n 3, 1) := by decide +kernel
theorem dL_law_20 : decode cL_law 20 = .ok (.iconst 0, 1) := by decide +kernel
theorem dL_law_21 : decode cL_law 21 = .ok (.istore 4, 2) := by decide +kernel
theorem dL_law_23 : decode cL_law 23 = .ok (.iload 4, 2) := by decide +kernel
theorem dL_law_25 : decode cL_law 25 = .ok (.aload_n 0, 1) := by decide +kernel
theorem dL_law_26 : decode cL_law 26 = .ok (.arraylength, 1) := by decide +kernel
theorem dL_law_27 : decode cL_law 27 = .ok (.iconst 4, 1) := by decide +kernel
theorem dL_law_28 : decode cL_law 28 = .ok (.isub, 1) := by decide +kernel
theorem dL_law_29 : decode cL_law 29 = .ok (.if_icmp .gt 1205, 3) := by decide +kernel
theorem dL_law_32 : decode cL_law 32 = .ok (.aload_n 0, 1) := by decide +kernel
theorem dL_law_33 : decode cL_law 33 = .ok (.iload 4, 2) := by decide +kernel
theorem dL_law_35 : decode cL_law 35 = .ok (.iaload, 1) := by decide +kernel
theorem dL_law_36 : decode cL_law 36 = .ok (.bipush 31, 2) := by decide +kernel
theorem dL_law_38 : decode cL_law 38 = .ok (.iand, 1) := by decide +kernel
theorem dL_law_39 : decode cL_law 39 = .ok (.tableswitch 1189 0 19 #[93, 173, 241, 321, 389, 445, 501, 514, 570, 633, 696, 752, 808, 821, 889, 957, 1025, 1039, 1053, 1121], 93) := by decide +kernel
theorem dL_law_132 : decode cL_law 132 = .ok (.aload_n 1, 1) := by decide +kernel
theorem dL_law_133 : decode cL_law 133 = .ok (.aload_n 0, 1) := by decide +kernel
theorem dL_law_134 : decode cL_law 134 = .ok (.iload 4, 2) := by decide +kernel
theorem dL_law_136 : decode cL_law 136 = .ok (.iconst 1, 1) := by decide +kernel
theorem dL_law_137 : decode cL_law 137 = .ok (.iadd, 1) := by decide +kernel
theorem dL_law_138 : decode cL_law 138 = .ok (.iaload, 1) := by decide +kernel
theorem dL_law_139 : decode cL_law 139 = .ok (.aload_n 0, 1) := by decide +kernel
theorem dL_law_140 : decode cL_law 140 = .ok (.iload 4, 2) := by decide +kernel
theorem dL_law_142 : decode cL_law 142 = .ok (.iconst 2, 1) := by decide +kernel
theorem dL_law_143 : decode cL_law 143 = .ok (.iadd, 1) := by decide +kernel
theorem dL_law_144 : decode cL_law 144 = .ok (.iaload, 1) := by decide +kernel
theorem dL_law_145 : decode cL_law 145 = .ok (.aload_n 0, 1) := by decide +kernel
theorem dL_law_146 : decode cL_law 146 = .ok (.iload 4, 2) := by decide +kernel
theorem dL_law_148 : decode cL_law 148 = .ok (.iconst 3, 1) := by decide +kernel
theorem dL_law_149 : decode cL_law 149 = .ok (.iadd, 1) := by decide +kernel
theorem dL_law_150 : decode cL_law 150 = .ok (.iaload, 1) := by decide +kernel
theorem dL_law_151 : decode cL_law 151 = .ok (.aload_n 3, 1) := by decide +kernel
theorem dL_law_152 : decode cL_law 152 = .ok (.invokestatic 71, 3) := by decide +kernel
theorem dL_law_155 : decode cL_law 155 = .ok (.istore 5, 2) := by decide +kernel
theorem dL_law_157 : decode cL_law 157 = .ok (.aload_n 2, 1) := by decide +kernel
theorem dL_law_158 : decode cL_law 158 = .ok (.aload_n 0, 1) := by decide +kernel
theorem dL_law_159 : decode cL_law 159 = .ok (.iload 4, 2) := by decide +kernel
theorem dL_law_161 : decode cL_law 161 = .ok (.iconst 1, 1) := by decide +kernel
theorem dL_law_162 : decode cL_law 162 = .ok (.iadd, 1) := by decide +kernel
theorem dL_law_163 : decode cL_law 163 = .ok (.iaload, 1) := by decide +kernel
theorem dL_law_164 : decode cL_law 164 = .ok (.aload_n 0, 1) := by decide +kernel
theorem dL_law_165 : decode cL_law 165 = .ok (.iload 4, 2) := by decide +kernel
theorem dL_law_167 : decode cL_law 167 = .ok (.iconst 2, 1) := by decide +kernel
theorem dL_law_168 : decode cL_law 168 = .ok (.iadd, 1) := by decide +kernel
theorem dL_law_169 : decode cL_law 169 = .ok (.iaload, 1) := by decide +kernel
theorem dL_law_170 : decode cL_law 170 = .ok (.aload_n 0, 1) := by decide +kernel
theorem dL_law_171 : decode cL_law 171 = .ok (.iload 4, 2) := by decide +kernel
theorem dL_law_173 : decode cL_law 173 = .ok (.iconst 3, 1) := by decide +kernel
theorem dL_law_174 : decode cL_law 174 = .ok (.iadd, 1) := by decide +kernel
theorem dL_law_175 : decode cL_law 175 = .ok (.iaload, 1) := by decide +kernel
theorem dL_law_176 : decode cL_law 176 = .ok (.invokevirtual 76, 3) := by decide +kernel
theorem dL_law_179 : decode cL_law 179 = .ok (.istore 6, 2) := by decide +kernel
theorem dL_law_181 : decode cL_law 181 = .ok (.aload_n 2, 1) := by decide +kernel
theorem dL_law_182 : decode cL_law 182 = .ok (.invokevirtual 77, 3) := by decide +kernel
theorem dL_law_185 : decode cL_law 185 = .ok (.iload 5, 2) := by decide +kernel
theorem dL_law_187 : decode cL_law 187 = .ok (.if_icmp .eq 5, 3) := by decide +kernel
theorem dL_law_190 : decode cL_law 190 = .ok (.iconst 0, 1) := by decide +kernel
theorem dL_law_191 : decode cL_law 191 = .ok (.ireturn, 1) := by decide +kernel
theorem dL_law_192 : decode cL_law 192 = .ok (.iload 5, 2) := by decide +kernel
theorem dL_law_194 : decode cL_law 194 = .ok (.ifCond .ne 15, 3) := by decide +kernel
theorem dL_law_197 : decode cL_law 197 = .ok (.aload_n 3, 1) := by decide +kernel
theorem dL_law_198 : decode cL_law 198 = .ok (.iconst 0, 1) := by decide +kernel
theorem dL_law_199 : decode cL_law 199 = .ok (.laload, 1) := by decide +kernel
theorem dL_law_200 : decode cL_law 200 = .ok (.iload 6, 2) := by decide +kernel
theorem dL_law_202 : decode cL_law 202 = .ok (.i2l, 1) := by decide +kernel
theorem dL_law_203 : decode cL_law 203 = .ok (.lcmp, 1) := by decide +kernel
theorem dL_law_204 : decode cL_law 204 = .ok (.ifCond .eq 5, 3) := by decide +kernel
theorem dL_law_207 : decode cL_law 207 = .ok (.iconst 0, 1) := by decide +kernel
theorem dL_law_208 : decode cL_law 208 = .ok (.ireturn, 1) := by decide +kernel
theorem dL_law_209 : decode cL_law 209 = .ok (.goto 1019, 3) := by decide +kernel
theorem dL_law_212 : decode cL_law 212 = .ok (.aload_n 1, 1) := by decide +kernel
theorem dL_law_213 : decode cL_law 213 = .ok (.aload_n 0, 1) := by decide +kernel
theorem dL_law_214 : decode cL_law 214 = .ok (.iload 4, 2) := by decide +kernel
theorem dL_law_216 : decode cL_law 216 = .ok (.iconst 1, 1) := by decide +kernel
theorem dL_law_217 : decode cL_law 217 = .ok (.iadd, 1) := by decide +kernel
theorem dL_law_218 : decode cL_law 218 = .ok (.iaload, 1) := by decide +kernel
theorem dL_law_219 : decode cL_law 219 = .ok (.aload_n 0, 1) := by decide +kernel
theorem dL_law_220 : decode cL_law 220 = .ok (.iload 4, 2) := by decide +kernel
theorem dL_law_222 : decode cL_law 222 = .ok (.iconst 2, 1) := by decide +kernel
theorem dL_law_223 : decode cL_law 223 = .ok (.iadd, 1) := by decide +kernel
theorem dL_law_224 : decode cL_law 224 = .ok (.iaload, 1) := by decide +kernel
theorem dL_law_225 : decode cL_law 225 = .ok (.aload_n 3, 1) := by decide +kernel
theorem dL_law_226 : decode cL_law 226 = .ok (.invokestatic 81, 3) := by decide +kernel
theorem dL_law_229 : decode cL_law 229 = .ok (.istore 5, 2) := by decide +kernel
theorem dL_law_231 : decode cL_law 231 = .ok (.aload_n 2, 1) := by decide +kernel
theorem dL_law_232 : decode cL_law 232 = .ok (.aload_n 0, 1) := by decide +kernel
theorem dL_law_233 : decode cL_law 233 = .ok (.iload 4, 2) := by decide +kernel
theorem dL_law_235 : decode cL_law 235 = .ok (.iconst 1, 1) := by decide +kernel
theorem dL_law_236 : decode cL_law 236 = .ok (.iadd, 1) := by decide +kernel
theorem dL_law_237 : decode cL_law 237 = .ok (.iaload, 1) := by decide +kernel
theorem dL_law_238 : decode cL_law 238 = .ok (.aload_n 0, 1) := by decide +kernel
theorem dL_law_239 : decode cL_law 239 = .ok (.iload 4, 2) := by decide +kernel
theorem dL_law_241 : decode cL_law 241 = .ok (.iconst 2, 1) := by decide +kernel
theorem dL_law_242 : decode cL_law 242 = .ok (.iadd, 1) := by decide +kernel
theorem dL_law_243 : decode cL_law 243 = .ok (.iaload, 1) := by decide +kernel
theorem dL_law_244 : decode cL_law 244 = .ok (.invokevirtual 84, 3) := by decide +kernel
theorem dL_law_247 : decode cL_law 247 = .ok (.istore 6, 2) := by decide +kernel
theorem dL_law_249 : decode cL_law 249 = .ok (.aload_n 2, 1) := by decide +kernel
theorem dL_law_250 : decode cL_law 250 = .ok (.invokevirtual 77, 3) := by decide +kernel
theorem dL_law_253 : decode cL_law 253 = .ok (.iload 5, 2) := by decide +kernel
theorem dL_law_255 : decode cL_law 255 = .ok (.if_icmp .eq 5, 3) := by decide +kernel
theorem dL_law_258 : decode cL_law 258 = .ok (.iconst 0, 1) := by decide +kernel
theorem dL_law_259 : decode cL_law 259 = .ok (.ireturn, 1) := by decide +kernel
theorem dL_law_260 : decode cL_law 260 = .ok (.iload 5, 2) := by decide +kernel
theorem dL_law_262 : decode cL_law 262 = .ok (.ifCond .ne 15, 3) := by decide +kernel
theorem dL_law_265 : decode cL_law 265 = .ok (.aload_n 3, 1) := by decide +kernel
theorem dL_law_266 : decode cL_law 266 = .ok (.iconst 0, 1) := by decide +kernel
theorem dL_law_267 : decode cL_law 267 = .ok (.laload, 1) := by decide +kernel
theorem dL_law_268 : decode cL_law 268 = .ok (.iload 6, 2) := by decide +kernel
theorem dL_law_270 : decode cL_law 270 = .ok (.i2l, 1) := by decide +kernel
theorem dL_law_271 : decode cL_law 271 = .ok (.lcmp, 1) := by decide +kernel
theorem dL_law_272 : decode cL_law 272 = .ok (.ifCond .eq 5, 3) := by decide +kernel
theorem dL_law_275 : decode cL_law 275 = .ok (.iconst 0, 1) := by decide +kernel
theorem dL_law_276 : decode cL_law 276 = .ok (.ireturn, 1) := by decide +kernel
theorem dL_law_277 : decode cL_law 277 = .ok (.goto 951, 3) := by decide +kernel
theorem dL_law_280 : decode cL_law 280 = .ok (.aload_n 1, 1) := by decide +kernel
theorem dL_law_281 : decode cL_law 281 = .ok (.aload_n 0, 1) := by decide +kernel
theorem dL_law_282 : decode cL_law 282 = .ok (.iload 4, 2) := by decide +kernel
theorem dL_law_284 : decode cL_law 284 = .ok (.iconst 1, 1) := by decide +kernel
theorem dL_law_285 : decode cL_law 285 = .ok (.iadd, 1) := by decide +kernel
theorem dL_law_286 : decode cL_law 286 = .ok (.iaload, 1) := by decide +kernel
theorem dL_law_287 : decode cL_law 287 = .ok (.aload_n 0, 1) := by decide +kernel
theorem dL_law_288 : decode cL_law 288 = .ok (.iload 4, 2) := by decide +kernel
theorem dL_law_290 : decode cL_law 290 = .ok (.iconst 2, 1) := by decide +kernel
theorem dL_law_291 : decode cL_law 291 = .ok (.iadd, 1) := by decide +kernel
theorem dL_law_292 : decode cL_law 292 = .ok (.iaload, 1) := by decide +kernel
theorem dL_law_293 : decode cL_law 293 = .ok (.aload_n 0, 1) := by decide +kernel
theorem dL_law_294 : decode cL_law 294 = .ok (.iload 4, 2) := by decide +kernel
theorem dL_law_296 : decode cL_law 296 = .ok (.iconst 3, 1) := by decide +kernel
theorem dL_law_297 : decode cL_law 297 = .ok (.iadd, 1) := by decide +kernel
theorem dL_law_298 : decode cL_law 298 = .ok (.iaload, 1) := by decide +kernel
theorem dL_law_299 : decode cL_law 299 = .ok (.aload_n 3, 1) := by decide +kernel
theorem dL_law_300 : decode cL_law 300 = .ok (.invokestatic 85, 3) := by decide +kernel
theorem dL_law_303 : decode cL_law 303 = .ok (.istore 5, 2) := by decide +kernel
theorem dL_law_305 : decode cL_law 305 = .ok (.aload_n 2, 1) := by decide +kernel
theorem dL_law_306 : decode cL_law 306 = .ok (.aload_n 0, 1) := by decide +kernel
theorem dL_law_307 : decode cL_law 307 = .ok (.iload 4, 2) := by decide +kernel
theorem dL_law_309 : decode cL_law 309 = .ok (.iconst 1, 1) := by decide +kernel
theorem dL_law_310 : decode cL_law 310 = .ok (.iadd, 1) := by decide +kernel
theorem dL_law_311 : decode cL_law 311 = .ok (.iaload, 1) := by decide +kernel
theorem dL_law_312 : decode cL_law 312 = .ok (.aload_n 0, 1) := by decide +kernel
theorem dL_law_313 : decode cL_law 313 = .ok (.iload 4, 2) := by decide +kernel
theorem dL_law_315 : decode cL_law 315 = .ok (.iconst 2, 1) := by decide +kernel
theorem dL_law_316 : decode cL_law 316 = .ok (.iadd, 1) := by decide +kernel
theorem dL_law_317 : decode cL_law 317 = .ok (.iaload, 1) := by decide +kernel
theorem dL_law_318 : decode cL_law 318 = .ok (.aload_n 0, 1) := by decide +kernel
theorem dL_law_319 : decode cL_law 319 = .ok (.iload 4, 2) := by decide +kernel
theorem dL_law_321 : decode cL_law 321 = .ok (.iconst 3, 1) := by decide +kernel
theorem dL_law_322 : decode cL_law 322 = .ok (.iadd, 1) := by decide +kernel
theorem dL_law_323 : decode cL_law 323 = .ok (.iaload, 1) := by decide +kernel
theorem dL_law_324 : decode cL_law 324 = .ok (.invokevirtual 87, 3) := by decide +kernel
theorem dL_law_327 : decode cL_law 327 = .ok (.istore 6, 2) := by decide +kernel
theorem dL_law_329 : decode cL_law 329 = .ok (.aload_n 2, 1) := by decide +kernel
theorem dL_law_330 : decode cL_law 330 = .ok (.invokevirtual 77, 3) := by decide +kernel
theorem dL_law_333 : decode cL_law 333 = .ok (.iload 5, 2) := by decide +kernel
theorem dL_law_335 : decode cL_law 335 = .ok (.if_icmp .eq 5, 3) := by decide +kernel
theorem dL_law_338 : decode cL_law 338 = .ok (.iconst 0, 1) := by decide +kernel
theorem dL_law_339 : decode cL_law 339 = .ok (.ireturn, 1) := by decide +kernel
theorem dL_law_340 : decode cL_law 340 = .ok (.iload 5, 2) := by decide +kernel
theorem dL_law_342 : decode cL_law 342 = .ok (.ifCond .ne 15, 3) := by decide +kernel
theorem dL_law_345 : decode cL_law 345 = .ok (.aload_n 3, 1) := by decide +kernel
theorem dL_law_346 : decode cL_law 346 = .ok (.iconst 0, 1) := by decide +kernel
theorem dL_law_347 : decode cL_law 347 = .ok (.laload, 1) := by decide +kernel
theorem dL_law_348 : decode cL_law 348 = .ok (.iload 6, 2) := by decide +kernel
theorem dL_law_350 : decode cL_law 350 = .ok (.i2l, 1) := by decide +kernel
theorem dL_law_351 : decode cL_law 351 = .ok (.lcmp, 1) := by decide +kernel
theorem dL_law_352 : decode cL_law 352 = .ok (.ifCond .eq 5, 3) := by decide +kernel
theorem dL_law_355 : decode cL_law 355 = .ok (.iconst 0, 1) := by decide +kernel
theorem dL_law_356 : decode cL_law 356 = .ok (.ireturn, 1) := by decide +kernel
theorem dL_law_357 : decode cL_law 357 = .ok (.goto 871, 3) := by decide +kernel
theorem dL_law_360 : decode cL_law 360 = .ok (.aload_n 1, 1) := by decide +kernel
theorem dL_law_361 : decode cL_law 361 = .ok (.aload_n 0, 1) := by decide +kernel
theorem dL_law_362 : decode cL_law 362 = .ok (.iload 4, 2) := by decide +kernel
theorem dL_law_364 : decode cL_law 364 = .ok (.iconst 1, 1) := by decide +kernel
theorem dL_law_365 : decode cL_law 365 = .ok (.iadd, 1) := by decide +kernel
theorem dL_law_366 : decode cL_law 366 = .ok (.iaload, 1) := by decide +kernel
theorem dL_law_367 : decode cL_law 367 = .ok (.aload_n 0, 1) := by decide +kernel
theorem dL_law_368 : decode cL_law 368 = .ok (.iload 4, 2) := by decide +kernel
theorem dL_law_370 : decode cL_law 370 = .ok (.iconst 2, 1) := by decide +kernel
theorem dL_law_371 : decode cL_law 371 = .ok (.iadd, 1) := by decide +kernel
theorem dL_law_372 : decode cL_law 372 = .ok (.iaload, 1) := by decide +kernel
theorem dL_law_373 : decode cL_law 373 = .ok (.aload_n 3, 1) := by decide +kernel
theorem dL_law_374 : decode cL_law 374 = .ok (.invokestatic 88, 3) := by decide +kernel
theorem dL_law_377 : decode cL_law 377 = .ok (.istore 5, 2) := by decide +kernel
theorem dL_law_379 : decode cL_law 379 = .ok (.aload_n 2, 1) := by decide +kernel
theorem dL_law_380 : decode cL_law 380 = .ok (.aload_n 0, 1) := by decide +kernel
theorem dL_law_381 : decode cL_law 381 = .ok (.iload 4, 2) := by decide +kernel
theorem dL_law_383 : decode cL_law 383 = .ok (.iconst 1, 1) := by decide +kernel
theorem dL_law_384 : decode cL_law 384 = .ok (.iadd, 1) := by decide +kernel
theorem dL_law_385 : decode cL_law 385 = .ok (.iaload, 1) := by decide +kernel
theorem dL_law_386 : decode cL_law 386 = .ok (.aload_n 0, 1) := by decide +kernel
theorem dL_law_387 : decode cL_law 387 = .ok (.iload 4, 2) := by decide +kernel
theorem dL_law_389 : decode cL_law 389 = .ok (.iconst 2, 1) := by decide +kernel
theorem dL_law_390 : decode cL_law 390 = .ok (.iadd, 1) := by decide +kernel
theorem dL_law_391 : decode cL_law 391 = .ok (.iaload, 1) := by decide +kernel
theorem dL_law_392 : decode cL_law 392 = .ok (.invokevirtual 90, 3) := by decide +kernel
theorem dL_law_395 : decode cL_law 395 = .ok (.istore 6, 2) := by decide +kernel
theorem dL_law_397 : decode cL_law 397 = .ok (.aload_n 2, 1) := by decide +kernel
theorem dL_law_398 : decode cL_law 398 = .ok (.invokevirtual 77, 3) := by decide +kernel
theorem dL_law_401 : decode cL_law 401 = .ok (.iload 5, 2) := by decide +kernel
theorem dL_law_403 : decode cL_law 403 = .ok (.if_icmp .eq 5, 3) := by decide +kernel
theorem dL_law_406 : decode cL_law 406 = .ok (.iconst 0, 1) := by decide +kernel
theorem dL_law_407 : decode cL_law 407 = .ok (.ireturn, 1) := by decide +kernel
theorem dL_law_408 : decode cL_law 408 = .ok (.iload 5, 2) := by decide +kernel
theorem dL_law_410 : decode cL_law 410 = .ok (.ifCond .ne 15, 3) := by decide +kernel
theorem dL_law_413 : decode cL_law 413 = .ok (.aload_n 3, 1) := by decide +kernel
theorem dL_law_414 : decode cL_law 414 = .ok (.iconst 0, 1) := by decide +kernel
theorem dL_law_415 : decode cL_law 415 = .ok (.laload, 1) := by decide +kernel
theorem dL_law_416 : decode cL_law 416 = .ok (.iload 6, 2) := by decide +kernel
theorem dL_law_418 : decode cL_law 418 = .ok (.i2l, 1) := by decide +kernel
theorem dL_law_419 : decode cL_law 419 = .ok (.lcmp, 1) := by decide +kernel
theorem dL_law_420 : decode cL_law 420 = .ok (.ifCond .eq 5, 3) := by decide +kernel
theorem dL_law_423 : decode cL_law 423 = .ok (.iconst 0, 1) := by decide +kernel
theorem dL_law_424 : decode cL_law 424 = .ok (.ireturn, 1) := by decide +kernel
theorem dL_law_425 : decode cL_law 425 = .ok (.goto 803, 3) := by decide +kernel
theorem dL_law_428 : decode cL_law 428 = .ok (.aload_n 1, 1) := by decide +kernel
theorem dL_law_429 : decode cL_law 429 = .ok (.aload_n 0, 1) := by decide +kernel
theorem dL_law_430 : decode cL_law 430 = .ok (.iload 4, 2) := by decide +kernel
theorem dL_law_432 : decode cL_law 432 = .ok (.iconst 1, 1) := by decide +kernel
theorem dL_law_433 : decode cL_law 433 = .ok (.iadd, 1) := by decide +kernel
theorem dL_law_434 : decode cL_law 434 = .ok (.iaload, 1) := by decide +kernel
theorem dL_law_435 : decode cL_law 435 = .ok (.aload_n 3, 1) := by decide +kernel
theorem dL_law_436 : decode cL_law 436 = .ok (.invokestatic 91, 3) := by decide +kernel
theorem dL_law_439 : decode cL_law 439 = .ok (.istore 5, 2) := by decide +kernel
theorem dL_law_441 : decode cL_law 441 = .ok (.aload_n 2, 1) := by decide +kernel
theorem dL_law_442 : decode cL_law 442 = .ok (.aload_n 0, 1) := by decide +kernel
theorem dL_law_443 : decode cL_law 443 = .ok (.iload 4, 2) := by decide +kernel
theorem dL_law_445 : decode cL_law 445 = .ok (.iconst 1, 1) := by decide +kernel
theorem dL_law_446 : decode cL_law 446 = .ok (.iadd, 1) := by decide +kernel
theorem dL_law_447 : decode cL_law 447 = .ok (.iaload, 1) := by decide +kernel
theorem dL_law_448 : decode cL_law 448 = .ok (.invokevirtual 94, 3) := by decide +kernel
theorem dL_law_451 : decode cL_law 451 = .ok (.istore 6, 2) := by decide +kernel
theorem dL_law_453 : decode cL_law 453 = .ok (.aload_n 2, 1) := by decide +kernel
theorem dL_law_454 : decode cL_law 454 = .ok (.invokevirtual 77, 3) := by decide +kernel
theorem dL_law_457 : decode cL_law 457 = .ok (.iload 5, 2) := by decide +kernel
theorem dL_law_459 : decode cL_law 459 = .ok (.if_icmp .eq 5, 3) := by decide +kernel
theorem dL_law_462 : decode cL_law 462 = .ok (.iconst 0, 1) := by decide +kernel
theorem dL_law_463 : decode cL_law 463 = .ok (.ireturn, 1) := by decide +kernel
theorem dL_law_464 : decode cL_law 464 = .ok (.iload 5, 2) := by decide +kernel
theorem dL_law_466 : decode cL_law 466 = .ok (.ifCond .ne 15, 3) := by decide +kernel
theorem dL_law_469 : decode cL_law 469 = .ok (.aload_n 3, 1) := by decide +kernel
theorem dL_law_470 : decode cL_law 470 = .ok (.iconst 0, 1) := by decide +kernel
theorem dL_law_471 : decode cL_law 471 = .ok (.laload, 1) := by decide +kernel
theorem dL_law_472 : decode cL_law 472 = .ok (.iload 6, 2) := by decide +kernel
theorem dL_law_474 : decode cL_law 474 = .ok (.i2l, 1) := by decide +kernel
theorem dL_law_475 : decode cL_law 475 = .ok (.lcmp, 1) := by decide +kernel
theorem dL_law_476 : decode cL_law 476 = .ok (.ifCond .eq 5, 3) := by decide +kernel
theorem dL_law_479 : decode cL_law 479 = .ok (.iconst 0, 1) := by decide +kernel
theorem dL_law_480 : decode cL_law 480 = .ok (.ireturn, 1) := by decide +kernel
theorem dL_law_481 : decode cL_law 481 = .ok (.goto 747, 3) := by decide +kernel
theorem dL_law_484 : decode cL_law 484 = .ok (.aload_n 1, 1) := by decide +kernel
theorem dL_law_485 : decode cL_law 485 = .ok (.aload_n 0, 1) := by decide +kernel
theorem dL_law_486 : decode cL_law 486 = .ok (.iload 4, 2) := by decide +kernel
theorem dL_law_488 : decode cL_law 488 = .ok (.iconst 1, 1) := by decide +kernel
theorem dL_law_489 : decode cL_law 489 = .ok (.iadd, 1) := by decide +kernel
theorem dL_law_490 : decode cL_law 490 = .ok (.iaload, 1) := by decide +kernel
theorem dL_law_491 : decode cL_law 491 = .ok (.aload_n 3, 1) := by decide +kernel
theorem dL_law_492 : decode cL_law 492 = .ok (.invokestatic 95, 3) := by decide +kernel
theorem dL_law_495 : decode cL_law 495 = .ok (.istore 5, 2) := by decide +kernel
theorem dL_law_497 : decode cL_law 497 = .ok (.aload_n 2, 1) := by decide +kernel
theorem dL_law_498 : decode cL_law 498 = .ok (.aload_n 0, 1) := by decide +kernel
theorem dL_law_499 : decode cL_law 499 = .ok (.iload 4, 2) := by decide +kernel
theorem dL_law_501 : decode cL_law 501 = .ok (.iconst 1, 1) := by decide +kernel
theorem dL_law_502 : decode cL_law 502 = .ok (.iadd, 1) := by decide +kernel
theorem dL_law_503 : decode cL_law 503 = .ok (.iaload, 1) := by decide +kernel
theorem dL_law_504 : decode cL_law 504 = .ok (.invokevirtual 97, 3) := by decide +kernel
theorem dL_law_507 : decode cL_law 507 = .ok (.istore 6, 2) := by decide +kernel
theorem dL_law_509 : decode cL_law 509 = .ok (.aload_n 2, 1) := by decide +kernel
theorem dL_law_510 : decode cL_law 510 = .ok (.invokevirtual 77, 3) := by decide +kernel
theorem dL_law_513 : decode cL_law 513 = .ok (.iload 5, 2) := by decide +kernel
theorem dL_law_515 : decode cL_law 515 = .ok (.if_icmp .eq 5, 3) := by decide +kernel
theorem dL_law_518 : decode cL_law 518 = .ok (.iconst 0, 1) := by decide +kernel
theorem dL_law_519 : decode cL_law 519 = .ok (.ireturn, 1) := by decide +kernel
theorem dL_law_520 : decode cL_law 520 = .ok (.iload 5, 2) := by decide +kernel
theorem dL_law_522 : decode cL_law 522 = .ok (.ifCond .ne 15, 3) := by decide +kernel
theorem dL_law_525 : decode cL_law 525 = .ok (.aload_n 3, 1) := by decide +kernel
theorem dL_law_526 : decode cL_law 526 = .ok (.iconst 0, 1) := by decide +kernel
theorem dL_law_527 : decode cL_law 527 = .ok (.laload, 1) := by decide +kernel
theorem dL_law_528 : decode cL_law 528 = .ok (.iload 6, 2) := by decide +kernel
theorem dL_law_530 : decode cL_law 530 = .ok (.i2l, 1) := by decide +kernel
theorem dL_law_531 : decode cL_law 531 = .ok (.lcmp, 1) := by decide +kernel
theorem dL_law_532 : decode cL_law 532 = .ok (.ifCond .eq 5, 3) := by decide +kernel
theorem dL_law_535 : decode cL_law 535 = .ok (.iconst 0, 1) := by decide +kernel
theorem dL_law_536 : decode cL_law 536 = .ok (.ireturn, 1) := by decide +kernel
theorem dL_law_537 : decode cL_law 537 = .ok (.goto 691, 3) := by decide +kernel
theorem dL_law_540 : decode cL_law 540 = .ok (.aload_n 1, 1) := by decide +kernel
theorem dL_law_541 : decode cL_law 541 = .ok (.invokevirtual 98, 3) := by decide +kernel
theorem dL_law_544 : decode cL_law 544 = .ok (.aload_n 2, 1) := by decide +kernel
theorem dL_law_545 : decode cL_law 545 = .ok (.invokevirtual 101, 3) := by decide +kernel
theorem dL_law_548 : decode cL_law 548 = .ok (.if_icmp .eq 680, 3) := by decide +kernel
theorem dL_law_551 : decode cL_law 551 = .ok (.iconst 0, 1) := by decide +kernel
theorem dL_law_552 : decode cL_law 552 = .ok (.ireturn, 1) := by decide +kernel
theorem dL_law_553 : decode cL_law 553 = .ok (.aload_n 1, 1) := by decide +kernel
theorem dL_law_554 : decode cL_law 554 = .ok (.aload_n 0, 1) := by decide +kernel
theorem dL_law_555 : decode cL_law 555 = .ok (.iload 4, 2) := by decide +kernel
theorem dL_law_557 : decode cL_law 557 = .ok (.iconst 1, 1) := by decide +kernel
theorem dL_law_558 : decode cL_law 558 = .ok (.iadd, 1) := by decide +kernel
theorem dL_law_559 : decode cL_law 559 = .ok (.iaload, 1) := by decide +kernel
theorem dL_law_560 : decode cL_law 560 = .ok (.aload_n 3, 1) := by decide +kernel
theorem dL_law_561 : decode cL_law 561 = .ok (.invokestatic 102, 3) := by decide +kernel
theorem dL_law_564 : decode cL_law 564 = .ok (.istore 5, 2) := by decide +kernel
theorem dL_law_566 : decode cL_law 566 = .ok (.aload_n 2, 1) := by decide +kernel
theorem dL_law_567 : decode cL_law 567 = .ok (.aload_n 0, 1) := by decide +kernel
theorem dL_law_568 : decode cL_law 568 = .ok (.iload 4, 2) := by decide +kernel
theorem dL_law_570 : decode cL_law 570 = .ok (.iconst 1, 1) := by decide +kernel
theorem dL_law_571 : decode cL_law 571 = .ok (.iadd, 1) := by decide +kernel
theorem dL_law_572 : decode cL_law 572 = .ok (.iaload, 1) := by decide +kernel
theorem dL_law_573 : decode cL_law 573 = .ok (.invokevirtual 104, 3) := by decide +kernel
theorem dL_law_576 : decode cL_law 576 = .ok (.istore 6, 2) := by decide +kernel
theorem dL_law_578 : decode cL_law 578 = .ok (.aload_n 2, 1) := by decide +kernel
theorem dL_law_579 : decode cL_law 579 = .ok (.invokevirtual 77, 3) := by decide +kernel
theorem dL_law_582 : decode cL_law 582 = .ok (.iload 5, 2) := by decide +kernel
theorem dL_law_584 : decode cL_law 584 = .ok (.if_icmp .eq 5, 3) := by decide +kernel
theorem dL_law_587 : decode cL_law 587 = .ok (.iconst 0, 1) := by decide +kernel
theorem dL_law_588 : decode cL_law 588 = .ok (.ireturn, 1) := by decide +kernel
theorem dL_law_589 : decode cL_law 589 = .ok (.iload 5, 2) := by decide +kernel
theorem dL_law_591 : decode cL_law 591 = .ok (.ifCond .ne 15, 3) := by decide +kernel
theorem dL_law_594 : decode cL_law 594 = .ok (.aload_n 3, 1) := by decide +kernel
theorem dL_law_595 : decode cL_law 595 = .ok (.iconst 0, 1) := by decide +kernel
theorem dL_law_596 : decode cL_law 596 = .ok (.laload, 1) := by decide +kernel
theorem dL_law_597 : decode cL_law 597 = .ok (.iload 6, 2) := by decide +kernel
theorem dL_law_599 : decode cL_law 599 = .ok (.i2l, 1) := by decide +kernel
theorem dL_law_600 : decode cL_law 600 = .ok (.lcmp, 1) := by decide +kernel
theorem dL_law_601 : decode cL_law 601 = .ok (.ifCond .eq 5, 3) := by decide +kernel
theorem dL_law_604 : decode cL_law 604 = .ok (.iconst 0, 1) := by decide +kernel
theorem dL_law_605 : decode cL_law 605 = .ok (.ireturn, 1) := by decide +kernel
theorem dL_law_606 : decode cL_law 606 = .ok (.goto 622, 3) := by decide +kernel
theorem dL_law_609 : decode cL_law 609 = .ok (.aload_n 1, 1) := by decide +kernel
theorem dL_law_610 : decode cL_law 610 = .ok (.aload_n 0, 1) := by decide +kernel
theorem dL_law_611 : decode cL_law 611 = .ok (.iload 4, 2) := by decide +kernel
theorem dL_law_613 : decode cL_law 613 = .ok (.iconst 1, 1) := by decide +kernel
theorem dL_law_614 : decode cL_law 614 = .ok (.iadd, 1) := by decide +kernel
theorem dL_law_615 : decode cL_law 615 = .ok (.iaload, 1) := by decide +kernel
theorem dL_law_616 : decode cL_law 616 = .ok (.aload_n 3, 1) := by decide +kernel
theorem dL_law_617 : decode cL_law 617 = .ok (.invokestatic 105, 3) := by decide +kernel
theorem dL_law_620 : decode cL_law 620 = .ok (.istore 5, 2) := by decide +kernel
theorem dL_law_622 : decode cL_law 622 = .ok (.aload_n 2, 1) := by decide +kernel
theorem dL_law_623 : decode cL_law 623 = .ok (.aload_n 0, 1) := by decide +kernel
theorem dL_law_624 : decode cL_law 624 = .ok (.iload 4, 2) := by decide +kernel
theorem dL_law_626 : decode cL_law 626 = .ok (.iconst 1, 1) := by decide +kernel
theorem dL_law_627 : decode cL_law 627 = .ok (.iadd, 1) := by decide +kernel
theorem dL_law_628 : decode cL_law 628 = .ok (.iaload, 1) := by decide +kernel
theorem dL_law_629 : decode cL_law 629 = .ok (.invokevirtual 107, 3) := by decide +kernel
theorem dL_law_632 : decode cL_law 632 = .ok (.istore 6, 2) := by decide +kernel
theorem dL_law_634 : decode cL_law 634 = .ok (.aload_n 2, 1) := by decide +kernel
theorem dL_law_635 : decode cL_law 635 = .ok (.invokevirtual 77, 3) := by decide +kernel
theorem dL_law_638 : decode cL_law 638 = .ok (.iload 5, 2) := by decide +kernel
theorem dL_law_640 : decode cL_law 640 = .ok (.if_icmp .eq 5, 3) := by decide +kernel
theorem dL_law_643 : decode cL_law 643 = .ok (.iconst 0, 1) := by decide +kernel
theorem dL_law_644 : decode cL_law 644 = .ok (.ireturn, 1) := by decide +kernel
theorem dL_law_645 : decode cL_law 645 = .ok (.iload 5, 2) := by decide +kernel
theorem dL_law_647 : decode cL_law 647 = .ok (.ifCond .ne 22, 3) := by decide +kernel
theorem dL_law_650 : decode cL_law 650 = .ok (.aload_n 3, 1) := by decide +kernel
theorem dL_law_651 : decode cL_law 651 = .ok (.iconst 0, 1) := by decide +kernel
theorem dL_law_652 : decode cL_law 652 = .ok (.laload, 1) := by decide +kernel
theorem dL_law_653 : decode cL_law 653 = .ok (.iload 6, 2) := by decide +kernel
theorem dL_law_655 : decode cL_law 655 = .ok (.ifCond .eq 7, 3) := by decide +kernel
theorem dL_law_658 : decode cL_law 658 = .ok (.lconst 1, 1) := by decide +kernel
theorem dL_law_659 : decode cL_law 659 = .ok (.goto 4, 3) := by decide +kernel
theorem dL_law_662 : decode cL_law 662 = .ok (.lconst 0, 1) := by decide +kernel
theorem dL_law_663 : decode cL_law 663 = .ok (.lcmp, 1) := by decide +kernel
theorem dL_law_664 : decode cL_law 664 = .ok (.ifCond .eq 5, 3) := by decide +kernel
theorem dL_law_667 : decode cL_law 667 = .ok (.iconst 0, 1) := by decide +kernel
theorem dL_law_668 : decode cL_law 668 = .ok (.ireturn, 1) := by decide +kernel
theorem dL_law_669 : decode cL_law 669 = .ok (.goto 559, 3) := by decide +kernel
theorem dL_law_672 : decode cL_law 672 = .ok (.aload_n 1, 1) := by decide +kernel
theorem dL_law_673 : decode cL_law 673 = .ok (.aload_n 0, 1) := by decide +kernel
theorem dL_law_674 : decode cL_law 674 = .ok (.iload 4, 2) := by decide +kernel
theorem dL_law_676 : decode cL_law 676 = .ok (.iconst 1, 1) := by decide +kernel
theorem dL_law_677 : decode cL_law 677 = .ok (.iadd, 1) := by decide +kernel
theorem dL_law_678 : decode cL_law 678 = .ok (.iaload, 1) := by decide +kernel
theorem dL_law_679 : decode cL_law 679 = .ok (.aload_n 3, 1) := by decide +kernel
theorem dL_law_680 : decode cL_law 680 = .ok (.invokestatic 108, 3) := by decide +kernel
theorem dL_law_683 : decode cL_law 683 = .ok (.istore 5, 2) := by decide +kernel
theorem dL_law_685 : decode cL_law 685 = .ok (.aload_n 2, 1) := by decide +kernel
theorem dL_law_686 : decode cL_law 686 = .ok (.aload_n 0, 1) := by decide +kernel
theorem dL_law_687 : decode cL_law 687 = .ok (.iload 4, 2) := by decide +kernel
theorem dL_law_689 : decode cL_law 689 = .ok (.iconst 1, 1) := by decide +kernel
theorem dL_law_690 : decode cL_law 690 = .ok (.iadd, 1) := by decide +kernel
theorem dL_law_691 : decode cL_law 691 = .ok (.iaload, 1) := by decide +kernel
theorem dL_law_692 : decode cL_law 692 = .ok (.invokevirtual 110, 3) := by decide +kernel
theorem dL_law_695 : decode cL_law 695 = .ok (.istore 6, 2) := by decide +kernel
theorem dL_law_697 : decode cL_law 697 = .ok (.aload_n 2, 1) := by decide +kernel
theorem dL_law_698 : decode cL_law 698 = .ok (.invokevirtual 77, 3) := by decide +kernel
theorem dL_law_701 : decode cL_law 701 = .ok (.iload 5, 2) := by decide +kernel
theorem dL_law_703 : decode cL_law 703 = .ok (.if_icmp .eq 5, 3) := by decide +kernel
theorem dL_law_706 : decode cL_law 706 = .ok (.iconst 0, 1) := by decide +kernel
theorem dL_law_707 : decode cL_law 707 = .ok (.ireturn, 1) := by decide +kernel
theorem dL_law_708 : decode cL_law 708 = .ok (.iload 5, 2) := by decide +kernel
theorem dL_law_710 : decode cL_law 710 = .ok (.ifCond .ne 22, 3) := by decide +kernel
theorem dL_law_713 : decode cL_law 713 = .ok (.aload_n 3, 1) := by decide +kernel
theorem dL_law_714 : decode cL_law 714 = .ok (.iconst 0, 1) := by decide +kernel
theorem dL_law_715 : decode cL_law 715 = .ok (.laload, 1) := by decide +kernel
theorem dL_law_716 : decode cL_law 716 = .ok (.iload 6, 2) := by decide +kernel
theorem dL_law_718 : decode cL_law 718 = .ok (.ifCond .eq 7, 3) := by decide +kernel
theorem dL_law_721 : decode cL_law 721 = .ok (.lconst 1, 1) := by decide +kernel
theorem dL_law_722 : decode cL_law 722 = .ok (.goto 4, 3) := by decide +kernel
theorem dL_law_725 : decode cL_law 725 = .ok (.lconst 0, 1) := by decide +kernel
theorem dL_law_726 : decode cL_law 726 = .ok (.lcmp, 1) := by decide +kernel
theorem dL_law_727 : decode cL_law 727 = .ok (.ifCond .eq 5, 3) := by decide +kernel
theorem dL_law_730 : decode cL_law 730 = .ok (.iconst 0, 1) := by decide +kernel
theorem dL_law_731 : decode cL_law 731 = .ok (.ireturn, 1) := by decide +kernel
theorem dL_law_732 : decode cL_law 732 = .ok (.goto 496, 3) := by decide +kernel
theorem dL_law_735 : decode cL_law 735 = .ok (.aload_n 1, 1) := by decide +kernel
theorem dL_law_736 : decode cL_law 736 = .ok (.aload_n 0, 1) := by decide +kernel
theorem dL_law_737 : decode cL_law 737 = .ok (.iload 4, 2) := by decide +kernel
theorem dL_law_739 : decode cL_law 739 = .ok (.iconst 1, 1) := by decide +kernel
theorem dL_law_740 : decode cL_law 740 = .ok (.iadd, 1) := by decide +kernel
theorem dL_law_741 : decode cL_law 741 = .ok (.iaload, 1) := by decide +kernel
theorem dL_law_742 : decode cL_law 742 = .ok (.aload_n 3, 1) := by decide +kernel
theorem dL_law_743 : decode cL_law 743 = .ok (.invokestatic 111, 3) := by decide +kernel
theorem dL_law_746 : decode cL_law 746 = .ok (.istore 5, 2) := by decide +kernel
theorem dL_law_748 : decode cL_law 748 = .ok (.aload_n 2, 1) := by decide +kernel
theorem dL_law_749 : decode cL_law 749 = .ok (.aload_n 0, 1) := by decide +kernel
theorem dL_law_750 : decode cL_law 750 = .ok (.iload 4, 2) := by decide +kernel
theorem dL_law_752 : decode cL_law 752 = .ok (.iconst 1, 1) := by decide +kernel
theorem dL_law_753 : decode cL_law 753 = .ok (.iadd, 1) := by decide +kernel
theorem dL_law_754 : decode cL_law 754 = .ok (.iaload, 1) := by decide +kernel
theorem dL_law_755 : decode cL_law 755 = .ok (.invokevirtual 113, 3) := by decide +kernel
theorem dL_law_758 : decode cL_law 758 = .ok (.istore 6, 2) := by decide +kernel
theorem dL_law_760 : decode cL_law 760 = .ok (.aload_n 2, 1) := by decide +kernel
theorem dL_law_761 : decode cL_law 761 = .ok (.invokevirtual 77, 3) := by decide +kernel
theorem dL_law_764 : decode cL_law 764 = .ok (.iload 5, 2) := by decide +kernel
theorem dL_law_766 : decode cL_law 766 = .ok (.if_icmp .eq 5, 3) := by decide +kernel
theorem dL_law_769 : decode cL_law 769 = .ok (.iconst 0, 1) := by decide +kernel
theorem dL_law_770 : decode cL_law 770 = .ok (.ireturn, 1) := by decide +kernel
theorem dL_law_771 : decode cL_law 771 = .ok (.iload 5, 2) := by decide +kernel
theorem dL_law_773 : decode cL_law 773 = .ok (.ifCond .ne 15, 3) := by decide +kernel
theorem dL_law_776 : decode cL_law 776 = .ok (.aload_n 3, 1) := by decide +kernel
theorem dL_law_777 : decode cL_law 777 = .ok (.iconst 0, 1) := by decide +kernel
theorem dL_law_778 : decode cL_law 778 = .ok (.laload, 1) := by decide +kernel
theorem dL_law_779 : decode cL_law 779 = .ok (.iload 6, 2) := by decide +kernel
theorem dL_law_781 : decode cL_law 781 = .ok (.i2l, 1) := by decide +kernel
theorem dL_law_782 : decode cL_law 782 = .ok (.lcmp, 1) := by decide +kernel
theorem dL_law_783 : decode cL_law 783 = .ok (.ifCond .eq 5, 3) := by decide +kernel
theorem dL_law_786 : decode cL_law 786 = .ok (.iconst 0, 1) := by decide +kernel
theorem dL_law_787 : decode cL_law 787 = .ok (.ireturn, 1) := by decide +kernel
theorem dL_law_788 : decode cL_law 788 = .ok (.goto 440, 3) := by decide +kernel
theorem dL_law_791 : decode cL_law 791 = .ok (.aload_n 1, 1) := by decide +kernel
theorem dL_law_792 : decode cL_law 792 = .ok (.aload_n 0, 1) := by decide +kernel
theorem dL_law_793 : decode cL_law 793 = .ok (.iload 4, 2) := by decide +kernel
theorem dL_law_795 : decode cL_law 795 = .ok (.iconst 1, 1) := by decide +kernel
theorem dL_law_796 : decode cL_law 796 = .ok (.iadd, 1) := by decide +kernel
theorem dL_law_797 : decode cL_law 797 = .ok (.iaload, 1) := by decide +kernel
theorem dL_law_798 : decode cL_law 798 = .ok (.aload_n 3, 1) := by decide +kernel
theorem dL_law_799 : decode cL_law 799 = .ok (.invokestatic 114, 3) := by decide +kernel
theorem dL_law_802 : decode cL_law 802 = .ok (.istore 5, 2) := by decide +kernel
theorem dL_law_804 : decode cL_law 804 = .ok (.aload_n 2, 1) := by decide +kernel
theorem dL_law_805 : decode cL_law 805 = .ok (.aload_n 0, 1) := by decide +kernel
theorem dL_law_806 : decode cL_law 806 = .ok (.iload 4, 2) := by decide +kernel
theorem dL_law_808 : decode cL_law 808 = .ok (.iconst 1, 1) := by decide +kernel
theorem dL_law_809 : decode cL_law 809 = .ok (.iadd, 1) := by decide +kernel
theorem dL_law_810 : decode cL_law 810 = .ok (.iaload, 1) := by decide +kernel
theorem dL_law_811 : decode cL_law 811 = .ok (.invokevirtual 116, 3) := by decide +kernel
theorem dL_law_814 : decode cL_law 814 = .ok (.istore 6, 2) := by decide +kernel
theorem dL_law_816 : decode cL_law 816 = .ok (.aload_n 2, 1) := by decide +kernel
theorem dL_law_817 : decode cL_law 817 = .ok (.invokevirtual 77, 3) := by decide +kernel
theorem dL_law_820 : decode cL_law 820 = .ok (.iload 5, 2) := by decide +kernel
theorem dL_law_822 : decode cL_law 822 = .ok (.if_icmp .eq 5, 3) := by decide +kernel
theorem dL_law_825 : decode cL_law 825 = .ok (.iconst 0, 1) := by decide +kernel
theorem dL_law_826 : decode cL_law 826 = .ok (.ireturn, 1) := by decide +kernel
theorem dL_law_827 : decode cL_law 827 = .ok (.iload 5, 2) := by decide +kernel
theorem dL_law_829 : decode cL_law 829 = .ok (.ifCond .ne 15, 3) := by decide +kernel
theorem dL_law_832 : decode cL_law 832 = .ok (.aload_n 3, 1) := by decide +kernel
theorem dL_law_833 : decode cL_law 833 = .ok (.iconst 0, 1) := by decide +kernel
theorem dL_law_834 : decode cL_law 834 = .ok (.laload, 1) := by decide +kernel
theorem dL_law_835 : decode cL_law 835 = .ok (.iload 6, 2) := by decide +kernel
theorem dL_law_837 : decode cL_law 837 = .ok (.i2l, 1) := by decide +kernel
theorem dL_law_838 : decode cL_law 838 = .ok (.lcmp, 1) := by decide +kernel
theorem dL_law_839 : decode cL_law 839 = .ok (.ifCond .eq 5, 3) := by decide +kernel
theorem dL_law_842 : decode cL_law 842 = .ok (.iconst 0, 1) := by decide +kernel
theorem dL_law_843 : decode cL_law 843 = .ok (.ireturn, 1) := by decide +kernel
theorem dL_law_844 : decode cL_law 844 = .ok (.goto 384, 3) := by decide +kernel
theorem dL_law_847 : decode cL_law 847 = .ok (.aload_n 1, 1) := by decide +kernel
theorem dL_law_848 : decode cL_law 848 = .ok (.invokevirtual 117, 3) := by decide +kernel
theorem dL_law_851 : decode cL_law 851 = .ok (.aload_n 2, 1) := by decide +kernel
theorem dL_law_852 : decode cL_law 852 = .ok (.invokevirtual 120, 3) := by decide +kernel
theorem dL_law_855 : decode cL_law 855 = .ok (.if_icmp .eq 373, 3) := by decide +kernel
theorem dL_law_858 : decode cL_law 858 = .ok (.iconst 0, 1) := by decide +kernel
theorem dL_law_859 : decode cL_law 859 = .ok (.ireturn, 1) := by decide +kernel
theorem dL_law_860 : decode cL_law 860 = .ok (.aload_n 1, 1) := by decide +kernel
theorem dL_law_861 : decode cL_law 861 = .ok (.aload_n 0, 1) := by decide +kernel
theorem dL_law_862 : decode cL_law 862 = .ok (.iload 4, 2) := by decide +kernel
theorem dL_law_864 : decode cL_law 864 = .ok (.iconst 1, 1) := by decide +kernel
theorem dL_law_865 : decode cL_law 865 = .ok (.iadd, 1) := by decide +kernel
theorem dL_law_866 : decode cL_law 866 = .ok (.iaload, 1) := by decide +kernel
theorem dL_law_867 : decode cL_law 867 = .ok (.aload_n 0, 1) := by decide +kernel
theorem dL_law_868 : decode cL_law 868 = .ok (.iload 4, 2) := by decide +kernel
theorem dL_law_870 : decode cL_law 870 = .ok (.iconst 2, 1) := by decide +kernel
theorem dL_law_871 : decode cL_law 871 = .ok (.iadd, 1) := by decide +kernel
theorem dL_law_872 : decode cL_law 872 = .ok (.iaload, 1) := by decide +kernel
theorem dL_law_873 : decode cL_law 873 = .ok (.aload_n 3, 1) := by decide +kernel
theorem dL_law_874 : decode cL_law 874 = .ok (.invokestatic 121, 3) := by decide +kernel
theorem dL_law_877 : decode cL_law 877 = .ok (.istore 5, 2) := by decide +kernel
theorem dL_law_879 : decode cL_law 879 = .ok (.aload_n 2, 1) := by decide +kernel
theorem dL_law_880 : decode cL_law 880 = .ok (.aload_n 0, 1) := by decide +kernel
theorem dL_law_881 : decode cL_law 881 = .ok (.iload 4, 2) := by decide +kernel
theorem dL_law_883 : decode cL_law 883 = .ok (.iconst 1, 1) := by decide +kernel
theorem dL_law_884 : decode cL_law 884 = .ok (.iadd, 1) := by decide +kernel
theorem dL_law_885 : decode cL_law 885 = .ok (.iaload, 1) := by decide +kernel
theorem dL_law_886 : decode cL_law 886 = .ok (.aload_n 0, 1) := by decide +kernel
theorem dL_law_887 : decode cL_law 887 = .ok (.iload 4, 2) := by decide +kernel
theorem dL_law_889 : decode cL_law 889 = .ok (.iconst 2, 1) := by decide +kernel
theorem dL_law_890 : decode cL_law 890 = .ok (.iadd, 1) := by decide +kernel
theorem dL_law_891 : decode cL_law 891 = .ok (.iaload, 1) := by decide +kernel
theorem dL_law_892 : decode cL_law 892 = .ok (.invokevirtual 123, 3) := by decide +kernel
theorem dL_law_895 : decode cL_law 895 = .ok (.istore 6, 2) := by decide +kernel
theorem dL_law_897 : decode cL_law 897 = .ok (.aload_n 2, 1) := by decide +kernel
theorem dL_law_898 : decode cL_law 898 = .ok (.invokevirtual 77, 3) := by decide +kernel
theorem dL_law_901 : decode cL_law 901 = .ok (.iload 5, 2) := by decide +kernel
theorem dL_law_903 : decode cL_law 903 = .ok (.if_icmp .eq 5, 3) := by decide +kernel
theorem dL_law_906 : decode cL_law 906 = .ok (.iconst 0, 1) := by decide +kernel
theorem dL_law_907 : decode cL_law 907 = .ok (.ireturn, 1) := by decide +kernel
theorem dL_law_908 : decode cL_law 908 = .ok (.iload 5, 2) := by decide +kernel
theorem dL_law_910 : decode cL_law 910 = .ok (.ifCond .ne 15, 3) := by decide +kernel
theorem dL_law_913 : decode cL_law 913 = .ok (.aload_n 3, 1) := by decide +kernel
theorem dL_law_914 : decode cL_law 914 = .ok (.iconst 0, 1) := by decide +kernel
theorem dL_law_915 : decode cL_law 915 = .ok (.laload, 1) := by decide +kernel
theorem dL_law_916 : decode cL_law 916 = .ok (.iload 6, 2) := by decide +kernel
theorem dL_law_918 : decode cL_law 918 = .ok (.i2l, 1) := by decide +kernel
theorem dL_law_919 : decode cL_law 919 = .ok (.lcmp, 1) := by decide +kernel
theorem dL_law_920 : decode cL_law 920 = .ok (.ifCond .eq 5, 3) := by decide +kernel
theorem dL_law_923 : decode cL_law 923 = .ok (.iconst 0, 1) := by decide +kernel
theorem dL_law_924 : decode cL_law 924 = .ok (.ireturn, 1) := by decide +kernel
theorem dL_law_925 : decode cL_law 925 = .ok (.goto 303, 3) := by decide +kernel
theorem dL_law_928 : decode cL_law 928 = .ok (.aload_n 1, 1) := by decide +kernel
theorem dL_law_929 : decode cL_law 929 = .ok (.aload_n 0, 1) := by decide +kernel
theorem dL_law_930 : decode cL_law 930 = .ok (.iload 4, 2) := by decide +kernel
theorem dL_law_932 : decode cL_law 932 = .ok (.iconst 1, 1) := by decide +kernel
theorem dL_law_933 : decode cL_law 933 = .ok (.iadd, 1) := by decide +kernel
theorem dL_law_934 : decode cL_law 934 = .ok (.iaload, 1) := by decide +kernel
theorem dL_law_935 : decode cL_law 935 = .ok (.aload_n 0, 1) := by decide +kernel
theorem dL_law_936 : decode cL_law 936 = .ok (.iload 4, 2) := by decide +kernel
theorem dL_law_938 : decode cL_law 938 = .ok (.iconst 2, 1) := by decide +kernel
theorem dL_law_939 : decode cL_law 939 = .ok (.iadd, 1) := by decide +kernel
theorem dL_law_940 : decode cL_law 940 = .ok (.iaload, 1) := by decide +kernel
theorem dL_law_941 : decode cL_law 941 = .ok (.aload_n 3, 1) := by decide +kernel
theorem dL_law_942 : decode cL_law 942 = .ok (.invokestatic 124, 3) := by decide +kernel
theorem dL_law_945 : decode cL_law 945 = .ok (.istore 5, 2) := by decide +kernel
theorem dL_law_947 : decode cL_law 947 = .ok (.aload_n 2, 1) := by decide +kernel
theorem dL_law_948 : decode cL_law 948 = .ok (.aload_n 0, 1) := by decide +kernel
theorem dL_law_949 : decode cL_law 949 = .ok (.iload 4, 2) := by decide +kernel
theorem dL_law_951 : decode cL_law 951 = .ok (.iconst 1, 1) := by decide +kernel
theorem dL_law_952 : decode cL_law 952 = .ok (.iadd, 1) := by decide +kernel
theorem dL_law_953 : decode cL_law 953 = .ok (.iaload, 1) := by decide +kernel
theorem dL_law_954 : decode cL_law 954 = .ok (.aload_n 0, 1) := by decide +kernel
theorem dL_law_955 : decode cL_law 955 = .ok (.iload 4, 2) := by decide +kernel
theorem dL_law_957 : decode cL_law 957 = .ok (.iconst 2, 1) := by decide +kernel
theorem dL_law_958 : decode cL_law 958 = .ok (.iadd, 1) := by decide +kernel
theorem dL_law_959 : decode cL_law 959 = .ok (.iaload, 1) := by decide +kernel
theorem dL_law_960 : decode cL_law 960 = .ok (.invokevirtual 126, 3) := by decide +kernel
theorem dL_law_963 : decode cL_law 963 = .ok (.istore 6, 2) := by decide +kernel
theorem dL_law_965 : decode cL_law 965 = .ok (.aload_n 2, 1) := by decide +kernel
theorem dL_law_966 : decode cL_law 966 = .ok (.invokevirtual 77, 3) := by decide +kernel
theorem dL_law_969 : decode cL_law 969 = .ok (.iload 5, 2) := by decide +kernel
theorem dL_law_971 : decode cL_law 971 = .ok (.if_icmp .eq 5, 3) := by decide +kernel
theorem dL_law_974 : decode cL_law 974 = .ok (.iconst 0, 1) := by decide +kernel
theorem dL_law_975 : decode cL_law 975 = .ok (.ireturn, 1) := by decide +kernel
theorem dL_law_976 : decode cL_law 976 = .ok (.iload 5, 2) := by decide +kernel
theorem dL_law_978 : decode cL_law 978 = .ok (.ifCond .ne 15, 3) := by decide +kernel
theorem dL_law_981 : decode cL_law 981 = .ok (.aload_n 3, 1) := by decide +kernel
theorem dL_law_982 : decode cL_law 982 = .ok (.iconst 0, 1) := by decide +kernel
theorem dL_law_983 : decode cL_law 983 = .ok (.laload, 1) := by decide +kernel
theorem dL_law_984 : decode cL_law 984 = .ok (.iload 6, 2) := by decide +kernel
theorem dL_law_986 : decode cL_law 986 = .ok (.i2l, 1) := by decide +kernel
theorem dL_law_987 : decode cL_law 987 = .ok (.lcmp, 1) := by decide +kernel
theorem dL_law_988 : decode cL_law 988 = .ok (.ifCond .eq 5, 3) := by decide +kernel
theorem dL_law_991 : decode cL_law 991 = .ok (.iconst 0, 1) := by decide +kernel
theorem dL_law_992 : decode cL_law 992 = .ok (.ireturn, 1) := by decide +kernel
theorem dL_law_993 : decode cL_law 993 = .ok (.goto 235, 3) := by decide +kernel
theorem dL_law_996 : decode cL_law 996 = .ok (.aload_n 1, 1) := by decide +kernel
theorem dL_law_997 : decode cL_law 997 = .ok (.aload_n 0, 1) := by decide +kernel
theorem dL_law_998 : decode cL_law 998 = .ok (.iload 4, 2) := by decide +kernel
theorem dL_law_1000 : decode cL_law 1000 = .ok (.iconst 1, 1) := by decide +kernel
theorem dL_law_1001 : decode cL_law 1001 = .ok (.iadd, 1) := by decide +kernel
theorem dL_law_1002 : decode cL_law 1002 = .ok (.iaload, 1) := by decide +kernel
theorem dL_law_1003 : decode cL_law 1003 = .ok (.aload_n 0, 1) := by decide +kernel
theorem dL_law_1004 : decode cL_law 1004 = .ok (.iload 4, 2) := by decide +kernel
theorem dL_law_1006 : decode cL_law 1006 = .ok (.iconst 2, 1) := by decide +kernel
theorem dL_law_1007 : decode cL_law 1007 = .ok (.iadd, 1) := by decide +kernel
theorem dL_law_1008 : decode cL_law 1008 = .ok (.iaload, 1) := by decide +kernel
theorem dL_law_1009 : decode cL_law 1009 = .ok (.aload_n 3, 1) := by decide +kernel
theorem dL_law_1010 : decode cL_law 1010 = .ok (.invokestatic 127, 3) := by decide +kernel
theorem dL_law_1013 : decode cL_law 1013 = .ok (.istore 5, 2) := by decide +kernel
theorem dL_law_1015 : decode cL_law 1015 = .ok (.aload_n 2, 1) := by decide +kernel
theorem dL_law_1016 : decode cL_law 1016 = .ok (.aload_n 0, 1) := by decide +kernel
theorem dL_law_1017 : decode cL_law 1017 = .ok (.iload 4, 2) := by decide +kernel
theorem dL_law_1019 : decode cL_law 1019 = .ok (.iconst 1, 1) := by decide +kernel
theorem dL_law_1020 : decode cL_law 1020 = .ok (.iadd, 1) := by decide +kernel
theorem dL_law_1021 : decode cL_law 1021 = .ok (.iaload, 1) := by decide +kernel
theorem dL_law_1022 : decode cL_law 1022 = .ok (.aload_n 0, 1) := by decide +kernel
theorem dL_law_1023 : decode cL_law 1023 = .ok (.iload 4, 2) := by decide +kernel
theorem dL_law_1025 : decode cL_law 1025 = .ok (.iconst 2, 1) := by decide +kernel
theorem dL_law_1026 : decode cL_law 1026 = .ok (.iadd, 1) := by decide +kernel
theorem dL_law_1027 : decode cL_law 1027 = .ok (.iaload, 1) := by decide +kernel
theorem dL_law_1028 : decode cL_law 1028 = .ok (.invokevirtual 129, 3) := by decide +kernel
theorem dL_law_1031 : decode cL_law 1031 = .ok (.istore 6, 2) := by decide +kernel
theorem dL_law_1033 : decode cL_law 1033 = .ok (.aload_n 2, 1) := by decide +kernel
theorem dL_law_1034 : decode cL_law 1034 = .ok (.invokevirtual 77, 3) := by decide +kernel
theorem dL_law_1037 : decode cL_law 1037 = .ok (.iload 5, 2) := by decide +kernel
theorem dL_law_1039 : decode cL_law 1039 = .ok (.if_icmp .eq 5, 3) := by decide +kernel
theorem dL_law_1042 : decode cL_law 1042 = .ok (.iconst 0, 1) := by decide +kernel
theorem dL_law_1043 : decode cL_law 1043 = .ok (.ireturn, 1) := by decide +kernel
theorem dL_law_1044 : decode cL_law 1044 = .ok (.iload 5, 2) := by decide +kernel
theorem dL_law_1046 : decode cL_law 1046 = .ok (.ifCond .ne 15, 3) := by decide +kernel
theorem dL_law_1049 : decode cL_law 1049 = .ok (.aload_n 3, 1) := by decide +kernel
theorem dL_law_1050 : decode cL_law 1050 = .ok (.iconst 0, 1) := by decide +kernel
theorem dL_law_1051 : decode cL_law 1051 = .ok (.laload, 1) := by decide +kernel
theorem dL_law_1052 : decode cL_law 1052 = .ok (.iload 6, 2) := by decide +kernel
theorem dL_law_1054 : decode cL_law 1054 = .ok (.i2l, 1) := by decide +kernel
theorem dL_law_1055 : decode cL_law 1055 = .ok (.lcmp, 1) := by decide +kernel
theorem dL_law_1056 : decode cL_law 1056 = .ok (.ifCond .eq 5, 3) := by decide +kernel
theorem dL_law_1059 : decode cL_law 1059 = .ok (.iconst 0, 1) := by decide +kernel
theorem dL_law_1060 : decode cL_law 1060 = .ok (.ireturn, 1) := by decide +kernel
theorem dL_law_1061 : decode cL_law 1061 = .ok (.goto 167, 3) := by decide +kernel
theorem dL_law_1064 : decode cL_law 1064 = .ok (.aload_n 1, 1) := by decide +kernel
theorem dL_law_1065 : decode cL_law 1065 = .ok (.invokevirtual 130, 3) := by decide +kernel
theorem dL_law_1068 : decode cL_law 1068 = .ok (.aload_n 2, 1) := by decide +kernel
theorem dL_law_1069 : decode cL_law 1069 = .ok (.invokevirtual 134, 3) := by decide +kernel
theorem dL_law_1072 : decode cL_law 1072 = .ok (.lcmp, 1) := by decide +kernel
theorem dL_law_1073 : decode cL_law 1073 = .ok (.ifCond .eq 155, 3) := by decide +kernel
theorem dL_law_1076 : decode cL_law 1076 = .ok (.iconst 0, 1) := by decide +kernel
theorem dL_law_1077 : decode cL_law 1077 = .ok (.ireturn, 1) := by decide +kernel
theorem dL_law_1078 : decode cL_law 1078 = .ok (.aload_n 1, 1) := by decide +kernel
theorem dL_law_1079 : decode cL_law 1079 = .ok (.invokevirtual 135, 3) := by decide +kernel
theorem dL_law_1082 : decode cL_law 1082 = .ok (.aload_n 2, 1) := by decide +kernel
theorem dL_law_1083 : decode cL_law 1083 = .ok (.invokevirtual 138, 3) := by decide +kernel
theorem dL_law_1086 : decode cL_law 1086 = .ok (.lcmp, 1) := by decide +kernel
theorem dL_law_1087 : decode cL_law 1087 = .ok (.ifCond .eq 141, 3) := by decide +kernel
theorem dL_law_1090 : decode cL_law 1090 = .ok (.iconst 0, 1) := by decide +kernel
theorem dL_law_1091 : decode cL_law 1091 = .ok (.ireturn, 1) := by decide +kernel
theorem dL_law_1092 : decode cL_law 1092 = .ok (.aload_n 1, 1) := by decide +kernel
theorem dL_law_1093 : decode cL_law 1093 = .ok (.aload_n 0, 1) := by decide +kernel
theorem dL_law_1094 : decode cL_law 1094 = .ok (.iload 4, 2) := by decide +kernel
theorem dL_law_1096 : decode cL_law 1096 = .ok (.iconst 1, 1) := by decide +kernel
theorem dL_law_1097 : decode cL_law 1097 = .ok (.iadd, 1) := by decide +kernel
theorem dL_law_1098 : decode cL_law 1098 = .ok (.iaload, 1) := by decide +kernel
theorem dL_law_1099 : decode cL_law 1099 = .ok (.aload_n 0, 1) := by decide +kernel
theorem dL_law_1100 : decode cL_law 1100 = .ok (.iload 4, 2) := by decide +kernel
theorem dL_law_1102 : decode cL_law 1102 = .ok (.iconst 2, 1) := by decide +kernel
theorem dL_law_1103 : decode cL_law 1103 = .ok (.iadd, 1) := by decide +kernel
theorem dL_law_1104 : decode cL_law 1104 = .ok (.iaload, 1) := by decide +kernel
theorem dL_law_1105 : decode cL_law 1105 = .ok (.aload_n 3, 1) := by decide +kernel
theorem dL_law_1106 : decode cL_law 1106 = .ok (.invokestatic 139, 3) := by decide +kernel
theorem dL_law_1109 : decode cL_law 1109 = .ok (.istore 5, 2) := by decide +kernel
theorem dL_law_1111 : decode cL_law 1111 = .ok (.aload_n 2, 1) := by decide +kernel
theorem dL_law_1112 : decode cL_law 1112 = .ok (.aload_n 0, 1) := by decide +kernel
theorem dL_law_1113 : decode cL_law 1113 = .ok (.iload 4, 2) := by decide +kernel
theorem dL_law_1115 : decode cL_law 1115 = .ok (.iconst 1, 1) := by decide +kernel
theorem dL_law_1116 : decode cL_law 1116 = .ok (.iadd, 1) := by decide +kernel
theorem dL_law_1117 : decode cL_law 1117 = .ok (.iaload, 1) := by decide +kernel
theorem dL_law_1118 : decode cL_law 1118 = .ok (.aload_n 0, 1) := by decide +kernel
theorem dL_law_1119 : decode cL_law 1119 = .ok (.iload 4, 2) := by decide +kernel
theorem dL_law_1121 : decode cL_law 1121 = .ok (.iconst 2, 1) := by decide +kernel
theorem dL_law_1122 : decode cL_law 1122 = .ok (.iadd, 1) := by decide +kernel
theorem dL_law_1123 : decode cL_law 1123 = .ok (.iaload, 1) := by decide +kernel
theorem dL_law_1124 : decode cL_law 1124 = .ok (.invokevirtual 141, 3) := by decide +kernel
theorem dL_law_1127 : decode cL_law 1127 = .ok (.istore 6, 2) := by decide +kernel
theorem dL_law_1129 : decode cL_law 1129 = .ok (.aload_n 2, 1) := by decide +kernel
theorem dL_law_1130 : decode cL_law 1130 = .ok (.invokevirtual 77, 3) := by decide +kernel
theorem dL_law_1133 : decode cL_law 1133 = .ok (.iload 5, 2) := by decide +kernel
theorem dL_law_1135 : decode cL_law 1135 = .ok (.if_icmp .eq 5, 3) := by decide +kernel
theorem dL_law_1138 : decode cL_law 1138 = .ok (.iconst 0, 1) := by decide +kernel
theorem dL_law_1139 : decode cL_law 1139 = .ok (.ireturn, 1) := by decide +kernel
theorem dL_law_1140 : decode cL_law 1140 = .ok (.iload 5, 2) := by decide +kernel
theorem dL_law_1142 : decode cL_law 1142 = .ok (.ifCond .ne 15, 3) := by decide +kernel
theorem dL_law_1145 : decode cL_law 1145 = .ok (.aload_n 3, 1) := by decide +kernel
theorem dL_law_1146 : decode cL_law 1146 = .ok (.iconst 0, 1) := by decide +kernel
theorem dL_law_1147 : decode cL_law 1147 = .ok (.laload, 1) := by decide +kernel
theorem dL_law_1148 : decode cL_law 1148 = .ok (.iload 6, 2) := by decide +kernel
theorem dL_law_1150 : decode cL_law 1150 = .ok (.i2l, 1) := by decide +kernel
theorem dL_law_1151 : decode cL_law 1151 = .ok (.lcmp, 1) := by decide +kernel
theorem dL_law_1152 : decode cL_law 1152 = .ok (.ifCond .eq 5, 3) := by decide +kernel
theorem dL_law_1155 : decode cL_law 1155 = .ok (.iconst 0, 1) := by decide +kernel
theorem dL_law_1156 : decode cL_law 1156 = .ok (.ireturn, 1) := by decide +kernel
theorem dL_law_1157 : decode cL_law 1157 = .ok (.goto 71, 3) := by decide +kernel
theorem dL_law_1160 : decode cL_law 1160 = .ok (.aload_n 1, 1) := by decide +kernel
theorem dL_law_1161 : decode cL_law 1161 = .ok (.aload_n 0, 1) := by decide +kernel
theorem dL_law_1162 : decode cL_law 1162 = .ok (.iload 4, 2) := by decide +kernel
theorem dL_law_1164 : decode cL_law 1164 = .ok (.iconst 1, 1) := by decide +kernel
theorem dL_law_1165 : decode cL_law 1165 = .ok (.iadd, 1) := by decide +kernel
theorem dL_law_1166 : decode cL_law 1166 = .ok (.iaload, 1) := by decide +kernel
theorem dL_law_1167 : decode cL_law 1167 = .ok (.aload_n 0, 1) := by decide +kernel
theorem dL_law_1168 : decode cL_law 1168 = .ok (.iload 4, 2) := by decide +kernel
theorem dL_law_1170 : decode cL_law 1170 = .ok (.iconst 2, 1) := by decide +kernel
theorem dL_law_1171 : decode cL_law 1171 = .ok (.iadd, 1) := by decide +kernel
theorem dL_law_1172 : decode cL_law 1172 = .ok (.iaload, 1) := by decide +kernel
theorem dL_law_1173 : decode cL_law 1173 = .ok (.aload_n 3, 1) := by decide +kernel
theorem dL_law_1174 : decode cL_law 1174 = .ok (.invokestatic 142, 3) := by decide +kernel
theorem dL_law_1177 : decode cL_law 1177 = .ok (.istore 5, 2) := by decide +kernel
theorem dL_law_1179 : decode cL_law 1179 = .ok (.aload_n 2, 1) := by decide +kernel
theorem dL_law_1180 : decode cL_law 1180 = .ok (.aload_n 0, 1) := by decide +kernel
theorem dL_law_1181 : decode cL_law 1181 = .ok (.iload 4, 2) := by decide +kernel
theorem dL_law_1183 : decode cL_law 1183 = .ok (.iconst 1, 1) := by decide +kernel
theorem dL_law_1184 : decode cL_law 1184 = .ok (.iadd, 1) := by decide +kernel
theorem dL_law_1185 : decode cL_law 1185 = .ok (.iaload, 1) := by decide +kernel
theorem dL_law_1186 : decode cL_law 1186 = .ok (.aload_n 0, 1) := by decide +kernel
theorem dL_law_1187 : decode cL_law 1187 = .ok (.iload 4, 2) := by decide +kernel
theorem dL_law_1189 : decode cL_law 1189 = .ok (.iconst 2, 1) := by decide +kernel
theorem dL_law_1190 : decode cL_law 1190 = .ok (.iadd, 1) := by decide +kernel
theorem dL_law_1191 : decode cL_law 1191 = .ok (.iaload, 1) := by decide +kernel
theorem dL_law_1192 : decode cL_law 1192 = .ok (.invokevirtual 144, 3) := by decide +kernel
theorem dL_law_1195 : decode cL_law 1195 = .ok (.istore 6, 2) := by decide +kernel
theorem dL_law_1197 : decode cL_law 1197 = .ok (.aload_n 2, 1) := by decide +kernel
theorem dL_law_1198 : decode cL_law 1198 = .ok (.invokevirtual 77, 3) := by decide +kernel
theorem dL_law_1201 : decode cL_law 1201 = .ok (.iload 5, 2) := by decide +kernel
theorem dL_law_1203 : decode cL_law 1203 = .ok (.if_icmp .eq 5, 3) := by decide +kernel
theorem dL_law_1206 : decode cL_law 1206 = .ok (.iconst 0, 1) := by decide +kernel
theorem dL_law_1207 : decode cL_law 1207 = .ok (.ireturn, 1) := by decide +kernel
theorem dL_law_1208 : decode cL_law 1208 = .ok (.iload 5, 2) := by decide +kernel
theorem dL_law_1210 : decode cL_law 1210 = .ok (.ifCond .ne 15, 3) := by decide +kernel
theorem dL_law_1213 : decode cL_law 1213 = .ok (.aload_n 3, 1) := by decide +kernel
theorem dL_law_1214 : decode cL_law 1214 = .ok (.iconst 0, 1) := by decide +kernel
theorem dL_law_1215 : decode cL_law 1215 = .ok (.laload, 1) := by decide +kernel
theorem dL_law_1216 : decode cL_law 1216 = .ok (.iload 6, 2) := by decide +kernel
theorem dL_law_1218 : decode cL_law 1218 = .ok (.i2l, 1) := by decide +kernel
theorem dL_law_1219 : decode cL_law 1219 = .ok (.lcmp, 1) := by decide +kernel
theorem dL_law_1220 : decode cL_law 1220 = .ok (.ifCond .eq 5, 3) := by decide +kernel
theorem dL_law_1223 : decode cL_law 1223 = .ok (.iconst 0, 1) := by decide +kernel
theorem dL_law_1224 : decode cL_law 1224 = .ok (.ireturn, 1) := by decide +kernel
theorem dL_law_1225 : decode cL_law 1225 = .ok (.goto 3, 3) := by decide +kernel
theorem dL_law_1228 : decode cL_law 1228 = .ok (.iinc 4 4, 3) := by decide +kernel
theorem dL_law_1231 : decode cL_law 1231 = .ok (.goto (-1208), 3) := by decide +kernel
theorem dL_law_1234 : decode cL_law 1234 = .ok (.iconst 1, 1) := by decide +kernel
theorem dL_law_1235 : decode cL_law 1235 = .ok (.ireturn, 1) := by decide +kernel
abbrev vwCl : List vw_C := [(RJx4a65c, TJx4a65c, 3), (RX0, TX0, 3), (RX1, TX1, 6), (RX2, TX2, 3), (RX3, TX3, 3), (RX4, TX4, 6), (RX5, TX5, 21)]
end
section
/-! ===== the view of a heap: what its cells hold, by their addresses; every kit row lifted to it ===== -/
abbrev hv : Type := Nat → Option va_E
def hv_up (h : hv) (a : Nat) (e : va_E) : hv := fun b => if b = a then some e else h b
theorem hv_up_eq {h : hv} {a : Nat} {e : va_E} : hv_up h a e a = some e := if_pos rfl
theorem hv_up_ne {h : hv} {a b : Nat} {e : va_E} (n : b ≠ a) : hv_up h a e b = h b := if_neg n
theorem hv_up_up {h : hv} {a : Nat} {e e2 : va_E} : hv_up (hv_up h a e) a e2 = hv_up h a e2 := by
  funext b
  by_cases n : b = a
  · subst n; rw [hv_up_eq, hv_up_eq]
  · rw [hv_up_ne n, hv_up_ne n, hv_up_ne n]
theorem hv_up_same {h : hv} {a : Nat} {e : va_E} (ha : h a = some e) : hv_up h a e = h := by
  funext b
  by_cases n : b = a
  · subst n; rw [hv_up_eq, ha]
  · rw [hv_up_ne n]
theorem hv_ne {h : hv} {a b : Nat} {e1 e2 : va_E} (ha : h a = some e1) (hb : h b = some e2) (n : e1 ≠ e2) : a ≠ b := by
  rintro rfl
  rw [ha] at hb
  exact n (Option.some.inj hb)
theorem hv_neN {h : hv} {b q : Nat} {e : va_E} (hb : h b = some e) (hq : h q = none) : b ≠ q := by
  rintro rfl
  rw [hb] at hq
  cases hq
theorem hv_neO {h : hv} {a b c1 c2 : Nat} {f1 f2 : List Value} (ha : h a = some (.inr (c1, f1))) (hb : h b = some (.inr (c2, f2))) (n : c1 ≠ c2) : a ≠ b := hv_ne ha hb (fun e => n (congrArg Prod.fst (Sum.inr.inj e)))
theorem hv_neOA {h : hv} {a b : Nat} {x : Nat × List Value} {y : ClassId × vp_A} (ha : h a = some (.inr x)) (hb : h b = some (.inl y)) : a ≠ b := hv_ne ha hb (fun e => nomatch e)
theorem hv_neAO {h : hv} {a b : Nat} {x : Nat × List Value} {y : ClassId × vp_A} (ha : h a = some (.inl y)) (hb : h b = some (.inr x)) : a ≠ b := hv_ne ha hb (fun e => nomatch e)
theorem hv_neAIQ {h : hv} {a b n1 n2 : Nat} {c1 c2 : ClassId} {f : Nat → Int32} {g : Nat → Option Nat} (ha : h a = some (.inl (c1, n1, .inl f))) (hb : h b = some (.inl (c2, n2, .inr (.inr (.inr (.inr g)))))) : a ≠ b := hv_ne ha hb (fun e => nomatch (congrArg (fun z => z.2.2) (Sum.inl.inj e)))
theorem hv_neAQI {h : hv} {a b n1 n2 : Nat} {c1 c2 : ClassId} {f : Nat → Int32} {g : Nat → Option Nat} (ha : h a = some (.inl (c2, n2, .inr (.inr (.inr (.inr g)))))) (hb : h b = some (.inl (c1, n1, .inl f))) : a ≠ b := Ne.symm (hv_neAIQ hb ha)
abbrev hv_G : Type := va_G × (Nat → ClassId) × (Nat → Nat)
/-- the kinds of arrays: 0 int, 1 boolean, 2 Payment, 3 Object, 4 long -/
abbrev hv_tys (G : hv_G) : List (ClassId × FieldType) := [(G.2.1 0, .int), (G.2.1 1, .boolean), (G.2.1 2, .object "DividendDesk$Payment"), (G.2.1 3, .object "java/lang/Object"), (G.2.1 4, .long)]
def hv_A (h : hv) (sz : Nat) : Nat → Prop := fun q => h q ≠ none ∨ sz ≤ q
def hv_P (G : hv_G) (h : hv) (H : Heap) : Prop := ∀ (a : Nat) (e : va_E), h a = some e → va_at G.1 vwCl (a, e) H
theorem hv_lt {G : hv_G} {h : hv} {H : Heap} (hP : hv_P G h H) {a : Nat} {e : va_E} (ha : h a = some e) : a < H.size := (hP a e ha).lt
theorem hv_one {G : hv_G} {h : hv} {H : Heap} (hP : hv_P G h H) {a : Nat} {e : va_E} (ha : h a = some e) : va_P G.1 vwCl [(a, e)] H := by
  intro k q hk
  cases k with
  | zero => cases hk; exact hP a e ha
  | succ k => cases hk
theorem hv_two {G : hv_G} {h : hv} {H : Heap} (hP : hv_P G h H) {a b : Nat} {e e2 : va_E} (ha : h a = some e) (hb : h b = some e2) : va_P G.1 vwCl [(a, e), (b, e2)] H := by
  intro k q hk
  match k, hk with
  | 0, hk => cases hk; exact hP a e ha
  | 1, hk => cases hk; exact hP b e2 hb
  | k + 2, hk => cases hk
/-- all cells of the view, as a list -/
def hv_ws (h : hv) (n : Nat) : va_W := (List.range n).filterMap (fun b => (h b).map (fun e => (b, e)))
theorem hv_ws_mem {h : hv} {n : Nat} {q : Nat × va_E} : q ∈ hv_ws h n ↔ q.1 < n ∧ h q.1 = some q.2 := by
  unfold hv_ws
  rw [List.mem_filterMap]
  constructor
  · rintro ⟨b, hb, he⟩
    cases hx : h b with
    | none => rw [hx] at he; cases he
    | some e => rw [hx] at he; cases he; exact ⟨List.mem_range.mp hb, hx⟩
  · rintro ⟨h1, h2⟩
    exact ⟨q.1, List.mem_range.mpr h1, by rw [h2]; rfl⟩
theorem hv_ws_D {h : hv} {n : Nat} {A : Nat → Prop} (hA : ∀ a, h a ≠ none → A a) : va_D A (hv_ws h n) := by
  have hp : (hv_ws h n).Pairwise (fun p q => p.1 < q.1) := by
    unfold hv_ws
    rw [List.pairwise_filterMap]
    refine List.Pairwise.imp ?_ List.pairwise_lt_range
    intro a b hab p hp q hq
    cases hx : h a with
    | none => rw [hx] at hp; cases hp
    | some e1 =>
      cases hy : h b with
      | none => rw [hy] at hq; cases hq
      | some e2 => rw [hx] at hp; rw [hy] at hq; cases hp; cases hq; exact hab
  refine ⟨fun i j p q hi hj e => ?_, fun k q hk => hA q.1 (by rw [(hv_ws_mem.mp (List.mem_of_getElem? hk)).2]; exact fun z => nomatch z)⟩
  obtain ⟨li, ei⟩ := List.getElem?_eq_some_iff.mp hi
  obtain ⟨lj, ej⟩ := List.getElem?_eq_some_iff.mp hj
  rw [List.pairwise_iff_getElem] at hp
  rcases Nat.lt_trichotomy i j with c | c | c
  · have := hp i j li lj c
    rw [ei, ej] at this
    omega
  · exact c
  · have := hp j i lj li c
    rw [ei, ej] at this
    omega
theorem hv_ix {G : hv_G} {h : hv} {H : Heap} (hP : hv_P G h H) {a : Nat} {e : va_E} (ha : h a = some e) : ∃ k : Nat, (hv_ws h H.size)[k]? = some (a, e) := List.getElem?_of_mem (hv_ws_mem.mpr ⟨hv_lt hP ha, ha⟩)
theorem hv_all {G : hv_G} {h : hv} {H : Heap} (hP : hv_P G h H) : va_P G.1 vwCl (hv_ws h H.size) H := fun k q hk => hP q.1 q.2 (hv_ws_mem.mp (List.mem_of_getElem? hk)).2
/-! what stands beside the view: class tables, nest links, castings, the empty array, throwables' statics, texts -/
def hv_nw : List Cond := [
  .fieldLinkNest "DividendDesk" 147 "DividendDesk$Payment" "amount" "I" "DividendDesk",
  .fieldLinkNest "DividendDesk" 152 "DividendDesk$Payment" "heldTax" "I" "DividendDesk",
  .fieldLinkNest "DividendDesk" 170 "DividendDesk$Dividend" "formsOnPayDay" "I" "DividendDesk",
  .fieldLinkNest "DividendDesk" 193 "DividendDesk$Dividend" "payDay" "I" "DividendDesk",
  .fieldLinkNest "DividendDesk" 201 "DividendDesk$Holder" "land" "I" "DividendDesk",
  .fieldLinkNest "DividendDesk" 75 "DividendDesk$Holder" "kind" "I" "DividendDesk",
  .fieldLinkNest "DividendDesk" 90 "DividendDesk$Holder" "shares" "I" "DividendDesk",
  .fieldLinkNest "DividendDesk" 98 "DividendDesk$Holder" "formEnd" "I" "DividendDesk",
  .fieldLinkNest "DividendDesk$Dividend" 28 "DividendDesk$Payment" "heldTax" "I" "DividendDesk",
  .methodLinkNest RX4 158 yX0_heldOfAll "DividendDesk",
  .methodLinkNest RX4 64 yX1_init "DividendDesk",
  .methodLinkNest RX4 80 yX1_partsOf "DividendDesk",
  .methodLinkNest RX4 84 yX1_changeParts "DividendDesk",
  .methodLinkNest RX4 109 yX1_endDay "DividendDesk",
  .methodLinkNest RX4 113 yX1_hasFormOn "DividendDesk",
  .methodLinkNest RX4 116 yX1_hasLargeHoldingOn "DividendDesk",
  .methodLinkNest RX4 134 yX0_init "DividendDesk",
  .methodLinkNest RX4 214 yX2_init "DividendDesk",
  .methodLinkNest RX4 228 yX1_partsInAll "DividendDesk",
  .methodLinkNest RX4 222 yX3_init "DividendDesk",
  .methodLinkNest RX4 225 yX2_add "DividendDesk",
  .methodLinkNest RX4 139 yX0_enter "DividendDesk",
  .methodLinkNest RX0 24 yX2_taxWith "DividendDesk",
  .methodLinkNest RX2 37 yX3_tax "DividendDesk",
  .methodLinkNest RX4 189 yX0_paymentTo "DividendDesk",
  .methodLinkNest RX4 155 yX2_taxWith "DividendDesk",
  .methodLinkNest RX4 235 yX2_lowerTo "DividendDesk",
  .castable RX1 "java/lang/Object", .castable RX0 "java/lang/Object", .castable RX3 "java/lang/Object",
  .castable "java/lang/IllegalArgumentException" "java/lang/IllegalArgumentException", .castable "java/lang/IllegalStateException" "java/lang/IllegalStateException", .castable "java/lang/IndexOutOfBoundsException" "java/lang/IndexOutOfBoundsException",
  .declares (Bundle.initS "java/lang/RuntimeException"), .declares (Bundle.initS "java/lang/Exception"), .declares (Bundle.initS Bundle.tN), .declares ⟨"java/lang/Object", "getClass", "()Ljava/lang/Class;"⟩]
def hv_nwOk : Cond → Bool
  | .fieldLinkNest .. | .methodLinkNest .. | .castable .. | .declares _ => true
  | _ => false
theorem hv_nw_ok : ∀ w ∈ hv_nw, hv_nwOk w = true := by decide +kernel
theorem hv_nw_tab : ∀ w ∈ hv_nw, w.onTables = true := by decide +kernel
theorem hv_nw_warm {w : Cond} (h : hv_nwOk w = true) {s U : State} (hW : s.WarmedH U.vm) (hZ : va_Nw w s) : va_Nw w U := by
  cases w <;> first
    | exact va_Nw.warmF hW hZ
    | exact va_Nw.warmM hW hZ
    | exact va_Nw.warmC hW hZ
    | exact va_Nw.warmD hW hZ
    | exact absurd h (by decide)
    | (simp [hv_nwOk] at h; done)
def hv_strs : List (Nat × String) := [(44, "no such land or rate"), (49, "no such kind"), (51, "land does not fit the kind"), (59, "no more holders"), (78, "no such membership or parts"), (88, "no such number of shares"), (96, "more shares than there are"), (101, "no such number of days"), (103, "beyond the last day"), (119, "a partnership has no treaty"), (125, "no such number of cents"), (127, "no more dividends, or nobody to pay"), (177, "no valid form"), (184, "no such holder"), (187, "no such dividend"), (196, "no shares on the pay day, or too late")]
def hv_ncs : List (String × String) := [("java/lang/IllegalStateException", "java/lang/IllegalArgumentException"), ("java/lang/IllegalArgumentException", "java/lang/IndexOutOfBoundsException"), ("java/lang/IllegalStateException", "java/lang/IndexOutOfBoundsException")]
def hv_E (G : hv_G) (A : Nat → Prop) (U : State) (H : Heap) : Prop :=
  va_K G.1 vwCl (hv_tys G) U ∧ (∀ w ∈ hv_nw, va_Nw w U) ∧ (va_AO "java/lang/Object" U ∧ va_AO "DividendDesk$Payment" U) ∧ va_Mi "[Ljava/lang/Object;" (G.2.2 0) U ∧
  (va_Z "java/util/ArrayList" "DEFAULTCAPACITY_EMPTY_ELEMENTDATA" "[Ljava/lang/Object;" (.ref (G.2.2 1)) A U H ∧ va_T (.object "java/lang/Object") (G.2.2 1) 0 (fun _ => .null) A U H) ∧
  (vx_Zq Bundle.tN "UNASSIGNED_STACK" Bundle.steD A U H ∧ vx_Zq Bundle.tN "SUPPRESSED_SENTINEL" Bundle.listD A U H) ∧
  (∀ q ∈ hv_strs, vk_R "DividendDesk" q.1 q.2 (G.2.2 q.1) U) ∧ ∀ q ∈ hv_ncs, va_Nc q.1 q.2 U
theorem hv_E.warm {G : hv_G} {A : Nat → Prop} {s U : State} {H : Heap} (hW : s.WarmedH U.vm) (h : hv_E G A s H) : hv_E G A U H := by
  obtain ⟨h1, h2, ⟨h3, h4⟩, h5, ⟨h6, h7⟩, ⟨h8, h9⟩, h10, h11⟩ := h
  have hl := hW.alike
  exact ⟨va_K.moved hl h1, fun w hw => hv_nw_warm (hv_nw_ok w hw) hW (h2 w hw), ⟨va_AO.moved hl h3, va_AO.moved hl h4⟩, va_Mi.moved hl h5, ⟨va_Z.moved hl h6, va_T.moved hl h7⟩, ⟨vx_Zq.moved hl h8, vx_Zq.moved hl h9⟩, fun q hq => vk_R.warm hW (h10 q hq), fun q hq => va_Nc.moved hl (h11 q hq)⟩
theorem hv_E.kept {G : hv_G} {A : Nat → Prop} {U : State} {H H1 : Heap} (h : hv_E G A U H) (hq : ∀ a : Nat, a < H.size → ¬ A a → H1[a]? = H[a]?) : hv_E G A U H1 := by
  obtain ⟨h1, h2, h3, h5, ⟨h6, h7⟩, ⟨h8, h9⟩, h10, h11⟩ := h
  exact ⟨h1, h2, h3, h5, ⟨h6.kept hq, h7.kept hq⟩, ⟨h8.kept hq, h9.kept hq⟩, h10, h11⟩
theorem hv_E.narrow {G : hv_G} {A B : Nat → Prop} {U : State} {H : Heap} (h : hv_E G A U H) (hAB : ∀ q, B q → A q) : hv_E G B U H := by
  obtain ⟨h1, h2, h3, h5, ⟨h6, h7⟩, ⟨h8, h9⟩, h10, h11⟩ := h
  exact ⟨h1, h2, h3, h5, ⟨h6.narrow hAB, h7.narrow hAB⟩, ⟨h8.narrow hAB, h9.narrow hAB⟩, h10, h11⟩
/-- the machine's side of a walk: its code, its words, what stands beside the view -/
def hv_C (p : Program) (s : State) (m : MethodId) (args : Array Value) (meth : Method) (c : Code) (own : String) (cc : ByteArray) (nL : Nat) (Ts : List Cond) (G : hv_G) (h0 : hv) : Prop :=
  p.tables.exec = Jvm.exec ∧ c.code = cc ∧ c.maxLocals = nL ∧ s.vm.findClass own = some m.cls ∧ (∀ w ∈ Ts, w.before args s = true) ∧ meth.locks = false ∧ hv_E G (hv_A h0 s.heap.size) s s.heap
/-- the heap's side: h is what the heap holds; nothing else that was there has changed -/
def hv_I (G : hv_G) (h0 : hv) (s : State) (h : hv) (H : Heap) (locs : List Loc) : Prop :=
  hv_P G h H ∧ (∀ a, h a ≠ none → hv_A h0 s.heap.size a) ∧ va_S (hv_A h0 s.heap.size) s.heap H locs
theorem hv_new_A {h0 : hv} {s : State} (q : Nat) (h : s.heap.size ≤ q) : hv_A h0 s.heap.size q := Or.inr h
theorem hv_I.set {G : hv_G} {h0 h : hv} {s : State} {H H1 : Heap} {locs locs1 : List Loc} {a k : Nat} {e0 e1 : va_E} (I : hv_I G h0 s h H locs) (ha : h a = some e0) (hq : (hv_ws h H.size)[k]? = some (a, e0)) (h1 : va_P G.1 vwCl ((hv_ws h H.size).set k (a, e1)) H1) (h3 : va_S (hv_A h0 s.heap.size) s.heap H1 locs1) : hv_I G h0 s (hv_up h a e1) H1 locs1 := by
  refine ⟨fun b e hb => ?_, fun b hb => ?_, h3⟩
  · by_cases n : b = a
    · subst n
      rw [hv_up_eq] at hb
      cases hb
      exact h1 k (b, e1) (List.getElem?_set_self (List.getElem?_eq_some_iff.mp hq).1)
    · rw [hv_up_ne n] at hb
      obtain ⟨j, hj⟩ := hv_ix I.1 hb
      have hjk : k ≠ j := by
        rintro rfl
        rw [hq] at hj
        cases hj
        exact n rfl
      exact h1 j (b, e) (by rw [List.getElem?_set_ne hjk]; exact hj)
  · by_cases n : b = a
    · subst n
      exact I.2.1 b (by rw [ha]; exact fun z => nomatch z)
    · rw [hv_up_ne n] at hb
      exact I.2.1 b hb
theorem hv_I.push {G : hv_G} {h0 h : hv} {s : State} {H H1 : Heap} {locs locs1 : List Loc} {q : Nat} {e1 : va_E} (I : hv_I G h0 s h H locs) (h1 : va_P G.1 vwCl (hv_ws h H.size ++ [(q, e1)]) H1) (h2 : va_D (hv_A h0 s.heap.size) (hv_ws h H.size ++ [(q, e1)])) (h3 : va_S (hv_A h0 s.heap.size) s.heap H1 locs1) : h q = none ∧ hv_I G h0 s (hv_up h q e1) H1 locs1 := by
  have el : (hv_ws h H.size ++ [(q, e1)])[(hv_ws h H.size).length]? = some (q, e1) := by rw [List.getElem?_append_right (Nat.le_refl _), Nat.sub_self]; rfl
  have hn : h q = none := by
    cases hx : h q with
    | none => rfl
    | some e =>
      obtain ⟨j, hj⟩ := hv_ix I.1 hx
      have hl := (List.getElem?_eq_some_iff.mp hj).1
      have h4 := h2.1 j _ (q, e) (q, e1) (by rw [List.getElem?_append_left hl]; exact hj) el rfl
      omega
  refine ⟨hn, fun b e hb => ?_, fun b hb => ?_, h3⟩
  · by_cases n : b = q
    · subst n
      rw [hv_up_eq] at hb
      cases hb
      exact h1 _ (b, e1) el
    · rw [hv_up_ne n] at hb
      obtain ⟨j, hj⟩ := hv_ix I.1 hb
      exact h1 j (b, e) (by rw [List.getElem?_append_left (List.getElem?_eq_some_iff.mp hj).1]; exact hj)
  · by_cases n : b = q
    · subst n
      exact h2.2 _ (b, e1) el
    · rw [hv_up_ne n] at hb
      exact I.2.1 b hb
theorem hv_RA_inj {s : State} {c1 c2 : ClassId} {ty : FieldType} (h1 : va_RA s c1 ty) (h2 : va_RA s c2 ty) : c1 = c2 := by
  cases ty with
  | object C =>
    obtain ⟨_, _, _, _, _, a1⟩ := h1
    obtain ⟨_, _, _, _, _, a2⟩ := h2
    exact Option.some.inj (a1.symm.trans a2)
  | _ => exact Option.some.inj (Eq.trans (Eq.symm h1) h2)
theorem hv_tyEq {G : hv_G} {s : State} {cA : ClassId} {ty : FieldType} {k : Nat} (hK : va_K G.1 vwCl (hv_tys G) s) (h : va_K G.1 vwCl (hv_tys G ++ [(cA, ty)]) s) {c1 : ClassId} (hk : (hv_tys G)[k]? = some (c1, ty)) : cA = c1 :=
  hv_RA_inj (h.2 5 (cA, ty) rfl).2 (hK.2 k (c1, ty) hk).2
section HVR
variable {p : Program} {l : Launch} {e : Env} {R : Room} {s : State} {m : MethodId} {args : Array Value} {below : List Frame} {meth : Method} {c : Code} {H : Heap} {locs : List Loc} {cells slots : Nat} {Q : State → Prop}
variable {cc : ByteArray} {pc : Nat} {ls : Array Slot} {rest : List Value} {a : Nat} {G : hv_G} {h h0 : hv} {own : String} {nL : Nat} {Ts : List Cond}
theorem hv_C.ts (C : hv_C p s m args meth c own cc nL Ts G h0) {w : Cond} (hw : w ∈ Ts) : w.before args s = true := C.2.2.2.2.1 w hw
theorem hv_C.K (C : hv_C p s m args meth c own cc nL Ts G h0) : va_K G.1 vwCl (hv_tys G) s := C.2.2.2.2.2.2.1
theorem hv_C.nw (C : hv_C p s m args meth c own cc nL Ts G h0) {w : Cond} (hw : w ∈ hv_nw) : va_Nw w s := C.2.2.2.2.2.2.2.1 w hw
theorem hv_C.fix (C : hv_C p s m args meth c own cc nL Ts G h0) : CallFix p m c cc nL s args Ts own := ⟨C.1, C.2.1, C.2.2.1, C.2.2.2.1, C.2.2.2.2.1⟩
theorem hv_C.locks (C : hv_C p s m args meth c own cc nL Ts G h0) : meth.locks = false := C.2.2.2.2.2.1
/-! fields -/
theorem hv_get (C : hv_C p s m args meth c own cc nL Ts G h0) (I : hv_I G h0 s h H locs) {ci : Nat} {fs : List Value} (ha : h a = some (.inr (ci, fs))) {ref Cn : String} {T : u_T} {N index : Nat} (hin : ∀ w ∈ u_ws Cn T N, w ∈ Ts) (hc : vwCl[ci]? = some (Cn, T, N)) (k : Nat) (hk : k < N) (hlink : Cond.fieldLink own index ref (T k).2.1 (T k).2.2.1 ∈ Ts) (hsame : ∀ x, s.fieldFound? (T k).1 (T k).2.1 (T k).2.2.1 = some x → s.fieldFound? ref (T k).2.1 (T k).2.2.1 = some x) {v : Value} (hvv : fs[k]? = some v) (hdg : decode cc pc = .ok (.getfield index, 3))
    (kk : W p l e R s m args below meth c H locs cells slots Q (F0 m (pc + 3) ls (v :: rest))) : W p l e R s m args below meth c H locs cells slots Q (F0 m pc ls (.ref a :: rest)) :=
  va_get C.1 C.2.1 C.2.2.2.2.1 hin C.2.2.2.1 C.K (hv_one I.1 ha) 0 rfl hc k hk (C.ts hlink) hsame hvv hdg kk
theorem hv_getN (C : hv_C p s m args meth c own cc nL Ts G h0) (I : hv_I G h0 s h H locs) {ci : Nat} {fs : List Value} (ha : h a = some (.inr (ci, fs))) {ref host Cn : String} {T : u_T} {N index : Nat} (hin : ∀ w ∈ u_ws Cn T N, w ∈ Ts) (hc : vwCl[ci]? = some (Cn, T, N)) (k : Nat) (hk : k < N) (hlink : Cond.fieldLinkNest own index ref (T k).2.1 (T k).2.2.1 host ∈ hv_nw) (hsame : ∀ x, s.fieldFound? (T k).1 (T k).2.1 (T k).2.2.1 = some x → s.fieldFound? ref (T k).2.1 (T k).2.2.1 = some x) {v : Value} (hvv : fs[k]? = some v) (hdg : decode cc pc = .ok (.getfield index, 3))
    (kk : W p l e R s m args below meth c H locs cells slots Q (F0 m (pc + 3) ls (v :: rest))) : W p l e R s m args below meth c H locs cells slots Q (F0 m pc ls (.ref a :: rest)) :=
  va_getN C.1 C.2.1 C.2.2.2.2.1 hin C.2.2.2.1 C.K (hv_one I.1 ha) 0 rfl hc k hk (va_Nw.use rfl (C.nw hlink)) hsame hvv hdg kk
theorem hv_put (C : hv_C p s m args meth c own cc nL Ts G h0) (I : hv_I G h0 s h H locs) {ci : Nat} {fs : List Value} (ha : h a = some (.inr (ci, fs))) {ref Cn : String} {T : u_T} {N index : Nat} (hin : ∀ w ∈ u_ws Cn T N, w ∈ Ts) (ty0 : Nat → FieldType) (hty : ∀ k, k < N → parseFieldDescriptor (T k).2.2.1 = some (ty0 k)) (hnm : ∀ a, a < N → ∀ b, b < N → a ≠ b → (T a).2.1 ≠ (T b).2.1) (hc : vwCl[ci]? = some (Cn, T, N)) (k : Nat) (hk : k < N) (hlink : Cond.fieldLink own index ref (T k).2.1 (T k).2.2.1 ∈ Ts) (hsame : ∀ x, s.fieldFound? (T k).1 (T k).2.1 (T k).2.2.1 = some x → s.fieldFound? ref (T k).2.1 (T k).2.2.1 = some x) (hfin : (T k).2.2.2 = false) {ty : FieldType} {v : Value} (hd : parseFieldDescriptor (T k).2.2.1 = some ty) (hn : narrow ty v = v) (hfit : fits ty v = true) (hl : k < fs.length) (hdg : decode cc pc = .ok (.putfield index, 3))
    (kk : ∀ (H1 : Heap) (locs1 : List Loc), hv_I G h0 s (hv_up h a (.inr (ci, fs.set k v))) H1 locs1 → W p l e R s m args below meth c H1 locs1 cells slots Q (F0 m (pc + 3) ls rest)) : W p l e R s m args below meth c H locs cells slots Q (F0 m pc ls (v :: .ref a :: rest)) := by
  obtain ⟨q0, hq⟩ := hv_ix I.1 ha
  exact va_put C.1 C.2.1 C.2.2.2.2.1 hin ty0 hty hnm C.2.2.2.1 C.K (hv_all I.1) (hv_ws_D I.2.1) I.2.2 q0 hq hc k hk (C.ts hlink) hsame hfin hd hn hfit hl hdg (fun H1 locs1 h1 _ h3 => kk H1 locs1 (I.set ha hq h1 h3))
theorem hv_putF (C : hv_C p s m args meth c own cc nL Ts G h0) (I : hv_I G h0 s h H locs) {ci : Nat} {fs : List Value} (ha : h a = some (.inr (ci, fs))) {ref Cn : String} {T : u_T} {N index : Nat} (hin : ∀ w ∈ u_ws Cn T N, w ∈ Ts) (ty0 : Nat → FieldType) (hty : ∀ k, k < N → parseFieldDescriptor (T k).2.2.1 = some (ty0 k)) (hnm : ∀ a, a < N → ∀ b, b < N → a ≠ b → (T a).2.1 ≠ (T b).2.1) (hc : vwCl[ci]? = some (Cn, T, N)) (k : Nat) (hk : k < N) (hlink : Cond.fieldLink own index ref (T k).2.1 (T k).2.2.1 ∈ Ts) (hsame : ∀ x, s.fieldFound? (T k).1 (T k).2.1 (T k).2.2.1 = some x → s.fieldFound? ref (T k).2.1 (T k).2.2.1 = some x) (hfin : (T k).2.2.2 = true) (hinit : meth.name = "<init>") (hdecl : (T k).1 = own) {ty : FieldType} {v : Value} (hd : parseFieldDescriptor (T k).2.2.1 = some ty) (hn : narrow ty v = v) (hfit : fits ty v = true) (hl : k < fs.length) (hdg : decode cc pc = .ok (.putfield index, 3))
    (kk : ∀ (H1 : Heap) (locs1 : List Loc), hv_I G h0 s (hv_up h a (.inr (ci, fs.set k v))) H1 locs1 → W p l e R s m args below meth c H1 locs1 cells slots Q (F0 m (pc + 3) ls rest)) : W p l e R s m args below meth c H locs cells slots Q (F0 m pc ls (v :: .ref a :: rest)) := by
  obtain ⟨q0, hq⟩ := hv_ix I.1 ha
  exact va_putF C.1 C.2.1 C.2.2.2.2.1 hin ty0 hty hnm C.2.2.2.1 C.K (hv_all I.1) (hv_ws_D I.2.1) I.2.2 q0 hq hc k hk (C.ts hlink) hsame hfin hinit hdecl hd hn hfit hl hdg (fun H1 locs1 h1 _ h3 => kk H1 locs1 (I.set ha hq h1 h3))
theorem hv_putN (C : hv_C p s m args meth c own cc nL Ts G h0) (I : hv_I G h0 s h H locs) {ci : Nat} {fs : List Value} (ha : h a = some (.inr (ci, fs))) {ref host Cn : String} {T : u_T} {N index : Nat} (hin : ∀ w ∈ u_ws Cn T N, w ∈ Ts) (ty0 : Nat → FieldType) (hty : ∀ k, k < N → parseFieldDescriptor (T k).2.2.1 = some (ty0 k)) (hnm : ∀ a, a < N → ∀ b, b < N → a ≠ b → (T a).2.1 ≠ (T b).2.1) (hc : vwCl[ci]? = some (Cn, T, N)) (k : Nat) (hk : k < N) (hlink : Cond.fieldLinkNest own index ref (T k).2.1 (T k).2.2.1 host ∈ hv_nw) (hsame : ∀ x, s.fieldFound? (T k).1 (T k).2.1 (T k).2.2.1 = some x → s.fieldFound? ref (T k).2.1 (T k).2.2.1 = some x) (hfin : (T k).2.2.2 = false) {ty : FieldType} {v : Value} (hd : parseFieldDescriptor (T k).2.2.1 = some ty) (hn : narrow ty v = v) (hfit : fits ty v = true) (hl : k < fs.length) (hdg : decode cc pc = .ok (.putfield index, 3))
    (kk : ∀ (H1 : Heap) (locs1 : List Loc), hv_I G h0 s (hv_up h a (.inr (ci, fs.set k v))) H1 locs1 → W p l e R s m args below meth c H1 locs1 cells slots Q (F0 m (pc + 3) ls rest)) : W p l e R s m args below meth c H locs cells slots Q (F0 m pc ls (v :: .ref a :: rest)) := by
  obtain ⟨q0, hq⟩ := hv_ix I.1 ha
  exact va_putN C.1 C.2.1 C.2.2.2.2.1 hin ty0 hty hnm C.2.2.2.1 C.K (hv_all I.1) (hv_ws_D I.2.1) I.2.2 q0 hq hc k hk (va_Nw.use rfl (C.nw hlink)) hsame hfin hd hn hfit hl hdg (fun H1 locs1 h1 _ h3 => kk H1 locs1 (I.set ha hq h1 h3))
/-! arrays -/
theorem hv_iald (C : hv_C p s m args meth c own cc nL Ts G h0) (I : hv_I G h0 s h H locs) {n : Nat} {f : Nat → Int32} (ha : h a = some (.inl (G.2.1 0, n, .inl f))) {i : Int32} (hin : vp_in i n) (hdg : decode cc pc = .ok (.iaload, 1))
    (kk : W p l e R s m args below meth c H locs cells slots Q (F0 m (pc + 1) ls (.int (f i.toNatClampNeg) :: rest))) : W p l e R s m args below meth c H locs cells slots Q (F0 m pc ls (.int i :: .ref a :: rest)) :=
  va_iald C.1 C.2.1 C.K (hv_one I.1 ha) 0 0 rfl rfl hin hdg kk
theorem hv_zald (C : hv_C p s m args meth c own cc nL Ts G h0) (I : hv_I G h0 s h H locs) {n : Nat} {f : Nat → Int32} (ha : h a = some (.inl (G.2.1 1, n, .inl f))) {i : Int32} (hin : vp_in i n) (hdg : decode cc pc = .ok (.baload, 1))
    (kk : W p l e R s m args below meth c H locs cells slots Q (F0 m (pc + 1) ls (.int (f i.toNatClampNeg) :: rest))) : W p l e R s m args below meth c H locs cells slots Q (F0 m pc ls (.int i :: .ref a :: rest)) :=
  va_zald C.1 C.2.1 C.K (hv_one I.1 ha) 0 1 rfl rfl hin hdg kk
theorem hv_lald (C : hv_C p s m args meth c own cc nL Ts G h0) (I : hv_I G h0 s h H locs) {n : Nat} {f : Nat → Int64} (ha : h a = some (.inl (G.2.1 4, n, .inr (.inl f)))) {i : Int32} (hin : vp_in i n) (hdg : decode cc pc = .ok (.laload, 1))
    (kk : W p l e R s m args below meth c H locs cells slots Q (F0 m (pc + 1) ls (.long (f i.toNatClampNeg) :: rest))) : W p l e R s m args below meth c H locs cells slots Q (F0 m pc ls (.int i :: .ref a :: rest)) :=
  va_lald C.1 C.2.1 C.K (hv_one I.1 ha) 0 4 rfl rfl hin hdg kk
theorem hv_pald (C : hv_C p s m args meth c own cc nL Ts G h0) (I : hv_I G h0 s h H locs) {n : Nat} {f : Nat → Option Nat} (ha : h a = some (.inl (G.2.1 2, n, .inr (.inr (.inr (.inr f)))))) {i : Int32} (hin : vp_in i n) (hdg : decode cc pc = .ok (.aaload, 1))
    (kk : W p l e R s m args below meth c H locs cells slots Q (F0 m (pc + 1) ls (va_rf (f i.toNatClampNeg) :: rest))) : W p l e R s m args below meth c H locs cells slots Q (F0 m pc ls (.int i :: .ref a :: rest)) :=
  va_aldq C.1 C.2.1 C.K (hv_one I.1 ha) 0 2 rfl rfl hin hdg kk
theorem hv_oald (C : hv_C p s m args meth c own cc nL Ts G h0) (I : hv_I G h0 s h H locs) {n : Nat} {f : Nat → Option Nat} (ha : h a = some (.inl (G.2.1 3, n, .inr (.inr (.inr (.inr f)))))) {i : Int32} (hin : vp_in i n) (hdg : decode cc pc = .ok (.aaload, 1))
    (kk : W p l e R s m args below meth c H locs cells slots Q (F0 m (pc + 1) ls (va_rf (f i.toNatClampNeg) :: rest))) : W p l e R s m args below meth c H locs cells slots Q (F0 m pc ls (.int i :: .ref a :: rest)) :=
  va_aldq C.1 C.2.1 C.K (hv_one I.1 ha) 0 3 rfl rfl hin hdg kk
theorem hv_iast (C : hv_C p s m args meth c own cc nL Ts G h0) (I : hv_I G h0 s h H locs) {n : Nat} {f : Nat → Int32} (ha : h a = some (.inl (G.2.1 0, n, .inl f))) {i x : Int32} (hin : vp_in i n) (hdg : decode cc pc = .ok (.iastore, 1))
    (kk : ∀ (H1 : Heap) (locs1 : List Loc), hv_I G h0 s (hv_up h a (.inl (G.2.1 0, n, .inl (upd f i.toNatClampNeg x)))) H1 locs1 → W p l e R s m args below meth c H1 locs1 cells slots Q (F0 m (pc + 1) ls rest)) : W p l e R s m args below meth c H locs cells slots Q (F0 m pc ls (.int x :: .int i :: .ref a :: rest)) := by
  obtain ⟨q0, hq⟩ := hv_ix I.1 ha
  exact va_iast C.1 C.2.1 C.K (hv_all I.1) (hv_ws_D I.2.1) I.2.2 q0 0 hq rfl hin hdg (fun H1 locs1 h1 _ h3 => kk H1 locs1 (I.set ha hq h1 h3))
theorem hv_zast (C : hv_C p s m args meth c own cc nL Ts G h0) (I : hv_I G h0 s h H locs) {n : Nat} {f : Nat → Int32} (ha : h a = some (.inl (G.2.1 1, n, .inl f))) {i x : Int32} (hin : vp_in i n) (hdg : decode cc pc = .ok (.bastore, 1))
    (kk : ∀ (H1 : Heap) (locs1 : List Loc), hv_I G h0 s (hv_up h a (.inl (G.2.1 1, n, .inl (upd f i.toNatClampNeg (vp_nar .boolean x))))) H1 locs1 → W p l e R s m args below meth c H1 locs1 cells slots Q (F0 m (pc + 1) ls rest)) : W p l e R s m args below meth c H locs cells slots Q (F0 m pc ls (.int x :: .int i :: .ref a :: rest)) := by
  obtain ⟨q0, hq⟩ := hv_ix I.1 ha
  exact va_zast C.1 C.2.1 C.K (hv_all I.1) (hv_ws_D I.2.1) I.2.2 q0 1 hq rfl hin hdg (fun H1 locs1 h1 _ h3 => kk H1 locs1 (I.set ha hq h1 h3))
theorem hv_last (C : hv_C p s m args meth c own cc nL Ts G h0) (I : hv_I G h0 s h H locs) {n : Nat} {f : Nat → Int64} (ha : h a = some (.inl (G.2.1 4, n, .inr (.inl f)))) {i : Int32} {x : Int64} (hin : vp_in i n) (hdg : decode cc pc = .ok (.lastore, 1))
    (kk : ∀ (H1 : Heap) (locs1 : List Loc), hv_I G h0 s (hv_up h a (.inl (G.2.1 4, n, .inr (.inl (vp_updL f i.toNatClampNeg x))))) H1 locs1 → W p l e R s m args below meth c H1 locs1 cells slots Q (F0 m (pc + 1) ls rest)) : W p l e R s m args below meth c H locs cells slots Q (F0 m pc ls (.long x :: .int i :: .ref a :: rest)) := by
  obtain ⟨q0, hq⟩ := hv_ix I.1 ha
  exact va_last C.1 C.2.1 C.K (hv_all I.1) (hv_ws_D I.2.1) I.2.2 q0 4 hq rfl hin hdg (fun H1 locs1 h1 _ h3 => kk H1 locs1 (I.set ha hq h1 h3))
/-- a Payment into an array of Payments -/
theorem hv_past (C : hv_C p s m args meth c own cc nL Ts G h0) (I : hv_I G h0 s h H locs) {n v : Nat} {f : Nat → Option Nat} (ha : h a = some (.inl (G.2.1 2, n, .inr (.inr (.inr (.inr f)))))) {vs : List Value} (hv9 : h v = some (.inr (3, vs))) {i : Int32} (hin : vp_in i n) (hdg : decode cc pc = .ok (.aastore, 1))
    (kk : ∀ (H1 : Heap) (locs1 : List Loc), hv_I G h0 s (hv_up h a (.inl (G.2.1 2, n, .inr (.inr (.inr (.inr (va_up f i.toNatClampNeg (some v)))))))) H1 locs1 → W p l e R s m args below meth c H1 locs1 cells slots Q (F0 m (pc + 1) ls rest)) : W p l e R s m args below meth c H locs cells slots Q (F0 m pc ls (.ref v :: .int i :: .ref a :: rest)) := by
  obtain ⟨q0, hq⟩ := hv_ix I.1 ha
  obtain ⟨q1, hq1⟩ := hv_ix I.1 hv9
  exact va_astq C.1 C.2.1 C.K (hv_all I.1) (hv_ws_D I.2.1) I.2.2 q0 2 q1 3 hq rfl hq1 rfl hin hdg (fun H1 locs1 h1 _ h3 => kk H1 locs1 (I.set ha hq h1 h3))
/-- an object of a class of ours into an array of Objects -/
theorem hv_oast (C : hv_C p s m args meth c own cc nL Ts G h0) (I : hv_I G h0 s h H locs) {n v : Nat} {f : Nat → Option Nat} (ha : h a = some (.inl (G.2.1 3, n, .inr (.inr (.inr (.inr f)))))) {ci : Nat} {vs : List Value} (hv9 : h v = some (.inr (ci, vs))) {r : vw_C} (hc : vwCl[ci]? = some r) (hca : Cond.castable r.1 "java/lang/Object" ∈ hv_nw) {i : Int32} (hin : vp_in i n) (hdg : decode cc pc = .ok (.aastore, 1))
    (kk : ∀ (H1 : Heap) (locs1 : List Loc), hv_I G h0 s (hv_up h a (.inl (G.2.1 3, n, .inr (.inr (.inr (.inr (va_up f i.toNatClampNeg (some v)))))))) H1 locs1 → W p l e R s m args below meth c H1 locs1 cells slots Q (F0 m (pc + 1) ls rest)) : W p l e R s m args below meth c H locs cells slots Q (F0 m pc ls (.ref v :: .int i :: .ref a :: rest)) := by
  obtain ⟨q0, hq⟩ := hv_ix I.1 ha
  obtain ⟨q1, hq1⟩ := hv_ix I.1 hv9
  exact va_astqO C.1 C.2.1 C.K (hv_all I.1) (hv_ws_D I.2.1) I.2.2 q0 3 q1 ci hq rfl (C.nw hca) hq1 hc hin hdg (fun H1 locs1 h1 _ h3 => kk H1 locs1 (I.set ha hq h1 h3))
theorem hv_alen (C : hv_C p s m args meth c own cc nL Ts G h0) (I : hv_I G h0 s h H locs) {cA : ClassId} {x : vp_A} (ha : h a = some (.inl (cA, x))) {ty : FieldType} (t0 : Nat) (ht : (hv_tys G)[t0]? = some (cA, ty)) {v : Int32} (hvv : Int32.ofNat x.1 = v) (hdg : decode cc pc = .ok (.arraylength, 1))
    (kk : W p l e R s m args below meth c H locs cells slots Q (F0 m (pc + 1) ls (.int v :: rest))) : W p l e R s m args below meth c H locs cells slots Q (F0 m pc ls (.ref a :: rest)) :=
  va_alen C.1 C.2.1 C.K (hv_one I.1 ha) 0 t0 rfl ht hvv hdg kk
/-! making -/
theorem hv_new (C : hv_C p s m args meth c own cc nL Ts G h0) (I : hv_I G h0 s h H locs) {Cn : String} {T : u_T} {N ci index : Nat} (hin : ∀ w ∈ u_ws Cn T N, w ∈ Ts) (ty : Nat → FieldType) (hty : ∀ k, k < N → parseFieldDescriptor (T k).2.2.1 = some (ty k)) (hcl : Cond.classLink own index Cn ∈ Ts) (hinst : Cond.instantiable Cn N ∈ Ts) (hini : Cond.initialized Cn ∈ Ts) (hc : vwCl[ci]? = some (Cn, T, N)) {fs : List Value} (hfs : ∀ j, j < N → defaultValue (ty j) = vp_V fs j) (hcells : cells + 1 ≤ R.cells) (hslots : slots + N ≤ R.slots) (hdg : decode cc pc = .ok (.new index, 3))
    (kk : ∀ (q : Nat) (H1 : Heap), h q = none → hv_I G h0 s (hv_up h q (.inr (ci, fs))) H1 locs → W p l e R s m args below meth c H1 locs (cells + 1) (slots + N) Q (F0 m (pc + 3) ls (.ref q :: rest))) : W p l e R s m args below meth c H locs cells slots Q (F0 m pc ls rest) :=
  va_new C.1 C.2.1 C.2.2.2.2.1 hin ty hty C.2.2.2.1 (C.ts hcl) (C.ts hinst) (C.ts hini) C.K (hv_all I.1) (hv_ws_D I.2.1) I.2.2 hv_new_A hc hfs hcells hslots hdg (fun q H1 h1 h2 h3 => by
    obtain ⟨e1, e2⟩ := I.push h1 h2 h3
    exact kk q H1 e1 e2)
theorem hv_newI (C : hv_C p s m args meth c own cc nL Ts G h0) (I : hv_I G h0 s h H locs) (harr : Cond.arrayClass .int ∈ Ts) {n : Int32} {N : Nat} (hn : ¬ n < 0) (hN : n.toNatClampNeg = N) (hbytes : N * 4 ≤ 536870912) (hcells : cells + 1 ≤ R.cells) (hslots : slots + N ≤ R.slots) (hdg : decode cc pc = .ok (.newarray .int, 2))
    (kk : ∀ (q : Nat) (H1 : Heap), h q = none → hv_I G h0 s (hv_up h q (.inl (G.2.1 0, N, .inl (fun _ => 0)))) H1 locs → W p l e R s m args below meth c H1 locs (cells + 1) (slots + N) Q (F0 m (pc + 2) ls (.ref q :: rest))) : W p l e R s m args below meth c H locs cells slots Q (F0 m pc ls (.int n :: rest)) :=
  va_newa (atype := .int) C.1 C.2.1 (C.ts harr) (ty := .int) rfl C.K (hv_all I.1) (hv_ws_D I.2.1) I.2.2 hv_new_A (N' := N) (a0 := (N, .inl (fun _ => 0))) (fun cA => rfl) hn hN hbytes hcells hslots hdg (fun q cA H1 hK h1 h2 h3 => by
    have e := hv_tyEq (k := 0) C.K hK rfl
    subst e
    obtain ⟨e1, e2⟩ := I.push h1 h2 h3
    exact kk q H1 e1 e2)
theorem hv_newZ (C : hv_C p s m args meth c own cc nL Ts G h0) (I : hv_I G h0 s h H locs) (harr : Cond.arrayClass .boolean ∈ Ts) {n : Int32} {N : Nat} (hn : ¬ n < 0) (hN : n.toNatClampNeg = N) (hbytes : N * 1 ≤ 536870912) (hcells : cells + 1 ≤ R.cells) (hslots : slots + N ≤ R.slots) (hdg : decode cc pc = .ok (.newarray .boolean, 2))
    (kk : ∀ (q : Nat) (H1 : Heap), h q = none → hv_I G h0 s (hv_up h q (.inl (G.2.1 1, N, .inl (fun _ => 0)))) H1 locs → W p l e R s m args below meth c H1 locs (cells + 1) (slots + N) Q (F0 m (pc + 2) ls (.ref q :: rest))) : W p l e R s m args below meth c H locs cells slots Q (F0 m pc ls (.int n :: rest)) :=
  va_newa (atype := .boolean) C.1 C.2.1 (C.ts harr) (ty := .boolean) rfl C.K (hv_all I.1) (hv_ws_D I.2.1) I.2.2 hv_new_A (N' := N) (a0 := (N, .inl (fun _ => 0))) (fun cA => rfl) hn hN hbytes hcells hslots hdg (fun q cA H1 hK h1 h2 h3 => by
    have e := hv_tyEq (k := 1) C.K hK rfl
    subst e
    obtain ⟨e1, e2⟩ := I.push h1 h2 h3
    exact kk q H1 e1 e2)
theorem hv_newL (C : hv_C p s m args meth c own cc nL Ts G h0) (I : hv_I G h0 s h H locs) (harr : Cond.arrayClass .long ∈ Ts) {n : Int32} {N : Nat} (hn : ¬ n < 0) (hN : n.toNatClampNeg = N) (hbytes : N * 8 ≤ 536870912) (hcells : cells + 1 ≤ R.cells) (hslots : slots + N ≤ R.slots) (hdg : decode cc pc = .ok (.newarray .long, 2))
    (kk : ∀ (q : Nat) (H1 : Heap), h q = none → hv_I G h0 s (hv_up h q (.inl (G.2.1 4, N, .inr (.inl (fun _ => 0))))) H1 locs → W p l e R s m args below meth c H1 locs (cells + 1) (slots + N) Q (F0 m (pc + 2) ls (.ref q :: rest))) : W p l e R s m args below meth c H locs cells slots Q (F0 m pc ls (.int n :: rest)) :=
  va_newa (atype := .long) C.1 C.2.1 (C.ts harr) (ty := .long) rfl C.K (hv_all I.1) (hv_ws_D I.2.1) I.2.2 hv_new_A (N' := N) (a0 := (N, .inr (.inl (fun _ => 0)))) (fun cA => rfl) hn hN hbytes hcells hslots hdg (fun q cA H1 hK h1 h2 h3 => by
    have e := hv_tyEq (k := 4) C.K hK rfl
    subst e
    obtain ⟨e1, e2⟩ := I.push h1 h2 h3
    exact kk q H1 e1 e2)
theorem hv_newO (C : hv_C p s m args meth c own cc nL Ts G h0) (I : hv_I G h0 s h H locs) {index : Nat} (hcl : Cond.classLink own index "java/lang/Object" ∈ Ts) {n : Int32} {N : Nat} (hn : ¬ n < 0) (hN : n.toNatClampNeg = N) (hbytes : N * 4 ≤ 536870912) (hcells : cells + 1 ≤ R.cells) (hslots : slots + N ≤ R.slots) (hdg : decode cc pc = .ok (.anewarray index, 3))
    (kk : ∀ (q : Nat) (H1 : Heap), h q = none → hv_I G h0 s (hv_up h q (.inl (G.2.1 3, N, .inr (.inr (.inr (.inr (fun _ => none))))))) H1 locs → W p l e R s m args below meth c H1 locs (cells + 1) (slots + N) Q (F0 m (pc + 3) ls (.ref q :: rest))) : W p l e R s m args below meth c H locs cells slots Q (F0 m pc ls (.int n :: rest)) :=
  va_newq C.1 C.2.1 C.2.2.2.1 (C.ts hcl) C.2.2.2.2.2.2.2.2.1.1 C.K (hv_all I.1) (hv_ws_D I.2.1) I.2.2 hv_new_A hn hN hbytes hcells hslots hdg (fun q cA H1 hK h1 h2 h3 => by
    have e := hv_tyEq (k := 3) C.K hK rfl
    subst e
    obtain ⟨e1, e2⟩ := I.push h1 h2 h3
    exact kk q H1 e1 e2)
theorem hv_newP (C : hv_C p s m args meth c own cc nL Ts G h0) (I : hv_I G h0 s h H locs) {index : Nat} (hcl : Cond.classLink own index "DividendDesk$Payment" ∈ Ts) {n : Int32} {N : Nat} (hn : ¬ n < 0) (hN : n.toNatClampNeg = N) (hbytes : N * 4 ≤ 536870912) (hcells : cells + 1 ≤ R.cells) (hslots : slots + N ≤ R.slots) (hdg : decode cc pc = .ok (.anewarray index, 3))
    (kk : ∀ (q : Nat) (H1 : Heap), h q = none → hv_I G h0 s (hv_up h q (.inl (G.2.1 2, N, .inr (.inr (.inr (.inr (fun _ => none))))))) H1 locs → W p l e R s m args below meth c H1 locs (cells + 1) (slots + N) Q (F0 m (pc + 3) ls (.ref q :: rest))) : W p l e R s m args below meth c H locs cells slots Q (F0 m pc ls (.int n :: rest)) :=
  va_newq C.1 C.2.1 C.2.2.2.1 (C.ts hcl) C.2.2.2.2.2.2.2.2.1.2 C.K (hv_all I.1) (hv_ws_D I.2.1) I.2.2 hv_new_A hn hN hbytes hcells hslots hdg (fun q cA H1 hK h1 h2 h3 => by
    have e := hv_tyEq (k := 2) C.K hK rfl
    subst e
    obtain ⟨e1, e2⟩ := I.push h1 h2 h3
    exact kk q H1 e1 e2)
/-- an object of the view, as the kit's rows want to see it -/
theorem hv_recv (C : hv_C p s m args meth c own cc nL Ts G h0) (I : hv_I G h0 s h H locs) {ci : Nat} {fs : List Value} (ha : h a = some (.inr (ci, fs))) {r : vw_C} (hc : vwCl[ci]? = some r) : ∃ cell : Cell, H[a]? = some cell ∧ cell.vm.isStatics = false ∧ s.vm.findClass r.1 = some cell.cls :=
  va_recv C.K (hv_one I.1 ha) (q0 := 0) hc rfl
theorem hv_cast (C : hv_C p s m args meth c own cc nL Ts G h0) (I : hv_I G h0 s h H locs) {ci : Nat} {fs : List Value} (ha : h a = some (.inr (ci, fs))) {r : vw_C} (hc : vwCl[ci]? = some r) {index : Nat} (hlink : Cond.classLink own index r.1 ∈ Ts) (hdg : decode cc pc = .ok (.checkcast index, 3))
    (kk : W p l e R s m args below meth c H locs cells slots Q (F0 m (pc + 3) ls (.ref a :: rest))) : W p l e R s m args below meth c H locs cells slots Q (F0 m pc ls (.ref a :: rest)) :=
  va_castS C.1 C.2.1 C.2.2.2.1 (C.ts hlink) (C.K.1 ci r hc).2 (hv_recv C I ha hc) hdg kk
end HVR
end
section
/-! ===== contracts over views: calls, answers, throws ===== -/
def hv_B (G : hv_G) (h : hv) (sz : Nat) (U : State) : Prop := U.heap.size = sz ∧ hv_P G h U.heap ∧ hv_E G (hv_A h sz) U U.heap
def hv_Bq (G : hv_G) (h : hv) (sz : Nat) (u : hv) (t : State) : Prop := hv_P G u t.heap ∧ ∀ a, u a ≠ none → hv_A h sz a
abbrev hv_rm (f mc ms lo : Nat) : Room := { frames := f, cells := mc, slots := ms, locals := lo }
abbrev hv_Mi (l : Launch) (y : MethodName) (ws : List Cond) (f lo mc ms : Nat) (G : hv_G) (h : hv) (sz : Nat) (avs : List Value) (post : Int32 → hv → Prop) : Prop := Met l y ws (hv_rm f mc ms lo) (va_Pc avs (hv_B G h sz)) (va_Qi post (hv_Bq G h sz) (hv_A h sz)) mc ms (hv_A h sz)
abbrev hv_Ml (l : Launch) (y : MethodName) (ws : List Cond) (f lo mc ms : Nat) (G : hv_G) (h : hv) (sz : Nat) (avs : List Value) (post : Int64 → hv → Prop) : Prop := Met l y ws (hv_rm f mc ms lo) (va_Pc avs (hv_B G h sz)) (va_Ql post (hv_Bq G h sz) (hv_A h sz)) mc ms (hv_A h sz)
abbrev hv_Mv (l : Launch) (y : MethodName) (ws : List Cond) (f lo mc ms : Nat) (G : hv_G) (h : hv) (sz : Nat) (avs : List Value) (post : hv → Prop) : Prop := Met l y ws (hv_rm f mc ms lo) (va_Pc avs (hv_B G h sz)) (va_Qv post (hv_Bq G h sz) (hv_A h sz)) mc ms (hv_A h sz)
abbrev hv_Mq (l : Launch) (y : MethodName) (ws : List Cond) (f lo mc ms : Nat) (G : hv_G) (h : hv) (sz : Nat) (avs : List Value) (post : Option Nat → hv → Prop) : Prop := Met l y ws (hv_rm f mc ms lo) (va_Pc avs (hv_B G h sz)) (va_Qq post (hv_Bq G h sz) (hv_A h sz)) mc ms (hv_A h sz)
abbrev hv_X (G : hv_G) (h : hv) (sz : Nat) (px : String → hv → Prop) : String → State → State → Prop := vx_X (fun _ : hv => True) (fun E u t => px E u ∧ hv_Bq G h sz u t) (hv_A h sz)
abbrev hv_Xi (l : Launch) (y : MethodName) (ws : List Cond) (f lo mc ms : Nat) (G : hv_G) (h : hv) (sz : Nat) (avs : List Value) (post : Int32 → hv → Prop) (px : String → hv → Prop) : Prop := vx_Met l y ws (hv_rm f mc ms lo) (va_Pc avs (hv_B G h sz)) (va_Qi post (hv_Bq G h sz) (hv_A h sz)) (hv_X G h sz px) mc ms (hv_A h sz)
abbrev hv_Xq (l : Launch) (y : MethodName) (ws : List Cond) (f lo mc ms : Nat) (G : hv_G) (h : hv) (sz : Nat) (avs : List Value) (post : Option Nat → hv → Prop) (px : String → hv → Prop) : Prop := vx_Met l y ws (hv_rm f mc ms lo) (va_Pc avs (hv_B G h sz)) (va_Qq post (hv_Bq G h sz) (hv_A h sz)) (hv_X G h sz px) mc ms (hv_A h sz)
theorem hv_blind {G : hv_G} {h : hv} {sz : Nat} {avs : List Value} : FrameBlind (va_Pc avs (hv_B G h sz)) := by
  intro a U g mk q
  obtain ⟨q0, q1, q2, q3⟩ := q
  exact ⟨q0, q1, q2, hv_E.warm (s := U) (U := U.calling g mk a) (State.WarmedH.refl U) q3⟩
section HVC
variable {p : Program} {l : Launch} {e : Env} {R : Room} {s : State} {m : MethodId} {args : Array Value} {below : List Frame} {meth : Method} {c : Code} {H : Heap} {locs : List Loc} {cells slots : Nat} {Q : State → Prop}
variable {cc : ByteArray} {pc : Nat} {ls : Array Slot} {st0 rest : List Value} {a : Nat} {G : hv_G} {h h0 : hv} {own : String} {nL : Nat} {Ts : List Cond} {mc ms mc1 ms1 : Nat} {aa : Array Value}
theorem hv_sub (I : hv_I G h0 s h H locs) : ∀ q, hv_A h H.size q → hv_A h0 s.heap.size q := fun q hq => hq.elim (I.2.1 q) (fun z => Or.inr (Nat.le_trans I.2.2.1 z))
theorem hv_C.E (C : hv_C p s m args meth c own cc nL Ts G h0) : hv_E G (hv_A h0 s.heap.size) s s.heap := C.2.2.2.2.2.2
theorem hv_pre (C : hv_C p s m args meth c own cc nL Ts G h0) (I : hv_I G h0 s h H locs) {U : State} (hU : U.heap = H) (hW : s.WarmedH U.vm) : hv_B G h H.size U := by
  refine ⟨by rw [hU], by rw [hU]; exact I.1, ?_⟩
  rw [hU]
  exact hv_E.warm hW ((C.E.kept I.2.2.2.1).narrow (hv_sub I))
theorem hv_preS (C : hv_C p s m args meth c own cc nL Ts G h0) (I : hv_I G h0 s h H locs) {As : List Value} : PreS s H (va_Pc As (hv_B G h H.size)) As := ⟨hv_blind, fun U hU hW => ⟨rfl, hv_pre C I hU hW⟩⟩
theorem hv_preV (C : hv_C p s m args meth c own cc nL Ts G h0) (I : hv_I G h0 s h H locs) {As : List Value} {b ci : Nat} {fs : List Value} (hb : h b = some (.inr (ci, fs))) {r : vw_C} (hc : vwCl[ci]? = some r) : PreV s H r.1 b (va_Pc (.ref b :: As) (hv_B G h H.size)) As := ⟨hv_blind, hv_recv C I hb hc, fun U hU hW => ⟨rfl, hv_pre C I hU hW⟩⟩
theorem hv_ki (I : hv_I G h0 s h H locs) {post : Int32 → hv → Prop} (hr : va_Run p l e R s m args below meth c H locs cells slots mc ms (F0 m pc ls st0) rest (va_Qi post (hv_Bq G h H.size) (hv_A h H.size) aa) (hv_A h H.size))
    (kk : ∀ (r : Int32) (u : hv) (H1 : Heap) (locs1 : List Loc), post r u → hv_I G h0 s u H1 locs1 → W p l e R s m args below meth c H1 locs1 (cells + mc) (slots + ms) Q (F0 m (pc + 3) ls (.int r :: rest))) : W p l e R s m args below meth c H locs cells slots Q (F0 m pc ls st0) :=
  va_calli hr I.2.2 (fun q _ hq => hv_sub I q hq) (hv_sub I) (fun r u t H1 locs1 ht _ hp hB _ _ hS => kk r u H1 locs1 hp ⟨ht ▸ hB.1, fun a ha => hv_sub I a (hB.2 a ha), hS⟩)
theorem hv_kl (I : hv_I G h0 s h H locs) {post : Int64 → hv → Prop} (hr : va_Run p l e R s m args below meth c H locs cells slots mc ms (F0 m pc ls st0) rest (va_Ql post (hv_Bq G h H.size) (hv_A h H.size) aa) (hv_A h H.size))
    (kk : ∀ (r : Int64) (u : hv) (H1 : Heap) (locs1 : List Loc), post r u → hv_I G h0 s u H1 locs1 → W p l e R s m args below meth c H1 locs1 (cells + mc) (slots + ms) Q (F0 m (pc + 3) ls (.long r :: rest))) : W p l e R s m args below meth c H locs cells slots Q (F0 m pc ls st0) :=
  va_calll hr I.2.2 (fun q _ hq => hv_sub I q hq) (hv_sub I) (fun r u t H1 locs1 ht _ hp hB _ _ hS => kk r u H1 locs1 hp ⟨ht ▸ hB.1, fun a ha => hv_sub I a (hB.2 a ha), hS⟩)
theorem hv_kv (I : hv_I G h0 s h H locs) {post : hv → Prop} (hr : va_Run p l e R s m args below meth c H locs cells slots mc ms (F0 m pc ls st0) rest (va_Qv post (hv_Bq G h H.size) (hv_A h H.size) aa) (hv_A h H.size))
    (kk : ∀ (u : hv) (H1 : Heap) (locs1 : List Loc), post u → hv_I G h0 s u H1 locs1 → W p l e R s m args below meth c H1 locs1 (cells + mc) (slots + ms) Q (F0 m (pc + 3) ls rest)) : W p l e R s m args below meth c H locs cells slots Q (F0 m pc ls st0) :=
  va_callv hr I.2.2 (fun q _ hq => hv_sub I q hq) (hv_sub I) (fun u t H1 locs1 ht _ hp hB _ _ hS => kk u H1 locs1 hp ⟨ht ▸ hB.1, fun a ha => hv_sub I a (hB.2 a ha), hS⟩)
theorem hv_kq (I : hv_I G h0 s h H locs) {post : Option Nat → hv → Prop} (hr : va_Run p l e R s m args below meth c H locs cells slots mc ms (F0 m pc ls st0) rest (va_Qq post (hv_Bq G h H.size) (hv_A h H.size) aa) (hv_A h H.size))
    (kk : ∀ (r : Option Nat) (u : hv) (H1 : Heap) (locs1 : List Loc), post r u → hv_I G h0 s u H1 locs1 → W p l e R s m args below meth c H1 locs1 (cells + mc) (slots + ms) Q (F0 m (pc + 3) ls (va_rf r :: rest))) : W p l e R s m args below meth c H locs cells slots Q (F0 m pc ls st0) :=
  va_callq hr I.2.2 (fun q _ hq => hv_sub I q hq) (hv_sub I) (fun r u t H1 locs1 ht _ hp hB _ _ hS => kk r u H1 locs1 hp ⟨ht ▸ hB.1, fun a ha => hv_sub I a (hB.2 a ha), hS⟩)
/-! .. of callees that may throw -/
theorem hv_xki (I : hv_I G h0 s h H locs) {post : Int32 → hv → Prop} {px : String → hv → Prop} (hr : vx_Run p l e R s m args below meth c H locs cells slots mc ms (F0 m pc ls st0) rest (va_Qi post (hv_Bq G h H.size) (hv_A h H.size) aa) (hv_X G h H.size px) (hv_A h H.size))
    (kx : ∀ (E : String) (ce : Cell) (q9 : Addr) (u : hv) (H1 : Heap) (locs1 : List Loc), px E u → hv_I G h0 s u H1 locs1 → H1[q9]? = some ce → ce.vm = .none → s.vm.findClass E = some ce.cls → vx_W p l e R s m args below meth c H1 locs1 (cells + mc) (slots + ms) Q (F0 m pc ls rest) q9)
    (kk : ∀ (r : Int32) (u : hv) (H1 : Heap) (locs1 : List Loc), post r u → hv_I G h0 s u H1 locs1 → W p l e R s m args below meth c H1 locs1 (cells + mc) (slots + ms) Q (F0 m (pc + 3) ls (.int r :: rest))) : W p l e R s m args below meth c H locs cells slots Q (F0 m pc ls st0) :=
  vx_calli hr I.2.2 (fun q _ hq => hv_sub I q hq) (hv_sub I) (fun q _ hq => hv_sub I q hq)
    (fun E ce q9 u t H1 locs1 ht _ _ hB _ _ hS h1 h2 h3 => kx E ce q9 u H1 locs1 hB.1 ⟨ht ▸ hB.2.1, fun a ha => hv_sub I a (hB.2.2 a ha), hS⟩ h1 h2 h3)
    (fun r u t H1 locs1 ht _ hp hB _ _ hS => kk r u H1 locs1 hp ⟨ht ▸ hB.1, fun a ha => hv_sub I a (hB.2 a ha), hS⟩)
theorem hv_xkq (I : hv_I G h0 s h H locs) {post : Option Nat → hv → Prop} {px : String → hv → Prop} (hr : vx_Run p l e R s m args below meth c H locs cells slots mc ms (F0 m pc ls st0) rest (va_Qq post (hv_Bq G h H.size) (hv_A h H.size) aa) (hv_X G h H.size px) (hv_A h H.size))
    (kx : ∀ (E : String) (ce : Cell) (q9 : Addr) (u : hv) (H1 : Heap) (locs1 : List Loc), px E u → hv_I G h0 s u H1 locs1 → H1[q9]? = some ce → ce.vm = .none → s.vm.findClass E = some ce.cls → vx_W p l e R s m args below meth c H1 locs1 (cells + mc) (slots + ms) Q (F0 m pc ls rest) q9)
    (kk : ∀ (r : Option Nat) (u : hv) (H1 : Heap) (locs1 : List Loc), post r u → hv_I G h0 s u H1 locs1 → W p l e R s m args below meth c H1 locs1 (cells + mc) (slots + ms) Q (F0 m (pc + 3) ls (va_rf r :: rest))) : W p l e R s m args below meth c H locs cells slots Q (F0 m pc ls st0) := by
  intro T hT X
  rcases hr T hT X with ⟨v, st₀, t, T', L, g0, X', hL, e1, e2, ⟨⟨r, u, hv9, hp, hB⟩, hF⟩, st⟩ | ⟨q, st₀, t, T', L, E, ce, g0, X', hL, e1, e2, ⟨u, _, hB, hF⟩, hce, hcv, hcl, st⟩
  · cases hv9
    obtain ⟨-, -, hS⟩ := vx_keep g0 e1 I.2.2 (fun q _ hq => hv_sub I q hq) (hv_sub I) hL hF
    obtain ⟨t2, a1, b1⟩ := kk r u T'.heap (locs ++ L) hp ⟨e1 ▸ hB.1, fun a ha => hv_sub I a (hB.2 a ha), hS⟩ T' rfl X'
    exact ⟨t2, st t2 a1, b1⟩
  · obtain ⟨-, -, hS⟩ := vx_keep g0 e1 I.2.2 (fun q _ hq => hv_sub I q hq) (hv_sub I) hL hF
    obtain ⟨t2, a1, b1⟩ := kx E ce q u T'.heap (locs ++ L) hB.1 ⟨e1 ▸ hB.2.1, fun a ha => hv_sub I a (hB.2.2 a ha), hS⟩ (e1 ▸ hce) hcv hcl T' rfl X'
    exact ⟨t2, st.trans a1, b1⟩
theorem hv_xout {Qc : Array Value → State → Outcome → State → Prop} {px : String → hv → Prop} {E : String} {ce : Cell} {q : Addr} (C : hv_C p s m args meth c own cc nL Ts G h0) (ht : ∀ x ∈ c.exceptionTable.toList, False) (I : hv_I G h0 s h H locs) (hcell : H[q]? = some ce) (hcv : ce.vm = .none) (hcl : s.vm.findClass E = some ce.cls) (hpx : px E h) (hc : cells ≤ mc) (hs : slots ≤ ms) :
    vx_W p l e R s m args below meth c H locs cells slots (vx_MQ below Qc (hv_X G h0 s.heap.size px) args s mc ms (hv_A h0 s.heap.size)) (F0 m pc ls rest) q :=
  vx_out (fun x hx => (ht x hx).elim) C.locks hcell hcv hcl (fun t htt _ => ⟨h, trivial, ⟨hpx, by rw [htt]; exact I.1, I.2.1⟩, I.2.2.F htt⟩) I.2.2.2.2 hc hs
/-! answers -/
theorem hv_iret (C : hv_C p s m args meth c own cc nL Ts G h0) (hr : meth.sig.returnType = some .int) (I : hv_I G h0 s h H locs) {post : Int32 → hv → Prop} {v : Int32} (hp : post v h) (hdg : decode cc pc = .ok (.ireturn, 1)) (hc : cells ≤ mc) (hs : slots ≤ ms) :
    W p l e R s m args below meth c H locs cells slots (MQ below (va_Qi post (hv_Bq G h0 s.heap.size) (hv_A h0 s.heap.size)) args s mc ms (hv_A h0 s.heap.size)) (F0 m pc ls [.int v]) :=
  W.widen hc hs (W.iret C.1 C.2.1 hr (fun t ht _ => ⟨⟨v, h, rfl, hp, by rw [ht]; exact I.1, I.2.1⟩, I.2.2.F ht⟩) I.2.2.2.2 hdg C.locks)
theorem hv_zret (C : hv_C p s m args meth c own cc nL Ts G h0) (hr : meth.sig.returnType = some .boolean) (I : hv_I G h0 s h H locs) {post : Int32 → hv → Prop} {v : Int32} (hz : narrow .boolean (.int v) = .int v) (hp : post v h) (hdg : decode cc pc = .ok (.ireturn, 1)) (hc : cells ≤ mc) (hs : slots ≤ ms) :
    W p l e R s m args below meth c H locs cells slots (MQ below (va_Qi post (hv_Bq G h0 s.heap.size) (hv_A h0 s.heap.size)) args s mc ms (hv_A h0 s.heap.size)) (F0 m pc ls [.int v]) :=
  W.widen hc hs (W.zret C.1 C.2.1 hr hz (fun t ht _ => ⟨⟨v, h, rfl, hp, by rw [ht]; exact I.1, I.2.1⟩, I.2.2.F ht⟩) I.2.2.2.2 hdg C.locks)
theorem hv_lret (C : hv_C p s m args meth c own cc nL Ts G h0) (hr : meth.sig.returnType = some .long) (I : hv_I G h0 s h H locs) {post : Int64 → hv → Prop} {v : Int64} (hp : post v h) (hdg : decode cc pc = .ok (.lreturn, 1)) (hc : cells ≤ mc) (hs : slots ≤ ms) :
    W p l e R s m args below meth c H locs cells slots (MQ below (va_Ql post (hv_Bq G h0 s.heap.size) (hv_A h0 s.heap.size)) args s mc ms (hv_A h0 s.heap.size)) (F0 m pc ls [.long v]) :=
  W.widen hc hs (W.lret C.1 C.2.1 hr (fun t ht _ => ⟨⟨v, h, rfl, hp, by rw [ht]; exact I.1, I.2.1⟩, I.2.2.F ht⟩) I.2.2.2.2 hdg C.locks)
theorem hv_vret (C : hv_C p s m args meth c own cc nL Ts G h0) (hr : meth.sig.returnType = none) (I : hv_I G h0 s h H locs) {post : hv → Prop} (hp : post h) (hdg : decode cc pc = .ok (.return_, 1)) (hc : cells ≤ mc) (hs : slots ≤ ms) :
    W p l e R s m args below meth c H locs cells slots (MQ below (va_Qv post (hv_Bq G h0 s.heap.size) (hv_A h0 s.heap.size)) args s mc ms (hv_A h0 s.heap.size)) (F0 m pc ls []) :=
  W.widen hc hs (W.vret C.1 C.2.1 hr (fun t ht _ => ⟨⟨h, rfl, hp, by rw [ht]; exact I.1, I.2.1⟩, I.2.2.F ht⟩) I.2.2.2.2 hdg C.locks)
theorem hv_qret (C : hv_C p s m args meth c own cc nL Ts G h0) {rt : FieldType} (hr : meth.sig.returnType = some rt) (hrt : (∃ n, rt = .object n) ∨ ∃ t, rt = .array t) (I : hv_I G h0 s h H locs) {post : Option Nat → hv → Prop} {r : Option Nat} (hp : post r h) (hdg : decode cc pc = .ok (.areturn, 1)) (hc : cells ≤ mc) (hs : slots ≤ ms) :
    W p l e R s m args below meth c H locs cells slots (MQ below (va_Qq post (hv_Bq G h0 s.heap.size) (hv_A h0 s.heap.size)) args s mc ms (hv_A h0 s.heap.size)) (F0 m pc ls [va_rf r]) :=
  W.widen hc hs (W.aret C.1 C.2.1 hr hrt (va_rf_or r) (fun t ht _ => ⟨⟨r, h, rfl, hp, by rw [ht]; exact I.1, I.2.1⟩, I.2.2.F ht⟩) I.2.2.2.2 hdg C.locks)
/-- throw new E("text") -/
theorem hv_throw {Qc : Array Value → State → Outcome → State → Prop} {px : String → hv → Prop} (C : hv_C p s m args meth c RX4 cc nL Ts G h0) (ht : ∀ x ∈ c.exceptionTable.toList, False) (I : hv_I G h0 s h H locs) (hl : l.stackTraces = false) (hsize : ls.size = nL) {cls text : String} {names : List String} {ik is ic : Nat} (hcls : Bundle.fit cls = true) (hnames : ∀ n ∈ names, Bundle.fit n = true) (hk : Cond.classLink RX4 ik cls ∈ Ts) (hini : Cond.initialized cls ∈ Ts) (hstr : (is, text) ∈ hv_strs) (hat1 : ∀ w ∈ (vx_atS RX4 ic cls names).filter goodWord, w ∈ Ts) (hat2 : ∀ w ∈ (vx_atS RX4 ic cls names).filter (fun w => !goodWord w), w ∈ hv_nw) (hgood : ∀ w ∈ Cond.classLink RX4 ik cls :: Cond.initialized cls :: vx_atS RX4 ic cls names, vx_ot w = true)
    (d0 : decode cc pc = .ok (.new ik, 3)) (d3 : decode cc (pc + 3) = .ok (.dup, 1)) (d4 : decode cc (pc + 4) = .ok (.ldc is, 2)) (d6 : decode cc (pc + 6) = .ok (.invokespecial ic, 3)) (d9 : decode cc (pc + 9) = .ok (.athrow, 1))
    (hRframes : names.length + 3 < R.frames) (hRlocals : (rest.map fun v => v.category).sum + (13 * (names.length + 1) + 43) ≤ R.locals) (hRcells : cells + 1 ≤ R.cells) (hRslots : slots + 6 ≤ R.slots) (hpx : px cls h) (hc : cells + 1 ≤ mc) (hs : slots + 6 ≤ ms) :
    W p l e R s m args below meth c H locs cells slots (vx_MQ below Qc (hv_X G h0 s.heap.size px) args s mc ms (hv_A h0 s.heap.size)) (F0 m pc ls rest) :=
  vx_throwS (is := is) C.1 C.2.1 hl C.2.2.2.1 hcls hnames (C.ts hk) (C.ts hini) (C.E.2.2.2.2.2.2.1 _ hstr) (vx_hat (fun w hw => C.ts (hat1 w hw)) hat2 (fun w hw => va_Nw.use (hv_nw_tab w hw) (C.nw hw))) hgood C.E.2.2.2.2.2.1.1 C.E.2.2.2.2.2.1.2 I.2.2 (hsize.trans C.2.2.1.symm) d0 d3 d4 d6 d9 (fun x hx => (ht x hx).elim) hRframes hRlocals hRcells hRslots C.locks
    (fun t _ h1 h2 => ⟨h, trivial, ⟨hpx, fun a e ha => (I.1 a e ha).kept (h2 a (hv_lt I.1 ha)), I.2.1⟩, ⟨Nat.le_trans I.2.2.1 h1, fun q g1 g2 => (h2 q (Nat.lt_of_lt_of_le g1 I.2.2.1)).trans (I.2.2.2.1 q g1 g2)⟩⟩) I.2.2.2.2 hc hs
end HVC
section HVE
variable {l : Launch} {y : MethodName} {ws ws' : List Cond} {f lo mc ms : Nat} {G : hv_G} {h : hv} {sz : Nat} {avs : List Value} {cc : ByteArray} {maxL : Nat} {ret : Option FieldType} {own : String} {Qf : Nat → Array Value → State → Outcome → State → Prop}
theorem hv_enter (hy : plainFor y = true) (hw : ws = Cond.code y cc maxL ret :: ws') (hown : y.cls = own) (hlen : (lg_sl avs).length ≤ maxL)
    (body : ∀ (p : Program) (e : Env) (s : State) (m : MethodId) (below : List Frame) (meth : Method) (c : Code), meth.sig.returnType = ret → meth.name = y.name → hv_C p s m avs.toArray meth c own cc maxL ws G h → hv_I G h s h s.heap [] → ∀ ls : Array Slot, lv_has ls maxL (lv_args 0 avs) →
      W p l e (hv_rm f mc ms lo) s m avs.toArray below meth c s.heap [] 0 0 (MQ below (Qf s.heap.size) avs.toArray s mc ms (hv_A h s.heap.size)) (F0 m 0 ls [])) :
    Met l y ws (hv_rm f mc ms lo) (va_Pc avs (hv_B G h sz)) (Qf sz) mc ms (hv_A h sz) := by
  subst hown
  refine va_MetF (cc := cc) (maxL := maxL) (ret := ret) hy hw ?_
  intro p e s m args below meth c s₁ B hml hq
  obtain ⟨rfl, hsz, hP, hE⟩ := hq
  subst hsz
  rw [lg_entry_eq]
  exact body p e s m below meth c B.returns (name_of_methodNamed B.named B.method).1 ⟨B.exec, B.bytes, hml, findClass_of_methodNamed B.named, atoms_spec (ws := ws) B.pre, B.notSynchronized, hE⟩ ⟨hP, fun a ha => Or.inl ha, va_S.rf⟩ _ (lv_entry avs hlen)
theorem hv_enterX {XC : Nat → String → State → State → Prop} (hy : plainName y.cls = true) (hw : ws = Cond.code y cc maxL ret :: ws') (hown : y.cls = own) (hlen : (lg_sl avs).length ≤ maxL)
    (body : ∀ (p : Program) (e : Env) (s : State) (m : MethodId) (below : List Frame) (meth : Method) (c : Code), meth.sig.returnType = ret → (∀ x ∈ c.exceptionTable.toList, False) → hv_C p s m avs.toArray meth c own cc maxL ws G h → hv_I G h s h s.heap [] → ∀ ls : Array Slot, lv_has ls maxL (lv_args 0 avs) →
      W p l e (hv_rm f mc ms lo) s m avs.toArray below meth c s.heap [] 0 0 (vx_MQ below (Qf s.heap.size) (XC s.heap.size) avs.toArray s mc ms (hv_A h s.heap.size)) (F0 m 0 ls [])) :
    vx_Met l y ws (hv_rm f mc ms lo) (va_Pc avs (hv_B G h sz)) (Qf sz) (XC sz) mc ms (hv_A h sz) := by
  subst hown
  refine vx_ofW (cc := cc) (maxL := maxL) (ret := ret) hy hw ?_
  intro p e s m args below meth c s₁ B hml ht hq
  obtain ⟨rfl, hsz, hP, hE⟩ := hq
  subst hsz
  rw [lg_entry_eq]
  exact body p e s m below meth c B.returns ht ⟨B.exec, B.bytes, hml, findClass_of_methodNamed B.named, atoms_spec (ws := ws) B.pre, B.notSynchronized, hE⟩ ⟨hP, fun a ha => Or.inl ha, va_S.rf⟩ _ (lv_entry avs hlen)
end HVE
end
section
/-! ===== leaves: numbers within bounds, portions, holders ===== -/
def iw (n a b : Int32) : Int32 := if n < a then 0 else if b < n then 0 else 1
def pt_tax (am ra ne fo : Int32) : Int32 := (am.toInt64 * (if ne &&& fo = ne then ra else 30).toInt64 / 100).toInt32
def hf (td fe : Int32) : Int32 := if fe < td then 0 else 1
def hlg (kd sh es td : Int32) : Int32 := if ¬ kd = 1 then 0 else if sh < 100000 then 0 else if es = -1 then 0 else if td - es < 365 then 0 else 1
def pts20 (f : Nat → Int32) (i : Int32) : Int32 := if i < 0 then 0 else if (20 : Int32) ≤ i then 0 else f i.toNatClampNeg
def sinceF (sh es td : Int32) : Int32 := if 100000 ≤ sh then (if ¬ es = -1 then es else td) else -1
def prp (am pa al : Int32) : Int32 := if ¬ al = 0 then (am.toInt64 * pa.toInt64 / al.toInt64).toInt32 else 0
def taxL (ce : Int64) (ra : Int32) : Int32 := (ce * ra.toInt64 / 100).toInt32
theorem iw_bool (n a b : Int32) : narrow .boolean (.int (iw n a b)) = .int (iw n a b) := by unfold iw; split <;> (try split) <;> rfl
theorem hf_bool (a b : Int32) : narrow .boolean (.int (hf a b)) = .int (hf a b) := by unfold hf; split <;> rfl
theorem hlg_bool (a b c d : Int32) : narrow .boolean (.int (hlg a b c d)) = .int (hlg a b c d) := by unfold hlg; split <;> (try split) <;> (try split) <;> (try split) <;> rfl
theorem i64_ne0 {x : Int32} (h : ¬ x = 0) : ¬ x.toInt64 = 0 := by
  intro e
  apply h
  have := congrArg Int64.toInt32 e
  simpa using this
theorem hv_in (n : Nat) {x : Int32} (hn : n < 2 ^ 31) (h1 : ¬ x < 0) (h2 : ¬ nI n ≤ x) : vp_in x n := by
  obtain ⟨j, hj, rfl⟩ := nI_of h1
  exact vp_in_nI (Nat.lt_of_not_le (fun z => h2 (nI_le z hj))) hn
theorem hv_leN {n i : Nat} (hn : n < 2 ^ 31) (hi : i < 2 ^ 31) (c : nI n ≤ nI i) : n ≤ i := (nI_leI hn hi).mp c
theorem hv_ltN {n i : Nat} (hn : n < 2 ^ 31) (hi : i < 2 ^ 31) (c : ¬ nI n ≤ nI i) : i < n := Nat.lt_of_not_le (fun z => c ((nI_leI hn hi).mpr z))
set_option maxHeartbeats 4000000 in
set_option maxRecDepth 100000 in
theorem c_X4_isWithin (l : Launch) (G : hv_G) (h : hv) (sz : Nat) (a b d : Int32) : hv_Mi l yX4_isWithin wsX4_isWithin 0 0 0 0 G h sz [.int a, .int b, .int d] (fun r u => u = h ∧ r = iw a b d) := by
  refine hv_enter (y := yX4_isWithin) (avs := [.int a, .int b, .int d]) (maxL := 3) (Qf := fun sz => va_Qi (fun r u => u = h ∧ r = iw a b d) (hv_Bq G h sz) (hv_A h sz)) (by decide) rfl rfl (Nat.le_of_ble_eq_true rfl) ?_
  intro p e s m below meth c hr hnm C I ls hl
  have hl : lv_has ls 3 [(0, .int a), (1, .int b), (2, .int d)] := hl
  refine lv_iload_n C.1 C.2.1 dX4_isWithin_0 rfl (lv_at hl 0 rfl) ?_
  refine lv_iload_n C.1 C.2.1 dX4_isWithin_1 rfl (lv_at hl 1 rfl) ?_
  refine lv_icmp_lt (tgt := 14) C.1 C.2.1 dX4_isWithin_2 (by decide) (fun c2 => ?_) (fun c2 => ?_)
  · refine lv_iconst (v := 0) C.1 C.2.1 dX4_isWithin_14 (by decide) ?_
    exact hv_zret (v := 0) C hr I rfl (⟨rfl, by unfold iw; simp [c2]⟩) dX4_isWithin_15 (Nat.le_of_ble_eq_true rfl) (Nat.le_of_ble_eq_true rfl)
  · refine lv_iload_n C.1 C.2.1 dX4_isWithin_5 rfl (lv_at hl 0 rfl) ?_
    refine lv_iload_n C.1 C.2.1 dX4_isWithin_6 rfl (lv_at hl 2 rfl) ?_
    refine lv_icmp_gt (tgt := 14) C.1 C.2.1 dX4_isWithin_7 (by decide) (fun c7 => ?_) (fun c7 => ?_)
    · refine lv_iconst (v := 0) C.1 C.2.1 dX4_isWithin_14 (by decide) ?_
      exact hv_zret (v := 0) C hr I rfl (⟨rfl, by unfold iw; simp [c2, c7]⟩) dX4_isWithin_15 (Nat.le_of_ble_eq_true rfl) (Nat.le_of_ble_eq_true rfl)
    · refine lv_iconst (v := 1) C.1 C.2.1 dX4_isWithin_10 (by decide) ?_
      refine lv_goto (tgt := 15) C.1 C.2.1 dX4_isWithin_11 (by decide) ?_
      exact hv_zret (v := 1) C hr I rfl (⟨rfl, by unfold iw; simp [c2, c7]⟩) dX4_isWithin_15 (Nat.le_of_ble_eq_true rfl) (Nat.le_of_ble_eq_true rfl)

set_option maxHeartbeats 4000000 in
set_option maxRecDepth 100000 in
theorem c_X5_isIn (l : Launch) (G : hv_G) (h : hv) (sz : Nat) (a b d : Int32) : hv_Mi l yX5_isIn wsX5_isIn 0 0 0 0 G h sz [.int a, .int b, .int d] (fun r u => u = h ∧ r = iw a b d) := by
  refine hv_enter (y := yX5_isIn) (avs := [.int a, .int b, .int d]) (maxL := 3) (Qf := fun sz => va_Qi (fun r u => u = h ∧ r = iw a b d) (hv_Bq G h sz) (hv_A h sz)) (by decide) rfl rfl (Nat.le_of_ble_eq_true rfl) ?_
  intro p e s m below meth c hr hnm C I ls hl
  have hl : lv_has ls 3 [(0, .int a), (1, .int b), (2, .int d)] := hl
  refine lv_iload_n C.1 C.2.1 dX5_isIn_0 rfl (lv_at hl 0 rfl) ?_
  refine lv_iload_n C.1 C.2.1 dX5_isIn_1 rfl (lv_at hl 1 rfl) ?_
  refine lv_icmp_lt (tgt := 14) C.1 C.2.1 dX5_isIn_2 (by decide) (fun c2 => ?_) (fun c2 => ?_)
  · refine lv_iconst (v := 0) C.1 C.2.1 dX5_isIn_14 (by decide) ?_
    exact hv_zret (v := 0) C hr I rfl (⟨rfl, by unfold iw; simp [c2]⟩) dX5_isIn_15 (Nat.le_of_ble_eq_true rfl) (Nat.le_of_ble_eq_true rfl)
  · refine lv_iload_n C.1 C.2.1 dX5_isIn_5 rfl (lv_at hl 0 rfl) ?_
    refine lv_iload_n C.1 C.2.1 dX5_isIn_6 rfl (lv_at hl 2 rfl) ?_
    refine lv_icmp_gt (tgt := 14) C.1 C.2.1 dX5_isIn_7 (by decide) (fun c7 => ?_) (fun c7 => ?_)
    · refine lv_iconst (v := 0) C.1 C.2.1 dX5_isIn_14 (by decide) ?_
      exact hv_zret (v := 0) C hr I rfl (⟨rfl, by unfold iw; simp [c2, c7]⟩) dX5_isIn_15 (Nat.le_of_ble_eq_true rfl) (Nat.le_of_ble_eq_true rfl)
    · refine lv_iconst (v := 1) C.1 C.2.1 dX5_isIn_10 (by decide) ?_
      refine lv_goto (tgt := 15) C.1 C.2.1 dX5_isIn_11 (by decide) ?_
      exact hv_zret (v := 1) C hr I rfl (⟨rfl, by unfold iw; simp [c2, c7]⟩) dX5_isIn_15 (Nat.le_of_ble_eq_true rfl) (Nat.le_of_ble_eq_true rfl)

set_option maxHeartbeats 4000000 in
set_option maxRecDepth 100000 in
theorem c_X4_isLand (l : Launch) (G : hv_G) (h : hv) (sz : Nat) (a : Int32) : hv_Mi l yX4_isLand wsX4_isLand 1 22 0 0 G h sz [.int a] (fun r u => u = h ∧ r = iw a 0 5) := by
  refine hv_enter (y := yX4_isLand) (avs := [.int a]) (maxL := 1) (Qf := fun sz => va_Qi (fun r u => u = h ∧ r = iw a 0 5) (hv_Bq G h sz) (hv_A h sz)) (by decide) rfl rfl (Nat.le_of_ble_eq_true rfl) ?_
  intro p e s m below meth c hr hnm C I ls hl
  have hl : lv_has ls 1 [(0, .int a)] := hl
  refine lv_iload_n C.1 C.2.1 dX4_isLand_0 rfl (lv_at hl 0 rfl) ?_
  refine lv_iconst (v := 0) C.1 C.2.1 dX4_isLand_1 (by decide) ?_
  refine lv_iconst (v := 5) C.1 C.2.1 dX4_isLand_2 (by decide) ?_
  refine hv_ki I (va_runS (As := [.int a, .int 0, .int 5]) (rest := []) C.fix (c_X4_isWithin l G h _ a 0 5) (va_cwS 3 C.2.2.2.2.1 gX4_isLand_X4_isWithin rfl rfl rfl (by decide +kernel) ⟨Nat.le_of_ble_eq_true rfl, Nat.le_of_ble_eq_true rfl⟩) (hv_preS C I) rfl rfl hl.1 rfl (lv_room (Nat.le_of_ble_eq_true rfl)) dX4_isLand_3 ⟨Nat.le_of_ble_eq_true rfl, Nat.le_of_ble_eq_true rfl⟩) (fun ru_1 u_1 H locs pu_1 I => ?_)
  obtain ⟨rfl, rfl⟩ := pu_1
  exact hv_zret (v := (iw a 0 5)) C hr I (iw_bool _ _ _) (⟨rfl, rfl⟩) dX4_isLand_6 (Nat.le_of_ble_eq_true rfl) (Nat.le_of_ble_eq_true rfl)

set_option maxHeartbeats 4000000 in
set_option maxRecDepth 100000 in
theorem c_X4_formOf (l : Launch) (G : hv_G) (h : hv) (sz : Nat) (a : Int32) : hv_Mi l yX4_formOf wsX4_formOf 0 0 0 0 G h sz [.int a] (fun r u => u = h ∧ r = 1 <<< (a &&& 31)) := by
  refine hv_enter (y := yX4_formOf) (avs := [.int a]) (maxL := 1) (Qf := fun sz => va_Qi (fun r u => u = h ∧ r = 1 <<< (a &&& 31)) (hv_Bq G h sz) (hv_A h sz)) (by decide) rfl rfl (Nat.le_of_ble_eq_true rfl) ?_
  intro p e s m below meth c hr hnm C I ls hl
  have hl : lv_has ls 1 [(0, .int a)] := hl
  refine lv_iconst (v := 1) C.1 C.2.1 dX4_formOf_0 (by decide) ?_
  refine lv_iload_n C.1 C.2.1 dX4_formOf_1 rfl (lv_at hl 0 rfl) ?_
  refine lv_ishl C.1 C.2.1 dX4_formOf_2 ?_
  exact hv_iret (v := (1 <<< (a &&& 31))) C hr I (⟨rfl, rfl⟩) dX4_formOf_3 (Nat.le_of_ble_eq_true rfl) (Nat.le_of_ble_eq_true rfl)

set_option maxHeartbeats 4000000 in
set_option maxRecDepth 100000 in
theorem c_X4_proportion (l : Launch) (G : hv_G) (h : hv) (sz : Nat) (a b d : Int32) : hv_Mi l yX4_proportion wsX4_proportion 0 0 0 0 G h sz [.int a, .int b, .int d] (fun r u => u = h ∧ r = prp a b d) := by
  refine hv_enter (y := yX4_proportion) (avs := [.int a, .int b, .int d]) (maxL := 3) (Qf := fun sz => va_Qi (fun r u => u = h ∧ r = prp a b d) (hv_Bq G h sz) (hv_A h sz)) (by decide) rfl rfl (Nat.le_of_ble_eq_true rfl) ?_
  intro p e s m below meth c hr hnm C I ls hl
  have hl : lv_has ls 3 [(0, .int a), (1, .int b), (2, .int d)] := hl
  refine lv_iload_n C.1 C.2.1 dX4_proportion_0 rfl (lv_at hl 2 rfl) ?_
  refine lv_if_ne (tgt := 8) C.1 C.2.1 dX4_proportion_1 (by decide) (fun c1 => ?_) (fun c1 => ?_)
  · refine lv_iload_n C.1 C.2.1 dX4_proportion_8 rfl (lv_at hl 0 rfl) ?_
    refine lv_i2l C.1 C.2.1 dX4_proportion_9 rfl ?_
    refine lv_iload_n C.1 C.2.1 dX4_proportion_10 rfl (lv_at hl 1 rfl) ?_
    refine lv_i2l C.1 C.2.1 dX4_proportion_11 rfl ?_
    refine lv_lmul C.1 C.2.1 dX4_proportion_12 ?_
    refine lv_iload_n C.1 C.2.1 dX4_proportion_13 rfl (lv_at hl 2 rfl) ?_
    refine lv_i2l C.1 C.2.1 dX4_proportion_14 rfl ?_
    refine lv_ldiv C.1 C.2.1 dX4_proportion_15 (i64_ne0 c1) ?_
    refine lv_l2i C.1 C.2.1 dX4_proportion_16 rfl ?_
    exact hv_iret (v := (((a.toInt64 * b.toInt64) / d.toInt64).toInt32)) C hr I (⟨rfl, by unfold prp; simp [c1]⟩) dX4_proportion_17 (Nat.le_of_ble_eq_true rfl) (Nat.le_of_ble_eq_true rfl)
  · refine lv_iconst (v := 0) C.1 C.2.1 dX4_proportion_4 (by decide) ?_
    refine lv_goto (tgt := 17) C.1 C.2.1 dX4_proportion_5 (by decide) ?_
    exact hv_iret (v := 0) C hr I (⟨rfl, by unfold prp; simp [c1]⟩) dX4_proportion_17 (Nat.le_of_ble_eq_true rfl) (Nat.le_of_ble_eq_true rfl)

set_option maxHeartbeats 4000000 in
set_option maxRecDepth 100000 in
theorem c_X5_taxOf (l : Launch) (G : hv_G) (h : hv) (sz : Nat) (a : Int64) (b : Int32) : hv_Mi l yX5_taxOf wsX5_taxOf 0 0 0 0 G h sz [.long a, .int b] (fun r u => u = h ∧ r = taxL a b) := by
  refine hv_enter (y := yX5_taxOf) (avs := [.long a, .int b]) (maxL := 3) (Qf := fun sz => va_Qi (fun r u => u = h ∧ r = taxL a b) (hv_Bq G h sz) (hv_A h sz)) (by decide) rfl rfl (Nat.le_of_ble_eq_true rfl) ?_
  intro p e s m below meth c hr hnm C I ls hl
  have hl : lv_has ls 3 [(0, .long a), (2, .int b)] := hl
  refine lv_lload_n C.1 C.2.1 dX5_taxOf_0 rfl (lv_at hl 0 rfl) ?_
  refine lv_iload_n C.1 C.2.1 dX5_taxOf_1 rfl (lv_at hl 1 rfl) ?_
  refine lv_i2l C.1 C.2.1 dX5_taxOf_2 rfl ?_
  refine lv_lmul C.1 C.2.1 dX5_taxOf_3 ?_
  refine lv_ldc2 C.1 C.2.1 C.2.2.2.1 (C.ts (w := .constantLong RX5 102 (100)) (by decide +kernel)) dX5_taxOf_4 ?_
  refine lv_ldiv C.1 C.2.1 dX5_taxOf_7 (by decide) ?_
  refine lv_l2i C.1 C.2.1 dX5_taxOf_8 rfl ?_
  exact hv_iret (v := (((a * b.toInt64) / (100)).toInt32)) C hr I (⟨rfl, rfl⟩) dX5_taxOf_9 (Nat.le_of_ble_eq_true rfl) (Nat.le_of_ble_eq_true rfl)

set_option maxHeartbeats 4000000 in
set_option maxRecDepth 100000 in
theorem c_X3_tax (l : Launch) (G : hv_G) (h : hv) (sz : Nat) {a : Nat} {am ra ne : Int32} (fa : h a = some (.inr (4, [.int am, .int ra, .int ne]))) (p0 : Int32) : hv_Mi l yX3_tax wsX3_tax 0 0 0 0 G h sz [.ref a, .int p0] (fun r u => u = h ∧ r = pt_tax am ra ne p0) := by
  have wX3 : ∀ w ∈ wsX30, w ∈ wsX3_tax := by decide +kernel
  refine hv_enter (y := yX3_tax) (avs := [.ref a, .int p0]) (maxL := 3) (Qf := fun sz => va_Qi (fun r u => u = h ∧ r = pt_tax am ra ne p0) (hv_Bq G h sz) (hv_A h sz)) (by decide) rfl rfl (Nat.le_of_ble_eq_true rfl) ?_
  intro p e s m below meth c hr hnm C I ls hl
  have hl : lv_has ls 3 [(0, .ref a), (1, .int p0)] := hl
  refine lv_aload_n C.1 C.2.1 dX3_tax_0 rfl (lv_at hl 0 rfl) ?_
  refine hv_get (ci := 4) (Cn := RX3) (T := TX3) (N := 3) (ref := "DividendDesk$Portion") (v := .int ne) C I fa wX3 rfl 2 (by decide) (by decide +kernel) (fun _ h9 => h9) rfl dX3_tax_1 ?_
  refine lv_iload_n C.1 C.2.1 dX3_tax_4 rfl (lv_at hl 1 rfl) ?_
  refine lv_iand C.1 C.2.1 dX3_tax_5 ?_
  refine lv_aload_n C.1 C.2.1 dX3_tax_6 rfl (lv_at hl 0 rfl) ?_
  refine hv_get (ci := 4) (Cn := RX3) (T := TX3) (N := 3) (ref := "DividendDesk$Portion") (v := .int ne) C I fa wX3 rfl 2 (by decide) (by decide +kernel) (fun _ h9 => h9) rfl dX3_tax_7 ?_
  refine lv_icmp_ne (tgt := 20) C.1 C.2.1 dX3_tax_10 (by decide) (fun c10 => ?_) (fun c10 => ?_)
  · refine lv_bipush (v := 30) C.1 C.2.1 dX3_tax_20 (by decide) ?_
    refine lv_istore_n (lv' := [(2, .int 30), (0, .ref a), (1, .int p0)]) C.1 C.2.1 dX3_tax_22 rfl hl (by decide) rfl (fun ls hl => ?_)
    refine lv_aload_n C.1 C.2.1 dX3_tax_23 rfl (lv_at hl 1 rfl) ?_
    refine hv_get (ci := 4) (Cn := RX3) (T := TX3) (N := 3) (ref := "DividendDesk$Portion") (v := .int am) C I fa wX3 rfl 0 (by decide) (by decide +kernel) (fun _ h9 => h9) rfl dX3_tax_24 ?_
    refine lv_i2l C.1 C.2.1 dX3_tax_27 rfl ?_
    refine lv_iload_n C.1 C.2.1 dX3_tax_28 rfl (lv_at hl 0 rfl) ?_
    refine lv_i2l C.1 C.2.1 dX3_tax_29 rfl ?_
    refine lv_lmul C.1 C.2.1 dX3_tax_30 ?_
    refine lv_ldc2 C.1 C.2.1 C.2.2.2.1 (C.ts (w := .constantLong RX3 21 (100)) (by decide +kernel)) dX3_tax_31 ?_
    refine lv_ldiv C.1 C.2.1 dX3_tax_34 (by decide) ?_
    refine lv_l2i C.1 C.2.1 dX3_tax_35 rfl ?_
    exact hv_iret (v := (((am.toInt64 * ((30 : Int32).toInt64)) / (100)).toInt32)) C hr I (⟨rfl, by unfold pt_tax; simp [c10]⟩) dX3_tax_36 (Nat.le_of_ble_eq_true rfl) (Nat.le_of_ble_eq_true rfl)
  · refine lv_aload_n C.1 C.2.1 dX3_tax_13 rfl (lv_at hl 0 rfl) ?_
    refine hv_get (ci := 4) (Cn := RX3) (T := TX3) (N := 3) (ref := "DividendDesk$Portion") (v := .int ra) C I fa wX3 rfl 1 (by decide) (by decide +kernel) (fun _ h9 => h9) rfl dX3_tax_14 ?_
    refine lv_goto (tgt := 22) C.1 C.2.1 dX3_tax_17 (by decide) ?_
    refine lv_istore_n (lv' := [(2, .int ra), (0, .ref a), (1, .int p0)]) C.1 C.2.1 dX3_tax_22 rfl hl (by decide) rfl (fun ls hl => ?_)
    refine lv_aload_n C.1 C.2.1 dX3_tax_23 rfl (lv_at hl 1 rfl) ?_
    refine hv_get (ci := 4) (Cn := RX3) (T := TX3) (N := 3) (ref := "DividendDesk$Portion") (v := .int am) C I fa wX3 rfl 0 (by decide) (by decide +kernel) (fun _ h9 => h9) rfl dX3_tax_24 ?_
    refine lv_i2l C.1 C.2.1 dX3_tax_27 rfl ?_
    refine lv_iload_n C.1 C.2.1 dX3_tax_28 rfl (lv_at hl 0 rfl) ?_
    refine lv_i2l C.1 C.2.1 dX3_tax_29 rfl ?_
    refine lv_lmul C.1 C.2.1 dX3_tax_30 ?_
    refine lv_ldc2 C.1 C.2.1 C.2.2.2.1 (C.ts (w := .constantLong RX3 21 (100)) (by decide +kernel)) dX3_tax_31 ?_
    refine lv_ldiv C.1 C.2.1 dX3_tax_34 (by decide) ?_
    refine lv_l2i C.1 C.2.1 dX3_tax_35 rfl ?_
    exact hv_iret (v := (((am.toInt64 * ra.toInt64) / (100)).toInt32)) C hr I (⟨rfl, by unfold pt_tax; simp [c10]⟩) dX3_tax_36 (Nat.le_of_ble_eq_true rfl) (Nat.le_of_ble_eq_true rfl)

set_option maxHeartbeats 4000000 in
set_option maxRecDepth 100000 in
theorem c_X3_init (l : Launch) (G : hv_G) (h : hv) (sz : Nat) {a : Nat} {x0 x1 x2 : Int32} (fa : h a = some (.inr (4, [.int x0, .int x1, .int x2]))) (p0 p1 p2 : Int32) : hv_Mv l yX3_init wsX3_init 1 30 0 0 G h sz [.ref a, .int p0, .int p1, .int p2] (fun u => u = hv_up h a (.inr (4, [.int p0, .int p1, .int p2]))) := by
  have wX3 : ∀ w ∈ wsX30, w ∈ wsX3_init := by decide +kernel
  refine hv_enter (y := yX3_init) (avs := [.ref a, .int p0, .int p1, .int p2]) (maxL := 4) (Qf := fun sz => va_Qv (fun u => u = hv_up h a (.inr (4, [.int p0, .int p1, .int p2]))) (hv_Bq G h sz) (hv_A h sz)) (by decide) rfl rfl (Nat.le_of_ble_eq_true rfl) ?_
  intro p e s m below meth c hr hnm C I ls hl
  have hl : lv_has ls 4 [(0, .ref a), (1, .int p0), (2, .int p1), (3, .int p2)] := hl
  refine lv_aload_n C.1 C.2.1 dX3_init_0 rfl (lv_at hl 0 rfl) ?_
  refine W.objInit C.1 C.2.1 C.2.2.2.1 (C.ts (w := .methodLink RX3 3 objectInit) (by decide +kernel)) (C.ts (by decide +kernel)) (C.ts (by decide +kernel)) rfl (by rw [C.2.2.1]; exact hl.1) rfl dX3_init_1 (Nat.le_of_ble_eq_true rfl) (Nat.le_of_ble_eq_true rfl) ?_
  refine W.eq (g2 := F0 m 4 ls []) rfl ?_
  refine lv_aload_n C.1 C.2.1 dX3_init_4 rfl (lv_at hl 0 rfl) ?_
  refine lv_iload_n C.1 C.2.1 dX3_init_5 rfl (lv_at hl 1 rfl) ?_
  refine hv_putF (ci := 4) (Cn := RX3) (T := TX3) (N := 3) (ref := "DividendDesk$Portion") (ty := .int) (v := .int p0) C I fa wX3 tyX3 tyX3_ok nmX3 rfl 0 (by decide) (by decide +kernel) (fun _ h9 => h9) rfl hnm rfl (by decide +kernel) rfl rfl (Nat.le_of_ble_eq_true rfl) dX3_init_6 (fun H locs I => ?_)
  have I : hv_I G h s (hv_up h a (.inr (4, [.int p0, .int x1, .int x2]))) H locs := I
  obtain ⟨h_1, eh_1⟩ : ∃ z, z = hv_up h a (.inr (4, [.int p0, .int x1, .int x2])) := ⟨_, rfl⟩
  have I : hv_I G h s h_1 H locs := by rw [eh_1]; exact I
  have fa9 : h_1 a = some (.inr (4, [.int p0, .int x1, .int x2])) := by rw [eh_1]; exact hv_up_eq
  have fa := fa9
  refine lv_aload_n C.1 C.2.1 dX3_init_9 rfl (lv_at hl 0 rfl) ?_
  refine lv_iload_n C.1 C.2.1 dX3_init_10 rfl (lv_at hl 2 rfl) ?_
  refine hv_putF (ci := 4) (Cn := RX3) (T := TX3) (N := 3) (ref := "DividendDesk$Portion") (ty := .int) (v := .int p1) C I fa wX3 tyX3 tyX3_ok nmX3 rfl 1 (by decide) (by decide +kernel) (fun _ h9 => h9) rfl hnm rfl (by decide +kernel) rfl rfl (Nat.le_of_ble_eq_true rfl) dX3_init_11 (fun H locs I => ?_)
  have I : hv_I G h s (hv_up h_1 a (.inr (4, [.int p0, .int p1, .int x2]))) H locs := I
  obtain ⟨h_2, eh_2⟩ : ∃ z, z = hv_up h_1 a (.inr (4, [.int p0, .int p1, .int x2])) := ⟨_, rfl⟩
  have I : hv_I G h s h_2 H locs := by rw [eh_2]; exact I
  have fa9 : h_2 a = some (.inr (4, [.int p0, .int p1, .int x2])) := by rw [eh_2]; exact hv_up_eq
  have fa := fa9
  refine lv_aload_n C.1 C.2.1 dX3_init_14 rfl (lv_at hl 0 rfl) ?_
  refine lv_iload_n C.1 C.2.1 dX3_init_15 rfl (lv_at hl 3 rfl) ?_
  refine hv_putF (ci := 4) (Cn := RX3) (T := TX3) (N := 3) (ref := "DividendDesk$Portion") (ty := .int) (v := .int p2) C I fa wX3 tyX3 tyX3_ok nmX3 rfl 2 (by decide) (by decide +kernel) (fun _ h9 => h9) rfl hnm rfl (by decide +kernel) rfl rfl (Nat.le_of_ble_eq_true rfl) dX3_init_16 (fun H locs I => ?_)
  have I : hv_I G h s (hv_up h_2 a (.inr (4, [.int p0, .int p1, .int p2]))) H locs := I
  obtain ⟨h_3, eh_3⟩ : ∃ z, z = hv_up h_2 a (.inr (4, [.int p0, .int p1, .int p2])) := ⟨_, rfl⟩
  have I : hv_I G h s h_3 H locs := by rw [eh_3]; exact I
  have fa9 : h_3 a = some (.inr (4, [.int p0, .int p1, .int p2])) := by rw [eh_3]; exact hv_up_eq
  have fa := fa9
  exact hv_vret C hr I (by simp only [eh_3, eh_2, eh_1, hv_up_up]) dX3_init_19 (Nat.le_of_ble_eq_true rfl) (Nat.le_of_ble_eq_true rfl)

set_option maxHeartbeats 4000000 in
set_option maxRecDepth 100000 in
theorem c_X1_hasFormOn (l : Launch) (G : hv_G) (h : hv) (sz : Nat) {a mp : Nat} {kd ld sh fe es : Int32} (fa : h a = some (.inr (2, [.int kd, .int ld, .ref mp, .int sh, .int fe, .int es]))) (p0 : Int32) : hv_Mi l yX1_hasFormOn wsX1_hasFormOn 0 0 0 0 G h sz [.ref a, .int p0] (fun r u => u = h ∧ r = hf p0 fe) := by
  have wX1 : ∀ w ∈ wsX10, w ∈ wsX1_hasFormOn := by decide +kernel
  refine hv_enter (y := yX1_hasFormOn) (avs := [.ref a, .int p0]) (maxL := 2) (Qf := fun sz => va_Qi (fun r u => u = h ∧ r = hf p0 fe) (hv_Bq G h sz) (hv_A h sz)) (by decide) rfl rfl (Nat.le_of_ble_eq_true rfl) ?_
  intro p e s m below meth c hr hnm C I ls hl
  have hl : lv_has ls 2 [(0, .ref a), (1, .int p0)] := hl
  refine lv_iload_n C.1 C.2.1 dX1_hasFormOn_0 rfl (lv_at hl 1 rfl) ?_
  refine lv_aload_n C.1 C.2.1 dX1_hasFormOn_1 rfl (lv_at hl 0 rfl) ?_
  refine hv_get (ci := 2) (Cn := RX1) (T := TX1) (N := 6) (ref := "DividendDesk$Holder") (v := .int fe) C I fa wX1 rfl 4 (by decide) (by decide +kernel) (fun _ h9 => h9) rfl dX1_hasFormOn_2 ?_
  refine lv_icmp_gt (tgt := 12) C.1 C.2.1 dX1_hasFormOn_5 (by decide) (fun c5 => ?_) (fun c5 => ?_)
  · refine lv_iconst (v := 0) C.1 C.2.1 dX1_hasFormOn_12 (by decide) ?_
    exact hv_zret (v := 0) C hr I rfl (⟨rfl, by unfold hf; simp [c5]⟩) dX1_hasFormOn_13 (Nat.le_of_ble_eq_true rfl) (Nat.le_of_ble_eq_true rfl)
  · refine lv_iconst (v := 1) C.1 C.2.1 dX1_hasFormOn_8 (by decide) ?_
    refine lv_goto (tgt := 13) C.1 C.2.1 dX1_hasFormOn_9 (by decide) ?_
    exact hv_zret (v := 1) C hr I rfl (⟨rfl, by unfold hf; simp [c5]⟩) dX1_hasFormOn_13 (Nat.le_of_ble_eq_true rfl) (Nat.le_of_ble_eq_true rfl)

set_option maxHeartbeats 4000000 in
set_option maxRecDepth 100000 in
theorem c_X1_hasLargeHoldingOn (l : Launch) (G : hv_G) (h : hv) (sz : Nat) {a mp : Nat} {kd ld sh fe es : Int32} (fa : h a = some (.inr (2, [.int kd, .int ld, .ref mp, .int sh, .int fe, .int es]))) (p0 : Int32) : hv_Mi l yX1_hasLargeHoldingOn wsX1_hasLargeHoldingOn 0 0 0 0 G h sz [.ref a, .int p0] (fun r u => u = h ∧ r = hlg kd sh es p0) := by
  have wX1 : ∀ w ∈ wsX10, w ∈ wsX1_hasLargeHoldingOn := by decide +kernel
  refine hv_enter (y := yX1_hasLargeHoldingOn) (avs := [.ref a, .int p0]) (maxL := 2) (Qf := fun sz => va_Qi (fun r u => u = h ∧ r = hlg kd sh es p0) (hv_Bq G h sz) (hv_A h sz)) (by decide) rfl rfl (Nat.le_of_ble_eq_true rfl) ?_
  intro p e s m below meth c hr hnm C I ls hl
  have hl : lv_has ls 2 [(0, .ref a), (1, .int p0)] := hl
  refine lv_aload_n C.1 C.2.1 dX1_hasLargeHoldingOn_0 rfl (lv_at hl 0 rfl) ?_
  refine hv_get (ci := 2) (Cn := RX1) (T := TX1) (N := 6) (ref := "DividendDesk$Holder") (v := .int kd) C I fa wX1 rfl 0 (by decide) (by decide +kernel) (fun _ h9 => h9) rfl dX1_hasLargeHoldingOn_1 ?_
  refine lv_iconst (v := 1) C.1 C.2.1 dX1_hasLargeHoldingOn_4 (by decide) ?_
  refine lv_icmp_ne (tgt := 41) C.1 C.2.1 dX1_hasLargeHoldingOn_5 (by decide) (fun c5 => ?_) (fun c5 => ?_)
  · refine lv_iconst (v := 0) C.1 C.2.1 dX1_hasLargeHoldingOn_41 (by decide) ?_
    exact hv_zret (v := 0) C hr I rfl (⟨rfl, by unfold hlg; simp [c5]⟩) dX1_hasLargeHoldingOn_42 (Nat.le_of_ble_eq_true rfl) (Nat.le_of_ble_eq_true rfl)
  · refine lv_aload_n C.1 C.2.1 dX1_hasLargeHoldingOn_8 rfl (lv_at hl 0 rfl) ?_
    refine hv_get (ci := 2) (Cn := RX1) (T := TX1) (N := 6) (ref := "DividendDesk$Holder") (v := .int sh) C I fa wX1 rfl 3 (by decide) (by decide +kernel) (fun _ h9 => h9) rfl dX1_hasLargeHoldingOn_9 ?_
    refine lv_ldc C.1 C.2.1 C.2.2.2.1 (C.ts (w := .constant RX1 31 (100000)) (by decide +kernel)) dX1_hasLargeHoldingOn_12 ?_
    refine lv_icmp_lt (tgt := 41) C.1 C.2.1 dX1_hasLargeHoldingOn_14 (by decide) (fun c14 => ?_) (fun c14 => ?_)
    · refine lv_iconst (v := 0) C.1 C.2.1 dX1_hasLargeHoldingOn_41 (by decide) ?_
      exact hv_zret (v := 0) C hr I rfl (⟨rfl, by unfold hlg; simp [c5, c14]⟩) dX1_hasLargeHoldingOn_42 (Nat.le_of_ble_eq_true rfl) (Nat.le_of_ble_eq_true rfl)
    · refine lv_aload_n C.1 C.2.1 dX1_hasLargeHoldingOn_17 rfl (lv_at hl 0 rfl) ?_
      refine hv_get (ci := 2) (Cn := RX1) (T := TX1) (N := 6) (ref := "DividendDesk$Holder") (v := .int es) C I fa wX1 rfl 5 (by decide) (by decide +kernel) (fun _ h9 => h9) rfl dX1_hasLargeHoldingOn_18 ?_
      refine lv_iconst (v := (-1)) C.1 C.2.1 dX1_hasLargeHoldingOn_21 (by decide) ?_
      refine lv_icmp_eq (tgt := 41) C.1 C.2.1 dX1_hasLargeHoldingOn_22 (by decide) (fun c22 => ?_) (fun c22 => ?_)
      · refine lv_iconst (v := 0) C.1 C.2.1 dX1_hasLargeHoldingOn_41 (by decide) ?_
        exact hv_zret (v := 0) C hr I rfl (⟨rfl, by unfold hlg; simp [c5, c14, c22]⟩) dX1_hasLargeHoldingOn_42 (Nat.le_of_ble_eq_true rfl) (Nat.le_of_ble_eq_true rfl)
      · refine lv_iload_n C.1 C.2.1 dX1_hasLargeHoldingOn_25 rfl (lv_at hl 1 rfl) ?_
        refine lv_aload_n C.1 C.2.1 dX1_hasLargeHoldingOn_26 rfl (lv_at hl 0 rfl) ?_
        refine hv_get (ci := 2) (Cn := RX1) (T := TX1) (N := 6) (ref := "DividendDesk$Holder") (v := .int es) C I fa wX1 rfl 5 (by decide) (by decide +kernel) (fun _ h9 => h9) rfl dX1_hasLargeHoldingOn_27 ?_
        refine lv_isub C.1 C.2.1 dX1_hasLargeHoldingOn_30 ?_
        refine lv_sipush (v := 365) C.1 C.2.1 dX1_hasLargeHoldingOn_31 (by decide) ?_
        refine lv_icmp_lt (tgt := 41) C.1 C.2.1 dX1_hasLargeHoldingOn_34 (by decide) (fun c34 => ?_) (fun c34 => ?_)
        · refine lv_iconst (v := 0) C.1 C.2.1 dX1_hasLargeHoldingOn_41 (by decide) ?_
          exact hv_zret (v := 0) C hr I rfl (⟨rfl, by unfold hlg; simp [c5, c14, c22, c34]⟩) dX1_hasLargeHoldingOn_42 (Nat.le_of_ble_eq_true rfl) (Nat.le_of_ble_eq_true rfl)
        · refine lv_iconst (v := 1) C.1 C.2.1 dX1_hasLargeHoldingOn_37 (by decide) ?_
          refine lv_goto (tgt := 42) C.1 C.2.1 dX1_hasLargeHoldingOn_38 (by decide) ?_
          exact hv_zret (v := 1) C hr I rfl (⟨rfl, by unfold hlg; simp [c5, c14, c22, c34]⟩) dX1_hasLargeHoldingOn_42 (Nat.le_of_ble_eq_true rfl) (Nat.le_of_ble_eq_true rfl)

set_option maxHeartbeats 4000000 in
set_option maxRecDepth 100000 in
theorem c_X1_endDay (l : Launch) (G : hv_G) (h : hv) (sz : Nat) {a mp : Nat} {kd ld sh fe es : Int32} (fa : h a = some (.inr (2, [.int kd, .int ld, .ref mp, .int sh, .int fe, .int es]))) (p0 : Int32) : hv_Mv l yX1_endDay wsX1_endDay 0 0 0 0 G h sz [.ref a, .int p0] (fun u => u = hv_up h a (.inr (2, [.int kd, .int ld, .ref mp, .int sh, .int fe, .int (sinceF sh es p0)]))) := by
  have wX1 : ∀ w ∈ wsX10, w ∈ wsX1_endDay := by decide +kernel
  refine hv_enter (y := yX1_endDay) (avs := [.ref a, .int p0]) (maxL := 2) (Qf := fun sz => va_Qv (fun u => u = hv_up h a (.inr (2, [.int kd, .int ld, .ref mp, .int sh, .int fe, .int (sinceF sh es p0)]))) (hv_Bq G h sz) (hv_A h sz)) (by decide) rfl rfl (Nat.le_of_ble_eq_true rfl) ?_
  intro p e s m below meth c hr hnm C I ls hl
  have hl : lv_has ls 2 [(0, .ref a), (1, .int p0)] := hl
  refine lv_aload_n C.1 C.2.1 dX1_endDay_0 rfl (lv_at hl 0 rfl) ?_
  refine hv_get (ci := 2) (Cn := RX1) (T := TX1) (N := 6) (ref := "DividendDesk$Holder") (v := .int sh) C I fa wX1 rfl 3 (by decide) (by decide +kernel) (fun _ h9 => h9) rfl dX1_endDay_1 ?_
  refine lv_ldc C.1 C.2.1 C.2.2.2.1 (C.ts (w := .constant RX1 31 (100000)) (by decide +kernel)) dX1_endDay_4 ?_
  refine lv_icmp_ge (tgt := 17) C.1 C.2.1 dX1_endDay_6 (by decide) (fun c6 => ?_) (fun c6 => ?_)
  · refine lv_aload_n C.1 C.2.1 dX1_endDay_17 rfl (lv_at hl 0 rfl) ?_
    refine hv_get (ci := 2) (Cn := RX1) (T := TX1) (N := 6) (ref := "DividendDesk$Holder") (v := .int es) C I fa wX1 rfl 5 (by decide) (by decide +kernel) (fun _ h9 => h9) rfl dX1_endDay_18 ?_
    refine lv_iconst (v := (-1)) C.1 C.2.1 dX1_endDay_21 (by decide) ?_
    refine lv_icmp_ne (tgt := 30) C.1 C.2.1 dX1_endDay_22 (by decide) (fun c22 => ?_) (fun c22 => ?_)
    · exact hv_vret C hr I (by rw [show sinceF sh es p0 = es by unfold sinceF; simp [c6, c22]]; exact (hv_up_same fa).symm) dX1_endDay_30 (Nat.le_of_ble_eq_true rfl) (Nat.le_of_ble_eq_true rfl)
    · refine lv_aload_n C.1 C.2.1 dX1_endDay_25 rfl (lv_at hl 0 rfl) ?_
      refine lv_iload_n C.1 C.2.1 dX1_endDay_26 rfl (lv_at hl 1 rfl) ?_
      refine hv_put (ci := 2) (Cn := RX1) (T := TX1) (N := 6) (ref := "DividendDesk$Holder") (ty := .int) (v := .int p0) C I fa wX1 tyX1 tyX1_ok nmX1 rfl 5 (by decide) (by decide +kernel) (fun _ h9 => h9) rfl (by decide +kernel) rfl rfl (Nat.le_of_ble_eq_true rfl) dX1_endDay_27 (fun H locs I => ?_)
      have I : hv_I G h s (hv_up h a (.inr (2, [.int kd, .int ld, .ref mp, .int sh, .int fe, .int p0]))) H locs := I
      obtain ⟨h_1, eh_1⟩ : ∃ z, z = hv_up h a (.inr (2, [.int kd, .int ld, .ref mp, .int sh, .int fe, .int p0])) := ⟨_, rfl⟩
      have I : hv_I G h s h_1 H locs := by rw [eh_1]; exact I
      have fa9 : h_1 a = some (.inr (2, [.int kd, .int ld, .ref mp, .int sh, .int fe, .int p0])) := by rw [eh_1]; exact hv_up_eq
      have fa := fa9
      exact hv_vret C hr I (by rw [eh_1]; unfold sinceF; simp [c6, c22]) dX1_endDay_30 (Nat.le_of_ble_eq_true rfl) (Nat.le_of_ble_eq_true rfl)
  · refine lv_aload_n C.1 C.2.1 dX1_endDay_9 rfl (lv_at hl 0 rfl) ?_
    refine lv_iconst (v := (-1)) C.1 C.2.1 dX1_endDay_10 (by decide) ?_
    refine hv_put (ci := 2) (Cn := RX1) (T := TX1) (N := 6) (ref := "DividendDesk$Holder") (ty := .int) (v := .int (-1)) C I fa wX1 tyX1 tyX1_ok nmX1 rfl 5 (by decide) (by decide +kernel) (fun _ h9 => h9) rfl (by decide +kernel) rfl rfl (Nat.le_of_ble_eq_true rfl) dX1_endDay_11 (fun H locs I => ?_)
    have I : hv_I G h s (hv_up h a (.inr (2, [.int kd, .int ld, .ref mp, .int sh, .int fe, .int (-1)]))) H locs := I
    obtain ⟨h_2, eh_2⟩ : ∃ z, z = hv_up h a (.inr (2, [.int kd, .int ld, .ref mp, .int sh, .int fe, .int (-1)])) := ⟨_, rfl⟩
    have I : hv_I G h s h_2 H locs := by rw [eh_2]; exact I
    have fa9 : h_2 a = some (.inr (2, [.int kd, .int ld, .ref mp, .int sh, .int fe, .int (-1)])) := by rw [eh_2]; exact hv_up_eq
    have fa := fa9
    refine lv_goto (tgt := 30) C.1 C.2.1 dX1_endDay_14 (by decide) ?_
    exact hv_vret C hr I (by rw [eh_2]; unfold sinceF; simp [c6]) dX1_endDay_30 (Nat.le_of_ble_eq_true rfl) (Nat.le_of_ble_eq_true rfl)

set_option maxHeartbeats 4000000 in
set_option maxRecDepth 100000 in
theorem c_X1_partsOf (l : Launch) (G : hv_G) (h : hv) (sz : Nat) {a mp : Nat} {kd ld sh fe es : Int32} (fa : h a = some (.inr (2, [.int kd, .int ld, .ref mp, .int sh, .int fe, .int es]))) {f : Nat → Int32} (fm : h mp = some (.inl (G.2.1 0, 20, .inl f))) (p0 : Int32) : hv_Mi l yX1_partsOf wsX1_partsOf 0 0 0 0 G h sz [.ref a, .int p0] (fun r u => u = h ∧ r = pts20 f p0) := by
  have wX1 : ∀ w ∈ wsX10, w ∈ wsX1_partsOf := by decide +kernel
  refine hv_enter (y := yX1_partsOf) (avs := [.ref a, .int p0]) (maxL := 2) (Qf := fun sz => va_Qi (fun r u => u = h ∧ r = pts20 f p0) (hv_Bq G h sz) (hv_A h sz)) (by decide) rfl rfl (Nat.le_of_ble_eq_true rfl) ?_
  intro p e s m below meth c hr hnm C I ls hl
  have hl : lv_has ls 2 [(0, .ref a), (1, .int p0)] := hl
  refine lv_iload_n C.1 C.2.1 dX1_partsOf_0 rfl (lv_at hl 1 rfl) ?_
  refine lv_if_lt (tgt := 22) C.1 C.2.1 dX1_partsOf_1 (by decide) (fun c1 => ?_) (fun c1 => ?_)
  · refine lv_iconst (v := 0) C.1 C.2.1 dX1_partsOf_22 (by decide) ?_
    exact hv_iret (v := 0) C hr I (⟨rfl, by unfold pts20; simp [c1]⟩) dX1_partsOf_23 (Nat.le_of_ble_eq_true rfl) (Nat.le_of_ble_eq_true rfl)
  · refine lv_iload_n C.1 C.2.1 dX1_partsOf_4 rfl (lv_at hl 1 rfl) ?_
    refine lv_aload_n C.1 C.2.1 dX1_partsOf_5 rfl (lv_at hl 0 rfl) ?_
    refine hv_get (ci := 2) (Cn := RX1) (T := TX1) (N := 6) (ref := "DividendDesk$Holder") (v := .ref mp) C I fa wX1 rfl 2 (by decide) (by decide +kernel) (fun _ h9 => h9) rfl dX1_partsOf_6 ?_
    refine hv_alen (v := 20) C I fm 0 rfl rfl dX1_partsOf_9 ?_
    refine lv_icmp_ge (tgt := 22) C.1 C.2.1 dX1_partsOf_10 (by decide) (fun c10 => ?_) (fun c10 => ?_)
    · refine lv_iconst (v := 0) C.1 C.2.1 dX1_partsOf_22 (by decide) ?_
      exact hv_iret (v := 0) C hr I (⟨rfl, by unfold pts20; simp [c1, c10]⟩) dX1_partsOf_23 (Nat.le_of_ble_eq_true rfl) (Nat.le_of_ble_eq_true rfl)
    · refine lv_aload_n C.1 C.2.1 dX1_partsOf_13 rfl (lv_at hl 0 rfl) ?_
      refine hv_get (ci := 2) (Cn := RX1) (T := TX1) (N := 6) (ref := "DividendDesk$Holder") (v := .ref mp) C I fa wX1 rfl 2 (by decide) (by decide +kernel) (fun _ h9 => h9) rfl dX1_partsOf_14 ?_
      refine lv_iload_n C.1 C.2.1 dX1_partsOf_17 rfl (lv_at hl 1 rfl) ?_
      refine hv_iald C I fm (hv_in 20 (by decide) c1 c10) dX1_partsOf_18 ?_
      refine lv_goto (tgt := 23) C.1 C.2.1 dX1_partsOf_19 (by decide) ?_
      exact hv_iret (v := (f p0.toNatClampNeg)) C hr I (⟨rfl, by unfold pts20; simp [c1, c10]⟩) dX1_partsOf_23 (Nat.le_of_ble_eq_true rfl) (Nat.le_of_ble_eq_true rfl)

set_option maxHeartbeats 4000000 in
set_option maxRecDepth 100000 in
theorem c_X1_changeParts (l : Launch) (G : hv_G) (h : hv) (sz : Nat) {a mp : Nat} {kd ld sh fe es : Int32} (fa : h a = some (.inr (2, [.int kd, .int ld, .ref mp, .int sh, .int fe, .int es]))) {f : Nat → Int32} (fm : h mp = some (.inl (G.2.1 0, 20, .inl f))) (p0 p1 : Int32) (g0 : ¬ p0 < 0) (g1 : ¬ (20 : Int32) ≤ p0) : hv_Mv l yX1_changeParts wsX1_changeParts 0 0 0 0 G h sz [.ref a, .int p0, .int p1] (fun u => u = hv_up h mp (.inl (G.2.1 0, 20, .inl (upd f p0.toNatClampNeg p1)))) := by
  have wX1 : ∀ w ∈ wsX10, w ∈ wsX1_changeParts := by decide +kernel
  refine hv_enter (y := yX1_changeParts) (avs := [.ref a, .int p0, .int p1]) (maxL := 3) (Qf := fun sz => va_Qv (fun u => u = hv_up h mp (.inl (G.2.1 0, 20, .inl (upd f p0.toNatClampNeg p1)))) (hv_Bq G h sz) (hv_A h sz)) (by decide) rfl rfl (Nat.le_of_ble_eq_true rfl) ?_
  intro p e s m below meth c hr hnm C I ls hl
  have hl : lv_has ls 3 [(0, .ref a), (1, .int p0), (2, .int p1)] := hl
  refine lv_iload_n C.1 C.2.1 dX1_changeParts_0 rfl (lv_at hl 1 rfl) ?_
  refine lv_if_lt (tgt := 20) C.1 C.2.1 dX1_changeParts_1 (by decide) (fun c1 => ?_) (fun c1 => ?_)
  · exact absurd c1 g0
  · refine lv_iload_n C.1 C.2.1 dX1_changeParts_4 rfl (lv_at hl 1 rfl) ?_
    refine lv_aload_n C.1 C.2.1 dX1_changeParts_5 rfl (lv_at hl 0 rfl) ?_
    refine hv_get (ci := 2) (Cn := RX1) (T := TX1) (N := 6) (ref := "DividendDesk$Holder") (v := .ref mp) C I fa wX1 rfl 2 (by decide) (by decide +kernel) (fun _ h9 => h9) rfl dX1_changeParts_6 ?_
    refine hv_alen (v := 20) C I fm 0 rfl rfl dX1_changeParts_9 ?_
    refine lv_icmp_ge (tgt := 20) C.1 C.2.1 dX1_changeParts_10 (by decide) (fun c10 => ?_) (fun c10 => ?_)
    · exact absurd c10 g1
    · refine lv_aload_n C.1 C.2.1 dX1_changeParts_13 rfl (lv_at hl 0 rfl) ?_
      refine hv_get (ci := 2) (Cn := RX1) (T := TX1) (N := 6) (ref := "DividendDesk$Holder") (v := .ref mp) C I fa wX1 rfl 2 (by decide) (by decide +kernel) (fun _ h9 => h9) rfl dX1_changeParts_14 ?_
      refine lv_iload_n C.1 C.2.1 dX1_changeParts_17 rfl (lv_at hl 1 rfl) ?_
      refine lv_iload_n C.1 C.2.1 dX1_changeParts_18 rfl (lv_at hl 2 rfl) ?_
      refine hv_iast C I fm (hv_in 20 (by decide) c1 c10) dX1_changeParts_19 (fun H locs I => ?_)
      obtain ⟨h_1, eh_1⟩ : ∃ z, z = hv_up h mp (.inl (G.2.1 0, 20, .inl (upd f p0.toNatClampNeg p1))) := ⟨_, rfl⟩
      have I : hv_I G h s h_1 H locs := by rw [eh_1]; exact I
      have fa9 : h_1 a = some (.inr (2, [.int kd, .int ld, .ref mp, .int sh, .int fe, .int es])) := by rw [eh_1, hv_up_ne (hv_neOA fa fm)]; exact fa
      have fm9 : h_1 mp = some (.inl (G.2.1 0, 20, .inl (upd f p0.toNatClampNeg p1))) := by rw [eh_1]; exact hv_up_eq
      have fa := fa9
      have fm := fm9
      exact hv_vret C hr I (eh_1) dX1_changeParts_20 (Nat.le_of_ble_eq_true rfl) (Nat.le_of_ble_eq_true rfl)

set_option maxHeartbeats 4000000 in
set_option maxRecDepth 100000 in
theorem c_X1_partsInAll (l : Launch) (G : hv_G) (h : hv) (sz : Nat) {a mp : Nat} {kd ld sh fe es : Int32} (fa : h a = some (.inr (2, [.int kd, .int ld, .ref mp, .int sh, .int fe, .int es]))) {f : Nat → Int32} (fm : h mp = some (.inl (G.2.1 0, 20, .inl f))) : hv_Mi l yX1_partsInAll wsX1_partsInAll 0 0 0 0 G h sz [.ref a] (fun r u => u = h ∧ r = l_sum f 20) := by
  have wX1 : ∀ w ∈ wsX10, w ∈ wsX1_partsInAll := by decide +kernel
  refine hv_enter (y := yX1_partsInAll) (avs := [.ref a]) (maxL := 3) (Qf := fun sz => va_Qi (fun r u => u = h ∧ r = l_sum f 20) (hv_Bq G h sz) (hv_A h sz)) (by decide) rfl rfl (Nat.le_of_ble_eq_true rfl) ?_
  intro p e s m below meth c hr hnm C I ls hl
  have hl : lv_has ls 3 [(0, .ref a)] := hl
  refine lv_iconst (v := 0) C.1 C.2.1 dX1_partsInAll_0 (by decide) ?_
  refine lv_istore_n (lv' := [(1, .int 0), (0, .ref a)]) C.1 C.2.1 dX1_partsInAll_1 rfl hl (by decide) rfl (fun ls hl => ?_)
  refine lv_iconst (v := 0) C.1 C.2.1 dX1_partsInAll_2 (by decide) ?_
  refine lv_istore_n (lv' := [(2, .int 0), (1, .int 0), (0, .ref a)]) C.1 C.2.1 dX1_partsInAll_3 rfl hl (by decide) rfl (fun ls hl => ?_)
  have loop : ∀ (n i : Nat) , i ≤ 20 → 20 + 1 ≤ i + n → ∀ (H : Heap) (locs : List Loc), hv_I G h s h H locs → ∀ ls : Array Slot, lv_has ls 3 [(2, .int (nI i)), (1, .int (l_sum f i)), (0, .ref a)] → W p l e (hv_rm 0 0 0 0) s m (([.ref a] : List Value).toArray) below meth c H locs 0 0 (MQ below (va_Qi (fun r u => u = h ∧ r = l_sum f 20) (hv_Bq G h s.heap.size) (hv_A h s.heap.size)) (([.ref a] : List Value).toArray) s 0 0 (hv_A h s.heap.size)) (F0 m 4 ls []) := by
    intro n
    induction n with
    | zero => intro i hi hin; exact absurd hin (by omega)
    | succ n ih =>
      intro i hi hin H locs I ls hl
      refine lv_iload_n C.1 C.2.1 dX1_partsInAll_4 rfl (lv_at hl 0 rfl) ?_
      refine lv_aload_n C.1 C.2.1 dX1_partsInAll_5 rfl (lv_at hl 2 rfl) ?_
      refine hv_get (ci := 2) (Cn := RX1) (T := TX1) (N := 6) (ref := "DividendDesk$Holder") (v := .ref mp) C I fa wX1 rfl 2 (by decide) (by decide +kernel) (fun _ h9 => h9) rfl dX1_partsInAll_6 ?_
      refine hv_alen (v := 20) C I fm 0 rfl rfl dX1_partsInAll_9 ?_
      refine lv_icmp_ge (tgt := 28) C.1 C.2.1 dX1_partsInAll_10 (by decide) (fun c10 => ?_) (fun c10 => ?_)
      · have hi10 : i = 20 := Nat.le_antisymm hi (hv_leN (n := 20) (by decide) (by omega) c10)
        refine lv_iload_n C.1 C.2.1 dX1_partsInAll_28 rfl (lv_at hl 1 rfl) ?_
        exact hv_iret (v := (l_sum f i)) C hr I (⟨rfl, by rw [hi10]⟩) dX1_partsInAll_29 (Nat.le_of_ble_eq_true rfl) (Nat.le_of_ble_eq_true rfl)
      · have hi10 : i < 20 := hv_ltN (n := 20) (by decide) (by omega) c10
        refine lv_iload_n C.1 C.2.1 dX1_partsInAll_13 rfl (lv_at hl 1 rfl) ?_
        refine lv_aload_n C.1 C.2.1 dX1_partsInAll_14 rfl (lv_at hl 2 rfl) ?_
        refine hv_get (ci := 2) (Cn := RX1) (T := TX1) (N := 6) (ref := "DividendDesk$Holder") (v := .ref mp) C I fa wX1 rfl 2 (by decide) (by decide +kernel) (fun _ h9 => h9) rfl dX1_partsInAll_15 ?_
        refine lv_iload_n C.1 C.2.1 dX1_partsInAll_18 rfl (lv_at hl 0 rfl) ?_
        refine hv_iald C I fm (vp_in_nI hi10 (by decide)) dX1_partsInAll_19 ?_
        refine lv_iadd C.1 C.2.1 dX1_partsInAll_20 ?_
        refine lv_topi (fun z_1 ez_1 => ?_)
        have ez_1 : z_1 = l_sum f (i + 1) := by rw [ez_1]; rw [nI_clamp (by omega)]; rfl
        subst ez_1
        refine lv_istore_n (lv' := [(1, .int (l_sum f (i + 1))), (2, .int (nI i)), (0, .ref a)]) C.1 C.2.1 dX1_partsInAll_21 rfl hl (by decide) rfl (fun ls hl => ?_)
        refine lv_iinc (v := nI (i + 1)) (lv' := [(2, .int (nI (i + 1))), (1, .int (l_sum f (i + 1))), (0, .ref a)]) C.1 C.2.1 dX1_partsInAll_22 hl (k := 1) rfl (nI_1 i) (by decide) rfl (fun ls hl => ?_)
        refine lv_goto (tgt := 4) C.1 C.2.1 dX1_partsInAll_25 (by decide) ?_
        exact ih (i + 1) (by omega) (by omega)  _ _ I ls (lv_sub hl [0, 1, 2] rfl)
  exact loop (20 + 1) 0 (Nat.zero_le _) (by omega) _ _ I ls (lv_sub hl [0, 1, 2] rfl)

set_option maxHeartbeats 4000000 in
set_option maxRecDepth 100000 in
theorem c_X1_init (l : Launch) (G : hv_G) (h : hv) (sz : Nat) {a : Nat} {x0 x1 x3 x4 x5 : Int32} (fa : h a = some (.inr (2, [.int x0, .int x1, .null, .int x3, .int x4, .int x5]))) (p0 p1 : Int32) : hv_Mv l yX1_init wsX1_init 1 30 1 20 G h sz [.ref a, .int p0, .int p1] (fun u => ∃ q : Nat, h q = none ∧ u = hv_up (hv_up h q (.inl (G.2.1 0, 20, .inl (fun _ => 0)))) a (.inr (2, [.int p0, .int p1, .ref q, .int 0, .int (-1), .int (-1)]))) := by
  have wX1 : ∀ w ∈ wsX10, w ∈ wsX1_init := by decide +kernel
  refine hv_enter (y := yX1_init) (avs := [.ref a, .int p0, .int p1]) (maxL := 3) (Qf := fun sz => va_Qv (fun u => ∃ q : Nat, h q = none ∧ u = hv_up (hv_up h q (.inl (G.2.1 0, 20, .inl (fun _ => 0)))) a (.inr (2, [.int p0, .int p1, .ref q, .int 0, .int (-1), .int (-1)]))) (hv_Bq G h sz) (hv_A h sz)) (by decide) rfl rfl (Nat.le_of_ble_eq_true rfl) ?_
  intro p e s m below meth c hr hnm C I ls hl
  have hl : lv_has ls 3 [(0, .ref a), (1, .int p0), (2, .int p1)] := hl
  refine lv_aload_n C.1 C.2.1 dX1_init_0 rfl (lv_at hl 0 rfl) ?_
  refine W.objInit C.1 C.2.1 C.2.2.2.1 (C.ts (w := .methodLink RX1 3 objectInit) (by decide +kernel)) (C.ts (by decide +kernel)) (C.ts (by decide +kernel)) rfl (by rw [C.2.2.1]; exact hl.1) rfl dX1_init_1 (Nat.le_of_ble_eq_true rfl) (Nat.le_of_ble_eq_true rfl) ?_
  refine W.eq (g2 := F0 m 4 ls []) rfl ?_
  refine lv_aload_n C.1 C.2.1 dX1_init_4 rfl (lv_at hl 0 rfl) ?_
  refine lv_bipush (v := 20) C.1 C.2.1 dX1_init_5 (by decide) ?_
  refine hv_newI (N := 20) C I (by decide +kernel) (by decide) (by decide) (by decide) (Nat.le_of_ble_eq_true rfl) (Nat.le_of_ble_eq_true rfl) dX1_init_7 (fun q_1 H nq_1 I => ?_)
  obtain ⟨h_2, eh_2⟩ : ∃ z, z = hv_up h q_1 (.inl (G.2.1 0, 20, .inl (fun _ => 0))) := ⟨_, rfl⟩
  rw [← eh_2] at I
  have fa9 : h_2 a = some (.inr (2, [.int x0, .int x1, .null, .int x3, .int x4, .int x5])) := by rw [eh_2, hv_up_ne (hv_neN fa nq_1)]; exact fa
  have fa := fa9
  have fq_1 : h_2 q_1 = some (.inl (G.2.1 0, 20, .inl (fun _ => 0))) := by rw [eh_2]; exact hv_up_eq
  refine hv_putF (ci := 2) (Cn := RX1) (T := TX1) (N := 6) (ref := "DividendDesk$Holder") (ty := .array .int) (v := .ref q_1) C I fa wX1 tyX1 tyX1_ok nmX1 rfl 2 (by decide) (by decide +kernel) (fun _ h9 => h9) rfl hnm rfl (by decide +kernel) rfl rfl (Nat.le_of_ble_eq_true rfl) dX1_init_9 (fun H locs I => ?_)
  have I : hv_I G h s (hv_up h_2 a (.inr (2, [.int x0, .int x1, .ref q_1, .int x3, .int x4, .int x5]))) H locs := I
  obtain ⟨h_3, eh_3⟩ : ∃ z, z = hv_up h_2 a (.inr (2, [.int x0, .int x1, .ref q_1, .int x3, .int x4, .int x5])) := ⟨_, rfl⟩
  have I : hv_I G h s h_3 H locs := by rw [eh_3]; exact I
  have fa9 : h_3 a = some (.inr (2, [.int x0, .int x1, .ref q_1, .int x3, .int x4, .int x5])) := by rw [eh_3]; exact hv_up_eq
  have fq_19 : h_3 q_1 = some (.inl (G.2.1 0, 20, .inl (fun _ => 0))) := by rw [eh_3, hv_up_ne (hv_neAO fq_1 fa)]; exact fq_1
  have fa := fa9
  have fq_1 := fq_19
  refine lv_aload_n C.1 C.2.1 dX1_init_12 rfl (lv_at hl 0 rfl) ?_
  refine lv_iconst (v := 0) C.1 C.2.1 dX1_init_13 (by decide) ?_
  refine hv_put (ci := 2) (Cn := RX1) (T := TX1) (N := 6) (ref := "DividendDesk$Holder") (ty := .int) (v := .int 0) C I fa wX1 tyX1 tyX1_ok nmX1 rfl 3 (by decide) (by decide +kernel) (fun _ h9 => h9) rfl (by decide +kernel) rfl rfl (Nat.le_of_ble_eq_true rfl) dX1_init_14 (fun H locs I => ?_)
  have I : hv_I G h s (hv_up h_3 a (.inr (2, [.int x0, .int x1, .ref q_1, .int 0, .int x4, .int x5]))) H locs := I
  obtain ⟨h_4, eh_4⟩ : ∃ z, z = hv_up h_3 a (.inr (2, [.int x0, .int x1, .ref q_1, .int 0, .int x4, .int x5])) := ⟨_, rfl⟩
  have I : hv_I G h s h_4 H locs := by rw [eh_4]; exact I
  have fa9 : h_4 a = some (.inr (2, [.int x0, .int x1, .ref q_1, .int 0, .int x4, .int x5])) := by rw [eh_4]; exact hv_up_eq
  have fq_19 : h_4 q_1 = some (.inl (G.2.1 0, 20, .inl (fun _ => 0))) := by rw [eh_4, hv_up_ne (hv_neAO fq_1 fa)]; exact fq_1
  have fa := fa9
  have fq_1 := fq_19
  refine lv_aload_n C.1 C.2.1 dX1_init_17 rfl (lv_at hl 0 rfl) ?_
  refine lv_iconst (v := (-1)) C.1 C.2.1 dX1_init_18 (by decide) ?_
  refine hv_put (ci := 2) (Cn := RX1) (T := TX1) (N := 6) (ref := "DividendDesk$Holder") (ty := .int) (v := .int (-1)) C I fa wX1 tyX1 tyX1_ok nmX1 rfl 4 (by decide) (by decide +kernel) (fun _ h9 => h9) rfl (by decide +kernel) rfl rfl (Nat.le_of_ble_eq_true rfl) dX1_init_19 (fun H locs I => ?_)
  have I : hv_I G h s (hv_up h_4 a (.inr (2, [.int x0, .int x1, .ref q_1, .int 0, .int (-1), .int x5]))) H locs := I
  obtain ⟨h_5, eh_5⟩ : ∃ z, z = hv_up h_4 a (.inr (2, [.int x0, .int x1, .ref q_1, .int 0, .int (-1), .int x5])) := ⟨_, rfl⟩
  have I : hv_I G h s h_5 H locs := by rw [eh_5]; exact I
  have fa9 : h_5 a = some (.inr (2, [.int x0, .int x1, .ref q_1, .int 0, .int (-1), .int x5])) := by rw [eh_5]; exact hv_up_eq
  have fq_19 : h_5 q_1 = some (.inl (G.2.1 0, 20, .inl (fun _ => 0))) := by rw [eh_5, hv_up_ne (hv_neAO fq_1 fa)]; exact fq_1
  have fa := fa9
  have fq_1 := fq_19
  refine lv_aload_n C.1 C.2.1 dX1_init_22 rfl (lv_at hl 0 rfl) ?_
  refine lv_iconst (v := (-1)) C.1 C.2.1 dX1_init_23 (by decide) ?_
  refine hv_put (ci := 2) (Cn := RX1) (T := TX1) (N := 6) (ref := "DividendDesk$Holder") (ty := .int) (v := .int (-1)) C I fa wX1 tyX1 tyX1_ok nmX1 rfl 5 (by decide) (by decide +kernel) (fun _ h9 => h9) rfl (by decide +kernel) rfl rfl (Nat.le_of_ble_eq_true rfl) dX1_init_24 (fun H locs I => ?_)
  have I : hv_I G h s (hv_up h_5 a (.inr (2, [.int x0, .int x1, .ref q_1, .int 0, .int (-1), .int (-1)]))) H locs := I
  obtain ⟨h_6, eh_6⟩ : ∃ z, z = hv_up h_5 a (.inr (2, [.int x0, .int x1, .ref q_1, .int 0, .int (-1), .int (-1)])) := ⟨_, rfl⟩
  have I : hv_I G h s h_6 H locs := by rw [eh_6]; exact I
  have fa9 : h_6 a = some (.inr (2, [.int x0, .int x1, .ref q_1, .int 0, .int (-1), .int (-1)])) := by rw [eh_6]; exact hv_up_eq
  have fq_19 : h_6 q_1 = some (.inl (G.2.1 0, 20, .inl (fun _ => 0))) := by rw [eh_6, hv_up_ne (hv_neAO fq_1 fa)]; exact fq_1
  have fa := fa9
  have fq_1 := fq_19
  refine lv_aload_n C.1 C.2.1 dX1_init_27 rfl (lv_at hl 0 rfl) ?_
  refine lv_iload_n C.1 C.2.1 dX1_init_28 rfl (lv_at hl 1 rfl) ?_
  refine hv_putF (ci := 2) (Cn := RX1) (T := TX1) (N := 6) (ref := "DividendDesk$Holder") (ty := .int) (v := .int p0) C I fa wX1 tyX1 tyX1_ok nmX1 rfl 0 (by decide) (by decide +kernel) (fun _ h9 => h9) rfl hnm rfl (by decide +kernel) rfl rfl (Nat.le_of_ble_eq_true rfl) dX1_init_29 (fun H locs I => ?_)
  have I : hv_I G h s (hv_up h_6 a (.inr (2, [.int p0, .int x1, .ref q_1, .int 0, .int (-1), .int (-1)]))) H locs := I
  obtain ⟨h_7, eh_7⟩ : ∃ z, z = hv_up h_6 a (.inr (2, [.int p0, .int x1, .ref q_1, .int 0, .int (-1), .int (-1)])) := ⟨_, rfl⟩
  have I : hv_I G h s h_7 H locs := by rw [eh_7]; exact I
  have fa9 : h_7 a = some (.inr (2, [.int p0, .int x1, .ref q_1, .int 0, .int (-1), .int (-1)])) := by rw [eh_7]; exact hv_up_eq
  have fq_19 : h_7 q_1 = some (.inl (G.2.1 0, 20, .inl (fun _ => 0))) := by rw [eh_7, hv_up_ne (hv_neAO fq_1 fa)]; exact fq_1
  have fa := fa9
  have fq_1 := fq_19
  refine lv_aload_n C.1 C.2.1 dX1_init_32 rfl (lv_at hl 0 rfl) ?_
  refine lv_iload_n C.1 C.2.1 dX1_init_33 rfl (lv_at hl 2 rfl) ?_
  refine hv_putF (ci := 2) (Cn := RX1) (T := TX1) (N := 6) (ref := "DividendDesk$Holder") (ty := .int) (v := .int p1) C I fa wX1 tyX1 tyX1_ok nmX1 rfl 1 (by decide) (by decide +kernel) (fun _ h9 => h9) rfl hnm rfl (by decide +kernel) rfl rfl (Nat.le_of_ble_eq_true rfl) dX1_init_34 (fun H locs I => ?_)
  have I : hv_I G h s (hv_up h_7 a (.inr (2, [.int p0, .int p1, .ref q_1, .int 0, .int (-1), .int (-1)]))) H locs := I
  obtain ⟨h_8, eh_8⟩ : ∃ z, z = hv_up h_7 a (.inr (2, [.int p0, .int p1, .ref q_1, .int 0, .int (-1), .int (-1)])) := ⟨_, rfl⟩
  have I : hv_I G h s h_8 H locs := by rw [eh_8]; exact I
  have fa9 : h_8 a = some (.inr (2, [.int p0, .int p1, .ref q_1, .int 0, .int (-1), .int (-1)])) := by rw [eh_8]; exact hv_up_eq
  have fq_19 : h_8 q_1 = some (.inl (G.2.1 0, 20, .inl (fun _ => 0))) := by rw [eh_8, hv_up_ne (hv_neAO fq_1 fa)]; exact fq_1
  have fa := fa9
  have fq_1 := fq_19
  exact hv_vret C hr I (⟨q_1, nq_1, by simp only [eh_8, eh_7, eh_6, eh_5, eh_4, eh_3, eh_2, hv_up_up]⟩) dX1_init_37 (Nat.le_of_ble_eq_true rfl) (Nat.le_of_ble_eq_true rfl)
end
section
/-! ===== rows for the library's list: the empty array, class objects, copies ===== -/
section HVJ
variable {p : Program} {l : Launch} {e : Env} {R : Room} {s : State} {m : MethodId} {args : Array Value} {below : List Frame} {meth : Method} {c : Code} {H : Heap} {locs : List Loc} {cells slots : Nat} {Q : State → Prop}
variable {cc : ByteArray} {pc : Nat} {ls : Array Slot} {rest : List Value} {a : Nat} {G : hv_G} {h h0 : hv} {own : String} {nL : Nat} {Ts : List Cond}
theorem hv_gets (C : hv_C p s m args meth c own cc nL Ts G h0) (I : hv_I G h0 s h H locs) {index : Nat} (hlink : Cond.fieldLink own index "java/util/ArrayList" "DEFAULTCAPACITY_EMPTY_ELEMENTDATA" "[Ljava/lang/Object;" ∈ Ts) (hdg : decode cc pc = .ok (.getstatic index, 3))
    (kk : W p l e R s m args below meth c H locs cells slots Q (F0 m (pc + 3) ls (.ref (G.2.2 1) :: rest))) : W p l e R s m args below meth c H locs cells slots Q (F0 m pc ls rest) :=
  va_gets C.1 C.2.1 C.E.2.2.2.2.1.1 I.2.2 C.2.2.2.1 (C.ts hlink) (fun _ h9 => h9) hdg kk
theorem hv_tlen (C : hv_C p s m args meth c own cc nL Ts G h0) (I : hv_I G h0 s h H locs) (hdg : decode cc pc = .ok (.arraylength, 1))
    (kk : W p l e R s m args below meth c H locs cells slots Q (F0 m (pc + 1) ls (.int 0 :: rest))) : W p l e R s m args below meth c H locs cells slots Q (F0 m pc ls (.ref (G.2.2 1) :: rest)) :=
  va_tlen C.1 C.2.1 C.E.2.2.2.2.1.2 I.2.2 (v := 0) rfl hdg kk
theorem hv_t0 (C : hv_C p s m args meth c own cc nL Ts G h0) (I : hv_I G h0 s h H locs) : h (G.2.2 1) = none := by
  obtain ⟨cell, h1, h2, h3, h4, h5, h6, h7⟩ := C.E.2.2.2.2.1.2
  cases hx : h (G.2.2 1) with
  | none => rfl
  | some e => exact absurd (I.2.1 _ (by rw [hx]; exact fun z => nomatch z)) h7
theorem hv_ldcM (C : hv_C p s m args meth c own cc nL Ts G h0) {index : Nat} (hlink : Cond.classLink own index "[Ljava/lang/Object;" ∈ Ts) (hdg : decode cc pc = .ok (.ldc index, 2))
    (kk : W p l e R s m args below meth c H locs cells slots Q (F0 m (pc + 2) ls (.ref (G.2.2 0) :: rest))) : W p l e R s m args below meth c H locs cells slots Q (F0 m pc ls rest) :=
  va_ldcM C.1 C.2.1 C.2.2.2.1 (C.ts hlink) C.E.2.2.2.1 hdg kk
theorem hv_arrc (C : hv_C p s m args meth c own cc nL Ts G h0) (I : hv_I G h0 s h H locs) {n : Nat} {f : Nat → Option Nat} (ha : h a = some (.inl (G.2.1 3, n, .inr (.inr (.inr (.inr f)))))) : ∃ cell : Cell, H[a]? = some cell ∧ cell.vm.isStatics = false ∧ s.vm.findClass "[Ljava/lang/Object;" = some cell.cls :=
  ⟨_, I.1 a _ ha, rfl, va_nmO (C := "java/lang/Object") (C.K.2 3 _ rfl).2 (by decide)⟩
theorem hv_getC (C : hv_C p s m args meth c own cc nL Ts G h0) (I : hv_I G h0 s h H locs) (hsize : ls.size = nL) {n : Nat} {f : Nat → Option Nat} (ha : h a = some (.inl (G.2.1 3, n, .inr (.inr (.inr (.inr f)))))) {index : Nat} (hlink : Cond.methodLink own index ⟨"java/lang/Object", "getClass", "()Ljava/lang/Class;"⟩ ∈ Ts) (hsel : Cond.selects "[Ljava/lang/Object;" ⟨"java/lang/Object", "getClass", "()Ljava/lang/Class;"⟩ ⟨"java/lang/Object", "getClass", "()Ljava/lang/Class;"⟩ ∈ Ts) (hinst : Cond.instanceMethod ⟨"java/lang/Object", "getClass", "()Ljava/lang/Class;"⟩ ∈ Ts) (hnat : Cond.native ⟨"java/lang/Object", "getClass", "()Ljava/lang/Class;"⟩ ∈ Ts) (hframes : 1 ≤ R.frames) (hlocals : (rest.map fun v => v.category).sum + 14 ≤ R.locals) (hdg : decode cc pc = .ok (.invokevirtual index, 3))
    (kk : W p l e R s m args below meth c H locs cells slots Q (F0 m (pc + 3) ls (.ref (G.2.2 0) :: rest))) : W p l e R s m args below meth c H locs cells slots Q (F0 m pc ls (.ref a :: rest)) :=
  va_getC C.1 C.2.1 (C.2.2.1.trans hsize.symm) C.2.2.2.1 (C.ts hlink) (va_Nw.use rfl (C.nw (by decide +kernel))) (C.ts hsel) (C.ts hinst) (C.ts hnat) C.E.2.2.2.1 (hv_arrc C I ha) hframes hlocals hdg kk
/-- what may lie in an array of Objects here -/
def hv_El (h : hv) (f : Nat → Option Nat) (n : Nat) : Prop := ∀ i, i < n → ∀ y, f i = some y → ∃ (ci : Nat) (fs : List Value) (r : vw_C), h y = some (.inr (ci, fs)) ∧ vwCl[ci]? = some r ∧ Cond.castable r.1 "java/lang/Object" ∈ hv_nw
theorem hv_copy (C : hv_C p s m args meth c own cc nL Ts G h0) (I : hv_I G h0 s h H locs) (hsize : ls.size = nL) {index : Nat} (hlink : Cond.methodLink own index arraycopyName ∈ Ts) (hnat : Cond.native arraycopyName ∈ Ts) (hstat : Cond.static arraycopyName ∈ Ts) (hini : Cond.initialized "java/lang/System" ∈ Ts) {a0 n0 n1 : Nat} {f g : Nat → Option Nat} (ha0 : h a0 = some (.inl (G.2.1 3, n0, .inr (.inr (.inr (.inr f)))))) (ha : h a = some (.inl (G.2.1 3, n1, .inr (.inr (.inr (.inr g)))))) {n : Int32} (h3 : ¬ n < 0) (h4 : n.toNatClampNeg ≤ n0) (h5 : n.toNatClampNeg ≤ n1) (hel : hv_El h f n.toNatClampNeg) (hframes : 1 ≤ R.frames) (hlocals : (rest.map fun v => v.category).sum + (nativeFrameWords "java/lang/System" "arraycopy" 5 + 11) ≤ R.locals) (hdg : decode cc pc = .ok (.invokestatic index, 3))
    (kk : ∀ (H1 : Heap) (locs1 : List Loc), hv_I G h0 s (hv_up h a (.inl (G.2.1 3, n1, .inr (.inr (.inr (.inr (va_cpy f g 0 0 n.toNatClampNeg))))))) H1 locs1 → W p l e R s m args below meth c H1 locs1 cells slots Q (F0 m (pc + 3) ls rest)) : W p l e R s m args below meth c H locs cells slots Q (F0 m pc ls (.int n :: .int 0 :: .ref a :: .int 0 :: .ref a0 :: rest)) := by
  obtain ⟨q0, hq0⟩ := hv_ix I.1 ha0
  obtain ⟨q1, hq1⟩ := hv_ix I.1 ha
  refine va_copyM C.1 C.2.1 (C.2.2.1.trans hsize.symm) C.2.2.2.1 (C.ts hlink) (C.ts hnat) (C.ts hstat) (C.ts hini) C.K (hv_all I.1) (hv_ws_D I.2.1) I.2.2 q0 q1 3 3 hq0 hq1 rfl rfl (sp := 0) (dp := 0) (n := n) (by decide) (by decide) h3 (by rw [sb_cl0]; omega) (by rw [sb_cl0]; omega) (fun i hi y hy => ?_) hframes hlocals hdg (fun H1 locs1 h1 _ h3 => ?_)
  · rw [sb_cl0, Nat.zero_add] at hy
    obtain ⟨ci, fs, r, e1, e2, e3⟩ := hel i hi y hy
    refine va_rAny C.K (hv_one I.1 e1) (q0 := 0) rfl e2 (fun comp c0 g1 g2 => ?_)
    obtain ⟨c1, t1, f1, f2, f3⟩ := Cond.castable_spec (va_Nw.use (A := args) rfl (C.nw e3))
    cases g1.symm.trans f2
    cases g2.symm.trans f1
    exact f3
  · rw [sb_cl0] at h1
    exact kk H1 locs1 (I.set ha hq1 h1 h3)
end HVJ
end
section
/-! ===== the library's list, method by method ===== -/
theorem hv_le0 (n : Nat) : 0 + n ≤ n := by omega
theorem hv_mono {l : Launch} {y : MethodName} {ws : List Cond} {rm : Room} {Pc : Array Value → State → Prop} {Q1 Q2 : Array Value → State → Outcome → State → Prop} {mc ms : Nat} {free : Addr → Prop} (hM : Met l y ws rm Pc Q1 mc ms free) (hq : ∀ a st o t, Q1 a st o t → Q2 a st o t) : Met l y ws rm Pc Q2 mc ms free := by
  intro p e h1 h2 h3 s m args below h4 h5 h6 h7
  obtain ⟨n, o, k1, k2, k3, k4, k5⟩ := hM p e h1 h2 h3 s m args below h4 h5 h6 h7
  exact ⟨n, o, k1, k2, k3, hq _ _ _ _ k4, k5⟩
theorem hv_i1 (n : Nat) (h : 2 ≤ n) (hn : n ≤ 40000) : nI n >>> ((1 : Int32) &&& 31) = nI (n / 2) := by
  have k := pk_shrN (n := n) (by omega) ((1 : Int32) &&& 31) 1 (by decide)
  rw [Nat.pow_one] at k
  exact k
set_option maxHeartbeats 4000000 in
set_option maxRecDepth 100000 in
theorem c_Jxa1e45_init (l : Launch) (G : hv_G) (h : hv) (sz : Nat) (a : Nat) : hv_Mv l yJxa1e45_init_da8c8 wsJxa1e45_init_da8c8 1 30 0 0 G h sz [.ref a] (fun u => u = h) := by
  refine hv_enter (y := yJxa1e45_init_da8c8) (avs := [.ref a]) (maxL := 1) (Qf := fun sz => va_Qv (fun u => u = h) (hv_Bq G h sz) (hv_A h sz)) (by decide) rfl rfl (Nat.le_of_ble_eq_true rfl) ?_
  intro p e s m below meth c hr hnm C I ls hl
  have hl : lv_has ls 1 [(0, .ref a)] := hl
  refine lv_aload_n C.1 C.2.1 dJxa1e45_init_da8c8_0 rfl (lv_at hl 0 rfl) ?_
  refine W.objInit C.1 C.2.1 C.2.2.2.1 (C.ts (w := .methodLink RJxa1e45 1 objectInit) (by decide +kernel)) (C.ts (by decide +kernel)) (C.ts (by decide +kernel)) rfl (by rw [C.2.2.1]; exact hl.1) rfl dJxa1e45_init_da8c8_1 (Nat.le_of_ble_eq_true rfl) (Nat.le_of_ble_eq_true rfl) ?_
  refine W.eq (g2 := F0 m 4 ls []) rfl ?_
  exact hv_vret C hr I (rfl) dJxa1e45_init_da8c8_4 (Nat.le_of_ble_eq_true rfl) (Nat.le_of_ble_eq_true rfl)

set_option maxHeartbeats 4000000 in
set_option maxRecDepth 100000 in
theorem c_Jxc12de_init (l : Launch) (G : hv_G) (h : hv) (sz : Nat) {a : Nat} {x0 x2 : Int32} (fa : h a = some (.inr (0, [.int x0, .null, .int x2]))) : hv_Mv l yJxc12de_init_da8c8 wsJxc12de_init_da8c8 2 60 0 0 G h sz [.ref a] (fun u => u = hv_up h a (.inr (0, [.int 0, .null, .int x2]))) := by
  have wJx4a65c : ∀ w ∈ wsJx4a65c0, w ∈ wsJxc12de_init_da8c8 := by decide +kernel
  refine hv_enter (y := yJxc12de_init_da8c8) (avs := [.ref a]) (maxL := 1) (Qf := fun sz => va_Qv (fun u => u = hv_up h a (.inr (0, [.int 0, .null, .int x2]))) (hv_Bq G h sz) (hv_A h sz)) (by decide) rfl rfl (Nat.le_of_ble_eq_true rfl) ?_
  intro p e s m below meth c hr hnm C I ls hl
  have hl : lv_has ls 1 [(0, .ref a)] := hl
  refine lv_aload_n C.1 C.2.1 dJxc12de_init_da8c8_0 rfl (lv_at hl 0 rfl) ?_
  refine hv_kv I (va_runI (As := []) (rest := []) C.fix (c_Jxa1e45_init l G h _ a) (cwI 0 C.2.2.2.2.1 gJxc12de_init_da8c8_Jxa1e45_init_da8c8 rfl rfl rfl (C.ts (by decide +kernel)) (C.ts (w := .methodLink RJxc12de 1 yJxa1e45_init_da8c8) (by decide +kernel)) (C.ts (by decide +kernel)) rfl (by decide +kernel) ⟨Nat.le_of_ble_eq_true rfl, Nat.le_of_ble_eq_true rfl⟩) (hv_preS C I) rfl rfl hl.1 rfl (lv_room (Nat.le_of_ble_eq_true rfl)) dJxc12de_init_da8c8_1 ⟨Nat.le_of_ble_eq_true rfl, Nat.le_of_ble_eq_true rfl⟩) (fun u_1 H locs pu_1 I => ?_)
  obtain rfl := pu_1
  refine lv_aload_n C.1 C.2.1 dJxc12de_init_da8c8_4 rfl (lv_at hl 0 rfl) ?_
  refine lv_iconst (v := 0) C.1 C.2.1 dJxc12de_init_da8c8_5 (by decide) ?_
  refine hv_put (ci := 0) (Cn := RJx4a65c) (T := TJx4a65c) (N := 3) (ref := "java/util/AbstractList") (ty := .int) (v := .int 0) C I fa wJx4a65c tyJx4a65c tyJx4a65c_ok nmJx4a65c rfl 0 (by decide) (by decide +kernel) (fun _ h9 => h9) rfl (by decide +kernel) rfl rfl (Nat.le_of_ble_eq_true rfl) dJxc12de_init_da8c8_6 (fun H locs I => ?_)
  have I : hv_I G h s (hv_up h a (.inr (0, [.int 0, .null, .int x2]))) H locs := I
  obtain ⟨h_2, eh_2⟩ : ∃ z, z = hv_up h a (.inr (0, [.int 0, .null, .int x2])) := ⟨_, rfl⟩
  have I : hv_I G h s h_2 H locs := by rw [eh_2]; exact I
  have fa9 : h_2 a = some (.inr (0, [.int 0, .null, .int x2])) := by rw [eh_2]; exact hv_up_eq
  have fa := fa9
  exact hv_vret C hr I (by simp only [eh_2, hv_up_up]) dJxc12de_init_da8c8_9 (Nat.le_of_ble_eq_true rfl) (Nat.le_of_ble_eq_true rfl)

set_option maxHeartbeats 4000000 in
set_option maxRecDepth 100000 in
theorem c_AL_init (l : Launch) (G : hv_G) (h : hv) (sz : Nat) {a : Nat} {x0 x2 : Int32} (fa : h a = some (.inr (0, [.int x0, .null, .int x2]))) : hv_Mv l yJx4a65c_init_da8c8 wsJx4a65c_init_da8c8 3 90 0 0 G h sz [.ref a] (fun u => u = hv_up h a (.inr (0, [.int 0, .ref (G.2.2 1), .int x2]))) := by
  have wJx4a65c : ∀ w ∈ wsJx4a65c0, w ∈ wsJx4a65c_init_da8c8 := by decide +kernel
  refine hv_enter (y := yJx4a65c_init_da8c8) (avs := [.ref a]) (maxL := 1) (Qf := fun sz => va_Qv (fun u => u = hv_up h a (.inr (0, [.int 0, .ref (G.2.2 1), .int x2]))) (hv_Bq G h sz) (hv_A h sz)) (by decide) rfl rfl (Nat.le_of_ble_eq_true rfl) ?_
  intro p e s m below meth c hr hnm C I ls hl
  have hl : lv_has ls 1 [(0, .ref a)] := hl
  refine lv_aload_n C.1 C.2.1 dJx4a65c_init_da8c8_0 rfl (lv_at hl 0 rfl) ?_
  refine hv_kv I (va_runI (As := []) (rest := []) C.fix (c_Jxc12de_init l G h _ fa) (cwI 0 C.2.2.2.2.1 gJx4a65c_init_da8c8_Jxc12de_init_da8c8 rfl rfl rfl (C.ts (by decide +kernel)) (C.ts (w := .methodLink RJx4a65c 1 yJxc12de_init_da8c8) (by decide +kernel)) (C.ts (by decide +kernel)) rfl (by decide +kernel) ⟨Nat.le_of_ble_eq_true rfl, Nat.le_of_ble_eq_true rfl⟩) (hv_preS C I) rfl rfl hl.1 rfl (lv_room (Nat.le_of_ble_eq_true rfl)) dJx4a65c_init_da8c8_1 ⟨Nat.le_of_ble_eq_true rfl, Nat.le_of_ble_eq_true rfl⟩) (fun u_1 H locs pu_1 I => ?_)
  have fa9 : u_1 a = some (.inr (0, [.int 0, .null, .int x2])) := by rw [pu_1]; exact hv_up_eq
  have fa := fa9
  refine lv_aload_n C.1 C.2.1 dJx4a65c_init_da8c8_4 rfl (lv_at hl 0 rfl) ?_
  refine hv_gets C I (by decide +kernel) dJx4a65c_init_da8c8_5 ?_
  refine hv_put (ci := 0) (Cn := RJx4a65c) (T := TJx4a65c) (N := 3) (ref := "java/util/ArrayList") (ty := .array (.object "java/lang/Object")) (v := .ref (G.2.2 1)) C I fa wJx4a65c tyJx4a65c tyJx4a65c_ok nmJx4a65c rfl 1 (by decide) (by decide +kernel) (fun _ h9 => h9) rfl (by decide +kernel) rfl rfl (Nat.le_of_ble_eq_true rfl) dJx4a65c_init_da8c8_8 (fun H locs I => ?_)
  have I : hv_I G h s (hv_up u_1 a (.inr (0, [.int 0, .ref (G.2.2 1), .int x2]))) H locs := I
  obtain ⟨h_2, eh_2⟩ : ∃ z, z = hv_up u_1 a (.inr (0, [.int 0, .ref (G.2.2 1), .int x2])) := ⟨_, rfl⟩
  have I : hv_I G h s h_2 H locs := by rw [eh_2]; exact I
  have fa9 : h_2 a = some (.inr (0, [.int 0, .ref (G.2.2 1), .int x2])) := by rw [eh_2]; exact hv_up_eq
  have fa := fa9
  exact hv_vret C hr I (by simp only [eh_2, pu_1, hv_up_up]) dJx4a65c_init_da8c8_11 (Nat.le_of_ble_eq_true rfl) (Nat.le_of_ble_eq_true rfl)

set_option maxHeartbeats 4000000 in
set_option maxRecDepth 100000 in
theorem c_AL_size0 (l : Launch) (G : hv_G) (h : hv) (sz : Nat) {a t : Nat} {mo n : Int32} (fa : h a = some (.inr (0, [.int mo, .ref t, .int n]))) : hv_Mi l yJx4a65c_size_8abf5 wsJx4a65c_size_8abf5 0 0 0 0 G h sz [.ref a] (fun r u => u = h ∧ r = n) := by
  have wJx4a65c : ∀ w ∈ wsJx4a65c0, w ∈ wsJx4a65c_size_8abf5 := by decide +kernel
  refine hv_enter (y := yJx4a65c_size_8abf5) (avs := [.ref a]) (maxL := 1) (Qf := fun sz => va_Qi (fun r u => u = h ∧ r = n) (hv_Bq G h sz) (hv_A h sz)) (by decide) rfl rfl (Nat.le_of_ble_eq_true rfl) ?_
  intro p e s m below meth c hr hnm C I ls hl
  have hl : lv_has ls 1 [(0, .ref a)] := hl
  refine lv_aload_n C.1 C.2.1 dJx4a65c_size_8abf5_0 rfl (lv_at hl 0 rfl) ?_
  refine hv_get (ci := 0) (Cn := RJx4a65c) (T := TJx4a65c) (N := 3) (ref := "java/util/ArrayList") (v := .int n) C I fa wJx4a65c rfl 2 (by decide) (by decide +kernel) (fun _ h9 => h9) rfl dJx4a65c_size_8abf5_1 ?_
  exact hv_iret (v := n) C hr I (⟨rfl, rfl⟩) dJx4a65c_size_8abf5_4 (Nat.le_of_ble_eq_true rfl) (Nat.le_of_ble_eq_true rfl)

set_option maxHeartbeats 4000000 in
set_option maxRecDepth 100000 in
theorem c_AL_elementData (l : Launch) (G : hv_G) (h : hv) (sz : Nat) {a t : Nat} {mo n : Int32} (fa : h a = some (.inr (0, [.int mo, .ref t, .int n]))) {cap : Nat} {f : Nat → Option Nat} (ft : h t = some (.inl (G.2.1 3, cap, .inr (.inr (.inr (.inr f)))))) (p0 : Int32) (g0 : vp_in p0 cap) : hv_Mq l yJx4a65c_elementData_915e3 wsJx4a65c_elementData_915e3 0 0 0 0 G h sz [.ref a, .int p0] (fun r u => u = h ∧ r = f p0.toNatClampNeg) := by
  have wJx4a65c : ∀ w ∈ wsJx4a65c0, w ∈ wsJx4a65c_elementData_915e3 := by decide +kernel
  refine hv_enter (y := yJx4a65c_elementData_915e3) (avs := [.ref a, .int p0]) (maxL := 2) (Qf := fun sz => va_Qq (fun r u => u = h ∧ r = f p0.toNatClampNeg) (hv_Bq G h sz) (hv_A h sz)) (by decide) rfl rfl (Nat.le_of_ble_eq_true rfl) ?_
  intro p e s m below meth c hr hnm C I ls hl
  have hl : lv_has ls 2 [(0, .ref a), (1, .int p0)] := hl
  refine lv_aload_n C.1 C.2.1 dJx4a65c_elementData_915e3_0 rfl (lv_at hl 0 rfl) ?_
  refine hv_get (ci := 0) (Cn := RJx4a65c) (T := TJx4a65c) (N := 3) (ref := "java/util/ArrayList") (v := .ref t) C I fa wJx4a65c rfl 1 (by decide) (by decide +kernel) (fun _ h9 => h9) rfl dJx4a65c_elementData_915e3_1 ?_
  refine lv_iload_n C.1 C.2.1 dJx4a65c_elementData_915e3_4 rfl (lv_at hl 1 rfl) ?_
  refine hv_oald C I ft g0 dJx4a65c_elementData_915e3_5 ?_
  exact hv_qret (r := f p0.toNatClampNeg) C hr (Or.inl ⟨_, rfl⟩) I (⟨rfl, rfl⟩) dJx4a65c_elementData_915e3_6 (Nat.le_of_ble_eq_true rfl) (Nat.le_of_ble_eq_true rfl)

set_option maxHeartbeats 4000000 in
set_option maxRecDepth 100000 in
theorem c_J3_checkIndex (l : Launch) (G : hv_G) (h : hv) (sz : Nat) (p0 p1 : Int32) (g0 : ¬ p0 < 0) (g1 : p0 < p1) : hv_Mi l yJ3_checkIndex_8e157 wsJ3_checkIndex_8e157 0 0 0 0 G h sz [.int p0, .int p1, .null] (fun r u => u = h ∧ r = p0) := by
  refine hv_enter (y := yJ3_checkIndex_8e157) (avs := [.int p0, .int p1, .null]) (maxL := 3) (Qf := fun sz => va_Qi (fun r u => u = h ∧ r = p0) (hv_Bq G h sz) (hv_A h sz)) (by decide) rfl rfl (Nat.le_of_ble_eq_true rfl) ?_
  intro p e s m below meth c hr hnm C I ls hl
  have hl : lv_has ls 3 [(0, .int p0), (1, .int p1), (2, .null)] := hl
  refine lv_iload_n C.1 C.2.1 dJ3_checkIndex_8e157_0 rfl (lv_at hl 0 rfl) ?_
  refine lv_if_lt (tgt := 9) C.1 C.2.1 dJ3_checkIndex_8e157_1 (by decide) (fun c1 => ?_) (fun c1 => ?_)
  · exact absurd c1 g0
  · refine lv_iload_n C.1 C.2.1 dJ3_checkIndex_8e157_4 rfl (lv_at hl 0 rfl) ?_
    refine lv_iload_n C.1 C.2.1 dJ3_checkIndex_8e157_5 rfl (lv_at hl 1 rfl) ?_
    refine lv_icmp_lt (tgt := 16) C.1 C.2.1 dJ3_checkIndex_8e157_6 (by decide) (fun c6 => ?_) (fun c6 => ?_)
    · refine lv_iload_n C.1 C.2.1 dJ3_checkIndex_8e157_16 rfl (lv_at hl 0 rfl) ?_
      exact hv_iret (v := p0) C hr I (⟨rfl, rfl⟩) dJ3_checkIndex_8e157_17 (Nat.le_of_ble_eq_true rfl) (Nat.le_of_ble_eq_true rfl)
    · exact absurd g1 c6

set_option maxHeartbeats 4000000 in
set_option maxRecDepth 100000 in
theorem c_J15_checkIndex (l : Launch) (G : hv_G) (h : hv) (sz : Nat) (p0 p1 : Int32) (g0 : ¬ p0 < 0) (g1 : p0 < p1) : hv_Mi l yJ15_checkIndex_7cf53 wsJ15_checkIndex_7cf53 1 30 0 0 G h sz [.int p0, .int p1] (fun r u => u = h ∧ r = p0) := by
  refine hv_enter (y := yJ15_checkIndex_7cf53) (avs := [.int p0, .int p1]) (maxL := 2) (Qf := fun sz => va_Qi (fun r u => u = h ∧ r = p0) (hv_Bq G h sz) (hv_A h sz)) (by decide) rfl rfl (Nat.le_of_ble_eq_true rfl) ?_
  intro p e s m below meth c hr hnm C I ls hl
  have hl : lv_has ls 2 [(0, .int p0), (1, .int p1)] := hl
  refine lv_iload_n C.1 C.2.1 dJ15_checkIndex_7cf53_0 rfl (lv_at hl 0 rfl) ?_
  refine lv_iload_n C.1 C.2.1 dJ15_checkIndex_7cf53_1 rfl (lv_at hl 1 rfl) ?_
  refine lv_null C.1 C.2.1 dJ15_checkIndex_7cf53_2 ?_
  refine hv_ki I (va_runS (As := [.int p0, .int p1, .null]) (rest := []) C.fix (c_J3_checkIndex l G h _ p0 p1 g0 g1) (va_cwS 3 C.2.2.2.2.1 gJ15_checkIndex_7cf53_J3_checkIndex_8e157 rfl rfl rfl (by decide +kernel) ⟨Nat.le_of_ble_eq_true rfl, Nat.le_of_ble_eq_true rfl⟩) (hv_preS C I) rfl rfl hl.1 rfl (lv_room (Nat.le_of_ble_eq_true rfl)) dJ15_checkIndex_7cf53_3 ⟨Nat.le_of_ble_eq_true rfl, Nat.le_of_ble_eq_true rfl⟩) (fun ru_1 u_1 H locs pu_1 I => ?_)
  obtain ⟨rfl, rfl⟩ := pu_1
  exact hv_iret (v := p0) C hr I (⟨rfl, rfl⟩) dJ15_checkIndex_7cf53_6 (Nat.le_of_ble_eq_true rfl) (Nat.le_of_ble_eq_true rfl)

set_option maxHeartbeats 4000000 in
set_option maxRecDepth 100000 in
theorem c_AL_get0 (l : Launch) (G : hv_G) (h : hv) (sz : Nat) {a t : Nat} {mo n : Int32} (fa : h a = some (.inr (0, [.int mo, .ref t, .int n]))) {cap : Nat} {f : Nat → Option Nat} (ft : h t = some (.inl (G.2.1 3, cap, .inr (.inr (.inr (.inr f)))))) (p0 : Int32) (g0 : ¬ p0 < 0) (g1 : p0 < n) (g2 : vp_in p0 cap) : hv_Mq l yJx4a65c_get_915e3 wsJx4a65c_get_915e3 2 60 0 0 G h sz [.ref a, .int p0] (fun r u => u = h ∧ r = f p0.toNatClampNeg) := by
  have wJx4a65c : ∀ w ∈ wsJx4a65c0, w ∈ wsJx4a65c_get_915e3 := by decide +kernel
  refine hv_enter (y := yJx4a65c_get_915e3) (avs := [.ref a, .int p0]) (maxL := 2) (Qf := fun sz => va_Qq (fun r u => u = h ∧ r = f p0.toNatClampNeg) (hv_Bq G h sz) (hv_A h sz)) (by decide) rfl rfl (Nat.le_of_ble_eq_true rfl) ?_
  intro p e s m below meth c hr hnm C I ls hl
  have hl : lv_has ls 2 [(0, .ref a), (1, .int p0)] := hl
  refine lv_iload_n C.1 C.2.1 dJx4a65c_get_915e3_0 rfl (lv_at hl 1 rfl) ?_
  refine lv_aload_n C.1 C.2.1 dJx4a65c_get_915e3_1 rfl (lv_at hl 0 rfl) ?_
  refine hv_get (ci := 0) (Cn := RJx4a65c) (T := TJx4a65c) (N := 3) (ref := "java/util/ArrayList") (v := .int n) C I fa wJx4a65c rfl 2 (by decide) (by decide +kernel) (fun _ h9 => h9) rfl dJx4a65c_get_915e3_2 ?_
  refine hv_ki I (va_runS (As := [.int p0, .int n]) (rest := []) C.fix (c_J15_checkIndex l G h _ p0 n g0 g1) (va_cwS 2 C.2.2.2.2.1 gJx4a65c_get_915e3_J15_checkIndex_7cf53 rfl rfl rfl (by decide +kernel) ⟨Nat.le_of_ble_eq_true rfl, Nat.le_of_ble_eq_true rfl⟩) (hv_preS C I) rfl rfl hl.1 rfl (lv_room (Nat.le_of_ble_eq_true rfl)) dJx4a65c_get_915e3_5 ⟨Nat.le_of_ble_eq_true rfl, Nat.le_of_ble_eq_true rfl⟩) (fun ru_1 u_1 H locs pu_1 I => ?_)
  obtain ⟨rfl, rfl⟩ := pu_1
  refine lv_pop C.1 C.2.1 dJx4a65c_get_915e3_8 rfl ?_
  refine lv_aload_n C.1 C.2.1 dJx4a65c_get_915e3_9 rfl (lv_at hl 0 rfl) ?_
  refine lv_iload_n C.1 C.2.1 dJx4a65c_get_915e3_10 rfl (lv_at hl 1 rfl) ?_
  refine hv_kq I (va_runV (As := [.int p0]) (rest := []) C.fix (c_AL_elementData l G h _ fa ft p0 g2) (cwV 1 C.2.2.2.2.1 gJx4a65c_get_915e3_Jx4a65c_elementData_915e3 rfl rfl rfl (by decide +kernel) ⟨Nat.le_of_ble_eq_true rfl, Nat.le_of_ble_eq_true rfl⟩) (hv_preV C I fa (r := (RJx4a65c, TJx4a65c, 3)) rfl) rfl rfl hl.1 rfl (lv_room (Nat.le_of_ble_eq_true rfl)) dJx4a65c_get_915e3_11 ⟨Nat.le_of_ble_eq_true rfl, Nat.le_of_ble_eq_true rfl⟩) (fun ru_2 u_2 H locs pu_2 I => ?_)
  obtain ⟨rfl, rfl⟩ := pu_2
  exact hv_qret (r := f p0.toNatClampNeg) C hr (Or.inl ⟨_, rfl⟩) I (⟨rfl, rfl⟩) dJx4a65c_get_915e3_14 (Nat.le_of_ble_eq_true rfl) (Nat.le_of_ble_eq_true rfl)

set_option maxHeartbeats 4000000 in
set_option maxRecDepth 100000 in
theorem c_J8_newLength (l : Launch) (G : hv_G) (h : hv) (sz : Nat) (p0 p1 p2 : Int32) (g0 : ¬ p0 + (if p1 < p2 then p2 else p1) ≤ 0) (g1 : ¬ 2147483639 < p0 + (if p1 < p2 then p2 else p1)) : hv_Mi l yJ8_newLength_cabcc wsJ8_newLength_cabcc 1 20 0 0 G h sz [.int p0, .int p1, .int p2] (fun r u => u = h ∧ r = p0 + (if p1 < p2 then p2 else p1)) := by
  refine hv_enter (y := yJ8_newLength_cabcc) (avs := [.int p0, .int p1, .int p2]) (maxL := 4) (Qf := fun sz => va_Qi (fun r u => u = h ∧ r = p0 + (if p1 < p2 then p2 else p1)) (hv_Bq G h sz) (hv_A h sz)) (by decide) rfl rfl (Nat.le_of_ble_eq_true rfl) ?_
  intro p e s m below meth c hr hnm C I ls hl
  have hl : lv_has ls 4 [(0, .int p0), (1, .int p1), (2, .int p2)] := hl
  refine lv_iload_n C.1 C.2.1 dJ8_newLength_cabcc_0 rfl (lv_at hl 0 rfl) ?_
  refine lv_iload_n C.1 C.2.1 dJ8_newLength_cabcc_1 rfl (lv_at hl 1 rfl) ?_
  refine lv_iload_n C.1 C.2.1 dJ8_newLength_cabcc_2 rfl (lv_at hl 2 rfl) ?_
  refine va_mmax C.1 C.2.1 (C.2.2.1.trans hl.1.symm) C.2.2.2.1 (C.ts (w := .methodLink RJ8 194 Lib.Math.max.name) (by decide +kernel)) (C.ts (by decide +kernel)) (C.ts (by decide +kernel)) (C.ts (by decide +kernel)) (by decide) (by decide) (Nat.zero_le _) (Nat.zero_le _) dJ8_newLength_cabcc_3 ?_
  refine lv_iadd C.1 C.2.1 dJ8_newLength_cabcc_6 ?_
  refine lv_istore_n (lv' := [(3, .int (p0 + (if p1 < p2 then p2 else p1))), (0, .int p0), (1, .int p1), (2, .int p2)]) C.1 C.2.1 dJ8_newLength_cabcc_7 rfl hl (by decide) rfl (fun ls hl => ?_)
  refine lv_iconst (v := 0) C.1 C.2.1 dJ8_newLength_cabcc_8 (by decide) ?_
  refine lv_iload_n C.1 C.2.1 dJ8_newLength_cabcc_9 rfl (lv_at hl 0 rfl) ?_
  refine lv_icmp_ge (tgt := 21) C.1 C.2.1 dJ8_newLength_cabcc_10 (by decide) (fun c10 => ?_) (fun c10 => ?_)
  · exact absurd c10 g0
  · refine lv_iload_n C.1 C.2.1 dJ8_newLength_cabcc_13 rfl (lv_at hl 0 rfl) ?_
    refine lv_ldc C.1 C.2.1 C.2.2.2.1 (C.ts (w := .constant RJ8 200 (2147483639)) (by decide +kernel)) dJ8_newLength_cabcc_14 ?_
    refine lv_icmp_gt (tgt := 21) C.1 C.2.1 dJ8_newLength_cabcc_16 (by decide) (fun c16 => ?_) (fun c16 => ?_)
    · exact absurd c16 g1
    · refine lv_iload_n C.1 C.2.1 dJ8_newLength_cabcc_19 rfl (lv_at hl 0 rfl) ?_
      exact hv_iret (v := (p0 + (if p1 < p2 then p2 else p1))) C hr I (⟨rfl, rfl⟩) dJ8_newLength_cabcc_20 (Nat.le_of_ble_eq_true rfl) (Nat.le_of_ble_eq_true rfl)

set_option maxHeartbeats 4000000 in
set_option maxRecDepth 100000 in
theorem c_J7_copyOf3 (l : Launch) (G : hv_G) (h : hv) (sz : Nat) {t cap : Nat} {f : Nat → Option Nat} (ft : h t = some (.inl (G.2.1 3, cap, .inr (.inr (.inr (.inr f)))))) (hel : hv_El h f cap) (N : Nat) (hc : cap ≤ N) (hN : N ≤ 1000) : hv_Mq l yJ7_copyOf_6403c wsJ7_copyOf_6403c 1 60 1 N G h sz [.ref t, .int (nI N), .ref (G.2.2 0)] (fun r u => ∃ q : Nat, h q = none ∧ r = some q ∧ u = hv_up h q (.inl (G.2.1 3, N, .inr (.inr (.inr (.inr (va_cpy f (fun _ => none) 0 0 cap))))))) := by
  refine hv_enter (y := yJ7_copyOf_6403c) (avs := [.ref t, .int (nI N), .ref (G.2.2 0)]) (maxL := 4) (Qf := fun sz => va_Qq (fun r u => ∃ q : Nat, h q = none ∧ r = some q ∧ u = hv_up h q (.inl (G.2.1 3, N, .inr (.inr (.inr (.inr (va_cpy f (fun _ => none) 0 0 cap))))))) (hv_Bq G h sz) (hv_A h sz)) (by decide) rfl rfl (Nat.le_of_ble_eq_true rfl) ?_
  intro p e s m below meth c hr hnm C I ls hl
  have hl : lv_has ls 4 [(0, .ref t), (1, .int (nI N)), (2, .ref (G.2.2 0))] := hl
  refine lv_aload_n C.1 C.2.1 dJ7_copyOf_6403c_0 rfl (lv_at hl 2 rfl) ?_
  refine hv_ldcM C (by decide +kernel) dJ7_copyOf_6403c_1 ?_
  refine lv_acmp_ne (rx := some (G.2.2 0)) (ry := some (G.2.2 0)) (tgt := 13) C.1 C.2.1 dJ7_copyOf_6403c_3 (by decide) (fun c3 => ?_) (fun c3 => ?_)
  · exact absurd rfl c3
  · refine lv_iload_n C.1 C.2.1 dJ7_copyOf_6403c_6 rfl (lv_at hl 1 rfl) ?_
    refine hv_newO (N := N) C I (by decide +kernel) (nI_pos (by omega)) (nI_clamp (by omega)) (by omega) (Nat.le_of_ble_eq_true rfl) (hv_le0 N) dJ7_copyOf_6403c_7 (fun q_1 H nq_1 I => ?_)
    obtain ⟨h_2, eh_2⟩ : ∃ z, z = hv_up h q_1 (.inl (G.2.1 3, N, .inr (.inr (.inr (.inr (fun _ => none)))))) := ⟨_, rfl⟩
    rw [← eh_2] at I
    have ne_ft_q_1 : t ≠ q_1 := hv_neN ft nq_1
    have ft9 : h_2 t = some (.inl (G.2.1 3, cap, .inr (.inr (.inr (.inr f))))) := by rw [eh_2, hv_up_ne (hv_neN ft nq_1)]; exact ft
    have ft := ft9
    have fq_1 : h_2 q_1 = some (.inl (G.2.1 3, N, .inr (.inr (.inr (.inr (fun _ => none)))))) := by rw [eh_2]; exact hv_up_eq
    refine lv_goto (tgt := 24) C.1 C.2.1 dJ7_copyOf_6403c_10 (by decide) ?_
    refine lv_astore_n (lv' := [(3, .ref q_1), (0, .ref t), (1, .int (nI N)), (2, .ref (G.2.2 0))]) C.1 C.2.1 dJ7_copyOf_6403c_24 rfl hl (by decide) rfl (fun ls hl => ?_)
    refine lv_aload_n C.1 C.2.1 dJ7_copyOf_6403c_25 rfl (lv_at hl 1 rfl) ?_
    refine lv_iconst (v := 0) C.1 C.2.1 dJ7_copyOf_6403c_26 (by decide) ?_
    refine lv_aload_n C.1 C.2.1 dJ7_copyOf_6403c_27 rfl (lv_at hl 0 rfl) ?_
    refine lv_iconst (v := 0) C.1 C.2.1 dJ7_copyOf_6403c_28 (by decide) ?_
    refine lv_aload_n C.1 C.2.1 dJ7_copyOf_6403c_29 rfl (lv_at hl 1 rfl) ?_
    refine hv_alen (v := nI cap) C I ft 3 rfl rfl dJ7_copyOf_6403c_30 ?_
    refine lv_iload_n C.1 C.2.1 dJ7_copyOf_6403c_31 rfl (lv_at hl 2 rfl) ?_
    refine va_mmin C.1 C.2.1 (C.2.2.1.trans hl.1.symm) C.2.2.2.1 (C.ts (w := .methodLink RJ7 304 Lib.Math.min.name) (by decide +kernel)) (C.ts (by decide +kernel)) (C.ts (by decide +kernel)) (C.ts (by decide +kernel)) (by decide) (by decide) (by show _ ≤ _; simp) (by show _ ≤ _; simp) dJ7_copyOf_6403c_32 ?_
    refine lv_topi (fun z_3 ez_3 => ?_)
    have ez_3 : z_3 = nI cap := by rw [ez_3]; exact if_neg (nI_nlt hc (by omega))
    subst ez_3
    have hel2 : hv_El h_2 f (nI cap).toNatClampNeg := by
      rw [nI_clamp (by omega)]; intro i hi y hy; obtain ⟨ci, fs, r, e1, e2, e3⟩ := hel i hi y hy
      exact ⟨ci, fs, r, by rw [eh_2, hv_up_ne (hv_neN e1 nq_1)]; exact e1, e2, e3⟩
    refine hv_copy (n := nI cap) C I hl.1 (by decide +kernel) (by decide +kernel) (by decide +kernel) (by decide +kernel) ft fq_1 (nI_pos (by omega)) (by rw [nI_clamp (by omega)]; exact Nat.le_refl _) (by rw [nI_clamp (by omega)]; exact hc) hel2 (Nat.le_of_ble_eq_true rfl) (by decide) dJ7_copyOf_6403c_35 (fun H locs I => ?_)
    obtain ⟨h_4, eh_4⟩ : ∃ z, z = hv_up h_2 q_1 (.inl (G.2.1 3, N, .inr (.inr (.inr (.inr (va_cpy f (fun _ => none) 0 0 (nI cap).toNatClampNeg)))))) := ⟨_, rfl⟩
    have I : hv_I G h s h_4 H locs := by rw [eh_4]; exact I
    have ft9 : h_4 t = some (.inl (G.2.1 3, cap, .inr (.inr (.inr (.inr f))))) := by rw [eh_4, hv_up_ne ne_ft_q_1]; exact ft
    have fq_19 : h_4 q_1 = some (.inl (G.2.1 3, N, .inr (.inr (.inr (.inr (va_cpy f (fun _ => none) 0 0 (nI cap).toNatClampNeg)))))) := by rw [eh_4]; exact hv_up_eq
    have ft := ft9
    have fq_1 := fq_19
    refine lv_aload_n C.1 C.2.1 dJ7_copyOf_6403c_38 rfl (lv_at hl 0 rfl) ?_
    exact hv_qret (r := some q_1) C hr (Or.inr ⟨_, rfl⟩) I (⟨q_1, nq_1, rfl, by simp only [eh_4, eh_2, hv_up_up]; rw [nI_clamp (by omega)]⟩) dJ7_copyOf_6403c_39 (Nat.le_of_ble_eq_true rfl) (hv_le0 N)

set_option maxHeartbeats 4000000 in
set_option maxRecDepth 100000 in
theorem c_J7_copyOf2 (l : Launch) (G : hv_G) (h : hv) (sz : Nat) {t cap : Nat} {f : Nat → Option Nat} (ft : h t = some (.inl (G.2.1 3, cap, .inr (.inr (.inr (.inr f)))))) (hel : hv_El h f cap) (N : Nat) (hc : cap ≤ N) (hN : N ≤ 1000) : hv_Mq l yJ7_copyOf_1904c wsJ7_copyOf_1904c 2 90 1 N G h sz [.ref t, .int (nI N)] (fun r u => ∃ q : Nat, h q = none ∧ r = some q ∧ u = hv_up h q (.inl (G.2.1 3, N, .inr (.inr (.inr (.inr (va_cpy f (fun _ => none) 0 0 cap))))))) := by
  refine hv_enter (y := yJ7_copyOf_1904c) (avs := [.ref t, .int (nI N)]) (maxL := 2) (Qf := fun sz => va_Qq (fun r u => ∃ q : Nat, h q = none ∧ r = some q ∧ u = hv_up h q (.inl (G.2.1 3, N, .inr (.inr (.inr (.inr (va_cpy f (fun _ => none) 0 0 cap))))))) (hv_Bq G h sz) (hv_A h sz)) (by decide) rfl rfl (Nat.le_of_ble_eq_true rfl) ?_
  intro p e s m below meth c hr hnm C I ls hl
  have hl : lv_has ls 2 [(0, .ref t), (1, .int (nI N))] := hl
  refine lv_aload_n C.1 C.2.1 dJ7_copyOf_1904c_0 rfl (lv_at hl 0 rfl) ?_
  refine lv_iload_n C.1 C.2.1 dJ7_copyOf_1904c_1 rfl (lv_at hl 1 rfl) ?_
  refine lv_aload_n C.1 C.2.1 dJ7_copyOf_1904c_2 rfl (lv_at hl 0 rfl) ?_
  refine hv_getC C I hl.1 ft (by decide +kernel) (by decide +kernel) (by decide +kernel) (by decide +kernel) (Nat.le_of_ble_eq_true rfl) (Nat.le_of_ble_eq_true rfl) dJ7_copyOf_1904c_3 ?_
  refine hv_kq I (va_runS (As := [.ref t, .int (nI N), .ref (G.2.2 0)]) (rest := []) C.fix (c_J7_copyOf3 l G h _ ft hel N hc hN) (va_cwS 3 C.2.2.2.2.1 gJ7_copyOf_1904c_J7_copyOf_6403c rfl rfl rfl (by decide +kernel) ⟨Nat.le_of_ble_eq_true rfl, Nat.le_of_ble_eq_true rfl⟩) (hv_preS C I) rfl rfl hl.1 rfl (lv_room (Nat.le_of_ble_eq_true rfl)) dJ7_copyOf_1904c_6 ⟨Nat.le_of_ble_eq_true rfl, Nat.le_of_ble_eq_true rfl⟩) (fun ru_1 u_1 H locs pu_1 I => ?_)
  obtain ⟨q_2, nq_2, rfl, eu_1⟩ := pu_1
  have ft9 : u_1 t = some (.inl (G.2.1 3, cap, .inr (.inr (.inr (.inr f))))) := by rw [eu_1, hv_up_ne (hv_neN ft nq_2)]; exact ft
  have ft := ft9
  have fq_2 : u_1 q_2 = some (.inl (G.2.1 3, N, .inr (.inr (.inr (.inr (va_cpy f (fun _ => none) 0 0 cap)))))) := by rw [eu_1]; exact hv_up_eq
  exact hv_qret (r := some q_2) C hr (Or.inr ⟨_, rfl⟩) I (⟨q_2, nq_2, rfl, eu_1⟩) dJ7_copyOf_1904c_9 (Nat.le_of_ble_eq_true rfl) (hv_le0 N)
end
