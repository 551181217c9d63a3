-- ===== PART A: goes FIRST, ahead of the names: the tables' words, and 'selects' of the private methods out of them =====
/-- a private method of a class that the tables say can be made, by its rows of tables_1 -/
def lw_okq (q : MethodName × Nat) : Prop := (q.1.cls ≠ "java/lang/invoke/MethodHandle" ∧ q.1.cls ≠ "java/lang/invoke/VarHandle") ∧ Cond.instantiable q.1.cls q.2 ∈ tables_1 ∧ Cond.privateMethod q.1 ∈ tables_1 ∧ Cond.instanceMethod q.1 ∈ tables_1
theorem lw_p0 : lw_okq (⟨"ParrotCourt$Slips", "list", "(III)V"⟩, 3) := ⟨⟨by decide +kernel, by decide +kernel⟩, List.mem_of_getElem? (i := 21) (by decide +kernel), List.mem_of_getElem? (i := 27) (by decide +kernel), List.mem_of_getElem? (i := 28) (by decide +kernel)⟩
theorem lw_p1 : lw_okq (⟨"ParrotCourt$Slips", "addUnlike", "(III)V"⟩, 3) := ⟨⟨by decide +kernel, by decide +kernel⟩, List.mem_of_getElem? (i := 21) (by decide +kernel), List.mem_of_getElem? (i := 48) (by decide +kernel), List.mem_of_getElem? (i := 49) (by decide +kernel)⟩
theorem lw_p2 : lw_okq (⟨"ParrotCourt", "forgetHistories", "()V"⟩, 13) := ⟨⟨by decide +kernel, by decide +kernel⟩, List.mem_of_getElem? (i := 13) (by decide +kernel), List.mem_of_getElem? (i := 284) (by decide +kernel), List.mem_of_getElem? (i := 285) (by decide +kernel)⟩
theorem lw_p3 : lw_okq (⟨"ParrotCourt$Walk", "forgetAll", "()V"⟩, 4) := ⟨⟨by decide +kernel, by decide +kernel⟩, List.mem_of_getElem? (i := 150) (by decide +kernel), List.mem_of_getElem? (i := 340) (by decide +kernel), List.mem_of_getElem? (i := 341) (by decide +kernel)⟩
theorem lw_p4 : lw_okq (⟨"ParrotCourt$Walk", "listen", "(LParrotCourt$Court;IZ)V"⟩, 4) := ⟨⟨by decide +kernel, by decide +kernel⟩, List.mem_of_getElem? (i := 150) (by decide +kernel), List.mem_of_getElem? (i := 344) (by decide +kernel), List.mem_of_getElem? (i := 345) (by decide +kernel)⟩
theorem lw_p5 : lw_okq (⟨"ParrotCourt$Walk", "keep", "(LParrotCourt$Court;LParrotCourt$Slips;II)V"⟩, 4) := ⟨⟨by decide +kernel, by decide +kernel⟩, List.mem_of_getElem? (i := 150) (by decide +kernel), List.mem_of_getElem? (i := 353) (by decide +kernel), List.mem_of_getElem? (i := 354) (by decide +kernel)⟩
theorem lw_p6 : lw_okq (⟨"ParrotCourt$Walk", "saidIn", "(LParrotCourt$Court;I)I"⟩, 4) := ⟨⟨by decide +kernel, by decide +kernel⟩, List.mem_of_getElem? (i := 150) (by decide +kernel), List.mem_of_getElem? (i := 357) (by decide +kernel), List.mem_of_getElem? (i := 358) (by decide +kernel)⟩
theorem lw_p7 : lw_okq (⟨"ParrotCourt", "reckonHistories", "()V"⟩, 13) := ⟨⟨by decide +kernel, by decide +kernel⟩, List.mem_of_getElem? (i := 13) (by decide +kernel), List.mem_of_getElem? (i := 408) (by decide +kernel), List.mem_of_getElem? (i := 409) (by decide +kernel)⟩
theorem lw_p8 : lw_okq (⟨"ParrotCourt$Histories", "free", "(I)V"⟩, 9) := ⟨⟨by decide +kernel, by decide +kernel⟩, List.mem_of_getElem? (i := 172) (by decide +kernel), List.mem_of_getElem? (i := 416) (by decide +kernel), List.mem_of_getElem? (i := 417) (by decide +kernel)⟩
theorem lw_p9 : lw_okq (⟨"ParrotCourt$Histories", "bind", "(II)V"⟩, 9) := ⟨⟨by decide +kernel, by decide +kernel⟩, List.mem_of_getElem? (i := 172) (by decide +kernel), List.mem_of_getElem? (i := 420) (by decide +kernel), List.mem_of_getElem? (i := 421) (by decide +kernel)⟩
theorem lw_p10 : lw_okq (⟨"ParrotCourt$Histories", "forbid", "(I)V"⟩, 9) := ⟨⟨by decide +kernel, by decide +kernel⟩, List.mem_of_getElem? (i := 172) (by decide +kernel), List.mem_of_getElem? (i := 424) (by decide +kernel), List.mem_of_getElem? (i := 425) (by decide +kernel)⟩
theorem lw_p11 : lw_okq (⟨"ParrotCourt$Histories", "goBack", "(II[ILParrotCourt$Slips;)V"⟩, 9) := ⟨⟨by decide +kernel, by decide +kernel⟩, List.mem_of_getElem? (i := 172) (by decide +kernel), List.mem_of_getElem? (i := 431) (by decide +kernel), List.mem_of_getElem? (i := 432) (by decide +kernel)⟩
theorem lw_p12 : lw_okq (⟨"ParrotCourt$Histories", "weigh", "(IIILParrotCourt$Slips;)V"⟩, 9) := ⟨⟨by decide +kernel, by decide +kernel⟩, List.mem_of_getElem? (i := 172) (by decide +kernel), List.mem_of_getElem? (i := 436) (by decide +kernel), List.mem_of_getElem? (i := 437) (by decide +kernel)⟩
theorem lw_p13 : lw_okq (⟨"ParrotCourt$Histories", "someBirdIsBound", "()Z"⟩, 9) := ⟨⟨by decide +kernel, by decide +kernel⟩, List.mem_of_getElem? (i := 172) (by decide +kernel), List.mem_of_getElem? (i := 442) (by decide +kernel), List.mem_of_getElem? (i := 443) (by decide +kernel)⟩
theorem lw_p14 : lw_okq (⟨"ParrotCourt$Histories", "sumUp", "()V"⟩, 9) := ⟨⟨by decide +kernel, by decide +kernel⟩, List.mem_of_getElem? (i := 172) (by decide +kernel), List.mem_of_getElem? (i := 446) (by decide +kernel), List.mem_of_getElem? (i := 447) (by decide +kernel)⟩
theorem lw_p15 : lw_okq (⟨"ParrotCourt", "reckonWithout", "()V"⟩, 13) := ⟨⟨by decide +kernel, by decide +kernel⟩, List.mem_of_getElem? (i := 13) (by decide +kernel), List.mem_of_getElem? (i := 489) (by decide +kernel), List.mem_of_getElem? (i := 490) (by decide +kernel)⟩
def lw_privs_1 : List (MethodName × Nat) := [(⟨"ParrotCourt$Slips", "list", "(III)V"⟩, 3), (⟨"ParrotCourt$Slips", "addUnlike", "(III)V"⟩, 3), (⟨"ParrotCourt", "forgetHistories", "()V"⟩, 13), (⟨"ParrotCourt$Walk", "forgetAll", "()V"⟩, 4), (⟨"ParrotCourt$Walk", "listen", "(LParrotCourt$Court;IZ)V"⟩, 4), (⟨"ParrotCourt$Walk", "keep", "(LParrotCourt$Court;LParrotCourt$Slips;II)V"⟩, 4), (⟨"ParrotCourt$Walk", "saidIn", "(LParrotCourt$Court;I)I"⟩, 4), (⟨"ParrotCourt", "reckonHistories", "()V"⟩, 13), (⟨"ParrotCourt$Histories", "free", "(I)V"⟩, 9), (⟨"ParrotCourt$Histories", "bind", "(II)V"⟩, 9), (⟨"ParrotCourt$Histories", "forbid", "(I)V"⟩, 9), (⟨"ParrotCourt$Histories", "goBack", "(II[ILParrotCourt$Slips;)V"⟩, 9), (⟨"ParrotCourt$Histories", "weigh", "(IIILParrotCourt$Slips;)V"⟩, 9), (⟨"ParrotCourt$Histories", "someBirdIsBound", "()Z"⟩, 9), (⟨"ParrotCourt$Histories", "sumUp", "()V"⟩, 9), (⟨"ParrotCourt", "reckonWithout", "()V"⟩, 13)]
theorem lw_r1 : ∀ q ∈ lw_privs_1, lw_okq q := List.forall_mem_cons.mpr ⟨lw_p0, List.forall_mem_cons.mpr ⟨lw_p1, List.forall_mem_cons.mpr ⟨lw_p2, List.forall_mem_cons.mpr ⟨lw_p3, List.forall_mem_cons.mpr ⟨lw_p4, List.forall_mem_cons.mpr ⟨lw_p5, List.forall_mem_cons.mpr ⟨lw_p6, List.forall_mem_cons.mpr ⟨lw_p7, List.forall_mem_cons.mpr ⟨lw_p8, List.forall_mem_cons.mpr ⟨lw_p9, List.forall_mem_cons.mpr ⟨lw_p10, List.forall_mem_cons.mpr ⟨lw_p11, List.forall_mem_cons.mpr ⟨lw_p12, List.forall_mem_cons.mpr ⟨lw_p13, List.forall_mem_cons.mpr ⟨lw_p14, List.forall_mem_cons.mpr ⟨lw_p15, fun _ h => absurd h List.not_mem_nil⟩⟩⟩⟩⟩⟩⟩⟩⟩⟩⟩⟩⟩⟩⟩⟩
theorem lw_p16 : lw_okq (⟨"ParrotCourt", "prepareTelling", "()V"⟩, 13) := ⟨⟨by decide +kernel, by decide +kernel⟩, List.mem_of_getElem? (i := 13) (by decide +kernel), List.mem_of_getElem? (i := 497) (by decide +kernel), List.mem_of_getElem? (i := 498) (by decide +kernel)⟩
theorem lw_p17 : lw_okq (⟨"ParrotCourt$Telling", "goBack", "(LParrotCourt$Court;I)V"⟩, 5) := ⟨⟨by decide +kernel, by decide +kernel⟩, List.mem_of_getElem? (i := 215) (by decide +kernel), List.mem_of_getElem? (i := 509) (by decide +kernel), List.mem_of_getElem? (i := 510) (by decide +kernel)⟩
theorem lw_p18 : lw_okq (⟨"ParrotCourt$Telling", "slipsIn", "(I)Z"⟩, 5) := ⟨⟨by decide +kernel, by decide +kernel⟩, List.mem_of_getElem? (i := 215) (by decide +kernel), List.mem_of_getElem? (i := 528) (by decide +kernel), List.mem_of_getElem? (i := 529) (by decide +kernel)⟩
theorem lw_p19 : lw_okq (⟨"ParrotCourt$Telling", "halves", "(II)Z"⟩, 5) := ⟨⟨by decide +kernel, by decide +kernel⟩, List.mem_of_getElem? (i := 215) (by decide +kernel), List.mem_of_getElem? (i := 532) (by decide +kernel), List.mem_of_getElem? (i := 533) (by decide +kernel)⟩
theorem lw_p20 : lw_okq (⟨"ParrotCourt$Walk", "draw", "(LParrotCourt$Court;LParrotCourt$Slips;I)I"⟩, 4) := ⟨⟨by decide +kernel, by decide +kernel⟩, List.mem_of_getElem? (i := 150) (by decide +kernel), List.mem_of_getElem? (i := 560) (by decide +kernel), List.mem_of_getElem? (i := 561) (by decide +kernel)⟩
theorem lw_p21 : lw_okq (⟨"ParrotCourt$Walk", "nextSeed", "()V"⟩, 4) := ⟨⟨by decide +kernel, by decide +kernel⟩, List.mem_of_getElem? (i := 150) (by decide +kernel), List.mem_of_getElem? (i := 564) (by decide +kernel), List.mem_of_getElem? (i := 565) (by decide +kernel)⟩
theorem lw_p22 : lw_okq (⟨"ParrotCourtModel", "faultOfDays", "()I"⟩, 29) := ⟨⟨by decide +kernel, by decide +kernel⟩, List.mem_of_getElem? (i := 591) (by decide +kernel), List.mem_of_getElem? (i := 711) (by decide +kernel), List.mem_of_getElem? (i := 712) (by decide +kernel)⟩
theorem lw_p23 : lw_okq (⟨"ParrotCourtModel", "faultOfSaying", "()I"⟩, 29) := ⟨⟨by decide +kernel, by decide +kernel⟩, List.mem_of_getElem? (i := 591) (by decide +kernel), List.mem_of_getElem? (i := 722) (by decide +kernel), List.mem_of_getElem? (i := 723) (by decide +kernel)⟩
theorem lw_p24 : lw_okq (⟨"ParrotCourtModel", "padSaying", "()I"⟩, 29) := ⟨⟨by decide +kernel, by decide +kernel⟩, List.mem_of_getElem? (i := 591) (by decide +kernel), List.mem_of_getElem? (i := 736) (by decide +kernel), List.mem_of_getElem? (i := 737) (by decide +kernel)⟩
theorem lw_p25 : lw_okq (⟨"ParrotCourtModel", "findSlips", "(II)V"⟩, 29) := ⟨⟨by decide +kernel, by decide +kernel⟩, List.mem_of_getElem? (i := 591) (by decide +kernel), List.mem_of_getElem? (i := 743) (by decide +kernel), List.mem_of_getElem? (i := 744) (by decide +kernel)⟩
theorem lw_p26 : lw_okq (⟨"ParrotCourtModel", "lay", "(I)V"⟩, 29) := ⟨⟨by decide +kernel, by decide +kernel⟩, List.mem_of_getElem? (i := 591) (by decide +kernel), List.mem_of_getElem? (i := 748) (by decide +kernel), List.mem_of_getElem? (i := 749) (by decide +kernel)⟩
theorem lw_p27 : lw_okq (⟨"ParrotCourtModel", "numberWith", "(III)I"⟩, 29) := ⟨⟨by decide +kernel, by decide +kernel⟩, List.mem_of_getElem? (i := 591) (by decide +kernel), List.mem_of_getElem? (i := 755) (by decide +kernel), List.mem_of_getElem? (i := 756) (by decide +kernel)⟩
theorem lw_p28 : lw_okq (⟨"ParrotCourtModel", "addSlip", "(II)V"⟩, 29) := ⟨⟨by decide +kernel, by decide +kernel⟩, List.mem_of_getElem? (i := 591) (by decide +kernel), List.mem_of_getElem? (i := 759) (by decide +kernel), List.mem_of_getElem? (i := 760) (by decide +kernel)⟩
theorem lw_p29 : lw_okq (⟨"ParrotCourtModel", "goDay", "(III)V"⟩, 29) := ⟨⟨by decide +kernel, by decide +kernel⟩, List.mem_of_getElem? (i := 591) (by decide +kernel), List.mem_of_getElem? (i := 771) (by decide +kernel), List.mem_of_getElem? (i := 772) (by decide +kernel)⟩
theorem lw_p30 : lw_okq (⟨"ParrotCourtModel", "forget", "()V"⟩, 29) := ⟨⟨by decide +kernel, by decide +kernel⟩, List.mem_of_getElem? (i := 591) (by decide +kernel), List.mem_of_getElem? (i := 775) (by decide +kernel), List.mem_of_getElem? (i := 776) (by decide +kernel)⟩
theorem lw_p31 : lw_okq (⟨"ParrotCourtModel", "go", "(IIZI)V"⟩, 29) := ⟨⟨by decide +kernel, by decide +kernel⟩, List.mem_of_getElem? (i := 591) (by decide +kernel), List.mem_of_getElem? (i := 779) (by decide +kernel), List.mem_of_getElem? (i := 780) (by decide +kernel)⟩
def lw_privs_2 : List (MethodName × Nat) := [(⟨"ParrotCourt", "prepareTelling", "()V"⟩, 13), (⟨"ParrotCourt$Telling", "goBack", "(LParrotCourt$Court;I)V"⟩, 5), (⟨"ParrotCourt$Telling", "slipsIn", "(I)Z"⟩, 5), (⟨"ParrotCourt$Telling", "halves", "(II)Z"⟩, 5), (⟨"ParrotCourt$Walk", "draw", "(LParrotCourt$Court;LParrotCourt$Slips;I)I"⟩, 4), (⟨"ParrotCourt$Walk", "nextSeed", "()V"⟩, 4), (⟨"ParrotCourtModel", "faultOfDays", "()I"⟩, 29), (⟨"ParrotCourtModel", "faultOfSaying", "()I"⟩, 29), (⟨"ParrotCourtModel", "padSaying", "()I"⟩, 29), (⟨"ParrotCourtModel", "findSlips", "(II)V"⟩, 29), (⟨"ParrotCourtModel", "lay", "(I)V"⟩, 29), (⟨"ParrotCourtModel", "numberWith", "(III)I"⟩, 29), (⟨"ParrotCourtModel", "addSlip", "(II)V"⟩, 29), (⟨"ParrotCourtModel", "goDay", "(III)V"⟩, 29), (⟨"ParrotCourtModel", "forget", "()V"⟩, 29), (⟨"ParrotCourtModel", "go", "(IIZI)V"⟩, 29)]
theorem lw_r2 : ∀ q ∈ lw_privs_2, lw_okq q := List.forall_mem_cons.mpr ⟨lw_p16, List.forall_mem_cons.mpr ⟨lw_p17, List.forall_mem_cons.mpr ⟨lw_p18, List.forall_mem_cons.mpr ⟨lw_p19, List.forall_mem_cons.mpr ⟨lw_p20, List.forall_mem_cons.mpr ⟨lw_p21, List.forall_mem_cons.mpr ⟨lw_p22, List.forall_mem_cons.mpr ⟨lw_p23, List.forall_mem_cons.mpr ⟨lw_p24, List.forall_mem_cons.mpr ⟨lw_p25, List.forall_mem_cons.mpr ⟨lw_p26, List.forall_mem_cons.mpr ⟨lw_p27, List.forall_mem_cons.mpr ⟨lw_p28, List.forall_mem_cons.mpr ⟨lw_p29, List.forall_mem_cons.mpr ⟨lw_p30, List.forall_mem_cons.mpr ⟨lw_p31, fun _ h => absurd h List.not_mem_nil⟩⟩⟩⟩⟩⟩⟩⟩⟩⟩⟩⟩⟩⟩⟩⟩
theorem lw_p32 : lw_okq (⟨"ParrotCourtModel", "hears", "(IZ)Z"⟩, 29) := ⟨⟨by decide +kernel, by decide +kernel⟩, List.mem_of_getElem? (i := 591) (by decide +kernel), List.mem_of_getElem? (i := 783) (by decide +kernel), List.mem_of_getElem? (i := 784) (by decide +kernel)⟩
theorem lw_p33 : lw_okq (⟨"ParrotCourtModel", "signAt", "(II)I"⟩, 29) := ⟨⟨by decide +kernel, by decide +kernel⟩, List.mem_of_getElem? (i := 591) (by decide +kernel), List.mem_of_getElem? (i := 791) (by decide +kernel), List.mem_of_getElem? (i := 792) (by decide +kernel)⟩
theorem lw_p34 : lw_okq (⟨"ParrotCourtModel", "findCosts", "(I)V"⟩, 29) := ⟨⟨by decide +kernel, by decide +kernel⟩, List.mem_of_getElem? (i := 591) (by decide +kernel), List.mem_of_getElem? (i := 807) (by decide +kernel), List.mem_of_getElem? (i := 808) (by decide +kernel)⟩
theorem lw_p35 : lw_okq (⟨"ParrotCourtModel", "isLast", "(I)Z"⟩, 29) := ⟨⟨by decide +kernel, by decide +kernel⟩, List.mem_of_getElem? (i := 591) (by decide +kernel), List.mem_of_getElem? (i := 811) (by decide +kernel), List.mem_of_getElem? (i := 812) (by decide +kernel)⟩
theorem lw_p36 : lw_okq (⟨"ParrotCourtModel", "hang", "(I)V"⟩, 29) := ⟨⟨by decide +kernel, by decide +kernel⟩, List.mem_of_getElem? (i := 591) (by decide +kernel), List.mem_of_getElem? (i := 818) (by decide +kernel), List.mem_of_getElem? (i := 819) (by decide +kernel)⟩
theorem lw_p37 : lw_okq (⟨"ParrotCourtModel", "sourceOf", "(I)I"⟩, 29) := ⟨⟨by decide +kernel, by decide +kernel⟩, List.mem_of_getElem? (i := 591) (by decide +kernel), List.mem_of_getElem? (i := 822) (by decide +kernel), List.mem_of_getElem? (i := 823) (by decide +kernel)⟩
theorem lw_p38 : lw_okq (⟨"ParrotCourtModel", "costOf", "(I)I"⟩, 29) := ⟨⟨by decide +kernel, by decide +kernel⟩, List.mem_of_getElem? (i := 591) (by decide +kernel), List.mem_of_getElem? (i := 826) (by decide +kernel), List.mem_of_getElem? (i := 827) (by decide +kernel)⟩
theorem lw_p39 : lw_okq (⟨"ParrotCourtModel", "leastCost", "()I"⟩, 29) := ⟨⟨by decide +kernel, by decide +kernel⟩, List.mem_of_getElem? (i := 591) (by decide +kernel), List.mem_of_getElem? (i := 837) (by decide +kernel), List.mem_of_getElem? (i := 838) (by decide +kernel)⟩
theorem lw_p40 : lw_okq (⟨"ParrotCourtModel", "waysOf", "(II)J"⟩, 29) := ⟨⟨by decide +kernel, by decide +kernel⟩, List.mem_of_getElem? (i := 591) (by decide +kernel), List.mem_of_getElem? (i := 846) (by decide +kernel), List.mem_of_getElem? (i := 847) (by decide +kernel)⟩
theorem lw_p41 : lw_okq (⟨"ParrotCourtModel", "canBeBy", "(I)I"⟩, 29) := ⟨⟨by decide +kernel, by decide +kernel⟩, List.mem_of_getElem? (i := 591) (by decide +kernel), List.mem_of_getElem? (i := 861) (by decide +kernel), List.mem_of_getElem? (i := 862) (by decide +kernel)⟩
theorem lw_p42 : lw_okq (⟨"ParrotCourtModel", "findRows", "(I)V"⟩, 29) := ⟨⟨by decide +kernel, by decide +kernel⟩, List.mem_of_getElem? (i := 591) (by decide +kernel), List.mem_of_getElem? (i := 873) (by decide +kernel), List.mem_of_getElem? (i := 874) (by decide +kernel)⟩
theorem lw_p43 : lw_okq (⟨"ParrotCourtModel", "keepRow", "(I)V"⟩, 29) := ⟨⟨by decide +kernel, by decide +kernel⟩, List.mem_of_getElem? (i := 591) (by decide +kernel), List.mem_of_getElem? (i := 880) (by decide +kernel), List.mem_of_getElem? (i := 881) (by decide +kernel)⟩
theorem lw_p44 : lw_okq (⟨"ParrotCourtModel", "slipsAt", "(II)I"⟩, 29) := ⟨⟨by decide +kernel, by decide +kernel⟩, List.mem_of_getElem? (i := 591) (by decide +kernel), List.mem_of_getElem? (i := 884) (by decide +kernel), List.mem_of_getElem? (i := 885) (by decide +kernel)⟩
theorem lw_p45 : lw_okq (⟨"ParrotCourtModel", "doubtful", "(I)I"⟩, 29) := ⟨⟨by decide +kernel, by decide +kernel⟩, List.mem_of_getElem? (i := 591) (by decide +kernel), List.mem_of_getElem? (i := 891) (by decide +kernel), List.mem_of_getElem? (i := 892) (by decide +kernel)⟩
theorem lw_p46 : lw_okq (⟨"ParrotCourtModel", "passDay", "(Z)V"⟩, 29) := ⟨⟨by decide +kernel, by decide +kernel⟩, List.mem_of_getElem? (i := 591) (by decide +kernel), List.mem_of_getElem? (i := 919) (by decide +kernel), List.mem_of_getElem? (i := 920) (by decide +kernel)⟩
theorem lw_p47 : lw_okq (⟨"ParrotCourtModel", "slipBy", "(IZ)I"⟩, 29) := ⟨⟨by decide +kernel, by decide +kernel⟩, List.mem_of_getElem? (i := 591) (by decide +kernel), List.mem_of_getElem? (i := 923) (by decide +kernel), List.mem_of_getElem? (i := 924) (by decide +kernel)⟩
def lw_privs_3 : List (MethodName × Nat) := [(⟨"ParrotCourtModel", "hears", "(IZ)Z"⟩, 29), (⟨"ParrotCourtModel", "signAt", "(II)I"⟩, 29), (⟨"ParrotCourtModel", "findCosts", "(I)V"⟩, 29), (⟨"ParrotCourtModel", "isLast", "(I)Z"⟩, 29), (⟨"ParrotCourtModel", "hang", "(I)V"⟩, 29), (⟨"ParrotCourtModel", "sourceOf", "(I)I"⟩, 29), (⟨"ParrotCourtModel", "costOf", "(I)I"⟩, 29), (⟨"ParrotCourtModel", "leastCost", "()I"⟩, 29), (⟨"ParrotCourtModel", "waysOf", "(II)J"⟩, 29), (⟨"ParrotCourtModel", "canBeBy", "(I)I"⟩, 29), (⟨"ParrotCourtModel", "findRows", "(I)V"⟩, 29), (⟨"ParrotCourtModel", "keepRow", "(I)V"⟩, 29), (⟨"ParrotCourtModel", "slipsAt", "(II)I"⟩, 29), (⟨"ParrotCourtModel", "doubtful", "(I)I"⟩, 29), (⟨"ParrotCourtModel", "passDay", "(Z)V"⟩, 29), (⟨"ParrotCourtModel", "slipBy", "(IZ)I"⟩, 29)]
theorem lw_r3 : ∀ q ∈ lw_privs_3, lw_okq q := List.forall_mem_cons.mpr ⟨lw_p32, List.forall_mem_cons.mpr ⟨lw_p33, List.forall_mem_cons.mpr ⟨lw_p34, List.forall_mem_cons.mpr ⟨lw_p35, List.forall_mem_cons.mpr ⟨lw_p36, List.forall_mem_cons.mpr ⟨lw_p37, List.forall_mem_cons.mpr ⟨lw_p38, List.forall_mem_cons.mpr ⟨lw_p39, List.forall_mem_cons.mpr ⟨lw_p40, List.forall_mem_cons.mpr ⟨lw_p41, List.forall_mem_cons.mpr ⟨lw_p42, List.forall_mem_cons.mpr ⟨lw_p43, List.forall_mem_cons.mpr ⟨lw_p44, List.forall_mem_cons.mpr ⟨lw_p45, List.forall_mem_cons.mpr ⟨lw_p46, List.forall_mem_cons.mpr ⟨lw_p47, fun _ h => absurd h List.not_mem_nil⟩⟩⟩⟩⟩⟩⟩⟩⟩⟩⟩⟩⟩⟩⟩⟩
theorem lw_p48 : lw_okq (⟨"ParrotCourtModel", "draw", "()V"⟩, 29) := ⟨⟨by decide +kernel, by decide +kernel⟩, List.mem_of_getElem? (i := 591) (by decide +kernel), List.mem_of_getElem? (i := 927) (by decide +kernel), List.mem_of_getElem? (i := 928) (by decide +kernel)⟩
theorem lw_p49 : lw_okq (⟨"ParrotCourtModel", "passAll", "()V"⟩, 29) := ⟨⟨by decide +kernel, by decide +kernel⟩, List.mem_of_getElem? (i := 591) (by decide +kernel), List.mem_of_getElem? (i := 942) (by decide +kernel), List.mem_of_getElem? (i := 943) (by decide +kernel)⟩
theorem lw_p50 : lw_okq (⟨"ParrotCourtModel", "pass", "(I)I"⟩, 29) := ⟨⟨by decide +kernel, by decide +kernel⟩, List.mem_of_getElem? (i := 591) (by decide +kernel), List.mem_of_getElem? (i := 946) (by decide +kernel), List.mem_of_getElem? (i := 947) (by decide +kernel)⟩
theorem lw_p51 : lw_okq (⟨"ParrotCourtModel", "testified", "()I"⟩, 29) := ⟨⟨by decide +kernel, by decide +kernel⟩, List.mem_of_getElem? (i := 591) (by decide +kernel), List.mem_of_getElem? (i := 961) (by decide +kernel), List.mem_of_getElem? (i := 962) (by decide +kernel)⟩
theorem lw_p52 : lw_okq (⟨"ParrotCourtModel", "haveHeard", "()I"⟩, 29) := ⟨⟨by decide +kernel, by decide +kernel⟩, List.mem_of_getElem? (i := 591) (by decide +kernel), List.mem_of_getElem? (i := 965) (by decide +kernel), List.mem_of_getElem? (i := 966) (by decide +kernel)⟩
def lw_privs_4 : List (MethodName × Nat) := [(⟨"ParrotCourtModel", "draw", "()V"⟩, 29), (⟨"ParrotCourtModel", "passAll", "()V"⟩, 29), (⟨"ParrotCourtModel", "pass", "(I)I"⟩, 29), (⟨"ParrotCourtModel", "testified", "()I"⟩, 29), (⟨"ParrotCourtModel", "haveHeard", "()I"⟩, 29)]
theorem lw_r4 : ∀ q ∈ lw_privs_4, lw_okq q := List.forall_mem_cons.mpr ⟨lw_p48, List.forall_mem_cons.mpr ⟨lw_p49, List.forall_mem_cons.mpr ⟨lw_p50, List.forall_mem_cons.mpr ⟨lw_p51, List.forall_mem_cons.mpr ⟨lw_p52, fun _ h => absurd h List.not_mem_nil⟩⟩⟩⟩⟩
def lw_privs : List (MethodName × Nat) := lw_privs_1 ++ (lw_privs_2 ++ (lw_privs_3 ++ (lw_privs_4)))
def lw_tbl : List Cond := k2_sels lw_privs ++ tables_1
theorem lw_privs_ok : ∀ q ∈ lw_privs, lw_okq q := by
  show ∀ q ∈ lw_privs_1 ++ (lw_privs_2 ++ (lw_privs_3 ++ (lw_privs_4))), lw_okq q
  exact List.forall_mem_append.mpr ⟨lw_r1, List.forall_mem_append.mpr ⟨lw_r2, List.forall_mem_append.mpr ⟨lw_r3, lw_r4⟩⟩⟩
/-! ===== BEGIN words of one list among another's, by their places ===== -/
theorem goodIn_r {big : List Cond} (ws : List Cond) (ps : List Nat) (hp : ws = ps.filterMap (fun i => big[i]?)) (h : ws.all goodWord = true) : GoodIn big ws := by
  intro w hw
  have h1 := List.all_eq_true.mp h w hw
  rw [hp] at hw
  obtain ⟨i, -, hi⟩ := List.mem_filterMap.mp hw
  have hm : w ∈ big := by first | exact List.mem_of_getElem? hi | exact List.getElem?_mem hi
  exact ⟨hm, good_of_word h1⟩
theorem goodIn_app {big a b : List Cond} (ha : GoodIn big a) (hb : GoodIn big b) : GoodIn big (a ++ b) := fun w h => (List.mem_append.mp h).elim (ha w) (hb w)
theorem goodIn_ca {big a b : List Cond} {c : Cond} (ha : GoodIn big (c :: a)) (hb : GoodIn big b) : GoodIn big (c :: (a ++ b)) := fun w h => (List.mem_cons.mp h).elim (fun e => ha w (List.mem_cons.mpr (Or.inl e))) (fun h => (List.mem_append.mp h).elim (fun h => ha w (List.mem_cons.mpr (Or.inr h))) (hb w))
theorem goodIn_sub {big ws : List Cond} (hm : ∀ w ∈ ws, w ∈ big) (h : ws.all goodWord = true) : GoodIn big ws := fun w hw => ⟨hm w hw, good_of_word (List.all_eq_true.mp h w hw)⟩
/-! ===== END ===== -/


/-! ===== BEGIN printed: names, fields, word lists, decode rows ===== -/
def RX0 : String := "ParrotCourt$Court"
def TX0 : u_T := fun k => match k with
  | 0 => ("ParrotCourt$Court", "sorts", "[I", true)
  | 1 => ("ParrotCourt$Court", "testimony", "[I", true)
  | 2 => ("ParrotCourt$Court", "days", "LParrotCourt$Days;", true)
  | 3 => ("ParrotCourt$Court", "bargain", "I", false)
  | _ => ("ParrotCourt$Court", "rare", "I", false)
def tyX0 : Nat → FieldType := fun k => match k with
  | 0 => .array .int
  | 1 => .array .int
  | 2 => .object "ParrotCourt$Days"
  | 3 => .int
  | _ => .int
abbrev wsX00 : List Cond := u_ws RX0 TX0 5
theorem nmX0 : ∀ a, a < 5 → ∀ b, b < 5 → a ≠ b → (TX0 a).2.1 ≠ (TX0 b).2.1 := by decide +kernel
theorem tyX0_ok : ∀ k, k < 5 → parseFieldDescriptor (TX0 k).2.2.1 = some (tyX0 k) := by decide +kernel
abbrev cX0_init : ByteArray := prog_2_method_1_code
def yX0_init : MethodName := ⟨RX0, "<init>", "()V"⟩
abbrev cX0_copy : ByteArray := prog_2_method_2_code
def yX0_copy : MethodName := ⟨RX0, "copy", "(LParrotCourt$Court;)V"⟩
def RX1 : String := "ParrotCourt$Days"
def TX1 : u_T := fun k => match k with
  | 0 => ("ParrotCourt$Days", "speakers", "[I", true)
  | 1 => ("ParrotCourt$Days", "hearers", "[I", true)
  | 2 => ("ParrotCourt$Days", "digits", "[I", true)
  | _ => ("ParrotCourt$Days", "parts", "I", false)
def tyX1 : Nat → FieldType := fun k => match k with
  | 0 => .array .int
  | 1 => .array .int
  | 2 => .array .int
  | _ => .int
abbrev wsX10 : List Cond := u_ws RX1 TX1 4
theorem nmX1 : ∀ a, a < 4 → ∀ b, b < 4 → a ≠ b → (TX1 a).2.1 ≠ (TX1 b).2.1 := by decide +kernel
theorem tyX1_ok : ∀ k, k < 4 → parseFieldDescriptor (TX1 k).2.2.1 = some (tyX1 k) := by decide +kernel
abbrev cX1_init : ByteArray := prog_3_method_1_code
def yX1_init : MethodName := ⟨RX1, "<init>", "()V"⟩
abbrev cX1_copy : ByteArray := prog_3_method_2_code
def yX1_copy : MethodName := ⟨RX1, "copy", "(LParrotCourt$Days;)V"⟩
abbrev cX1_add : ByteArray := prog_3_method_3_code
def yX1_add : MethodName := ⟨RX1, "add", "(II)V"⟩
abbrev cX1_setLastDigit : ByteArray := prog_3_method_4_code
def yX1_setLastDigit : MethodName := ⟨RX1, "setLastDigit", "(I)V"⟩
abbrev cX1_isAnswer : ByteArray := prog_3_method_5_code
def yX1_isAnswer : MethodName := ⟨RX1, "isAnswer", "(I)Z"⟩
def RX2 : String := "ParrotCourt$Histories"
def TX2 : u_T := fun k => match k with
  | 0 => ("ParrotCourt$Histories", "costs", "[[I", true)
  | 1 => ("ParrotCourt$Histories", "counts", "[[J", true)
  | 2 => ("ParrotCourt$Histories", "bound", "[Z", true)
  | 3 => ("ParrotCourt$Histories", "leastCost", "I", false)
  | 4 => ("ParrotCourt$Histories", "leastCount", "J", false)
  | 5 => ("ParrotCourt$Histories", "fewest", "I", false)
  | 6 => ("ParrotCourt$Histories", "likelyMany", "I", false)
  | 7 => ("ParrotCourt$Histories", "likelyFirst", "I", false)
  | _ => ("ParrotCourt$Histories", "waysOfAll", "J", false)
def tyX2 : Nat → FieldType := fun k => match k with
  | 0 => .array (.array .int)
  | 1 => .array (.array .long)
  | 2 => .array .boolean
  | 3 => .int
  | 4 => .long
  | 5 => .int
  | 6 => .int
  | 7 => .int
  | _ => .long
abbrev wsX20 : List Cond := u_ws RX2 TX2 9
theorem nmX2 : ∀ a, a < 9 → ∀ b, b < 9 → a ≠ b → (TX2 a).2.1 ≠ (TX2 b).2.1 := by decide +kernel
theorem tyX2_ok : ∀ k, k < 9 → parseFieldDescriptor (TX2 k).2.2.1 = some (tyX2 k) := by decide +kernel
abbrev cX2_init : ByteArray := prog_4_method_1_code
def yX2_init : MethodName := ⟨RX2, "<init>", "()V"⟩
abbrev cX2_reckon : ByteArray := prog_4_method_2_code
def yX2_reckon : MethodName := ⟨RX2, "reckon", "(LParrotCourt$Court;[ZLParrotCourt$Slips;I)V"⟩
abbrev cX2_costOf : ByteArray := prog_4_method_3_code
def yX2_costOf : MethodName := ⟨RX2, "costOf", "(I)I"⟩
abbrev cX2_waysOf : ByteArray := prog_4_method_4_code
def yX2_waysOf : MethodName := ⟨RX2, "waysOf", "(I)J"⟩
abbrev cX2_countUpTo : ByteArray := prog_4_method_5_code
def yX2_countUpTo : MethodName := ⟨RX2, "countUpTo", "(I)I"⟩
abbrev cX2_free : ByteArray := prog_4_method_6_code
def yX2_free : MethodName := ⟨RX2, "free", "(I)V"⟩
abbrev cX2_forbid : ByteArray := prog_4_method_7_code
def yX2_forbid : MethodName := ⟨RX2, "forbid", "(I)V"⟩
abbrev cX2_bind : ByteArray := prog_4_method_8_code
def yX2_bind : MethodName := ⟨RX2, "bind", "(II)V"⟩
abbrev cX2_goBack : ByteArray := prog_4_method_9_code
def yX2_goBack : MethodName := ⟨RX2, "goBack", "(II[ILParrotCourt$Slips;)V"⟩
abbrev cX2_weigh : ByteArray := prog_4_method_10_code
def yX2_weigh : MethodName := ⟨RX2, "weigh", "(IIILParrotCourt$Slips;)V"⟩
abbrev cX2_someBirdIsBound : ByteArray := prog_4_method_11_code
def yX2_someBirdIsBound : MethodName := ⟨RX2, "someBirdIsBound", "()Z"⟩
abbrev cX2_sumUp : ByteArray := prog_4_method_12_code
def yX2_sumUp : MethodName := ⟨RX2, "sumUp", "()V"⟩
def RX3 : String := "ParrotCourt$Pad"
def TX3 : u_T := fun k => match k with
  | 0 => ("ParrotCourt$Pad", "signs", "[I", true)
  | _ => ("ParrotCourt$Pad", "size", "I", false)
def tyX3 : Nat → FieldType := fun k => match k with
  | 0 => .array .int
  | _ => .int
abbrev wsX30 : List Cond := u_ws RX3 TX3 2
theorem nmX3 : ∀ a, a < 2 → ∀ b, b < 2 → a ≠ b → (TX3 a).2.1 ≠ (TX3 b).2.1 := by decide +kernel
theorem tyX3_ok : ∀ k, k < 2 → parseFieldDescriptor (TX3 k).2.2.1 = some (tyX3 k) := by decide +kernel
abbrev cX3_init : ByteArray := prog_5_method_1_code
def yX3_init : MethodName := ⟨RX3, "<init>", "()V"⟩
abbrev cX3_add : ByteArray := prog_5_method_2_code
def yX3_add : MethodName := ⟨RX3, "add", "(I)Z"⟩
abbrev cX3_sayingFault : ByteArray := prog_5_method_3_code
def yX3_sayingFault : MethodName := ⟨RX3, "sayingFault", "()I"⟩
abbrev cX3_readSaying : ByteArray := prog_5_method_4_code
def yX3_readSaying : MethodName := ⟨RX3, "readSaying", "()I"⟩
abbrev cX3_readDays : ByteArray := prog_5_method_5_code
def yX3_readDays : MethodName := ⟨RX3, "readDays", "(LParrotCourt$Days;)I"⟩
abbrev cX3_speakerOf : ByteArray := prog_5_method_6_code
def yX3_speakerOf : MethodName := ⟨RX3, "speakerOf", "(I)I"⟩
def RX4 : String := "ParrotCourt$Slips"
def TX4 : u_T := fun k => match k with
  | 0 => ("ParrotCourt$Slips", "results", "[I", true)
  | 1 => ("ParrotCourt$Slips", "starts", "[I", true)
  | _ => ("ParrotCourt$Slips", "used", "I", false)
def tyX4 : Nat → FieldType := fun k => match k with
  | 0 => .array .int
  | 1 => .array .int
  | _ => .int
abbrev wsX40 : List Cond := u_ws RX4 TX4 3
theorem nmX4 : ∀ a, a < 3 → ∀ b, b < 3 → a ≠ b → (TX4 a).2.1 ≠ (TX4 b).2.1 := by decide +kernel
theorem tyX4_ok : ∀ k, k < 3 → parseFieldDescriptor (TX4 k).2.2.1 = some (tyX4 k) := by decide +kernel
abbrev cX4_init : ByteArray := prog_6_method_1_code
def yX4_init : MethodName := ⟨RX4, "<init>", "()V"⟩
abbrev cX4_list : ByteArray := prog_6_method_2_code
def yX4_list : MethodName := ⟨RX4, "list", "(III)V"⟩
abbrev cX4_addUnlike : ByteArray := prog_6_method_3_code
def yX4_addUnlike : MethodName := ⟨RX4, "addUnlike", "(III)V"⟩
abbrev cX4_slipped : ByteArray := prog_6_method_4_code
def yX4_slipped : MethodName := ⟨RX4, "slipped", "(IIIII)I"⟩
abbrev cX4_rowOf : ByteArray := prog_6_method_5_code
def yX4_rowOf : MethodName := ⟨RX4, "rowOf", "(II)I"⟩
abbrev cX4_count : ByteArray := prog_6_method_6_code
def yX4_count : MethodName := ⟨RX4, "count", "(II)I"⟩
abbrev cX4_numbered : ByteArray := prog_6_method_7_code
def yX4_numbered : MethodName := ⟨RX4, "numbered", "(III)I"⟩
def RX5 : String := "ParrotCourt$Telling"
def TX5 : u_T := fun k => match k with
  | 0 => ("ParrotCourt$Telling", "reached", "[I", true)
  | 1 => ("ParrotCourt$Telling", "slipSorts", "[I", true)
  | 2 => ("ParrotCourt$Telling", "reachedLater", "[I", true)
  | 3 => ("ParrotCourt$Telling", "parts", "I", false)
  | _ => ("ParrotCourt$Telling", "hearing", "I", false)
def tyX5 : Nat → FieldType := fun k => match k with
  | 0 => .array .int
  | 1 => .array .int
  | 2 => .array .int
  | 3 => .int
  | _ => .int
abbrev wsX50 : List Cond := u_ws RX5 TX5 5
theorem nmX5 : ∀ a, a < 5 → ∀ b, b < 5 → a ≠ b → (TX5 a).2.1 ≠ (TX5 b).2.1 := by decide +kernel
theorem tyX5_ok : ∀ k, k < 5 → parseFieldDescriptor (TX5 k).2.2.1 = some (tyX5 k) := by decide +kernel
abbrev cX5_init : ByteArray := prog_7_method_1_code
def yX5_init : MethodName := ⟨RX5, "<init>", "()V"⟩
abbrev cX5_prepare : ByteArray := prog_7_method_2_code
def yX5_prepare : MethodName := ⟨RX5, "prepare", "(LParrotCourt$Court;[ZI)V"⟩
abbrev cX5_goBack : ByteArray := prog_7_method_3_code
def yX5_goBack : MethodName := ⟨RX5, "goBack", "(LParrotCourt$Court;I)V"⟩
abbrev cX5_tells : ByteArray := prog_7_method_4_code
def yX5_tells : MethodName := ⟨RX5, "tells", "(I)Z"⟩
abbrev cX5_fewestBirds : ByteArray := prog_7_method_5_code
def yX5_fewestBirds : MethodName := ⟨RX5, "fewestBirds", "()I"⟩
abbrev cX5_slipsIn : ByteArray := prog_7_method_6_code
def yX5_slipsIn : MethodName := ⟨RX5, "slipsIn", "(I)Z"⟩
abbrev cX5_halves : ByteArray := prog_7_method_7_code
def yX5_halves : MethodName := ⟨RX5, "halves", "(II)Z"⟩
def RX6 : String := "ParrotCourt$Walk"
def TX6 : u_T := fun k => match k with
  | 0 => ("ParrotCourt$Walk", "keeps", "[I", true)
  | 1 => ("ParrotCourt$Walk", "heard", "[Z", true)
  | 2 => ("ParrotCourt$Walk", "silent", "I", false)
  | _ => ("ParrotCourt$Walk", "seed", "I", false)
def tyX6 : Nat → FieldType := fun k => match k with
  | 0 => .array .int
  | 1 => .array .boolean
  | 2 => .int
  | _ => .int
abbrev wsX60 : List Cond := u_ws RX6 TX6 4
theorem nmX6 : ∀ a, a < 4 → ∀ b, b < 4 → a ≠ b → (TX6 a).2.1 ≠ (TX6 b).2.1 := by decide +kernel
theorem tyX6_ok : ∀ k, k < 4 → parseFieldDescriptor (TX6 k).2.2.1 = some (tyX6 k) := by decide +kernel
abbrev cX6_init : ByteArray := prog_8_method_1_code
def yX6_init : MethodName := ⟨RX6, "<init>", "()V"⟩
abbrev cX6_throughDays : ByteArray := prog_8_method_2_code
def yX6_throughDays : MethodName := ⟨RX6, "throughDays", "(LParrotCourt$Court;LParrotCourt$Slips;)V"⟩
abbrev cX6_beginYears : ByteArray := prog_8_method_3_code
def yX6_beginYears : MethodName := ⟨RX6, "beginYears", "(LParrotCourt$Court;I)V"⟩
abbrev cX6_throughDrawnDay : ByteArray := prog_8_method_4_code
def yX6_throughDrawnDay : MethodName := ⟨RX6, "throughDrawnDay", "(LParrotCourt$Court;LParrotCourt$Slips;Z)V"⟩
abbrev cX6_forgetAll : ByteArray := prog_8_method_5_code
def yX6_forgetAll : MethodName := ⟨RX6, "forgetAll", "()V"⟩
abbrev cX6_listen : ByteArray := prog_8_method_6_code
def yX6_listen : MethodName := ⟨RX6, "listen", "(LParrotCourt$Court;IZ)V"⟩
abbrev cX6_saidIn : ByteArray := prog_8_method_7_code
def yX6_saidIn : MethodName := ⟨RX6, "saidIn", "(LParrotCourt$Court;I)I"⟩
abbrev cX6_keep : ByteArray := prog_8_method_8_code
def yX6_keep : MethodName := ⟨RX6, "keep", "(LParrotCourt$Court;LParrotCourt$Slips;II)V"⟩
abbrev cX6_draw : ByteArray := prog_8_method_9_code
def yX6_draw : MethodName := ⟨RX6, "draw", "(LParrotCourt$Court;LParrotCourt$Slips;I)I"⟩
abbrev cX6_nextSeed : ByteArray := prog_8_method_10_code
def yX6_nextSeed : MethodName := ⟨RX6, "nextSeed", "()V"⟩
def RX7 : String := "ParrotCourt"
def TX7 : u_T := fun k => match k with
  | 0 => ("ParrotCourt", "table", "LParrotCourt$Slips;", true)
  | 1 => ("ParrotCourt", "pad", "LParrotCourt$Pad;", true)
  | 2 => ("ParrotCourt", "draft", "LParrotCourt$Days;", true)
  | 3 => ("ParrotCourt", "court", "LParrotCourt$Court;", true)
  | 4 => ("ParrotCourt", "images", "[LParrotCourt$Court;", true)
  | 5 => ("ParrotCourt", "imageKept", "[Z", true)
  | 6 => ("ParrotCourt", "walk", "LParrotCourt$Walk;", true)
  | 7 => ("ParrotCourt", "histories", "LParrotCourt$Histories;", true)
  | 8 => ("ParrotCourt", "fewerTold", "LParrotCourt$Histories;", true)
  | 9 => ("ParrotCourt", "fewestWithout", "[I", true)
  | 10 => ("ParrotCourt", "telling", "LParrotCourt$Telling;", true)
  | 11 => ("ParrotCourt", "historiesFresh", "Z", false)
  | _ => ("ParrotCourt", "withoutFresh", "Z", false)
def tyX7 : Nat → FieldType := fun k => match k with
  | 0 => .object "ParrotCourt$Slips"
  | 1 => .object "ParrotCourt$Pad"
  | 2 => .object "ParrotCourt$Days"
  | 3 => .object "ParrotCourt$Court"
  | 4 => .array (.object "ParrotCourt$Court")
  | 5 => .array .boolean
  | 6 => .object "ParrotCourt$Walk"
  | 7 => .object "ParrotCourt$Histories"
  | 8 => .object "ParrotCourt$Histories"
  | 9 => .array .int
  | 10 => .object "ParrotCourt$Telling"
  | 11 => .boolean
  | _ => .boolean
abbrev wsX70 : List Cond := u_ws RX7 TX7 13
theorem nmX7 : ∀ a, a < 13 → ∀ b, b < 13 → a ≠ b → (TX7 a).2.1 ≠ (TX7 b).2.1 := by decide +kernel
theorem tyX7_ok : ∀ k, k < 13 → parseFieldDescriptor (TX7 k).2.2.1 = some (tyX7 k) := by decide +kernel
abbrev cX7_init : ByteArray := prog_1_method_1_code
def yX7_init : MethodName := ⟨RX7, "<init>", "()V"⟩
abbrev cX7_sort : ByteArray := prog_1_method_2_code
def yX7_sort : MethodName := ⟨RX7, "sort", "(II)I"⟩
abbrev cX7_say : ByteArray := prog_1_method_3_code
def yX7_say : MethodName := ⟨RX7, "say", "(I)I"⟩
abbrev cX7_wipe : ByteArray := prog_1_method_4_code
def yX7_wipe : MethodName := ⟨RX7, "wipe", "()I"⟩
abbrev cX7_fault : ByteArray := prog_1_method_5_code
def yX7_fault : MethodName := ⟨RX7, "fault", "(I)I"⟩
abbrev cX7_days : ByteArray := prog_1_method_6_code
def yX7_days : MethodName := ⟨RX7, "days", "()I"⟩
abbrev cX7_part : ByteArray := prog_1_method_7_code
def yX7_part : MethodName := ⟨RX7, "part", "(II)I"⟩
abbrev cX7_slips : ByteArray := prog_1_method_8_code
def yX7_slips : MethodName := ⟨RX7, "slips", "(II)I"⟩
abbrev cX7_bargain : ByteArray := prog_1_method_9_code
def yX7_bargain : MethodName := ⟨RX7, "bargain", "()I"⟩
abbrev cX7_says : ByteArray := prog_1_method_10_code
def yX7_says : MethodName := ⟨RX7, "says", "(II)I"⟩
abbrev cX7_testify : ByteArray := prog_1_method_11_code
def yX7_testify : MethodName := ⟨RX7, "testify", "(I)I"⟩
abbrev cX7_unsay : ByteArray := prog_1_method_12_code
def yX7_unsay : MethodName := ⟨RX7, "unsay", "(I)I"⟩
abbrev cX7_cost : ByteArray := prog_1_method_13_code
def yX7_cost : MethodName := ⟨RX7, "cost", "()I"⟩
abbrev cX7_likely : ByteArray := prog_1_method_14_code
def yX7_likely : MethodName := ⟨RX7, "likely", "(I)I"⟩
abbrev cX7_ways : ByteArray := prog_1_method_15_code
def yX7_ways : MethodName := ⟨RX7, "ways", "()J"⟩
abbrev cX7_odds : ByteArray := prog_1_method_16_code
def yX7_odds : MethodName := ⟨RX7, "odds", "(I)J"⟩
abbrev cX7_canBe : ByteArray := prog_1_method_17_code
def yX7_canBe : MethodName := ⟨RX7, "canBe", "(I)I"⟩
abbrev cX7_taught : ByteArray := prog_1_method_18_code
def yX7_taught : MethodName := ⟨RX7, "taught", "(I)I"⟩
abbrev cX7_few : ByteArray := prog_1_method_19_code
def yX7_few : MethodName := ⟨RX7, "few", "(I)I"⟩
abbrev cX7_doubt : ByteArray := prog_1_method_20_code
def yX7_doubt : MethodName := ⟨RX7, "doubt", "(II)I"⟩
abbrev cX7_rare : ByteArray := prog_1_method_21_code
def yX7_rare : MethodName := ⟨RX7, "rare", "(I)I"⟩
abbrev cX7_years : ByteArray := prog_1_method_22_code
def yX7_years : MethodName := ⟨RX7, "years", "(IIII)I"⟩
abbrev cX7_lost : ByteArray := prog_1_method_23_code
def yX7_lost : MethodName := ⟨RX7, "lost", "(III)I"⟩
abbrev cX7_image : ByteArray := prog_1_method_24_code
def yX7_image : MethodName := ⟨RX7, "image", "(I)I"⟩
abbrev cX7_restore : ByteArray := prog_1_method_25_code
def yX7_restore : MethodName := ⟨RX7, "restore", "(I)I"⟩
abbrev cX7_told : ByteArray := prog_1_method_26_code
def yX7_told : MethodName := ⟨RX7, "told", "(I)I"⟩
abbrev cX7_forgetHistories : ByteArray := prog_1_method_27_code
def yX7_forgetHistories : MethodName := ⟨RX7, "forgetHistories", "()V"⟩
abbrev cX7_reckonHistories : ByteArray := prog_1_method_28_code
def yX7_reckonHistories : MethodName := ⟨RX7, "reckonHistories", "()V"⟩
abbrev cX7_reckonWithout : ByteArray := prog_1_method_29_code
def yX7_reckonWithout : MethodName := ⟨RX7, "reckonWithout", "()V"⟩
abbrev cX7_prepareTelling : ByteArray := prog_1_method_30_code
def yX7_prepareTelling : MethodName := ⟨RX7, "prepareTelling", "()V"⟩
abbrev cX7_areYears : ByteArray := prog_1_method_31_code
def yX7_areYears : MethodName := ⟨RX7, "areYears", "(II)Z"⟩
abbrev cX7_isBird : ByteArray := prog_1_method_32_code
def yX7_isBird : MethodName := ⟨RX7, "isBird", "(I)Z"⟩
abbrev cX7_birdsWithSaying : ByteArray := prog_1_method_33_code
def yX7_birdsWithSaying : MethodName := ⟨RX7, "birdsWithSaying", "([I)I"⟩
abbrev cX7_power : ByteArray := prog_1_method_34_code
def yX7_power : MethodName := ⟨RX7, "power", "(I)I"⟩
abbrev cX7_firstOf : ByteArray := prog_1_method_35_code
def yX7_firstOf : MethodName := ⟨RX7, "firstOf", "(I)I"⟩
abbrev cX7_lengthOf : ByteArray := prog_1_method_36_code
def yX7_lengthOf : MethodName := ⟨RX7, "lengthOf", "(I)I"⟩
abbrev cX7_wordOf : ByteArray := prog_1_method_37_code
def yX7_wordOf : MethodName := ⟨RX7, "wordOf", "(II)I"⟩
abbrev cX7_commonDivisor : ByteArray := prog_1_method_38_code
def yX7_commonDivisor : MethodName := ⟨RX7, "commonDivisor", "(JJ)J"⟩
def RX8 : String := "ParrotCourtModel"
def TX8 : u_T := fun k => match k with
  | 0 => ("ParrotCourtModel", "word", "[I", true)
  | 1 => ("ParrotCourtModel", "words", "I", false)
  | 2 => ("ParrotCourtModel", "slip", "[I", true)
  | 3 => ("ParrotCourtModel", "slipMany", "I", false)
  | 4 => ("ParrotCourtModel", "sorts", "[I", true)
  | 5 => ("ParrotCourtModel", "sayer", "[I", true)
  | 6 => ("ParrotCourtModel", "hearer", "[I", true)
  | 7 => ("ParrotCourtModel", "digit", "[I", true)
  | 8 => ("ParrotCourtModel", "parts", "I", false)
  | 9 => ("ParrotCourtModel", "bargain", "I", false)
  | 10 => ("ParrotCourtModel", "told0", "[I", true)
  | 11 => ("ParrotCourtModel", "rare", "I", false)
  | 12 => ("ParrotCourtModel", "pad", "[I", true)
  | 13 => ("ParrotCourtModel", "padMany", "I", false)
  | 14 => ("ParrotCourtModel", "keeps", "[I", true)
  | 15 => ("ParrotCourtModel", "silent", "I", false)
  | 16 => ("ParrotCourtModel", "isHeard", "[Z", true)
  | 17 => ("ParrotCourtModel", "fewest", "[I", true)
  | 18 => ("ParrotCourtModel", "ways0", "[J", true)
  | 19 => ("ParrotCourtModel", "row", "[J", true)
  | 20 => ("ParrotCourtModel", "rowOf", "[I", true)
  | 21 => ("ParrotCourtModel", "rowMany", "I", false)
  | 22 => ("ParrotCourtModel", "key", "[J", true)
  | 23 => ("ParrotCourtModel", "from", "[I", true)
  | 24 => ("ParrotCourtModel", "drawn", "I", false)
  | 25 => ("ParrotCourtModel", "kept", "[I", true)
  | 26 => ("ParrotCourtModel", "isKept", "[Z", true)
  | 27 => ("ParrotCourtModel", "keptAt", "I", false)
  | _ => ("ParrotCourtModel", "isWriting", "Z", false)
def tyX8 : Nat → FieldType := fun k => match k with
  | 0 => .array .int
  | 1 => .int
  | 2 => .array .int
  | 3 => .int
  | 4 => .array .int
  | 5 => .array .int
  | 6 => .array .int
  | 7 => .array .int
  | 8 => .int
  | 9 => .int
  | 10 => .array .int
  | 11 => .int
  | 12 => .array .int
  | 13 => .int
  | 14 => .array .int
  | 15 => .int
  | 16 => .array .boolean
  | 17 => .array .int
  | 18 => .array .long
  | 19 => .array .long
  | 20 => .array .int
  | 21 => .int
  | 22 => .array .long
  | 23 => .array .int
  | 24 => .int
  | 25 => .array .int
  | 26 => .array .boolean
  | 27 => .int
  | _ => .boolean
abbrev wsX80 : List Cond := u_ws RX8 TX8 29
theorem nmX8 : ∀ a, a < 29 → ∀ b, b < 29 → a ≠ b → (TX8 a).2.1 ≠ (TX8 b).2.1 := by decide +kernel
theorem tyX8_ok : ∀ k, k < 29 → parseFieldDescriptor (TX8 k).2.2.1 = some (tyX8 k) := by decide +kernel
abbrev cX8_init : ByteArray := prog_10_method_1_code
def yX8_init : MethodName := ⟨RX8, "<init>", "()V"⟩
abbrev cX8_in : ByteArray := prog_10_method_3_code
def yX8_in : MethodName := ⟨RX8, "in", "(JJJ)Z"⟩
abbrev cX8_isBird : ByteArray := prog_10_method_4_code
def yX8_isBird : MethodName := ⟨RX8, "isBird", "(I)Z"⟩
abbrev cX8_ones : ByteArray := prog_10_method_5_code
def yX8_ones : MethodName := ⟨RX8, "ones", "(I)I"⟩
abbrev cX8_firstOf : ByteArray := prog_10_method_6_code
def yX8_firstOf : MethodName := ⟨RX8, "firstOf", "(I)I"⟩
abbrev cX8_wordsOf : ByteArray := prog_10_method_7_code
def yX8_wordsOf : MethodName := ⟨RX8, "wordsOf", "(I)I"⟩
abbrev cX8_lay : ByteArray := prog_10_method_8_code
def yX8_lay : MethodName := ⟨RX8, "lay", "(I)V"⟩
abbrev cX8_signAt : ByteArray := prog_10_method_9_code
def yX8_signAt : MethodName := ⟨RX8, "signAt", "(II)I"⟩
abbrev cX8_numberWith : ByteArray := prog_10_method_10_code
def yX8_numberWith : MethodName := ⟨RX8, "numberWith", "(III)I"⟩
abbrev cX8_addSlip : ByteArray := prog_10_method_11_code
def yX8_addSlip : MethodName := ⟨RX8, "addSlip", "(II)V"⟩
abbrev cX8_findSlips : ByteArray := prog_10_method_12_code
def yX8_findSlips : MethodName := ⟨RX8, "findSlips", "(II)V"⟩
abbrev cX8_sort : ByteArray := prog_10_method_13_code
def yX8_sort : MethodName := ⟨RX8, "sort", "(II)I"⟩
abbrev cX8_say : ByteArray := prog_10_method_14_code
def yX8_say : MethodName := ⟨RX8, "say", "(I)I"⟩
abbrev cX8_wipe : ByteArray := prog_10_method_15_code
def yX8_wipe : MethodName := ⟨RX8, "wipe", "()I"⟩
abbrev cX8_isLetter : ByteArray := prog_10_method_16_code
def yX8_isLetter : MethodName := ⟨RX8, "isLetter", "(I)Z"⟩
abbrev cX8_faultOfDays : ByteArray := prog_10_method_17_code
def yX8_faultOfDays : MethodName := ⟨RX8, "faultOfDays", "()I"⟩
abbrev cX8_faultOfSaying : ByteArray := prog_10_method_18_code
def yX8_faultOfSaying : MethodName := ⟨RX8, "faultOfSaying", "()I"⟩
abbrev cX8_fault : ByteArray := prog_10_method_19_code
def yX8_fault : MethodName := ⟨RX8, "fault", "(I)I"⟩
abbrev cX8_days : ByteArray := prog_10_method_20_code
def yX8_days : MethodName := ⟨RX8, "days", "()I"⟩
abbrev cX8_padSaying : ByteArray := prog_10_method_21_code
def yX8_padSaying : MethodName := ⟨RX8, "padSaying", "()I"⟩
abbrev cX8_slips : ByteArray := prog_10_method_22_code
def yX8_slips : MethodName := ⟨RX8, "slips", "(II)I"⟩
abbrev cX8_bargain : ByteArray := prog_10_method_23_code
def yX8_bargain : MethodName := ⟨RX8, "bargain", "()I"⟩
abbrev cX8_forget : ByteArray := prog_10_method_24_code
def yX8_forget : MethodName := ⟨RX8, "forget", "()V"⟩
abbrev cX8_hears : ByteArray := prog_10_method_25_code
def yX8_hears : MethodName := ⟨RX8, "hears", "(IZ)Z"⟩
abbrev cX8_go : ByteArray := prog_10_method_26_code
def yX8_go : MethodName := ⟨RX8, "go", "(IIZI)V"⟩
abbrev cX8_goDay : ByteArray := prog_10_method_27_code
def yX8_goDay : MethodName := ⟨RX8, "goDay", "(III)V"⟩
abbrev cX8_part : ByteArray := prog_10_method_28_code
def yX8_part : MethodName := ⟨RX8, "part", "(II)I"⟩
abbrev cX8_says : ByteArray := prog_10_method_29_code
def yX8_says : MethodName := ⟨RX8, "says", "(II)I"⟩
abbrev cX8_testify : ByteArray := prog_10_method_30_code
def yX8_testify : MethodName := ⟨RX8, "testify", "(I)I"⟩
abbrev cX8_unsay : ByteArray := prog_10_method_31_code
def yX8_unsay : MethodName := ⟨RX8, "unsay", "(I)I"⟩
abbrev cX8_at : ByteArray := prog_10_method_32_code
def yX8_at : MethodName := ⟨RX8, "at", "(II)I"⟩
abbrev cX8_sourceOf : ByteArray := prog_10_method_33_code
def yX8_sourceOf : MethodName := ⟨RX8, "sourceOf", "(I)I"⟩
abbrev cX8_isLast : ByteArray := prog_10_method_34_code
def yX8_isLast : MethodName := ⟨RX8, "isLast", "(I)Z"⟩
abbrev cX8_hang : ByteArray := prog_10_method_35_code
def yX8_hang : MethodName := ⟨RX8, "hang", "(I)V"⟩
abbrev cX8_findCosts : ByteArray := prog_10_method_36_code
def yX8_findCosts : MethodName := ⟨RX8, "findCosts", "(I)V"⟩
abbrev cX8_costOf : ByteArray := prog_10_method_37_code
def yX8_costOf : MethodName := ⟨RX8, "costOf", "(I)I"⟩
abbrev cX8_leastCost : ByteArray := prog_10_method_38_code
def yX8_leastCost : MethodName := ⟨RX8, "leastCost", "()I"⟩
abbrev cX8_cost : ByteArray := prog_10_method_39_code
def yX8_cost : MethodName := ⟨RX8, "cost", "()I"⟩
abbrev cX8_likely : ByteArray := prog_10_method_40_code
def yX8_likely : MethodName := ⟨RX8, "likely", "(I)I"⟩
abbrev cX8_waysOf : ByteArray := prog_10_method_41_code
def yX8_waysOf : MethodName := ⟨RX8, "waysOf", "(II)J"⟩
abbrev cX8_ways : ByteArray := prog_10_method_42_code
def yX8_ways : MethodName := ⟨RX8, "ways", "()J"⟩
abbrev cX8_odds : ByteArray := prog_10_method_43_code
def yX8_odds : MethodName := ⟨RX8, "odds", "(I)J"⟩
abbrev cX8_canBeBy : ByteArray := prog_10_method_44_code
def yX8_canBeBy : MethodName := ⟨RX8, "canBeBy", "(I)I"⟩
abbrev cX8_canBe : ByteArray := prog_10_method_45_code
def yX8_canBe : MethodName := ⟨RX8, "canBe", "(I)I"⟩
abbrev cX8_taught : ByteArray := prog_10_method_46_code
def yX8_taught : MethodName := ⟨RX8, "taught", "(I)I"⟩
abbrev cX8_keepRow : ByteArray := prog_10_method_47_code
def yX8_keepRow : MethodName := ⟨RX8, "keepRow", "(I)V"⟩
abbrev cX8_manyOf : ByteArray := prog_10_method_48_code
def yX8_manyOf : MethodName := ⟨RX8, "manyOf", "(I)I"⟩
abbrev cX8_findRows : ByteArray := prog_10_method_49_code
def yX8_findRows : MethodName := ⟨RX8, "findRows", "(I)V"⟩
abbrev cX8_slipsAt : ByteArray := prog_10_method_50_code
def yX8_slipsAt : MethodName := ⟨RX8, "slipsAt", "(II)I"⟩
abbrev cX8_maskOf : ByteArray := prog_10_method_51_code
def yX8_maskOf : MethodName := ⟨RX8, "maskOf", "(I)J"⟩
abbrev cX8_doubtful : ByteArray := prog_10_method_52_code
def yX8_doubtful : MethodName := ⟨RX8, "doubtful", "(I)I"⟩
abbrev cX8_few : ByteArray := prog_10_method_53_code
def yX8_few : MethodName := ⟨RX8, "few", "(I)I"⟩
abbrev cX8_doubt : ByteArray := prog_10_method_54_code
def yX8_doubt : MethodName := ⟨RX8, "doubt", "(II)I"⟩
abbrev cX8_rare : ByteArray := prog_10_method_55_code
def yX8_rare : MethodName := ⟨RX8, "rare", "(I)I"⟩
abbrev cX8_draw : ByteArray := prog_10_method_56_code
def yX8_draw : MethodName := ⟨RX8, "draw", "()V"⟩
abbrev cX8_slipBy : ByteArray := prog_10_method_57_code
def yX8_slipBy : MethodName := ⟨RX8, "slipBy", "(IZ)I"⟩
abbrev cX8_passDay : ByteArray := prog_10_method_58_code
def yX8_passDay : MethodName := ⟨RX8, "passDay", "(Z)V"⟩
abbrev cX8_isSeed : ByteArray := prog_10_method_59_code
def yX8_isSeed : MethodName := ⟨RX8, "isSeed", "(II)Z"⟩
abbrev cX8_years : ByteArray := prog_10_method_60_code
def yX8_years : MethodName := ⟨RX8, "years", "(IIII)I"⟩
abbrev cX8_lost : ByteArray := prog_10_method_61_code
def yX8_lost : MethodName := ⟨RX8, "lost", "(III)I"⟩
abbrev cX8_pass : ByteArray := prog_10_method_62_code
def yX8_pass : MethodName := ⟨RX8, "pass", "(I)I"⟩
abbrev cX8_passAll : ByteArray := prog_10_method_63_code
def yX8_passAll : MethodName := ⟨RX8, "passAll", "()V"⟩
abbrev cX8_image : ByteArray := prog_10_method_64_code
def yX8_image : MethodName := ⟨RX8, "image", "(I)I"⟩
abbrev cX8_restore : ByteArray := prog_10_method_65_code
def yX8_restore : MethodName := ⟨RX8, "restore", "(I)I"⟩
abbrev cX8_testified : ByteArray := prog_10_method_66_code
def yX8_testified : MethodName := ⟨RX8, "testified", "()I"⟩
abbrev cX8_haveHeard : ByteArray := prog_10_method_67_code
def yX8_haveHeard : MethodName := ⟨RX8, "haveHeard", "()I"⟩
abbrev cX8_told : ByteArray := prog_10_method_68_code
def yX8_told : MethodName := ⟨RX8, "told", "(I)I"⟩
def RJ6 : String := "java/lang/Integer"
def TJ6 : u_T := fun k => match k with
  | _ => ("", "", "", false)
def tyJ6 : Nat → FieldType := fun k => match k with
  | _ => .int
abbrev wsJ60 : List Cond := u_ws RJ6 TJ6 0
theorem nmJ6 : ∀ a, a < 0 → ∀ b, b < 0 → a ≠ b → (TJ6 a).2.1 ≠ (TJ6 b).2.1 := by decide +kernel
theorem tyJ6_ok : ∀ k, k < 0 → parseFieldDescriptor (TJ6 k).2.2.1 = some (tyJ6 k) := by decide +kernel
abbrev cJ6_bitCount_0f7a4 : ByteArray := prog_11_method_49_code
def yJ6_bitCount_0f7a4 : MethodName := ⟨RJ6, "bitCount", "(I)I"⟩
def RJ9 : String := "java/lang/Math"
def TJ9 : u_T := fun k => match k with
  | _ => ("", "", "", false)
def tyJ9 : Nat → FieldType := fun k => match k with
  | _ => .int
abbrev wsJ90 : List Cond := u_ws RJ9 TJ9 0
theorem nmJ9 : ∀ a, a < 0 → ∀ b, b < 0 → a ≠ b → (TJ9 a).2.1 ≠ (TJ9 b).2.1 := by decide +kernel
theorem tyJ9_ok : ∀ k, k < 0 → parseFieldDescriptor (TJ9 k).2.2.1 = some (tyJ9 k) := by decide +kernel
abbrev cJ9_min_7cf53 : ByteArray := prog_12_method_69_code
def yJ9_min_7cf53 : MethodName := ⟨RJ9, "min", "(II)I"⟩
def RL : String := "ParrotCourtLaw"
abbrev cL_law : ByteArray := code
def yL_law : MethodName := ⟨RL, "law", "([I)Z"⟩
def wsJ6_bitCount_0f7a4 : List Cond := .code yJ6_bitCount_0f7a4 cJ6_bitCount_0f7a4 1 (some .int) :: ([.constant RJ6 265 (1431655765), .constant RJ6 266 (858993459), .constant RJ6 267 (252645135)])
def wsJ9_min_7cf53 : List Cond := .code yJ9_min_7cf53 cJ9_min_7cf53 2 (some .int) :: ([])
theorem dX0_init_0 : decode cX0_init 0 = .ok (.aload_n 0, 1) := by decide +kernel
theorem dX0_init_1 : decode cX0_init 1 = .ok (.invokespecial 3, 3) := by decide +kernel
theorem dX0_init_4 : decode cX0_init 4 = .ok (.aload_n 0, 1) := by decide +kernel
theorem dX0_init_5 : decode cX0_init 5 = .ok (.bipush 6, 2) := by decide +kernel
theorem dX0_init_7 : decode cX0_init 7 = .ok (.newarray .int, 2) := by decide +kernel
theorem dX0_init_9 : decode cX0_init 9 = .ok (.putfield 9, 3) := by decide +kernel
theorem dX0_init_12 : decode cX0_init 12 = .ok (.aload_n 0, 1) := by decide +kernel
theorem dX0_init_13 : decode cX0_init 13 = .ok (.bipush 6, 2) := by decide +kernel
theorem dX0_init_15 : decode cX0_init 15 = .ok (.newarray .int, 2) := by decide +kernel
theorem dX0_init_17 : decode cX0_init 17 = .ok (.dup, 1) := by decide +kernel
theorem dX0_init_18 : decode cX0_init 18 = .ok (.iconst 0, 1) := by decide +kernel
theorem dX0_init_19 : decode cX0_init 19 = .ok (.iconst (-1), 1) := by decide +kernel
theorem dX0_init_20 : decode cX0_init 20 = .ok (.iastore, 1) := by decide +kernel
theorem dX0_init_21 : decode cX0_init 21 = .ok (.dup, 1) := by decide +kernel
theorem dX0_init_22 : decode cX0_init 22 = .ok (.iconst 1, 1) := by decide +kernel
theorem dX0_init_23 : decode cX0_init 23 = .ok (.iconst (-1), 1) := by decide +kernel
theorem dX0_init_24 : decode cX0_init 24 = .ok (.iastore, 1) := by decide +kernel
theorem dX0_init_25 : decode cX0_init 25 = .ok (.dup, 1) := by decide +kernel
theorem dX0_init_26 : decode cX0_init 26 = .ok (.iconst 2, 1) := by decide +kernel
theorem dX0_init_27 : decode cX0_init 27 = .ok (.iconst (-1), 1) := by decide +kernel
theorem dX0_init_28 : decode cX0_init 28 = .ok (.iastore, 1) := by decide +kernel
theorem dX0_init_29 : decode cX0_init 29 = .ok (.dup, 1) := by decide +kernel
theorem dX0_init_30 : decode cX0_init 30 = .ok (.iconst 3, 1) := by decide +kernel
theorem dX0_init_31 : decode cX0_init 31 = .ok (.iconst (-1), 1) := by decide +kernel
theorem dX0_init_32 : decode cX0_init 32 = .ok (.iastore, 1) := by decide +kernel
theorem dX0_init_33 : decode cX0_init 33 = .ok (.dup, 1) := by decide +kernel
theorem dX0_init_34 : decode cX0_init 34 = .ok (.iconst 4, 1) := by decide +kernel
theorem dX0_init_35 : decode cX0_init 35 = .ok (.iconst (-1), 1) := by decide +kernel
theorem dX0_init_36 : decode cX0_init 36 = .ok (.iastore, 1) := by decide +kernel
theorem dX0_init_37 : decode cX0_init 37 = .ok (.dup, 1) := by decide +kernel
theorem dX0_init_38 : decode cX0_init 38 = .ok (.iconst 5, 1) := by decide +kernel
theorem dX0_init_39 : decode cX0_init 39 = .ok (.iconst (-1), 1) := by decide +kernel
theorem dX0_init_40 : decode cX0_init 40 = .ok (.iastore, 1) := by decide +kernel
theorem dX0_init_41 : decode cX0_init 41 = .ok (.putfield 15, 3) := by decide +kernel
theorem dX0_init_44 : decode cX0_init 44 = .ok (.aload_n 0, 1) := by decide +kernel
theorem dX0_init_45 : decode cX0_init 45 = .ok (.new 18, 3) := by decide +kernel
theorem dX0_init_48 : decode cX0_init 48 = .ok (.dup, 1) := by decide +kernel
theorem dX0_init_49 : decode cX0_init 49 = .ok (.invokespecial 20, 3) := by decide +kernel
theorem dX0_init_52 : decode cX0_init 52 = .ok (.putfield 21, 3) := by decide +kernel
theorem dX0_init_55 : decode cX0_init 55 = .ok (.aload_n 0, 1) := by decide +kernel
theorem dX0_init_56 : decode cX0_init 56 = .ok (.iconst 0, 1) := by decide +kernel
theorem dX0_init_57 : decode cX0_init 57 = .ok (.putfield 25, 3) := by decide +kernel
theorem dX0_init_60 : decode cX0_init 60 = .ok (.aload_n 0, 1) := by decide +kernel
theorem dX0_init_61 : decode cX0_init 61 = .ok (.bipush 40, 2) := by decide +kernel
theorem dX0_init_63 : decode cX0_init 63 = .ok (.putfield 29, 3) := by decide +kernel
theorem dX0_init_66 : decode cX0_init 66 = .ok (.return_, 1) := by decide +kernel
theorem dX0_copy_0 : decode cX0_copy 0 = .ok (.iconst 0, 1) := by decide +kernel
theorem dX0_copy_1 : decode cX0_copy 1 = .ok (.istore_n 2, 1) := by decide +kernel
theorem dX0_copy_2 : decode cX0_copy 2 = .ok (.iload_n 2, 1) := by decide +kernel
theorem dX0_copy_3 : decode cX0_copy 3 = .ok (.bipush 6, 2) := by decide +kernel
theorem dX0_copy_5 : decode cX0_copy 5 = .ok (.if_icmp .ge 33, 3) := by decide +kernel
theorem dX0_copy_8 : decode cX0_copy 8 = .ok (.aload_n 0, 1) := by decide +kernel
theorem dX0_copy_9 : decode cX0_copy 9 = .ok (.getfield 9, 3) := by decide +kernel
theorem dX0_copy_12 : decode cX0_copy 12 = .ok (.iload_n 2, 1) := by decide +kernel
theorem dX0_copy_13 : decode cX0_copy 13 = .ok (.aload_n 1, 1) := by decide +kernel
theorem dX0_copy_14 : decode cX0_copy 14 = .ok (.getfield 9, 3) := by decide +kernel
theorem dX0_copy_17 : decode cX0_copy 17 = .ok (.iload_n 2, 1) := by decide +kernel
theorem dX0_copy_18 : decode cX0_copy 18 = .ok (.iaload, 1) := by decide +kernel
theorem dX0_copy_19 : decode cX0_copy 19 = .ok (.iastore, 1) := by decide +kernel
theorem dX0_copy_20 : decode cX0_copy 20 = .ok (.aload_n 0, 1) := by decide +kernel
theorem dX0_copy_21 : decode cX0_copy 21 = .ok (.getfield 15, 3) := by decide +kernel
theorem dX0_copy_24 : decode cX0_copy 24 = .ok (.iload_n 2, 1) := by decide +kernel
theorem dX0_copy_25 : decode cX0_copy 25 = .ok (.aload_n 1, 1) := by decide +kernel
theorem dX0_copy_26 : decode cX0_copy 26 = .ok (.getfield 15, 3) := by decide +kernel
theorem dX0_copy_29 : decode cX0_copy 29 = .ok (.iload_n 2, 1) := by decide +kernel
theorem dX0_copy_30 : decode cX0_copy 30 = .ok (.iaload, 1) := by decide +kernel
theorem dX0_copy_31 : decode cX0_copy 31 = .ok (.iastore, 1) := by decide +kernel
theorem dX0_copy_32 : decode cX0_copy 32 = .ok (.iinc 2 1, 3) := by decide +kernel
theorem dX0_copy_35 : decode cX0_copy 35 = .ok (.goto (-33), 3) := by decide +kernel
theorem dX0_copy_38 : decode cX0_copy 38 = .ok (.aload_n 0, 1) := by decide +kernel
theorem dX0_copy_39 : decode cX0_copy 39 = .ok (.getfield 21, 3) := by decide +kernel
theorem dX0_copy_42 : decode cX0_copy 42 = .ok (.aload_n 1, 1) := by decide +kernel
theorem dX0_copy_43 : decode cX0_copy 43 = .ok (.getfield 21, 3) := by decide +kernel
theorem dX0_copy_46 : decode cX0_copy 46 = .ok (.invokevirtual 32, 3) := by decide +kernel
theorem dX0_copy_49 : decode cX0_copy 49 = .ok (.aload_n 0, 1) := by decide +kernel
theorem dX0_copy_50 : decode cX0_copy 50 = .ok (.aload_n 1, 1) := by decide +kernel
theorem dX0_copy_51 : decode cX0_copy 51 = .ok (.getfield 25, 3) := by decide +kernel
theorem dX0_copy_54 : decode cX0_copy 54 = .ok (.putfield 25, 3) := by decide +kernel
theorem dX0_copy_57 : decode cX0_copy 57 = .ok (.aload_n 0, 1) := by decide +kernel
theorem dX0_copy_58 : decode cX0_copy 58 = .ok (.aload_n 1, 1) := by decide +kernel
theorem dX0_copy_59 : decode cX0_copy 59 = .ok (.getfield 29, 3) := by decide +kernel
theorem dX0_copy_62 : decode cX0_copy 62 = .ok (.putfield 29, 3) := by decide +kernel
theorem dX0_copy_65 : decode cX0_copy 65 = .ok (.return_, 1) := by decide +kernel
theorem dX1_init_0 : decode cX1_init 0 = .ok (.aload_n 0, 1) := by decide +kernel
theorem dX1_init_1 : decode cX1_init 1 = .ok (.invokespecial 3, 3) := by decide +kernel
theorem dX1_init_4 : decode cX1_init 4 = .ok (.aload_n 0, 1) := by decide +kernel
theorem dX1_init_5 : decode cX1_init 5 = .ok (.bipush 16, 2) := by decide +kernel
theorem dX1_init_7 : decode cX1_init 7 = .ok (.newarray .int, 2) := by decide +kernel
theorem dX1_init_9 : decode cX1_init 9 = .ok (.putfield 9, 3) := by decide +kernel
theorem dX1_init_12 : decode cX1_init 12 = .ok (.aload_n 0, 1) := by decide +kernel
theorem dX1_init_13 : decode cX1_init 13 = .ok (.bipush 16, 2) := by decide +kernel
theorem dX1_init_15 : decode cX1_init 15 = .ok (.newarray .int, 2) := by decide +kernel
theorem dX1_init_17 : decode cX1_init 17 = .ok (.putfield 15, 3) := by decide +kernel
theorem dX1_init_20 : decode cX1_init 20 = .ok (.aload_n 0, 1) := by decide +kernel
theorem dX1_init_21 : decode cX1_init 21 = .ok (.bipush 16, 2) := by decide +kernel
theorem dX1_init_23 : decode cX1_init 23 = .ok (.newarray .int, 2) := by decide +kernel
theorem dX1_init_25 : decode cX1_init 25 = .ok (.putfield 18, 3) := by decide +kernel
theorem dX1_init_28 : decode cX1_init 28 = .ok (.aload_n 0, 1) := by decide +kernel
theorem dX1_init_29 : decode cX1_init 29 = .ok (.iconst 0, 1) := by decide +kernel
theorem dX1_init_30 : decode cX1_init 30 = .ok (.putfield 21, 3) := by decide +kernel
theorem dX1_init_33 : decode cX1_init 33 = .ok (.return_, 1) := by decide +kernel
theorem dX1_copy_0 : decode cX1_copy 0 = .ok (.iconst 0, 1) := by decide +kernel
theorem dX1_copy_1 : decode cX1_copy 1 = .ok (.istore_n 2, 1) := by decide +kernel
theorem dX1_copy_2 : decode cX1_copy 2 = .ok (.iload_n 2, 1) := by decide +kernel
theorem dX1_copy_3 : decode cX1_copy 3 = .ok (.bipush 16, 2) := by decide +kernel
theorem dX1_copy_5 : decode cX1_copy 5 = .ok (.if_icmp .ge 45, 3) := by decide +kernel
theorem dX1_copy_8 : decode cX1_copy 8 = .ok (.aload_n 0, 1) := by decide +kernel
theorem dX1_copy_9 : decode cX1_copy 9 = .ok (.getfield 9, 3) := by decide +kernel
theorem dX1_copy_12 : decode cX1_copy 12 = .ok (.iload_n 2, 1) := by decide +kernel
theorem dX1_copy_13 : decode cX1_copy 13 = .ok (.aload_n 1, 1) := by decide +kernel
theorem dX1_copy_14 : decode cX1_copy 14 = .ok (.getfield 9, 3) := by decide +kernel
theorem dX1_copy_17 : decode cX1_copy 17 = .ok (.iload_n 2, 1) := by decide +kernel
theorem dX1_copy_18 : decode cX1_copy 18 = .ok (.iaload, 1) := by decide +kernel
theorem dX1_copy_19 : decode cX1_copy 19 = .ok (.iastore, 1) := by decide +kernel
theorem dX1_copy_20 : decode cX1_copy 20 = .ok (.aload_n 0, 1) := by decide +kernel
theorem dX1_copy_21 : decode cX1_copy 21 = .ok (.getfield 15, 3) := by decide +kernel
theorem dX1_copy_24 : decode cX1_copy 24 = .ok (.iload_n 2, 1) := by decide +kernel
theorem dX1_copy_25 : decode cX1_copy 25 = .ok (.aload_n 1, 1) := by decide +kernel
theorem dX1_copy_26 : decode cX1_copy 26 = .ok (.getfield 15, 3) := by decide +kernel
theorem dX1_copy_29 : decode cX1_copy 29 = .ok (.iload_n 2, 1) := by decide +kernel
theorem dX1_copy_30 : decode cX1_copy 30 = .ok (.iaload, 1) := by decide +kernel
theorem dX1_copy_31 : decode cX1_copy 31 = .ok (.iastore, 1) := by decide +kernel
theorem dX1_copy_32 : decode cX1_copy 32 = .ok (.aload_n 0, 1) := by decide +kernel
theorem dX1_copy_33 : decode cX1_copy 33 = .ok (.getfield 18, 3) := by decide +kernel
theorem dX1_copy_36 : decode cX1_copy 36 = .ok (.iload_n 2, 1) := by decide +kernel
theorem dX1_copy_37 : decode cX1_copy 37 = .ok (.aload_n 1, 1) := by decide +kernel
theorem dX1_copy_38 : decode cX1_copy 38 = .ok (.getfield 18, 3) := by decide +kernel
theorem dX1_copy_41 : decode cX1_copy 41 = .ok (.iload_n 2, 1) := by decide +kernel
theorem dX1_copy_42 : decode cX1_copy 42 = .ok (.iaload, 1) := by decide +kernel
theorem dX1_copy_43 : decode cX1_copy 43 = .ok (.iastore, 1) := by decide +kernel
theorem dX1_copy_44 : decode cX1_copy 44 = .ok (.iinc 2 1, 3) := by decide +kernel
theorem dX1_copy_47 : decode cX1_copy 47 = .ok (.goto (-45), 3) := by decide +kernel
theorem dX1_copy_50 : decode cX1_copy 50 = .ok (.aload_n 0, 1) := by decide +kernel
theorem dX1_copy_51 : decode cX1_copy 51 = .ok (.aload_n 1, 1) := by decide +kernel
theorem dX1_copy_52 : decode cX1_copy 52 = .ok (.getfield 21, 3) := by decide +kernel
theorem dX1_copy_55 : decode cX1_copy 55 = .ok (.putfield 21, 3) := by decide +kernel
theorem dX1_copy_58 : decode cX1_copy 58 = .ok (.return_, 1) := by decide +kernel
theorem dX1_add_0 : decode cX1_add 0 = .ok (.aload_n 0, 1) := by decide +kernel
theorem dX1_add_1 : decode cX1_add 1 = .ok (.getfield 21, 3) := by decide +kernel
theorem dX1_add_4 : decode cX1_add 4 = .ok (.bipush 16, 2) := by decide +kernel
theorem dX1_add_6 : decode cX1_add 6 = .ok (.if_icmp .lt 4, 3) := by decide +kernel
theorem dX1_add_9 : decode cX1_add 9 = .ok (.return_, 1) := by decide +kernel
theorem dX1_add_10 : decode cX1_add 10 = .ok (.aload_n 0, 1) := by decide +kernel
theorem dX1_add_11 : decode cX1_add 11 = .ok (.getfield 9, 3) := by decide +kernel
theorem dX1_add_14 : decode cX1_add 14 = .ok (.aload_n 0, 1) := by decide +kernel
theorem dX1_add_15 : decode cX1_add 15 = .ok (.getfield 21, 3) := by decide +kernel
theorem dX1_add_18 : decode cX1_add 18 = .ok (.iload_n 1, 1) := by decide +kernel
theorem dX1_add_19 : decode cX1_add 19 = .ok (.iastore, 1) := by decide +kernel
theorem dX1_add_20 : decode cX1_add 20 = .ok (.aload_n 0, 1) := by decide +kernel
theorem dX1_add_21 : decode cX1_add 21 = .ok (.getfield 15, 3) := by decide +kernel
theorem dX1_add_24 : decode cX1_add 24 = .ok (.aload_n 0, 1) := by decide +kernel
theorem dX1_add_25 : decode cX1_add 25 = .ok (.getfield 21, 3) := by decide +kernel
theorem dX1_add_28 : decode cX1_add 28 = .ok (.iload_n 2, 1) := by decide +kernel
theorem dX1_add_29 : decode cX1_add 29 = .ok (.iastore, 1) := by decide +kernel
theorem dX1_add_30 : decode cX1_add 30 = .ok (.aload_n 0, 1) := by decide +kernel
theorem dX1_add_31 : decode cX1_add 31 = .ok (.getfield 18, 3) := by decide +kernel
theorem dX1_add_34 : decode cX1_add 34 = .ok (.aload_n 0, 1) := by decide +kernel
theorem dX1_add_35 : decode cX1_add 35 = .ok (.getfield 21, 3) := by decide +kernel
theorem dX1_add_38 : decode cX1_add 38 = .ok (.iconst 0, 1) := by decide +kernel
theorem dX1_add_39 : decode cX1_add 39 = .ok (.iastore, 1) := by decide +kernel
theorem dX1_add_40 : decode cX1_add 40 = .ok (.aload_n 0, 1) := by decide +kernel
theorem dX1_add_41 : decode cX1_add 41 = .ok (.dup, 1) := by decide +kernel
theorem dX1_add_42 : decode cX1_add 42 = .ok (.getfield 21, 3) := by decide +kernel
theorem dX1_add_45 : decode cX1_add 45 = .ok (.iconst 1, 1) := by decide +kernel
theorem dX1_add_46 : decode cX1_add 46 = .ok (.iadd, 1) := by decide +kernel
theorem dX1_add_47 : decode cX1_add 47 = .ok (.putfield 21, 3) := by decide +kernel
theorem dX1_add_50 : decode cX1_add 50 = .ok (.return_, 1) := by decide +kernel
theorem dX1_setLastDigit_0 : decode cX1_setLastDigit 0 = .ok (.aload_n 0, 1) := by decide +kernel
theorem dX1_setLastDigit_1 : decode cX1_setLastDigit 1 = .ok (.getfield 21, 3) := by decide +kernel
theorem dX1_setLastDigit_4 : decode cX1_setLastDigit 4 = .ok (.iconst 1, 1) := by decide +kernel
theorem dX1_setLastDigit_5 : decode cX1_setLastDigit 5 = .ok (.if_icmp .lt 24, 3) := by decide +kernel
theorem dX1_setLastDigit_8 : decode cX1_setLastDigit 8 = .ok (.aload_n 0, 1) := by decide +kernel
theorem dX1_setLastDigit_9 : decode cX1_setLastDigit 9 = .ok (.getfield 21, 3) := by decide +kernel
theorem dX1_setLastDigit_12 : decode cX1_setLastDigit 12 = .ok (.bipush 16, 2) := by decide +kernel
theorem dX1_setLastDigit_14 : decode cX1_setLastDigit 14 = .ok (.if_icmp .gt 15, 3) := by decide +kernel
theorem dX1_setLastDigit_17 : decode cX1_setLastDigit 17 = .ok (.aload_n 0, 1) := by decide +kernel
theorem dX1_setLastDigit_18 : decode cX1_setLastDigit 18 = .ok (.getfield 18, 3) := by decide +kernel
theorem dX1_setLastDigit_21 : decode cX1_setLastDigit 21 = .ok (.aload_n 0, 1) := by decide +kernel
theorem dX1_setLastDigit_22 : decode cX1_setLastDigit 22 = .ok (.getfield 21, 3) := by decide +kernel
theorem dX1_setLastDigit_25 : decode cX1_setLastDigit 25 = .ok (.iconst 1, 1) := by decide +kernel
theorem dX1_setLastDigit_26 : decode cX1_setLastDigit 26 = .ok (.isub, 1) := by decide +kernel
theorem dX1_setLastDigit_27 : decode cX1_setLastDigit 27 = .ok (.iload_n 1, 1) := by decide +kernel
theorem dX1_setLastDigit_28 : decode cX1_setLastDigit 28 = .ok (.iastore, 1) := by decide +kernel
theorem dX1_setLastDigit_29 : decode cX1_setLastDigit 29 = .ok (.return_, 1) := by decide +kernel
theorem dX1_isAnswer_0 : decode cX1_isAnswer 0 = .ok (.iload_n 1, 1) := by decide +kernel
theorem dX1_isAnswer_1 : decode cX1_isAnswer 1 = .ok (.iconst 1, 1) := by decide +kernel
theorem dX1_isAnswer_2 : decode cX1_isAnswer 2 = .ok (.if_icmp .lt 9, 3) := by decide +kernel
theorem dX1_isAnswer_5 : decode cX1_isAnswer 5 = .ok (.iload_n 1, 1) := by decide +kernel
theorem dX1_isAnswer_6 : decode cX1_isAnswer 6 = .ok (.bipush 16, 2) := by decide +kernel
theorem dX1_isAnswer_8 : decode cX1_isAnswer 8 = .ok (.if_icmp .lt 5, 3) := by decide +kernel
theorem dX1_isAnswer_11 : decode cX1_isAnswer 11 = .ok (.iconst 0, 1) := by decide +kernel
theorem dX1_isAnswer_12 : decode cX1_isAnswer 12 = .ok (.ireturn, 1) := by decide +kernel
theorem dX1_isAnswer_13 : decode cX1_isAnswer 13 = .ok (.aload_n 0, 1) := by decide +kernel
theorem dX1_isAnswer_14 : decode cX1_isAnswer 14 = .ok (.getfield 9, 3) := by decide +kernel
theorem dX1_isAnswer_17 : decode cX1_isAnswer 17 = .ok (.iload_n 1, 1) := by decide +kernel
theorem dX1_isAnswer_18 : decode cX1_isAnswer 18 = .ok (.iconst 1, 1) := by decide +kernel
theorem dX1_isAnswer_19 : decode cX1_isAnswer 19 = .ok (.isub, 1) := by decide +kernel
theorem dX1_isAnswer_20 : decode cX1_isAnswer 20 = .ok (.iaload, 1) := by decide +kernel
theorem dX1_isAnswer_21 : decode cX1_isAnswer 21 = .ok (.aload_n 0, 1) := by decide +kernel
theorem dX1_isAnswer_22 : decode cX1_isAnswer 22 = .ok (.getfield 15, 3) := by decide +kernel
theorem dX1_isAnswer_25 : decode cX1_isAnswer 25 = .ok (.iload_n 1, 1) := by decide +kernel
theorem dX1_isAnswer_26 : decode cX1_isAnswer 26 = .ok (.iaload, 1) := by decide +kernel
theorem dX1_isAnswer_27 : decode cX1_isAnswer 27 = .ok (.if_icmp .ne 24, 3) := by decide +kernel
theorem dX1_isAnswer_30 : decode cX1_isAnswer 30 = .ok (.aload_n 0, 1) := by decide +kernel
theorem dX1_isAnswer_31 : decode cX1_isAnswer 31 = .ok (.getfield 15, 3) := by decide +kernel
theorem dX1_isAnswer_34 : decode cX1_isAnswer 34 = .ok (.iload_n 1, 1) := by decide +kernel
theorem dX1_isAnswer_35 : decode cX1_isAnswer 35 = .ok (.iconst 1, 1) := by decide +kernel
theorem dX1_isAnswer_36 : decode cX1_isAnswer 36 = .ok (.isub, 1) := by decide +kernel
theorem dX1_isAnswer_37 : decode cX1_isAnswer 37 = .ok (.iaload, 1) := by decide +kernel
theorem dX1_isAnswer_38 : decode cX1_isAnswer 38 = .ok (.aload_n 0, 1) := by decide +kernel
theorem dX1_isAnswer_39 : decode cX1_isAnswer 39 = .ok (.getfield 9, 3) := by decide +kernel
theorem dX1_isAnswer_42 : decode cX1_isAnswer 42 = .ok (.iload_n 1, 1) := by decide +kernel
theorem dX1_isAnswer_43 : decode cX1_isAnswer 43 = .ok (.iaload, 1) := by decide +kernel
theorem dX1_isAnswer_44 : decode cX1_isAnswer 44 = .ok (.if_icmp .ne 7, 3) := by decide +kernel
theorem dX1_isAnswer_47 : decode cX1_isAnswer 47 = .ok (.iconst 1, 1) := by decide +kernel
theorem dX1_isAnswer_48 : decode cX1_isAnswer 48 = .ok (.goto 4, 3) := by decide +kernel
theorem dX1_isAnswer_51 : decode cX1_isAnswer 51 = .ok (.iconst 0, 1) := by decide +kernel
theorem dX1_isAnswer_52 : decode cX1_isAnswer 52 = .ok (.ireturn, 1) := by decide +kernel
theorem dX2_init_0 : decode cX2_init 0 = .ok (.aload_n 0, 1) := by decide +kernel
theorem dX2_init_1 : decode cX2_init 1 = .ok (.invokespecial 3, 3) := by decide +kernel
theorem dX2_init_4 : decode cX2_init 4 = .ok (.aload_n 0, 1) := by decide +kernel
theorem dX2_init_5 : decode cX2_init 5 = .ok (.bipush 7, 2) := by decide +kernel
theorem dX2_init_7 : decode cX2_init 7 = .ok (.sipush 364, 3) := by decide +kernel
theorem dX2_init_10 : decode cX2_init 10 = .ok (.multianewarray 9 2, 4) := by decide +kernel
theorem dX2_init_14 : decode cX2_init 14 = .ok (.putfield 11, 3) := by decide +kernel
theorem dX2_init_17 : decode cX2_init 17 = .ok (.aload_n 0, 1) := by decide +kernel
theorem dX2_init_18 : decode cX2_init 18 = .ok (.bipush 7, 2) := by decide +kernel
theorem dX2_init_20 : decode cX2_init 20 = .ok (.sipush 364, 3) := by decide +kernel
theorem dX2_init_23 : decode cX2_init 23 = .ok (.multianewarray 16 2, 4) := by decide +kernel
theorem dX2_init_27 : decode cX2_init 27 = .ok (.putfield 18, 3) := by decide +kernel
theorem dX2_init_30 : decode cX2_init 30 = .ok (.aload_n 0, 1) := by decide +kernel
theorem dX2_init_31 : decode cX2_init 31 = .ok (.bipush 7, 2) := by decide +kernel
theorem dX2_init_33 : decode cX2_init 33 = .ok (.newarray .boolean, 2) := by decide +kernel
theorem dX2_init_35 : decode cX2_init 35 = .ok (.putfield 21, 3) := by decide +kernel
theorem dX2_init_38 : decode cX2_init 38 = .ok (.aload_n 0, 1) := by decide +kernel
theorem dX2_init_39 : decode cX2_init 39 = .ok (.iconst 0, 1) := by decide +kernel
theorem dX2_init_40 : decode cX2_init 40 = .ok (.putfield 25, 3) := by decide +kernel
theorem dX2_init_43 : decode cX2_init 43 = .ok (.aload_n 0, 1) := by decide +kernel
theorem dX2_init_44 : decode cX2_init 44 = .ok (.lconst 0, 1) := by decide +kernel
theorem dX2_init_45 : decode cX2_init 45 = .ok (.putfield 29, 3) := by decide +kernel
theorem dX2_init_48 : decode cX2_init 48 = .ok (.aload_n 0, 1) := by decide +kernel
theorem dX2_init_49 : decode cX2_init 49 = .ok (.sipush 1000, 3) := by decide +kernel
theorem dX2_init_52 : decode cX2_init 52 = .ok (.putfield 33, 3) := by decide +kernel
theorem dX2_init_55 : decode cX2_init 55 = .ok (.aload_n 0, 1) := by decide +kernel
theorem dX2_init_56 : decode cX2_init 56 = .ok (.iconst 0, 1) := by decide +kernel
theorem dX2_init_57 : decode cX2_init 57 = .ok (.putfield 36, 3) := by decide +kernel
theorem dX2_init_60 : decode cX2_init 60 = .ok (.aload_n 0, 1) := by decide +kernel
theorem dX2_init_61 : decode cX2_init 61 = .ok (.iconst 0, 1) := by decide +kernel
theorem dX2_init_62 : decode cX2_init 62 = .ok (.putfield 39, 3) := by decide +kernel
theorem dX2_init_65 : decode cX2_init 65 = .ok (.aload_n 0, 1) := by decide +kernel
theorem dX2_init_66 : decode cX2_init 66 = .ok (.lconst 0, 1) := by decide +kernel
theorem dX2_init_67 : decode cX2_init 67 = .ok (.putfield 42, 3) := by decide +kernel
theorem dX2_init_70 : decode cX2_init 70 = .ok (.return_, 1) := by decide +kernel
theorem dX2_reckon_0 : decode cX2_reckon 0 = .ok (.iconst 0, 1) := by decide +kernel
theorem dX2_reckon_1 : decode cX2_reckon 1 = .ok (.istore 5, 2) := by decide +kernel
theorem dX2_reckon_3 : decode cX2_reckon 3 = .ok (.iload 5, 2) := by decide +kernel
theorem dX2_reckon_5 : decode cX2_reckon 5 = .ok (.bipush 6, 2) := by decide +kernel
theorem dX2_reckon_7 : decode cX2_reckon 7 = .ok (.if_icmp .gt 15, 3) := by decide +kernel
theorem dX2_reckon_10 : decode cX2_reckon 10 = .ok (.aload_n 0, 1) := by decide +kernel
theorem dX2_reckon_11 : decode cX2_reckon 11 = .ok (.iload 5, 2) := by decide +kernel
theorem dX2_reckon_13 : decode cX2_reckon 13 = .ok (.invokevirtual 45, 3) := by decide +kernel
theorem dX2_reckon_16 : decode cX2_reckon 16 = .ok (.iinc 5 1, 3) := by decide +kernel
theorem dX2_reckon_19 : decode cX2_reckon 19 = .ok (.goto (-16), 3) := by decide +kernel
theorem dX2_reckon_22 : decode cX2_reckon 22 = .ok (.iconst 0, 1) := by decide +kernel
theorem dX2_reckon_23 : decode cX2_reckon 23 = .ok (.istore 5, 2) := by decide +kernel
theorem dX2_reckon_25 : decode cX2_reckon 25 = .ok (.iload 5, 2) := by decide +kernel
theorem dX2_reckon_27 : decode cX2_reckon 27 = .ok (.bipush 6, 2) := by decide +kernel
theorem dX2_reckon_29 : decode cX2_reckon 29 = .ok (.if_icmp .ge 40, 3) := by decide +kernel
theorem dX2_reckon_32 : decode cX2_reckon 32 = .ok (.iload 5, 2) := by decide +kernel
theorem dX2_reckon_34 : decode cX2_reckon 34 = .ok (.iload 4, 2) := by decide +kernel
theorem dX2_reckon_36 : decode cX2_reckon 36 = .ok (.if_icmp .eq 27, 3) := by decide +kernel
theorem dX2_reckon_39 : decode cX2_reckon 39 = .ok (.aload_n 1, 1) := by decide +kernel
theorem dX2_reckon_40 : decode cX2_reckon 40 = .ok (.getfield 49, 3) := by decide +kernel
theorem dX2_reckon_43 : decode cX2_reckon 43 = .ok (.iload 5, 2) := by decide +kernel
theorem dX2_reckon_45 : decode cX2_reckon 45 = .ok (.iaload, 1) := by decide +kernel
theorem dX2_reckon_46 : decode cX2_reckon 46 = .ok (.iconst (-1), 1) := by decide +kernel
theorem dX2_reckon_47 : decode cX2_reckon 47 = .ok (.if_icmp .eq 16, 3) := by decide +kernel
theorem dX2_reckon_50 : decode cX2_reckon 50 = .ok (.aload_n 0, 1) := by decide +kernel
theorem dX2_reckon_51 : decode cX2_reckon 51 = .ok (.iload 5, 2) := by decide +kernel
theorem dX2_reckon_53 : decode cX2_reckon 53 = .ok (.aload_n 1, 1) := by decide +kernel
theorem dX2_reckon_54 : decode cX2_reckon 54 = .ok (.getfield 49, 3) := by decide +kernel
theorem dX2_reckon_57 : decode cX2_reckon 57 = .ok (.iload 5, 2) := by decide +kernel
theorem dX2_reckon_59 : decode cX2_reckon 59 = .ok (.iaload, 1) := by decide +kernel
theorem dX2_reckon_60 : decode cX2_reckon 60 = .ok (.invokevirtual 55, 3) := by decide +kernel
theorem dX2_reckon_63 : decode cX2_reckon 63 = .ok (.iinc 5 1, 3) := by decide +kernel
theorem dX2_reckon_66 : decode cX2_reckon 66 = .ok (.goto (-41), 3) := by decide +kernel
theorem dX2_reckon_69 : decode cX2_reckon 69 = .ok (.aload_n 1, 1) := by decide +kernel
theorem dX2_reckon_70 : decode cX2_reckon 70 = .ok (.getfield 59, 3) := by decide +kernel
theorem dX2_reckon_73 : decode cX2_reckon 73 = .ok (.astore 5, 2) := by decide +kernel
theorem dX2_reckon_75 : decode cX2_reckon 75 = .ok (.aload 5, 2) := by decide +kernel
theorem dX2_reckon_77 : decode cX2_reckon 77 = .ok (.getfield 63, 3) := by decide +kernel
theorem dX2_reckon_80 : decode cX2_reckon 80 = .ok (.aload_n 2, 1) := by decide +kernel
theorem dX2_reckon_81 : decode cX2_reckon 81 = .ok (.arraylength, 1) := by decide +kernel
theorem dX2_reckon_82 : decode cX2_reckon 82 = .ok (.invokestatic 68, 3) := by decide +kernel
theorem dX2_reckon_85 : decode cX2_reckon 85 = .ok (.iconst 1, 1) := by decide +kernel
theorem dX2_reckon_86 : decode cX2_reckon 86 = .ok (.isub, 1) := by decide +kernel
theorem dX2_reckon_87 : decode cX2_reckon 87 = .ok (.istore 6, 2) := by decide +kernel
theorem dX2_reckon_89 : decode cX2_reckon 89 = .ok (.iload 6, 2) := by decide +kernel
theorem dX2_reckon_91 : decode cX2_reckon 91 = .ok (.ifCond .lt 41, 3) := by decide +kernel
theorem dX2_reckon_94 : decode cX2_reckon 94 = .ok (.aload_n 2, 1) := by decide +kernel
theorem dX2_reckon_95 : decode cX2_reckon 95 = .ok (.iload 6, 2) := by decide +kernel
theorem dX2_reckon_97 : decode cX2_reckon 97 = .ok (.baload, 1) := by decide +kernel
theorem dX2_reckon_98 : decode cX2_reckon 98 = .ok (.ifCond .eq 28, 3) := by decide +kernel
theorem dX2_reckon_101 : decode cX2_reckon 101 = .ok (.aload_n 0, 1) := by decide +kernel
theorem dX2_reckon_102 : decode cX2_reckon 102 = .ok (.aload 5, 2) := by decide +kernel
theorem dX2_reckon_104 : decode cX2_reckon 104 = .ok (.getfield 74, 3) := by decide +kernel
theorem dX2_reckon_107 : decode cX2_reckon 107 = .ok (.iload 6, 2) := by decide +kernel
theorem dX2_reckon_109 : decode cX2_reckon 109 = .ok (.iaload, 1) := by decide +kernel
theorem dX2_reckon_110 : decode cX2_reckon 110 = .ok (.aload 5, 2) := by decide +kernel
theorem dX2_reckon_112 : decode cX2_reckon 112 = .ok (.getfield 77, 3) := by decide +kernel
theorem dX2_reckon_115 : decode cX2_reckon 115 = .ok (.iload 6, 2) := by decide +kernel
theorem dX2_reckon_117 : decode cX2_reckon 117 = .ok (.iaload, 1) := by decide +kernel
theorem dX2_reckon_118 : decode cX2_reckon 118 = .ok (.aload_n 1, 1) := by decide +kernel
theorem dX2_reckon_119 : decode cX2_reckon 119 = .ok (.getfield 80, 3) := by decide +kernel
theorem dX2_reckon_122 : decode cX2_reckon 122 = .ok (.aload_n 3, 1) := by decide +kernel
theorem dX2_reckon_123 : decode cX2_reckon 123 = .ok (.invokevirtual 83, 3) := by decide +kernel
theorem dX2_reckon_126 : decode cX2_reckon 126 = .ok (.iinc 6 (-1), 3) := by decide +kernel
theorem dX2_reckon_129 : decode cX2_reckon 129 = .ok (.goto (-40), 3) := by decide +kernel
theorem dX2_reckon_132 : decode cX2_reckon 132 = .ok (.aload_n 0, 1) := by decide +kernel
theorem dX2_reckon_133 : decode cX2_reckon 133 = .ok (.invokevirtual 87, 3) := by decide +kernel
theorem dX2_reckon_136 : decode cX2_reckon 136 = .ok (.ifCond .eq 9, 3) := by decide +kernel
theorem dX2_reckon_139 : decode cX2_reckon 139 = .ok (.aload_n 0, 1) := by decide +kernel
theorem dX2_reckon_140 : decode cX2_reckon 140 = .ok (.bipush 6, 2) := by decide +kernel
theorem dX2_reckon_142 : decode cX2_reckon 142 = .ok (.invokevirtual 91, 3) := by decide +kernel
theorem dX2_reckon_145 : decode cX2_reckon 145 = .ok (.aload_n 0, 1) := by decide +kernel
theorem dX2_reckon_146 : decode cX2_reckon 146 = .ok (.invokevirtual 94, 3) := by decide +kernel
theorem dX2_reckon_149 : decode cX2_reckon 149 = .ok (.return_, 1) := by decide +kernel
theorem dX2_costOf_0 : decode cX2_costOf 0 = .ok (.iload_n 1, 1) := by decide +kernel
theorem dX2_costOf_1 : decode cX2_costOf 1 = .ok (.ifCond .lt 22, 3) := by decide +kernel
theorem dX2_costOf_4 : decode cX2_costOf 4 = .ok (.iload_n 1, 1) := by decide +kernel
theorem dX2_costOf_5 : decode cX2_costOf 5 = .ok (.sipush 364, 3) := by decide +kernel
theorem dX2_costOf_8 : decode cX2_costOf 8 = .ok (.if_icmp .ge 15, 3) := by decide +kernel
theorem dX2_costOf_11 : decode cX2_costOf 11 = .ok (.aload_n 0, 1) := by decide +kernel
theorem dX2_costOf_12 : decode cX2_costOf 12 = .ok (.getfield 11, 3) := by decide +kernel
theorem dX2_costOf_15 : decode cX2_costOf 15 = .ok (.bipush 6, 2) := by decide +kernel
theorem dX2_costOf_17 : decode cX2_costOf 17 = .ok (.aaload, 1) := by decide +kernel
theorem dX2_costOf_18 : decode cX2_costOf 18 = .ok (.iload_n 1, 1) := by decide +kernel
theorem dX2_costOf_19 : decode cX2_costOf 19 = .ok (.iaload, 1) := by decide +kernel
theorem dX2_costOf_20 : decode cX2_costOf 20 = .ok (.goto 6, 3) := by decide +kernel
theorem dX2_costOf_23 : decode cX2_costOf 23 = .ok (.sipush 1000, 3) := by decide +kernel
theorem dX2_costOf_26 : decode cX2_costOf 26 = .ok (.ireturn, 1) := by decide +kernel
theorem dX2_waysOf_0 : decode cX2_waysOf 0 = .ok (.aload_n 0, 1) := by decide +kernel
theorem dX2_waysOf_1 : decode cX2_waysOf 1 = .ok (.iload_n 1, 1) := by decide +kernel
theorem dX2_waysOf_2 : decode cX2_waysOf 2 = .ok (.invokevirtual 97, 3) := by decide +kernel
theorem dX2_waysOf_5 : decode cX2_waysOf 5 = .ok (.istore_n 2, 1) := by decide +kernel
theorem dX2_waysOf_6 : decode cX2_waysOf 6 = .ok (.iload_n 2, 1) := by decide +kernel
theorem dX2_waysOf_7 : decode cX2_waysOf 7 = .ok (.sipush 1000, 3) := by decide +kernel
theorem dX2_waysOf_10 : decode cX2_waysOf 10 = .ok (.if_icmp .ge 23, 3) := by decide +kernel
theorem dX2_waysOf_13 : decode cX2_waysOf 13 = .ok (.iload_n 2, 1) := by decide +kernel
theorem dX2_waysOf_14 : decode cX2_waysOf 14 = .ok (.aload_n 0, 1) := by decide +kernel
theorem dX2_waysOf_15 : decode cX2_waysOf 15 = .ok (.getfield 33, 3) := by decide +kernel
theorem dX2_waysOf_18 : decode cX2_waysOf 18 = .ok (.if_icmp .ne 15, 3) := by decide +kernel
theorem dX2_waysOf_21 : decode cX2_waysOf 21 = .ok (.aload_n 0, 1) := by decide +kernel
theorem dX2_waysOf_22 : decode cX2_waysOf 22 = .ok (.getfield 18, 3) := by decide +kernel
theorem dX2_waysOf_25 : decode cX2_waysOf 25 = .ok (.bipush 6, 2) := by decide +kernel
theorem dX2_waysOf_27 : decode cX2_waysOf 27 = .ok (.aaload, 1) := by decide +kernel
theorem dX2_waysOf_28 : decode cX2_waysOf 28 = .ok (.iload_n 1, 1) := by decide +kernel
theorem dX2_waysOf_29 : decode cX2_waysOf 29 = .ok (.laload, 1) := by decide +kernel
theorem dX2_waysOf_30 : decode cX2_waysOf 30 = .ok (.goto 4, 3) := by decide +kernel
theorem dX2_waysOf_33 : decode cX2_waysOf 33 = .ok (.lconst 0, 1) := by decide +kernel
theorem dX2_waysOf_34 : decode cX2_waysOf 34 = .ok (.lreturn, 1) := by decide +kernel
theorem dX2_countUpTo_0 : decode cX2_countUpTo 0 = .ok (.iconst 0, 1) := by decide +kernel
theorem dX2_countUpTo_1 : decode cX2_countUpTo 1 = .ok (.istore_n 2, 1) := by decide +kernel
theorem dX2_countUpTo_2 : decode cX2_countUpTo 2 = .ok (.iconst 0, 1) := by decide +kernel
theorem dX2_countUpTo_3 : decode cX2_countUpTo 3 = .ok (.istore_n 3, 1) := by decide +kernel
theorem dX2_countUpTo_4 : decode cX2_countUpTo 4 = .ok (.iload_n 3, 1) := by decide +kernel
theorem dX2_countUpTo_5 : decode cX2_countUpTo 5 = .ok (.sipush 364, 3) := by decide +kernel
theorem dX2_countUpTo_8 : decode cX2_countUpTo 8 = .ok (.if_icmp .ge 25, 3) := by decide +kernel
theorem dX2_countUpTo_11 : decode cX2_countUpTo 11 = .ok (.aload_n 0, 1) := by decide +kernel
theorem dX2_countUpTo_12 : decode cX2_countUpTo 12 = .ok (.getfield 11, 3) := by decide +kernel
theorem dX2_countUpTo_15 : decode cX2_countUpTo 15 = .ok (.bipush 6, 2) := by decide +kernel
theorem dX2_countUpTo_17 : decode cX2_countUpTo 17 = .ok (.aaload, 1) := by decide +kernel
theorem dX2_countUpTo_18 : decode cX2_countUpTo 18 = .ok (.iload_n 3, 1) := by decide +kernel
theorem dX2_countUpTo_19 : decode cX2_countUpTo 19 = .ok (.iaload, 1) := by decide +kernel
theorem dX2_countUpTo_20 : decode cX2_countUpTo 20 = .ok (.iload_n 1, 1) := by decide +kernel
theorem dX2_countUpTo_21 : decode cX2_countUpTo 21 = .ok (.if_icmp .gt 6, 3) := by decide +kernel
theorem dX2_countUpTo_24 : decode cX2_countUpTo 24 = .ok (.iinc 2 1, 3) := by decide +kernel
theorem dX2_countUpTo_27 : decode cX2_countUpTo 27 = .ok (.iinc 3 1, 3) := by decide +kernel
theorem dX2_countUpTo_30 : decode cX2_countUpTo 30 = .ok (.goto (-26), 3) := by decide +kernel
theorem dX2_countUpTo_33 : decode cX2_countUpTo 33 = .ok (.iload_n 2, 1) := by decide +kernel
theorem dX2_countUpTo_34 : decode cX2_countUpTo 34 = .ok (.ireturn, 1) := by decide +kernel
theorem dX2_free_0 : decode cX2_free 0 = .ok (.aload_n 0, 1) := by decide +kernel
theorem dX2_free_1 : decode cX2_free 1 = .ok (.getfield 21, 3) := by decide +kernel
theorem dX2_free_4 : decode cX2_free 4 = .ok (.iload_n 1, 1) := by decide +kernel
theorem dX2_free_5 : decode cX2_free 5 = .ok (.iconst 0, 1) := by decide +kernel
theorem dX2_free_6 : decode cX2_free 6 = .ok (.bastore, 1) := by decide +kernel
theorem dX2_free_7 : decode cX2_free 7 = .ok (.iconst 0, 1) := by decide +kernel
theorem dX2_free_8 : decode cX2_free 8 = .ok (.istore_n 2, 1) := by decide +kernel
theorem dX2_free_9 : decode cX2_free 9 = .ok (.iload_n 2, 1) := by decide +kernel
theorem dX2_free_10 : decode cX2_free 10 = .ok (.sipush 364, 3) := by decide +kernel
theorem dX2_free_13 : decode cX2_free 13 = .ok (.if_icmp .ge 27, 3) := by decide +kernel
theorem dX2_free_16 : decode cX2_free 16 = .ok (.aload_n 0, 1) := by decide +kernel
theorem dX2_free_17 : decode cX2_free 17 = .ok (.getfield 11, 3) := by decide +kernel
theorem dX2_free_20 : decode cX2_free 20 = .ok (.iload_n 1, 1) := by decide +kernel
theorem dX2_free_21 : decode cX2_free 21 = .ok (.aaload, 1) := by decide +kernel
theorem dX2_free_22 : decode cX2_free 22 = .ok (.iload_n 2, 1) := by decide +kernel
theorem dX2_free_23 : decode cX2_free 23 = .ok (.iconst 0, 1) := by decide +kernel
theorem dX2_free_24 : decode cX2_free 24 = .ok (.iastore, 1) := by decide +kernel
theorem dX2_free_25 : decode cX2_free 25 = .ok (.aload_n 0, 1) := by decide +kernel
theorem dX2_free_26 : decode cX2_free 26 = .ok (.getfield 18, 3) := by decide +kernel
theorem dX2_free_29 : decode cX2_free 29 = .ok (.iload_n 1, 1) := by decide +kernel
theorem dX2_free_30 : decode cX2_free 30 = .ok (.aaload, 1) := by decide +kernel
theorem dX2_free_31 : decode cX2_free 31 = .ok (.iload_n 2, 1) := by decide +kernel
theorem dX2_free_32 : decode cX2_free 32 = .ok (.lconst 1, 1) := by decide +kernel
theorem dX2_free_33 : decode cX2_free 33 = .ok (.lastore, 1) := by decide +kernel
theorem dX2_free_34 : decode cX2_free 34 = .ok (.iinc 2 1, 3) := by decide +kernel
theorem dX2_free_37 : decode cX2_free 37 = .ok (.goto (-28), 3) := by decide +kernel
theorem dX2_free_40 : decode cX2_free 40 = .ok (.return_, 1) := by decide +kernel
theorem dX2_forbid_0 : decode cX2_forbid 0 = .ok (.aload_n 0, 1) := by decide +kernel
theorem dX2_forbid_1 : decode cX2_forbid 1 = .ok (.getfield 21, 3) := by decide +kernel
theorem dX2_forbid_4 : decode cX2_forbid 4 = .ok (.iload_n 1, 1) := by decide +kernel
theorem dX2_forbid_5 : decode cX2_forbid 5 = .ok (.iconst 1, 1) := by decide +kernel
theorem dX2_forbid_6 : decode cX2_forbid 6 = .ok (.bastore, 1) := by decide +kernel
theorem dX2_forbid_7 : decode cX2_forbid 7 = .ok (.iconst 0, 1) := by decide +kernel
theorem dX2_forbid_8 : decode cX2_forbid 8 = .ok (.istore_n 2, 1) := by decide +kernel
theorem dX2_forbid_9 : decode cX2_forbid 9 = .ok (.iload_n 2, 1) := by decide +kernel
theorem dX2_forbid_10 : decode cX2_forbid 10 = .ok (.sipush 364, 3) := by decide +kernel
theorem dX2_forbid_13 : decode cX2_forbid 13 = .ok (.if_icmp .ge 29, 3) := by decide +kernel
theorem dX2_forbid_16 : decode cX2_forbid 16 = .ok (.aload_n 0, 1) := by decide +kernel
theorem dX2_forbid_17 : decode cX2_forbid 17 = .ok (.getfield 11, 3) := by decide +kernel
theorem dX2_forbid_20 : decode cX2_forbid 20 = .ok (.iload_n 1, 1) := by decide +kernel
theorem dX2_forbid_21 : decode cX2_forbid 21 = .ok (.aaload, 1) := by decide +kernel
theorem dX2_forbid_22 : decode cX2_forbid 22 = .ok (.iload_n 2, 1) := by decide +kernel
theorem dX2_forbid_23 : decode cX2_forbid 23 = .ok (.sipush 1000, 3) := by decide +kernel
theorem dX2_forbid_26 : decode cX2_forbid 26 = .ok (.iastore, 1) := by decide +kernel
theorem dX2_forbid_27 : decode cX2_forbid 27 = .ok (.aload_n 0, 1) := by decide +kernel
theorem dX2_forbid_28 : decode cX2_forbid 28 = .ok (.getfield 18, 3) := by decide +kernel
theorem dX2_forbid_31 : decode cX2_forbid 31 = .ok (.iload_n 1, 1) := by decide +kernel
theorem dX2_forbid_32 : decode cX2_forbid 32 = .ok (.aaload, 1) := by decide +kernel
theorem dX2_forbid_33 : decode cX2_forbid 33 = .ok (.iload_n 2, 1) := by decide +kernel
theorem dX2_forbid_34 : decode cX2_forbid 34 = .ok (.lconst 0, 1) := by decide +kernel
theorem dX2_forbid_35 : decode cX2_forbid 35 = .ok (.lastore, 1) := by decide +kernel
theorem dX2_forbid_36 : decode cX2_forbid 36 = .ok (.iinc 2 1, 3) := by decide +kernel
theorem dX2_forbid_39 : decode cX2_forbid 39 = .ok (.goto (-30), 3) := by decide +kernel
theorem dX2_forbid_42 : decode cX2_forbid 42 = .ok (.return_, 1) := by decide +kernel
theorem dX2_bind_0 : decode cX2_bind 0 = .ok (.aload_n 0, 1) := by decide +kernel
theorem dX2_bind_1 : decode cX2_bind 1 = .ok (.iload_n 1, 1) := by decide +kernel
theorem dX2_bind_2 : decode cX2_bind 2 = .ok (.invokevirtual 91, 3) := by decide +kernel
theorem dX2_bind_5 : decode cX2_bind 5 = .ok (.iload_n 2, 1) := by decide +kernel
theorem dX2_bind_6 : decode cX2_bind 6 = .ok (.ifCond .lt 10, 3) := by decide +kernel
theorem dX2_bind_9 : decode cX2_bind 9 = .ok (.iload_n 2, 1) := by decide +kernel
theorem dX2_bind_10 : decode cX2_bind 10 = .ok (.sipush 364, 3) := by decide +kernel
theorem dX2_bind_13 : decode cX2_bind 13 = .ok (.if_icmp .lt 4, 3) := by decide +kernel
theorem dX2_bind_16 : decode cX2_bind 16 = .ok (.return_, 1) := by decide +kernel
theorem dX2_bind_17 : decode cX2_bind 17 = .ok (.aload_n 0, 1) := by decide +kernel
theorem dX2_bind_18 : decode cX2_bind 18 = .ok (.getfield 11, 3) := by decide +kernel
theorem dX2_bind_21 : decode cX2_bind 21 = .ok (.iload_n 1, 1) := by decide +kernel
theorem dX2_bind_22 : decode cX2_bind 22 = .ok (.aaload, 1) := by decide +kernel
theorem dX2_bind_23 : decode cX2_bind 23 = .ok (.iload_n 2, 1) := by decide +kernel
theorem dX2_bind_24 : decode cX2_bind 24 = .ok (.iconst 0, 1) := by decide +kernel
theorem dX2_bind_25 : decode cX2_bind 25 = .ok (.iastore, 1) := by decide +kernel
theorem dX2_bind_26 : decode cX2_bind 26 = .ok (.aload_n 0, 1) := by decide +kernel
theorem dX2_bind_27 : decode cX2_bind 27 = .ok (.getfield 18, 3) := by decide +kernel
theorem dX2_bind_30 : decode cX2_bind 30 = .ok (.iload_n 1, 1) := by decide +kernel
theorem dX2_bind_31 : decode cX2_bind 31 = .ok (.aaload, 1) := by decide +kernel
theorem dX2_bind_32 : decode cX2_bind 32 = .ok (.iload_n 2, 1) := by decide +kernel
theorem dX2_bind_33 : decode cX2_bind 33 = .ok (.lconst 1, 1) := by decide +kernel
theorem dX2_bind_34 : decode cX2_bind 34 = .ok (.lastore, 1) := by decide +kernel
theorem dX2_bind_35 : decode cX2_bind 35 = .ok (.return_, 1) := by decide +kernel
theorem dX2_goBack_0 : decode cX2_goBack 0 = .ok (.iload_n 1, 1) := by decide +kernel
theorem dX2_goBack_1 : decode cX2_goBack 1 = .ok (.ifCond .lt 25, 3) := by decide +kernel
theorem dX2_goBack_4 : decode cX2_goBack 4 = .ok (.iload_n 1, 1) := by decide +kernel
theorem dX2_goBack_5 : decode cX2_goBack 5 = .ok (.bipush 6, 2) := by decide +kernel
theorem dX2_goBack_7 : decode cX2_goBack 7 = .ok (.if_icmp .gt 19, 3) := by decide +kernel
theorem dX2_goBack_10 : decode cX2_goBack 10 = .ok (.iload_n 2, 1) := by decide +kernel
theorem dX2_goBack_11 : decode cX2_goBack 11 = .ok (.invokestatic 101, 3) := by decide +kernel
theorem dX2_goBack_14 : decode cX2_goBack 14 = .ok (.ifCond .eq 12, 3) := by decide +kernel
theorem dX2_goBack_17 : decode cX2_goBack 17 = .ok (.aload_n 0, 1) := by decide +kernel
theorem dX2_goBack_18 : decode cX2_goBack 18 = .ok (.getfield 21, 3) := by decide +kernel
theorem dX2_goBack_21 : decode cX2_goBack 21 = .ok (.iload_n 2, 1) := by decide +kernel
theorem dX2_goBack_22 : decode cX2_goBack 22 = .ok (.baload, 1) := by decide +kernel
theorem dX2_goBack_23 : decode cX2_goBack 23 = .ok (.ifCond .ne 4, 3) := by decide +kernel
theorem dX2_goBack_26 : decode cX2_goBack 26 = .ok (.return_, 1) := by decide +kernel
theorem dX2_goBack_27 : decode cX2_goBack 27 = .ok (.iconst 0, 1) := by decide +kernel
theorem dX2_goBack_28 : decode cX2_goBack 28 = .ok (.istore 5, 2) := by decide +kernel
theorem dX2_goBack_30 : decode cX2_goBack 30 = .ok (.iload 5, 2) := by decide +kernel
theorem dX2_goBack_32 : decode cX2_goBack 32 = .ok (.sipush 364, 3) := by decide +kernel
theorem dX2_goBack_35 : decode cX2_goBack 35 = .ok (.if_icmp .ge 66, 3) := by decide +kernel
theorem dX2_goBack_38 : decode cX2_goBack 38 = .ok (.aload_n 0, 1) := by decide +kernel
theorem dX2_goBack_39 : decode cX2_goBack 39 = .ok (.iload_n 2, 1) := by decide +kernel
theorem dX2_goBack_40 : decode cX2_goBack 40 = .ok (.aload_n 3, 1) := by decide +kernel
theorem dX2_goBack_41 : decode cX2_goBack 41 = .ok (.iload_n 2, 1) := by decide +kernel
theorem dX2_goBack_42 : decode cX2_goBack 42 = .ok (.iaload, 1) := by decide +kernel
theorem dX2_goBack_43 : decode cX2_goBack 43 = .ok (.iload 5, 2) := by decide +kernel
theorem dX2_goBack_45 : decode cX2_goBack 45 = .ok (.aload 4, 2) := by decide +kernel
theorem dX2_goBack_47 : decode cX2_goBack 47 = .ok (.invokevirtual 105, 3) := by decide +kernel
theorem dX2_goBack_50 : decode cX2_goBack 50 = .ok (.aload_n 0, 1) := by decide +kernel
theorem dX2_goBack_51 : decode cX2_goBack 51 = .ok (.getfield 11, 3) := by decide +kernel
theorem dX2_goBack_54 : decode cX2_goBack 54 = .ok (.iload_n 1, 1) := by decide +kernel
theorem dX2_goBack_55 : decode cX2_goBack 55 = .ok (.aaload, 1) := by decide +kernel
theorem dX2_goBack_56 : decode cX2_goBack 56 = .ok (.iload 5, 2) := by decide +kernel
theorem dX2_goBack_58 : decode cX2_goBack 58 = .ok (.sipush 1000, 3) := by decide +kernel
theorem dX2_goBack_61 : decode cX2_goBack 61 = .ok (.aload_n 0, 1) := by decide +kernel
theorem dX2_goBack_62 : decode cX2_goBack 62 = .ok (.getfield 11, 3) := by decide +kernel
theorem dX2_goBack_65 : decode cX2_goBack 65 = .ok (.iload_n 1, 1) := by decide +kernel
theorem dX2_goBack_66 : decode cX2_goBack 66 = .ok (.aaload, 1) := by decide +kernel
theorem dX2_goBack_67 : decode cX2_goBack 67 = .ok (.iload 5, 2) := by decide +kernel
theorem dX2_goBack_69 : decode cX2_goBack 69 = .ok (.iaload, 1) := by decide +kernel
theorem dX2_goBack_70 : decode cX2_goBack 70 = .ok (.aload_n 0, 1) := by decide +kernel
theorem dX2_goBack_71 : decode cX2_goBack 71 = .ok (.getfield 25, 3) := by decide +kernel
theorem dX2_goBack_74 : decode cX2_goBack 74 = .ok (.iadd, 1) := by decide +kernel
theorem dX2_goBack_75 : decode cX2_goBack 75 = .ok (.invokestatic 68, 3) := by decide +kernel
theorem dX2_goBack_78 : decode cX2_goBack 78 = .ok (.iastore, 1) := by decide +kernel
theorem dX2_goBack_79 : decode cX2_goBack 79 = .ok (.aload_n 0, 1) := by decide +kernel
theorem dX2_goBack_80 : decode cX2_goBack 80 = .ok (.getfield 18, 3) := by decide +kernel
theorem dX2_goBack_83 : decode cX2_goBack 83 = .ok (.iload_n 1, 1) := by decide +kernel
theorem dX2_goBack_84 : decode cX2_goBack 84 = .ok (.aaload, 1) := by decide +kernel
theorem dX2_goBack_85 : decode cX2_goBack 85 = .ok (.iload 5, 2) := by decide +kernel
theorem dX2_goBack_87 : decode cX2_goBack 87 = .ok (.dup2, 1) := by decide +kernel
theorem dX2_goBack_88 : decode cX2_goBack 88 = .ok (.laload, 1) := by decide +kernel
theorem dX2_goBack_89 : decode cX2_goBack 89 = .ok (.aload_n 0, 1) := by decide +kernel
theorem dX2_goBack_90 : decode cX2_goBack 90 = .ok (.getfield 29, 3) := by decide +kernel
theorem dX2_goBack_93 : decode cX2_goBack 93 = .ok (.lmul, 1) := by decide +kernel
theorem dX2_goBack_94 : decode cX2_goBack 94 = .ok (.lastore, 1) := by decide +kernel
theorem dX2_goBack_95 : decode cX2_goBack 95 = .ok (.iinc 5 1, 3) := by decide +kernel
theorem dX2_goBack_98 : decode cX2_goBack 98 = .ok (.goto (-68), 3) := by decide +kernel
theorem dX2_goBack_101 : decode cX2_goBack 101 = .ok (.aload_n 0, 1) := by decide +kernel
theorem dX2_goBack_102 : decode cX2_goBack 102 = .ok (.getfield 21, 3) := by decide +kernel
theorem dX2_goBack_105 : decode cX2_goBack 105 = .ok (.iload_n 1, 1) := by decide +kernel
theorem dX2_goBack_106 : decode cX2_goBack 106 = .ok (.iconst 1, 1) := by decide +kernel
theorem dX2_goBack_107 : decode cX2_goBack 107 = .ok (.bastore, 1) := by decide +kernel
theorem dX2_goBack_108 : decode cX2_goBack 108 = .ok (.aload_n 0, 1) := by decide +kernel
theorem dX2_goBack_109 : decode cX2_goBack 109 = .ok (.iload_n 2, 1) := by decide +kernel
theorem dX2_goBack_110 : decode cX2_goBack 110 = .ok (.invokevirtual 45, 3) := by decide +kernel
theorem dX2_goBack_113 : decode cX2_goBack 113 = .ok (.return_, 1) := by decide +kernel
theorem dX2_weigh_0 : decode cX2_weigh 0 = .ok (.aload_n 0, 1) := by decide +kernel
theorem dX2_weigh_1 : decode cX2_weigh 1 = .ok (.aload_n 0, 1) := by decide +kernel
theorem dX2_weigh_2 : decode cX2_weigh 2 = .ok (.getfield 11, 3) := by decide +kernel
theorem dX2_weigh_5 : decode cX2_weigh 5 = .ok (.iload_n 1, 1) := by decide +kernel
theorem dX2_weigh_6 : decode cX2_weigh 6 = .ok (.aaload, 1) := by decide +kernel
theorem dX2_weigh_7 : decode cX2_weigh 7 = .ok (.iload_n 3, 1) := by decide +kernel
theorem dX2_weigh_8 : decode cX2_weigh 8 = .ok (.iaload, 1) := by decide +kernel
theorem dX2_weigh_9 : decode cX2_weigh 9 = .ok (.putfield 25, 3) := by decide +kernel
theorem dX2_weigh_12 : decode cX2_weigh 12 = .ok (.aload_n 0, 1) := by decide +kernel
theorem dX2_weigh_13 : decode cX2_weigh 13 = .ok (.aload_n 0, 1) := by decide +kernel
theorem dX2_weigh_14 : decode cX2_weigh 14 = .ok (.getfield 18, 3) := by decide +kernel
theorem dX2_weigh_17 : decode cX2_weigh 17 = .ok (.iload_n 1, 1) := by decide +kernel
theorem dX2_weigh_18 : decode cX2_weigh 18 = .ok (.aaload, 1) := by decide +kernel
theorem dX2_weigh_19 : decode cX2_weigh 19 = .ok (.iload_n 3, 1) := by decide +kernel
theorem dX2_weigh_20 : decode cX2_weigh 20 = .ok (.laload, 1) := by decide +kernel
theorem dX2_weigh_21 : decode cX2_weigh 21 = .ok (.putfield 29, 3) := by decide +kernel
theorem dX2_weigh_24 : decode cX2_weigh 24 = .ok (.aload 4, 2) := by decide +kernel
theorem dX2_weigh_26 : decode cX2_weigh 26 = .ok (.iload_n 2, 1) := by decide +kernel
theorem dX2_weigh_27 : decode cX2_weigh 27 = .ok (.iload_n 3, 1) := by decide +kernel
theorem dX2_weigh_28 : decode cX2_weigh 28 = .ok (.invokevirtual 109, 3) := by decide +kernel
theorem dX2_weigh_31 : decode cX2_weigh 31 = .ok (.istore 5, 2) := by decide +kernel
theorem dX2_weigh_33 : decode cX2_weigh 33 = .ok (.iconst 1, 1) := by decide +kernel
theorem dX2_weigh_34 : decode cX2_weigh 34 = .ok (.istore 6, 2) := by decide +kernel
theorem dX2_weigh_36 : decode cX2_weigh 36 = .ok (.iload 6, 2) := by decide +kernel
theorem dX2_weigh_38 : decode cX2_weigh 38 = .ok (.iload 5, 2) := by decide +kernel
theorem dX2_weigh_40 : decode cX2_weigh 40 = .ok (.if_icmp .gt 106, 3) := by decide +kernel
theorem dX2_weigh_43 : decode cX2_weigh 43 = .ok (.aload 4, 2) := by decide +kernel
theorem dX2_weigh_45 : decode cX2_weigh 45 = .ok (.iload_n 2, 1) := by decide +kernel
theorem dX2_weigh_46 : decode cX2_weigh 46 = .ok (.iload_n 3, 1) := by decide +kernel
theorem dX2_weigh_47 : decode cX2_weigh 47 = .ok (.iload 6, 2) := by decide +kernel
theorem dX2_weigh_49 : decode cX2_weigh 49 = .ok (.invokevirtual 114, 3) := by decide +kernel
theorem dX2_weigh_52 : decode cX2_weigh 52 = .ok (.istore 7, 2) := by decide +kernel
theorem dX2_weigh_54 : decode cX2_weigh 54 = .ok (.iload 7, 2) := by decide +kernel
theorem dX2_weigh_56 : decode cX2_weigh 56 = .ok (.ifCond .lt 84, 3) := by decide +kernel
theorem dX2_weigh_59 : decode cX2_weigh 59 = .ok (.iload 7, 2) := by decide +kernel
theorem dX2_weigh_61 : decode cX2_weigh 61 = .ok (.sipush 364, 3) := by decide +kernel
theorem dX2_weigh_64 : decode cX2_weigh 64 = .ok (.if_icmp .lt 6, 3) := by decide +kernel
theorem dX2_weigh_67 : decode cX2_weigh 67 = .ok (.goto 73, 3) := by decide +kernel
theorem dX2_weigh_70 : decode cX2_weigh 70 = .ok (.aload_n 0, 1) := by decide +kernel
theorem dX2_weigh_71 : decode cX2_weigh 71 = .ok (.getfield 11, 3) := by decide +kernel
theorem dX2_weigh_74 : decode cX2_weigh 74 = .ok (.iload_n 1, 1) := by decide +kernel
theorem dX2_weigh_75 : decode cX2_weigh 75 = .ok (.aaload, 1) := by decide +kernel
theorem dX2_weigh_76 : decode cX2_weigh 76 = .ok (.iload 7, 2) := by decide +kernel
theorem dX2_weigh_78 : decode cX2_weigh 78 = .ok (.iaload, 1) := by decide +kernel
theorem dX2_weigh_79 : decode cX2_weigh 79 = .ok (.iconst 1, 1) := by decide +kernel
theorem dX2_weigh_80 : decode cX2_weigh 80 = .ok (.iadd, 1) := by decide +kernel
theorem dX2_weigh_81 : decode cX2_weigh 81 = .ok (.istore 8, 2) := by decide +kernel
theorem dX2_weigh_83 : decode cX2_weigh 83 = .ok (.iload 8, 2) := by decide +kernel
theorem dX2_weigh_85 : decode cX2_weigh 85 = .ok (.aload_n 0, 1) := by decide +kernel
theorem dX2_weigh_86 : decode cX2_weigh 86 = .ok (.getfield 25, 3) := by decide +kernel
theorem dX2_weigh_89 : decode cX2_weigh 89 = .ok (.if_icmp .le 6, 3) := by decide +kernel
theorem dX2_weigh_92 : decode cX2_weigh 92 = .ok (.goto 48, 3) := by decide +kernel
theorem dX2_weigh_95 : decode cX2_weigh 95 = .ok (.aload_n 0, 1) := by decide +kernel
theorem dX2_weigh_96 : decode cX2_weigh 96 = .ok (.iload 8, 2) := by decide +kernel
theorem dX2_weigh_98 : decode cX2_weigh 98 = .ok (.aload_n 0, 1) := by decide +kernel
theorem dX2_weigh_99 : decode cX2_weigh 99 = .ok (.getfield 25, 3) := by decide +kernel
theorem dX2_weigh_102 : decode cX2_weigh 102 = .ok (.if_icmp .ge 15, 3) := by decide +kernel
theorem dX2_weigh_105 : decode cX2_weigh 105 = .ok (.aload_n 0, 1) := by decide +kernel
theorem dX2_weigh_106 : decode cX2_weigh 106 = .ok (.getfield 18, 3) := by decide +kernel
theorem dX2_weigh_109 : decode cX2_weigh 109 = .ok (.iload_n 1, 1) := by decide +kernel
theorem dX2_weigh_110 : decode cX2_weigh 110 = .ok (.aaload, 1) := by decide +kernel
theorem dX2_weigh_111 : decode cX2_weigh 111 = .ok (.iload 7, 2) := by decide +kernel
theorem dX2_weigh_113 : decode cX2_weigh 113 = .ok (.laload, 1) := by decide +kernel
theorem dX2_weigh_114 : decode cX2_weigh 114 = .ok (.goto 17, 3) := by decide +kernel
theorem dX2_weigh_117 : decode cX2_weigh 117 = .ok (.aload_n 0, 1) := by decide +kernel
theorem dX2_weigh_118 : decode cX2_weigh 118 = .ok (.getfield 29, 3) := by decide +kernel
theorem dX2_weigh_121 : decode cX2_weigh 121 = .ok (.aload_n 0, 1) := by decide +kernel
theorem dX2_weigh_122 : decode cX2_weigh 122 = .ok (.getfield 18, 3) := by decide +kernel
theorem dX2_weigh_125 : decode cX2_weigh 125 = .ok (.iload_n 1, 1) := by decide +kernel
theorem dX2_weigh_126 : decode cX2_weigh 126 = .ok (.aaload, 1) := by decide +kernel
theorem dX2_weigh_127 : decode cX2_weigh 127 = .ok (.iload 7, 2) := by decide +kernel
theorem dX2_weigh_129 : decode cX2_weigh 129 = .ok (.laload, 1) := by decide +kernel
theorem dX2_weigh_130 : decode cX2_weigh 130 = .ok (.ladd, 1) := by decide +kernel
theorem dX2_weigh_131 : decode cX2_weigh 131 = .ok (.putfield 29, 3) := by decide +kernel
theorem dX2_weigh_134 : decode cX2_weigh 134 = .ok (.aload_n 0, 1) := by decide +kernel
theorem dX2_weigh_135 : decode cX2_weigh 135 = .ok (.iload 8, 2) := by decide +kernel
theorem dX2_weigh_137 : decode cX2_weigh 137 = .ok (.putfield 25, 3) := by decide +kernel
theorem dX2_weigh_140 : decode cX2_weigh 140 = .ok (.iinc 6 1, 3) := by decide +kernel
theorem dX2_weigh_143 : decode cX2_weigh 143 = .ok (.goto (-107), 3) := by decide +kernel
theorem dX2_weigh_146 : decode cX2_weigh 146 = .ok (.return_, 1) := by decide +kernel
theorem dX2_someBirdIsBound_0 : decode cX2_someBirdIsBound 0 = .ok (.iconst 0, 1) := by decide +kernel
theorem dX2_someBirdIsBound_1 : decode cX2_someBirdIsBound 1 = .ok (.istore_n 1, 1) := by decide +kernel
theorem dX2_someBirdIsBound_2 : decode cX2_someBirdIsBound 2 = .ok (.iload_n 1, 1) := by decide +kernel
theorem dX2_someBirdIsBound_3 : decode cX2_someBirdIsBound 3 = .ok (.bipush 6, 2) := by decide +kernel
theorem dX2_someBirdIsBound_5 : decode cX2_someBirdIsBound 5 = .ok (.if_icmp .ge 20, 3) := by decide +kernel
theorem dX2_someBirdIsBound_8 : decode cX2_someBirdIsBound 8 = .ok (.aload_n 0, 1) := by decide +kernel
theorem dX2_someBirdIsBound_9 : decode cX2_someBirdIsBound 9 = .ok (.getfield 21, 3) := by decide +kernel
theorem dX2_someBirdIsBound_12 : decode cX2_someBirdIsBound 12 = .ok (.iload_n 1, 1) := by decide +kernel
theorem dX2_someBirdIsBound_13 : decode cX2_someBirdIsBound 13 = .ok (.baload, 1) := by decide +kernel
theorem dX2_someBirdIsBound_14 : decode cX2_someBirdIsBound 14 = .ok (.ifCond .eq 5, 3) := by decide +kernel
theorem dX2_someBirdIsBound_17 : decode cX2_someBirdIsBound 17 = .ok (.iconst 1, 1) := by decide +kernel
theorem dX2_someBirdIsBound_18 : decode cX2_someBirdIsBound 18 = .ok (.ireturn, 1) := by decide +kernel
theorem dX2_someBirdIsBound_19 : decode cX2_someBirdIsBound 19 = .ok (.iinc 1 1, 3) := by decide +kernel
theorem dX2_someBirdIsBound_22 : decode cX2_someBirdIsBound 22 = .ok (.goto (-20), 3) := by decide +kernel
theorem dX2_someBirdIsBound_25 : decode cX2_someBirdIsBound 25 = .ok (.iconst 0, 1) := by decide +kernel
theorem dX2_someBirdIsBound_26 : decode cX2_someBirdIsBound 26 = .ok (.ireturn, 1) := by decide +kernel
theorem dX2_sumUp_0 : decode cX2_sumUp 0 = .ok (.aload_n 0, 1) := by decide +kernel
theorem dX2_sumUp_1 : decode cX2_sumUp 1 = .ok (.sipush 1000, 3) := by decide +kernel
theorem dX2_sumUp_4 : decode cX2_sumUp 4 = .ok (.putfield 33, 3) := by decide +kernel
theorem dX2_sumUp_7 : decode cX2_sumUp 7 = .ok (.iconst 0, 1) := by decide +kernel
theorem dX2_sumUp_8 : decode cX2_sumUp 8 = .ok (.istore_n 1, 1) := by decide +kernel
theorem dX2_sumUp_9 : decode cX2_sumUp 9 = .ok (.iload_n 1, 1) := by decide +kernel
theorem dX2_sumUp_10 : decode cX2_sumUp 10 = .ok (.sipush 364, 3) := by decide +kernel
theorem dX2_sumUp_13 : decode cX2_sumUp 13 = .ok (.if_icmp .ge 29, 3) := by decide +kernel
theorem dX2_sumUp_16 : decode cX2_sumUp 16 = .ok (.aload_n 0, 1) := by decide +kernel
theorem dX2_sumUp_17 : decode cX2_sumUp 17 = .ok (.aload_n 0, 1) := by decide +kernel
theorem dX2_sumUp_18 : decode cX2_sumUp 18 = .ok (.getfield 33, 3) := by decide +kernel
theorem dX2_sumUp_21 : decode cX2_sumUp 21 = .ok (.aload_n 0, 1) := by decide +kernel
theorem dX2_sumUp_22 : decode cX2_sumUp 22 = .ok (.getfield 11, 3) := by decide +kernel
theorem dX2_sumUp_25 : decode cX2_sumUp 25 = .ok (.bipush 6, 2) := by decide +kernel
theorem dX2_sumUp_27 : decode cX2_sumUp 27 = .ok (.aaload, 1) := by decide +kernel
theorem dX2_sumUp_28 : decode cX2_sumUp 28 = .ok (.iload_n 1, 1) := by decide +kernel
theorem dX2_sumUp_29 : decode cX2_sumUp 29 = .ok (.iaload, 1) := by decide +kernel
theorem dX2_sumUp_30 : decode cX2_sumUp 30 = .ok (.invokestatic 68, 3) := by decide +kernel
theorem dX2_sumUp_33 : decode cX2_sumUp 33 = .ok (.putfield 33, 3) := by decide +kernel
theorem dX2_sumUp_36 : decode cX2_sumUp 36 = .ok (.iinc 1 1, 3) := by decide +kernel
theorem dX2_sumUp_39 : decode cX2_sumUp 39 = .ok (.goto (-30), 3) := by decide +kernel
theorem dX2_sumUp_42 : decode cX2_sumUp 42 = .ok (.aload_n 0, 1) := by decide +kernel
theorem dX2_sumUp_43 : decode cX2_sumUp 43 = .ok (.iconst 0, 1) := by decide +kernel
theorem dX2_sumUp_44 : decode cX2_sumUp 44 = .ok (.putfield 36, 3) := by decide +kernel
theorem dX2_sumUp_47 : decode cX2_sumUp 47 = .ok (.aload_n 0, 1) := by decide +kernel
theorem dX2_sumUp_48 : decode cX2_sumUp 48 = .ok (.lconst 0, 1) := by decide +kernel
theorem dX2_sumUp_49 : decode cX2_sumUp 49 = .ok (.putfield 42, 3) := by decide +kernel
theorem dX2_sumUp_52 : decode cX2_sumUp 52 = .ok (.sipush 363, 3) := by decide +kernel
theorem dX2_sumUp_55 : decode cX2_sumUp 55 = .ok (.istore_n 1, 1) := by decide +kernel
theorem dX2_sumUp_56 : decode cX2_sumUp 56 = .ok (.iload_n 1, 1) := by decide +kernel
theorem dX2_sumUp_57 : decode cX2_sumUp 57 = .ok (.ifCond .lt 71, 3) := by decide +kernel
theorem dX2_sumUp_60 : decode cX2_sumUp 60 = .ok (.aload_n 0, 1) := by decide +kernel
theorem dX2_sumUp_61 : decode cX2_sumUp 61 = .ok (.getfield 33, 3) := by decide +kernel
theorem dX2_sumUp_64 : decode cX2_sumUp 64 = .ok (.sipush 1000, 3) := by decide +kernel
theorem dX2_sumUp_67 : decode cX2_sumUp 67 = .ok (.if_icmp .ge 61, 3) := by decide +kernel
theorem dX2_sumUp_70 : decode cX2_sumUp 70 = .ok (.aload_n 0, 1) := by decide +kernel
theorem dX2_sumUp_71 : decode cX2_sumUp 71 = .ok (.getfield 11, 3) := by decide +kernel
theorem dX2_sumUp_74 : decode cX2_sumUp 74 = .ok (.bipush 6, 2) := by decide +kernel
theorem dX2_sumUp_76 : decode cX2_sumUp 76 = .ok (.aaload, 1) := by decide +kernel
theorem dX2_sumUp_77 : decode cX2_sumUp 77 = .ok (.iload_n 1, 1) := by decide +kernel
theorem dX2_sumUp_78 : decode cX2_sumUp 78 = .ok (.iaload, 1) := by decide +kernel
theorem dX2_sumUp_79 : decode cX2_sumUp 79 = .ok (.aload_n 0, 1) := by decide +kernel
theorem dX2_sumUp_80 : decode cX2_sumUp 80 = .ok (.getfield 33, 3) := by decide +kernel
theorem dX2_sumUp_83 : decode cX2_sumUp 83 = .ok (.if_icmp .eq 6, 3) := by decide +kernel
theorem dX2_sumUp_86 : decode cX2_sumUp 86 = .ok (.goto 36, 3) := by decide +kernel
theorem dX2_sumUp_89 : decode cX2_sumUp 89 = .ok (.aload_n 0, 1) := by decide +kernel
theorem dX2_sumUp_90 : decode cX2_sumUp 90 = .ok (.dup, 1) := by decide +kernel
theorem dX2_sumUp_91 : decode cX2_sumUp 91 = .ok (.getfield 36, 3) := by decide +kernel
theorem dX2_sumUp_94 : decode cX2_sumUp 94 = .ok (.iconst 1, 1) := by decide +kernel
theorem dX2_sumUp_95 : decode cX2_sumUp 95 = .ok (.iadd, 1) := by decide +kernel
theorem dX2_sumUp_96 : decode cX2_sumUp 96 = .ok (.putfield 36, 3) := by decide +kernel
theorem dX2_sumUp_99 : decode cX2_sumUp 99 = .ok (.aload_n 0, 1) := by decide +kernel
theorem dX2_sumUp_100 : decode cX2_sumUp 100 = .ok (.iload_n 1, 1) := by decide +kernel
theorem dX2_sumUp_101 : decode cX2_sumUp 101 = .ok (.putfield 39, 3) := by decide +kernel
theorem dX2_sumUp_104 : decode cX2_sumUp 104 = .ok (.aload_n 0, 1) := by decide +kernel
theorem dX2_sumUp_105 : decode cX2_sumUp 105 = .ok (.dup, 1) := by decide +kernel
theorem dX2_sumUp_106 : decode cX2_sumUp 106 = .ok (.getfield 42, 3) := by decide +kernel
theorem dX2_sumUp_109 : decode cX2_sumUp 109 = .ok (.aload_n 0, 1) := by decide +kernel
theorem dX2_sumUp_110 : decode cX2_sumUp 110 = .ok (.getfield 18, 3) := by decide +kernel
theorem dX2_sumUp_113 : decode cX2_sumUp 113 = .ok (.bipush 6, 2) := by decide +kernel
theorem dX2_sumUp_115 : decode cX2_sumUp 115 = .ok (.aaload, 1) := by decide +kernel
theorem dX2_sumUp_116 : decode cX2_sumUp 116 = .ok (.iload_n 1, 1) := by decide +kernel
theorem dX2_sumUp_117 : decode cX2_sumUp 117 = .ok (.laload, 1) := by decide +kernel
theorem dX2_sumUp_118 : decode cX2_sumUp 118 = .ok (.ladd, 1) := by decide +kernel
theorem dX2_sumUp_119 : decode cX2_sumUp 119 = .ok (.putfield 42, 3) := by decide +kernel
theorem dX2_sumUp_122 : decode cX2_sumUp 122 = .ok (.iinc 1 (-1), 3) := by decide +kernel
theorem dX2_sumUp_125 : decode cX2_sumUp 125 = .ok (.goto (-69), 3) := by decide +kernel
theorem dX2_sumUp_128 : decode cX2_sumUp 128 = .ok (.return_, 1) := by decide +kernel
theorem dX3_init_0 : decode cX3_init 0 = .ok (.aload_n 0, 1) := by decide +kernel
theorem dX3_init_1 : decode cX3_init 1 = .ok (.invokespecial 3, 3) := by decide +kernel
theorem dX3_init_4 : decode cX3_init 4 = .ok (.aload_n 0, 1) := by decide +kernel
theorem dX3_init_5 : decode cX3_init 5 = .ok (.bipush 48, 2) := by decide +kernel
theorem dX3_init_7 : decode cX3_init 7 = .ok (.newarray .int, 2) := by decide +kernel
theorem dX3_init_9 : decode cX3_init 9 = .ok (.putfield 9, 3) := by decide +kernel
theorem dX3_init_12 : decode cX3_init 12 = .ok (.aload_n 0, 1) := by decide +kernel
theorem dX3_init_13 : decode cX3_init 13 = .ok (.iconst 0, 1) := by decide +kernel
theorem dX3_init_14 : decode cX3_init 14 = .ok (.putfield 15, 3) := by decide +kernel
theorem dX3_init_17 : decode cX3_init 17 = .ok (.return_, 1) := by decide +kernel
theorem dX3_add_0 : decode cX3_add 0 = .ok (.aload_n 0, 1) := by decide +kernel
theorem dX3_add_1 : decode cX3_add 1 = .ok (.getfield 15, 3) := by decide +kernel
theorem dX3_add_4 : decode cX3_add 4 = .ok (.ifCond .lt 12, 3) := by decide +kernel
theorem dX3_add_7 : decode cX3_add 7 = .ok (.aload_n 0, 1) := by decide +kernel
theorem dX3_add_8 : decode cX3_add 8 = .ok (.getfield 15, 3) := by decide +kernel
theorem dX3_add_11 : decode cX3_add 11 = .ok (.bipush 48, 2) := by decide +kernel
theorem dX3_add_13 : decode cX3_add 13 = .ok (.if_icmp .lt 5, 3) := by decide +kernel
theorem dX3_add_16 : decode cX3_add 16 = .ok (.iconst 0, 1) := by decide +kernel
theorem dX3_add_17 : decode cX3_add 17 = .ok (.ireturn, 1) := by decide +kernel
theorem dX3_add_18 : decode cX3_add 18 = .ok (.aload_n 0, 1) := by decide +kernel
theorem dX3_add_19 : decode cX3_add 19 = .ok (.getfield 9, 3) := by decide +kernel
theorem dX3_add_22 : decode cX3_add 22 = .ok (.aload_n 0, 1) := by decide +kernel
theorem dX3_add_23 : decode cX3_add 23 = .ok (.getfield 15, 3) := by decide +kernel
theorem dX3_add_26 : decode cX3_add 26 = .ok (.iload_n 1, 1) := by decide +kernel
theorem dX3_add_27 : decode cX3_add 27 = .ok (.iastore, 1) := by decide +kernel
theorem dX3_add_28 : decode cX3_add 28 = .ok (.aload_n 0, 1) := by decide +kernel
theorem dX3_add_29 : decode cX3_add 29 = .ok (.dup, 1) := by decide +kernel
theorem dX3_add_30 : decode cX3_add 30 = .ok (.getfield 15, 3) := by decide +kernel
theorem dX3_add_33 : decode cX3_add 33 = .ok (.iconst 1, 1) := by decide +kernel
theorem dX3_add_34 : decode cX3_add 34 = .ok (.iadd, 1) := by decide +kernel
theorem dX3_add_35 : decode cX3_add 35 = .ok (.putfield 15, 3) := by decide +kernel
theorem dX3_add_38 : decode cX3_add 38 = .ok (.iconst 1, 1) := by decide +kernel
theorem dX3_add_39 : decode cX3_add 39 = .ok (.ireturn, 1) := by decide +kernel
theorem dX3_sayingFault_0 : decode cX3_sayingFault 0 = .ok (.iconst 0, 1) := by decide +kernel
theorem dX3_sayingFault_1 : decode cX3_sayingFault 1 = .ok (.istore_n 1, 1) := by decide +kernel
theorem dX3_sayingFault_2 : decode cX3_sayingFault 2 = .ok (.iload_n 1, 1) := by decide +kernel
theorem dX3_sayingFault_3 : decode cX3_sayingFault 3 = .ok (.aload_n 0, 1) := by decide +kernel
theorem dX3_sayingFault_4 : decode cX3_sayingFault 4 = .ok (.getfield 15, 3) := by decide +kernel
theorem dX3_sayingFault_7 : decode cX3_sayingFault 7 = .ok (.if_icmp .ge 44, 3) := by decide +kernel
theorem dX3_sayingFault_10 : decode cX3_sayingFault 10 = .ok (.iload_n 1, 1) := by decide +kernel
theorem dX3_sayingFault_11 : decode cX3_sayingFault 11 = .ok (.bipush 48, 2) := by decide +kernel
theorem dX3_sayingFault_13 : decode cX3_sayingFault 13 = .ok (.if_icmp .ge 38, 3) := by decide +kernel
theorem dX3_sayingFault_16 : decode cX3_sayingFault 16 = .ok (.iload_n 1, 1) := by decide +kernel
theorem dX3_sayingFault_17 : decode cX3_sayingFault 17 = .ok (.iconst 5, 1) := by decide +kernel
theorem dX3_sayingFault_18 : decode cX3_sayingFault 18 = .ok (.if_icmp .ge 25, 3) := by decide +kernel
theorem dX3_sayingFault_21 : decode cX3_sayingFault 21 = .ok (.aload_n 0, 1) := by decide +kernel
theorem dX3_sayingFault_22 : decode cX3_sayingFault 22 = .ok (.getfield 9, 3) := by decide +kernel
theorem dX3_sayingFault_25 : decode cX3_sayingFault 25 = .ok (.iload_n 1, 1) := by decide +kernel
theorem dX3_sayingFault_26 : decode cX3_sayingFault 26 = .ok (.iaload, 1) := by decide +kernel
theorem dX3_sayingFault_27 : decode cX3_sayingFault 27 = .ok (.bipush 97, 2) := by decide +kernel
theorem dX3_sayingFault_29 : decode cX3_sayingFault 29 = .ok (.if_icmp .lt 14, 3) := by decide +kernel
theorem dX3_sayingFault_32 : decode cX3_sayingFault 32 = .ok (.aload_n 0, 1) := by decide +kernel
theorem dX3_sayingFault_33 : decode cX3_sayingFault 33 = .ok (.getfield 9, 3) := by decide +kernel
theorem dX3_sayingFault_36 : decode cX3_sayingFault 36 = .ok (.iload_n 1, 1) := by decide +kernel
theorem dX3_sayingFault_37 : decode cX3_sayingFault 37 = .ok (.iaload, 1) := by decide +kernel
theorem dX3_sayingFault_38 : decode cX3_sayingFault 38 = .ok (.bipush 99, 2) := by decide +kernel
theorem dX3_sayingFault_40 : decode cX3_sayingFault 40 = .ok (.if_icmp .le 5, 3) := by decide +kernel
theorem dX3_sayingFault_43 : decode cX3_sayingFault 43 = .ok (.iload_n 1, 1) := by decide +kernel
theorem dX3_sayingFault_44 : decode cX3_sayingFault 44 = .ok (.ireturn, 1) := by decide +kernel
theorem dX3_sayingFault_45 : decode cX3_sayingFault 45 = .ok (.iinc 1 1, 3) := by decide +kernel
theorem dX3_sayingFault_48 : decode cX3_sayingFault 48 = .ok (.goto (-46), 3) := by decide +kernel
theorem dX3_sayingFault_51 : decode cX3_sayingFault 51 = .ok (.bipush (-6), 2) := by decide +kernel
theorem dX3_sayingFault_53 : decode cX3_sayingFault 53 = .ok (.ireturn, 1) := by decide +kernel
theorem dX3_readSaying_0 : decode cX3_readSaying 0 = .ok (.aload_n 0, 1) := by decide +kernel
theorem dX3_readSaying_1 : decode cX3_readSaying 1 = .ok (.invokevirtual 19, 3) := by decide +kernel
theorem dX3_readSaying_4 : decode cX3_readSaying 4 = .ok (.bipush (-6), 2) := by decide +kernel
theorem dX3_readSaying_6 : decode cX3_readSaying 6 = .ok (.if_icmp .eq 5, 3) := by decide +kernel
theorem dX3_readSaying_9 : decode cX3_readSaying 9 = .ok (.iconst (-1), 1) := by decide +kernel
theorem dX3_readSaying_10 : decode cX3_readSaying 10 = .ok (.ireturn, 1) := by decide +kernel
theorem dX3_readSaying_11 : decode cX3_readSaying 11 = .ok (.iconst 0, 1) := by decide +kernel
theorem dX3_readSaying_12 : decode cX3_readSaying 12 = .ok (.istore_n 1, 1) := by decide +kernel
theorem dX3_readSaying_13 : decode cX3_readSaying 13 = .ok (.iconst 0, 1) := by decide +kernel
theorem dX3_readSaying_14 : decode cX3_readSaying 14 = .ok (.istore_n 2, 1) := by decide +kernel
theorem dX3_readSaying_15 : decode cX3_readSaying 15 = .ok (.iload_n 2, 1) := by decide +kernel
theorem dX3_readSaying_16 : decode cX3_readSaying 16 = .ok (.aload_n 0, 1) := by decide +kernel
theorem dX3_readSaying_17 : decode cX3_readSaying 17 = .ok (.getfield 15, 3) := by decide +kernel
theorem dX3_readSaying_20 : decode cX3_readSaying 20 = .ok (.if_icmp .ge 28, 3) := by decide +kernel
theorem dX3_readSaying_23 : decode cX3_readSaying 23 = .ok (.iload_n 2, 1) := by decide +kernel
theorem dX3_readSaying_24 : decode cX3_readSaying 24 = .ok (.iconst 5, 1) := by decide +kernel
theorem dX3_readSaying_25 : decode cX3_readSaying 25 = .ok (.if_icmp .ge 23, 3) := by decide +kernel
theorem dX3_readSaying_28 : decode cX3_readSaying 28 = .ok (.iload_n 1, 1) := by decide +kernel
theorem dX3_readSaying_29 : decode cX3_readSaying 29 = .ok (.iconst 3, 1) := by decide +kernel
theorem dX3_readSaying_30 : decode cX3_readSaying 30 = .ok (.imul, 1) := by decide +kernel
theorem dX3_readSaying_31 : decode cX3_readSaying 31 = .ok (.aload_n 0, 1) := by decide +kernel
theorem dX3_readSaying_32 : decode cX3_readSaying 32 = .ok (.getfield 9, 3) := by decide +kernel
theorem dX3_readSaying_35 : decode cX3_readSaying 35 = .ok (.iload_n 2, 1) := by decide +kernel
theorem dX3_readSaying_36 : decode cX3_readSaying 36 = .ok (.iaload, 1) := by decide +kernel
theorem dX3_readSaying_37 : decode cX3_readSaying 37 = .ok (.iadd, 1) := by decide +kernel
theorem dX3_readSaying_38 : decode cX3_readSaying 38 = .ok (.bipush 97, 2) := by decide +kernel
theorem dX3_readSaying_40 : decode cX3_readSaying 40 = .ok (.isub, 1) := by decide +kernel
theorem dX3_readSaying_41 : decode cX3_readSaying 41 = .ok (.istore_n 1, 1) := by decide +kernel
theorem dX3_readSaying_42 : decode cX3_readSaying 42 = .ok (.iinc 2 1, 3) := by decide +kernel
theorem dX3_readSaying_45 : decode cX3_readSaying 45 = .ok (.goto (-30), 3) := by decide +kernel
theorem dX3_readSaying_48 : decode cX3_readSaying 48 = .ok (.aload_n 0, 1) := by decide +kernel
theorem dX3_readSaying_49 : decode cX3_readSaying 49 = .ok (.getfield 15, 3) := by decide +kernel
theorem dX3_readSaying_52 : decode cX3_readSaying 52 = .ok (.invokestatic 23, 3) := by decide +kernel
theorem dX3_readSaying_55 : decode cX3_readSaying 55 = .ok (.iload_n 1, 1) := by decide +kernel
theorem dX3_readSaying_56 : decode cX3_readSaying 56 = .ok (.iadd, 1) := by decide +kernel
theorem dX3_readSaying_57 : decode cX3_readSaying 57 = .ok (.ireturn, 1) := by decide +kernel
theorem dX3_readDays_0 : decode cX3_readDays 0 = .ok (.aload_n 1, 1) := by decide +kernel
theorem dX3_readDays_1 : decode cX3_readDays 1 = .ok (.iconst 0, 1) := by decide +kernel
theorem dX3_readDays_2 : decode cX3_readDays 2 = .ok (.putfield 27, 3) := by decide +kernel
theorem dX3_readDays_5 : decode cX3_readDays 5 = .ok (.iconst 0, 1) := by decide +kernel
theorem dX3_readDays_6 : decode cX3_readDays 6 = .ok (.istore_n 2, 1) := by decide +kernel
theorem dX3_readDays_7 : decode cX3_readDays 7 = .ok (.bipush 6, 2) := by decide +kernel
theorem dX3_readDays_9 : decode cX3_readDays 9 = .ok (.istore_n 3, 1) := by decide +kernel
theorem dX3_readDays_10 : decode cX3_readDays 10 = .ok (.iconst 0, 1) := by decide +kernel
theorem dX3_readDays_11 : decode cX3_readDays 11 = .ok (.istore 4, 2) := by decide +kernel
theorem dX3_readDays_13 : decode cX3_readDays 13 = .ok (.iload 4, 2) := by decide +kernel
theorem dX3_readDays_15 : decode cX3_readDays 15 = .ok (.aload_n 0, 1) := by decide +kernel
theorem dX3_readDays_16 : decode cX3_readDays 16 = .ok (.getfield 15, 3) := by decide +kernel
theorem dX3_readDays_19 : decode cX3_readDays 19 = .ok (.if_icmp .ge 148, 3) := by decide +kernel
theorem dX3_readDays_22 : decode cX3_readDays 22 = .ok (.iload 4, 2) := by decide +kernel
theorem dX3_readDays_24 : decode cX3_readDays 24 = .ok (.bipush 48, 2) := by decide +kernel
theorem dX3_readDays_26 : decode cX3_readDays 26 = .ok (.if_icmp .ge 141, 3) := by decide +kernel
theorem dX3_readDays_29 : decode cX3_readDays 29 = .ok (.aload_n 0, 1) := by decide +kernel
theorem dX3_readDays_30 : decode cX3_readDays 30 = .ok (.getfield 9, 3) := by decide +kernel
theorem dX3_readDays_33 : decode cX3_readDays 33 = .ok (.iload 4, 2) := by decide +kernel
theorem dX3_readDays_35 : decode cX3_readDays 35 = .ok (.iaload, 1) := by decide +kernel
theorem dX3_readDays_36 : decode cX3_readDays 36 = .ok (.istore 5, 2) := by decide +kernel
theorem dX3_readDays_38 : decode cX3_readDays 38 = .ok (.iload_n 2, 1) := by decide +kernel
theorem dX3_readDays_39 : decode cX3_readDays 39 = .ok (.iconst 1, 1) := by decide +kernel
theorem dX3_readDays_40 : decode cX3_readDays 40 = .ok (.if_icmp .eq 8, 3) := by decide +kernel
theorem dX3_readDays_43 : decode cX3_readDays 43 = .ok (.iload_n 2, 1) := by decide +kernel
theorem dX3_readDays_44 : decode cX3_readDays 44 = .ok (.iconst 2, 1) := by decide +kernel
theorem dX3_readDays_45 : decode cX3_readDays 45 = .ok (.if_icmp .ne 48, 3) := by decide +kernel
theorem dX3_readDays_48 : decode cX3_readDays 48 = .ok (.iload 5, 2) := by decide +kernel
theorem dX3_readDays_50 : decode cX3_readDays 50 = .ok (.bipush 65, 2) := by decide +kernel
theorem dX3_readDays_52 : decode cX3_readDays 52 = .ok (.isub, 1) := by decide +kernel
theorem dX3_readDays_53 : decode cX3_readDays 53 = .ok (.istore 6, 2) := by decide +kernel
theorem dX3_readDays_55 : decode cX3_readDays 55 = .ok (.iload 6, 2) := by decide +kernel
theorem dX3_readDays_57 : decode cX3_readDays 57 = .ok (.invokestatic 32, 3) := by decide +kernel
theorem dX3_readDays_60 : decode cX3_readDays 60 = .ok (.ifCond .eq 9, 3) := by decide +kernel
theorem dX3_readDays_63 : decode cX3_readDays 63 = .ok (.iload 6, 2) := by decide +kernel
theorem dX3_readDays_65 : decode cX3_readDays 65 = .ok (.iload_n 3, 1) := by decide +kernel
theorem dX3_readDays_66 : decode cX3_readDays 66 = .ok (.if_icmp .ne 6, 3) := by decide +kernel
theorem dX3_readDays_69 : decode cX3_readDays 69 = .ok (.iload 4, 2) := by decide +kernel
theorem dX3_readDays_71 : decode cX3_readDays 71 = .ok (.ireturn, 1) := by decide +kernel
theorem dX3_readDays_72 : decode cX3_readDays 72 = .ok (.aload_n 1, 1) := by decide +kernel
theorem dX3_readDays_73 : decode cX3_readDays 73 = .ok (.iload_n 3, 1) := by decide +kernel
theorem dX3_readDays_74 : decode cX3_readDays 74 = .ok (.iload 6, 2) := by decide +kernel
theorem dX3_readDays_76 : decode cX3_readDays 76 = .ok (.invokevirtual 36, 3) := by decide +kernel
theorem dX3_readDays_79 : decode cX3_readDays 79 = .ok (.iload_n 2, 1) := by decide +kernel
theorem dX3_readDays_80 : decode cX3_readDays 80 = .ok (.iconst 1, 1) := by decide +kernel
theorem dX3_readDays_81 : decode cX3_readDays 81 = .ok (.if_icmp .ne 7, 3) := by decide +kernel
theorem dX3_readDays_84 : decode cX3_readDays 84 = .ok (.iconst 3, 1) := by decide +kernel
theorem dX3_readDays_85 : decode cX3_readDays 85 = .ok (.goto 4, 3) := by decide +kernel
theorem dX3_readDays_88 : decode cX3_readDays 88 = .ok (.iconst 0, 1) := by decide +kernel
theorem dX3_readDays_89 : decode cX3_readDays 89 = .ok (.istore_n 2, 1) := by decide +kernel
theorem dX3_readDays_90 : decode cX3_readDays 90 = .ok (.goto 71, 3) := by decide +kernel
theorem dX3_readDays_93 : decode cX3_readDays 93 = .ok (.iload_n 2, 1) := by decide +kernel
theorem dX3_readDays_94 : decode cX3_readDays 94 = .ok (.iconst 3, 1) := by decide +kernel
theorem dX3_readDays_95 : decode cX3_readDays 95 = .ok (.if_icmp .ne 31, 3) := by decide +kernel
theorem dX3_readDays_98 : decode cX3_readDays 98 = .ok (.iload 5, 2) := by decide +kernel
theorem dX3_readDays_100 : decode cX3_readDays 100 = .ok (.bipush 49, 2) := by decide +kernel
theorem dX3_readDays_102 : decode cX3_readDays 102 = .ok (.if_icmp .lt 24, 3) := by decide +kernel
theorem dX3_readDays_105 : decode cX3_readDays 105 = .ok (.iload 5, 2) := by decide +kernel
theorem dX3_readDays_107 : decode cX3_readDays 107 = .ok (.bipush 57, 2) := by decide +kernel
theorem dX3_readDays_109 : decode cX3_readDays 109 = .ok (.if_icmp .gt 17, 3) := by decide +kernel
theorem dX3_readDays_112 : decode cX3_readDays 112 = .ok (.aload_n 1, 1) := by decide +kernel
theorem dX3_readDays_113 : decode cX3_readDays 113 = .ok (.iload 5, 2) := by decide +kernel
theorem dX3_readDays_115 : decode cX3_readDays 115 = .ok (.bipush 48, 2) := by decide +kernel
theorem dX3_readDays_117 : decode cX3_readDays 117 = .ok (.isub, 1) := by decide +kernel
theorem dX3_readDays_118 : decode cX3_readDays 118 = .ok (.invokevirtual 40, 3) := by decide +kernel
theorem dX3_readDays_121 : decode cX3_readDays 121 = .ok (.iconst 0, 1) := by decide +kernel
theorem dX3_readDays_122 : decode cX3_readDays 122 = .ok (.istore_n 2, 1) := by decide +kernel
theorem dX3_readDays_123 : decode cX3_readDays 123 = .ok (.goto 38, 3) := by decide +kernel
theorem dX3_readDays_126 : decode cX3_readDays 126 = .ok (.iload 5, 2) := by decide +kernel
theorem dX3_readDays_128 : decode cX3_readDays 128 = .ok (.invokestatic 44, 3) := by decide +kernel
theorem dX3_readDays_131 : decode cX3_readDays 131 = .ok (.istore_n 3, 1) := by decide +kernel
theorem dX3_readDays_132 : decode cX3_readDays 132 = .ok (.iload_n 3, 1) := by decide +kernel
theorem dX3_readDays_133 : decode cX3_readDays 133 = .ok (.iconst (-1), 1) := by decide +kernel
theorem dX3_readDays_134 : decode cX3_readDays 134 = .ok (.if_icmp .eq 12, 3) := by decide +kernel
theorem dX3_readDays_137 : decode cX3_readDays 137 = .ok (.aload_n 1, 1) := by decide +kernel
theorem dX3_readDays_138 : decode cX3_readDays 138 = .ok (.getfield 27, 3) := by decide +kernel
theorem dX3_readDays_141 : decode cX3_readDays 141 = .ok (.bipush 16, 2) := by decide +kernel
theorem dX3_readDays_143 : decode cX3_readDays 143 = .ok (.if_icmp .lt 6, 3) := by decide +kernel
theorem dX3_readDays_146 : decode cX3_readDays 146 = .ok (.iload 4, 2) := by decide +kernel
theorem dX3_readDays_148 : decode cX3_readDays 148 = .ok (.ireturn, 1) := by decide +kernel
theorem dX3_readDays_149 : decode cX3_readDays 149 = .ok (.iload_n 3, 1) := by decide +kernel
theorem dX3_readDays_150 : decode cX3_readDays 150 = .ok (.bipush 7, 2) := by decide +kernel
theorem dX3_readDays_152 : decode cX3_readDays 152 = .ok (.if_icmp .ne 7, 3) := by decide +kernel
theorem dX3_readDays_155 : decode cX3_readDays 155 = .ok (.iconst 2, 1) := by decide +kernel
theorem dX3_readDays_156 : decode cX3_readDays 156 = .ok (.goto 4, 3) := by decide +kernel
theorem dX3_readDays_159 : decode cX3_readDays 159 = .ok (.iconst 1, 1) := by decide +kernel
theorem dX3_readDays_160 : decode cX3_readDays 160 = .ok (.istore_n 2, 1) := by decide +kernel
theorem dX3_readDays_161 : decode cX3_readDays 161 = .ok (.iinc 4 1, 3) := by decide +kernel
theorem dX3_readDays_164 : decode cX3_readDays 164 = .ok (.goto (-151), 3) := by decide +kernel
theorem dX3_readDays_167 : decode cX3_readDays 167 = .ok (.iload_n 2, 1) := by decide +kernel
theorem dX3_readDays_168 : decode cX3_readDays 168 = .ok (.iconst 1, 1) := by decide +kernel
theorem dX3_readDays_169 : decode cX3_readDays 169 = .ok (.if_icmp .eq 8, 3) := by decide +kernel
theorem dX3_readDays_172 : decode cX3_readDays 172 = .ok (.iload_n 2, 1) := by decide +kernel
theorem dX3_readDays_173 : decode cX3_readDays 173 = .ok (.iconst 2, 1) := by decide +kernel
theorem dX3_readDays_174 : decode cX3_readDays 174 = .ok (.if_icmp .ne 10, 3) := by decide +kernel
theorem dX3_readDays_177 : decode cX3_readDays 177 = .ok (.aload_n 0, 1) := by decide +kernel
theorem dX3_readDays_178 : decode cX3_readDays 178 = .ok (.getfield 15, 3) := by decide +kernel
theorem dX3_readDays_181 : decode cX3_readDays 181 = .ok (.goto 5, 3) := by decide +kernel
theorem dX3_readDays_184 : decode cX3_readDays 184 = .ok (.bipush (-6), 2) := by decide +kernel
theorem dX3_readDays_186 : decode cX3_readDays 186 = .ok (.ireturn, 1) := by decide +kernel
theorem dX3_speakerOf_0 : decode cX3_speakerOf 0 = .ok (.iload_n 0, 1) := by decide +kernel
theorem dX3_speakerOf_1 : decode cX3_speakerOf 1 = .ok (.bipush 88, 2) := by decide +kernel
theorem dX3_speakerOf_3 : decode cX3_speakerOf 3 = .ok (.if_icmp .ne 6, 3) := by decide +kernel
theorem dX3_speakerOf_6 : decode cX3_speakerOf 6 = .ok (.bipush 6, 2) := by decide +kernel
theorem dX3_speakerOf_8 : decode cX3_speakerOf 8 = .ok (.ireturn, 1) := by decide +kernel
theorem dX3_speakerOf_9 : decode cX3_speakerOf 9 = .ok (.iload_n 0, 1) := by decide +kernel
theorem dX3_speakerOf_10 : decode cX3_speakerOf 10 = .ok (.bipush 109, 2) := by decide +kernel
theorem dX3_speakerOf_12 : decode cX3_speakerOf 12 = .ok (.if_icmp .ne 6, 3) := by decide +kernel
theorem dX3_speakerOf_15 : decode cX3_speakerOf 15 = .ok (.bipush 7, 2) := by decide +kernel
theorem dX3_speakerOf_17 : decode cX3_speakerOf 17 = .ok (.ireturn, 1) := by decide +kernel
theorem dX3_speakerOf_18 : decode cX3_speakerOf 18 = .ok (.iload_n 0, 1) := by decide +kernel
theorem dX3_speakerOf_19 : decode cX3_speakerOf 19 = .ok (.bipush 65, 2) := by decide +kernel
theorem dX3_speakerOf_21 : decode cX3_speakerOf 21 = .ok (.isub, 1) := by decide +kernel
theorem dX3_speakerOf_22 : decode cX3_speakerOf 22 = .ok (.invokestatic 32, 3) := by decide +kernel
theorem dX3_speakerOf_25 : decode cX3_speakerOf 25 = .ok (.ifCond .eq 10, 3) := by decide +kernel
theorem dX3_speakerOf_28 : decode cX3_speakerOf 28 = .ok (.iload_n 0, 1) := by decide +kernel
theorem dX3_speakerOf_29 : decode cX3_speakerOf 29 = .ok (.bipush 65, 2) := by decide +kernel
theorem dX3_speakerOf_31 : decode cX3_speakerOf 31 = .ok (.isub, 1) := by decide +kernel
theorem dX3_speakerOf_32 : decode cX3_speakerOf 32 = .ok (.goto 4, 3) := by decide +kernel
theorem dX3_speakerOf_35 : decode cX3_speakerOf 35 = .ok (.iconst (-1), 1) := by decide +kernel
theorem dX3_speakerOf_36 : decode cX3_speakerOf 36 = .ok (.ireturn, 1) := by decide +kernel
theorem dX4_init_0 : decode cX4_init 0 = .ok (.aload_n 0, 1) := by decide +kernel
theorem dX4_init_1 : decode cX4_init 1 = .ok (.invokespecial 3, 3) := by decide +kernel
theorem dX4_init_4 : decode cX4_init 4 = .ok (.aload_n 0, 1) := by decide +kernel
theorem dX4_init_5 : decode cX4_init 5 = .ok (.sipush 5712, 3) := by decide +kernel
theorem dX4_init_8 : decode cX4_init 8 = .ok (.newarray .int, 2) := by decide +kernel
theorem dX4_init_10 : decode cX4_init 10 = .ok (.putfield 9, 3) := by decide +kernel
theorem dX4_init_13 : decode cX4_init 13 = .ok (.aload_n 0, 1) := by decide +kernel
theorem dX4_init_14 : decode cX4_init 14 = .ok (.sipush 1093, 3) := by decide +kernel
theorem dX4_init_17 : decode cX4_init 17 = .ok (.newarray .int, 2) := by decide +kernel
theorem dX4_init_19 : decode cX4_init 19 = .ok (.putfield 15, 3) := by decide +kernel
theorem dX4_init_22 : decode cX4_init 22 = .ok (.aload_n 0, 1) := by decide +kernel
theorem dX4_init_23 : decode cX4_init 23 = .ok (.iconst 0, 1) := by decide +kernel
theorem dX4_init_24 : decode cX4_init 24 = .ok (.putfield 18, 3) := by decide +kernel
theorem dX4_init_27 : decode cX4_init 27 = .ok (.iconst 1, 1) := by decide +kernel
theorem dX4_init_28 : decode cX4_init 28 = .ok (.istore_n 1, 1) := by decide +kernel
theorem dX4_init_29 : decode cX4_init 29 = .ok (.iload_n 1, 1) := by decide +kernel
theorem dX4_init_30 : decode cX4_init 30 = .ok (.iconst 3, 1) := by decide +kernel
theorem dX4_init_31 : decode cX4_init 31 = .ok (.if_icmp .gt 56, 3) := by decide +kernel
theorem dX4_init_34 : decode cX4_init 34 = .ok (.iconst 0, 1) := by decide +kernel
theorem dX4_init_35 : decode cX4_init 35 = .ok (.istore_n 2, 1) := by decide +kernel
theorem dX4_init_36 : decode cX4_init 36 = .ok (.iload_n 2, 1) := by decide +kernel
theorem dX4_init_37 : decode cX4_init 37 = .ok (.sipush 364, 3) := by decide +kernel
theorem dX4_init_40 : decode cX4_init 40 = .ok (.if_icmp .ge 41, 3) := by decide +kernel
theorem dX4_init_43 : decode cX4_init 43 = .ok (.iload_n 1, 1) := by decide +kernel
theorem dX4_init_44 : decode cX4_init 44 = .ok (.iconst 1, 1) := by decide +kernel
theorem dX4_init_45 : decode cX4_init 45 = .ok (.isub, 1) := by decide +kernel
theorem dX4_init_46 : decode cX4_init 46 = .ok (.sipush 364, 3) := by decide +kernel
theorem dX4_init_49 : decode cX4_init 49 = .ok (.imul, 1) := by decide +kernel
theorem dX4_init_50 : decode cX4_init 50 = .ok (.iload_n 2, 1) := by decide +kernel
theorem dX4_init_51 : decode cX4_init 51 = .ok (.iadd, 1) := by decide +kernel
theorem dX4_init_52 : decode cX4_init 52 = .ok (.istore_n 3, 1) := by decide +kernel
theorem dX4_init_53 : decode cX4_init 53 = .ok (.aload_n 0, 1) := by decide +kernel
theorem dX4_init_54 : decode cX4_init 54 = .ok (.iload_n 1, 1) := by decide +kernel
theorem dX4_init_55 : decode cX4_init 55 = .ok (.iload_n 2, 1) := by decide +kernel
theorem dX4_init_56 : decode cX4_init 56 = .ok (.aload_n 0, 1) := by decide +kernel
theorem dX4_init_57 : decode cX4_init 57 = .ok (.getfield 18, 3) := by decide +kernel
theorem dX4_init_60 : decode cX4_init 60 = .ok (.invokevirtual 22, 3) := by decide +kernel
theorem dX4_init_63 : decode cX4_init 63 = .ok (.aload_n 0, 1) := by decide +kernel
theorem dX4_init_64 : decode cX4_init 64 = .ok (.getfield 15, 3) := by decide +kernel
theorem dX4_init_67 : decode cX4_init 67 = .ok (.iload_n 3, 1) := by decide +kernel
theorem dX4_init_68 : decode cX4_init 68 = .ok (.iconst 1, 1) := by decide +kernel
theorem dX4_init_69 : decode cX4_init 69 = .ok (.iadd, 1) := by decide +kernel
theorem dX4_init_70 : decode cX4_init 70 = .ok (.aload_n 0, 1) := by decide +kernel
theorem dX4_init_71 : decode cX4_init 71 = .ok (.getfield 18, 3) := by decide +kernel
theorem dX4_init_74 : decode cX4_init 74 = .ok (.iastore, 1) := by decide +kernel
theorem dX4_init_75 : decode cX4_init 75 = .ok (.iinc 2 1, 3) := by decide +kernel
theorem dX4_init_78 : decode cX4_init 78 = .ok (.goto (-42), 3) := by decide +kernel
theorem dX4_init_81 : decode cX4_init 81 = .ok (.iinc 1 1, 3) := by decide +kernel
theorem dX4_init_84 : decode cX4_init 84 = .ok (.goto (-55), 3) := by decide +kernel
theorem dX4_init_87 : decode cX4_init 87 = .ok (.return_, 1) := by decide +kernel
theorem dX4_list_0 : decode cX4_list 0 = .ok (.iload_n 2, 1) := by decide +kernel
theorem dX4_list_1 : decode cX4_list 1 = .ok (.invokestatic 26, 3) := by decide +kernel
theorem dX4_list_4 : decode cX4_list 4 = .ok (.istore 4, 2) := by decide +kernel
theorem dX4_list_6 : decode cX4_list 6 = .ok (.iload_n 1, 1) := by decide +kernel
theorem dX4_list_7 : decode cX4_list 7 = .ok (.iconst 3, 1) := by decide +kernel
theorem dX4_list_8 : decode cX4_list 8 = .ok (.if_icmp .ne 10, 3) := by decide +kernel
theorem dX4_list_11 : decode cX4_list 11 = .ok (.iload 4, 2) := by decide +kernel
theorem dX4_list_13 : decode cX4_list 13 = .ok (.iconst 5, 1) := by decide +kernel
theorem dX4_list_14 : decode cX4_list 14 = .ok (.if_icmp .ne 4, 3) := by decide +kernel
theorem dX4_list_17 : decode cX4_list 17 = .ok (.return_, 1) := by decide +kernel
theorem dX4_list_18 : decode cX4_list 18 = .ok (.iload_n 1, 1) := by decide +kernel
theorem dX4_list_19 : decode cX4_list 19 = .ok (.iconst 3, 1) := by decide +kernel
theorem dX4_list_20 : decode cX4_list 20 = .ok (.if_icmp .ne 10, 3) := by decide +kernel
theorem dX4_list_23 : decode cX4_list 23 = .ok (.iload 4, 2) := by decide +kernel
theorem dX4_list_25 : decode cX4_list 25 = .ok (.iconst 1, 1) := by decide +kernel
theorem dX4_list_26 : decode cX4_list 26 = .ok (.iadd, 1) := by decide +kernel
theorem dX4_list_27 : decode cX4_list 27 = .ok (.goto 5, 3) := by decide +kernel
theorem dX4_list_30 : decode cX4_list 30 = .ok (.iload 4, 2) := by decide +kernel
theorem dX4_list_32 : decode cX4_list 32 = .ok (.istore 5, 2) := by decide +kernel
theorem dX4_list_34 : decode cX4_list 34 = .ok (.iload_n 1, 1) := by decide +kernel
theorem dX4_list_35 : decode cX4_list 35 = .ok (.iconst 1, 1) := by decide +kernel
theorem dX4_list_36 : decode cX4_list 36 = .ok (.if_icmp .ne 7, 3) := by decide +kernel
theorem dX4_list_39 : decode cX4_list 39 = .ok (.iconst 1, 1) := by decide +kernel
theorem dX4_list_40 : decode cX4_list 40 = .ok (.goto 4, 3) := by decide +kernel
theorem dX4_list_43 : decode cX4_list 43 = .ok (.iconst 3, 1) := by decide +kernel
theorem dX4_list_44 : decode cX4_list 44 = .ok (.istore 6, 2) := by decide +kernel
theorem dX4_list_46 : decode cX4_list 46 = .ok (.iconst 0, 1) := by decide +kernel
theorem dX4_list_47 : decode cX4_list 47 = .ok (.istore 7, 2) := by decide +kernel
theorem dX4_list_49 : decode cX4_list 49 = .ok (.iload 7, 2) := by decide +kernel
theorem dX4_list_51 : decode cX4_list 51 = .ok (.iload 5, 2) := by decide +kernel
theorem dX4_list_53 : decode cX4_list 53 = .ok (.if_icmp .ge 48, 3) := by decide +kernel
theorem dX4_list_56 : decode cX4_list 56 = .ok (.iconst 0, 1) := by decide +kernel
theorem dX4_list_57 : decode cX4_list 57 = .ok (.istore 8, 2) := by decide +kernel
theorem dX4_list_59 : decode cX4_list 59 = .ok (.iload 8, 2) := by decide +kernel
theorem dX4_list_61 : decode cX4_list 61 = .ok (.iload 6, 2) := by decide +kernel
theorem dX4_list_63 : decode cX4_list 63 = .ok (.if_icmp .ge 32, 3) := by decide +kernel
theorem dX4_list_66 : decode cX4_list 66 = .ok (.aload_n 0, 1) := by decide +kernel
theorem dX4_list_67 : decode cX4_list 67 = .ok (.iload_n 3, 1) := by decide +kernel
theorem dX4_list_68 : decode cX4_list 68 = .ok (.iload_n 2, 1) := by decide +kernel
theorem dX4_list_69 : decode cX4_list 69 = .ok (.iload_n 1, 1) := by decide +kernel
theorem dX4_list_70 : decode cX4_list 70 = .ok (.iload_n 2, 1) := by decide +kernel
theorem dX4_list_71 : decode cX4_list 71 = .ok (.iload 4, 2) := by decide +kernel
theorem dX4_list_73 : decode cX4_list 73 = .ok (.invokestatic 30, 3) := by decide +kernel
theorem dX4_list_76 : decode cX4_list 76 = .ok (.isub, 1) := by decide +kernel
theorem dX4_list_77 : decode cX4_list 77 = .ok (.iload 4, 2) := by decide +kernel
theorem dX4_list_79 : decode cX4_list 79 = .ok (.iload 7, 2) := by decide +kernel
theorem dX4_list_81 : decode cX4_list 81 = .ok (.iload 8, 2) := by decide +kernel
theorem dX4_list_83 : decode cX4_list 83 = .ok (.invokestatic 33, 3) := by decide +kernel
theorem dX4_list_86 : decode cX4_list 86 = .ok (.invokevirtual 37, 3) := by decide +kernel
theorem dX4_list_89 : decode cX4_list 89 = .ok (.iinc 8 1, 3) := by decide +kernel
theorem dX4_list_92 : decode cX4_list 92 = .ok (.goto (-33), 3) := by decide +kernel
theorem dX4_list_95 : decode cX4_list 95 = .ok (.iinc 7 1, 3) := by decide +kernel
theorem dX4_list_98 : decode cX4_list 98 = .ok (.goto (-49), 3) := by decide +kernel
theorem dX4_list_101 : decode cX4_list 101 = .ok (.return_, 1) := by decide +kernel
theorem dX4_addUnlike_0 : decode cX4_addUnlike 0 = .ok (.iload_n 3, 1) := by decide +kernel
theorem dX4_addUnlike_1 : decode cX4_addUnlike 1 = .ok (.iload_n 2, 1) := by decide +kernel
theorem dX4_addUnlike_2 : decode cX4_addUnlike 2 = .ok (.if_icmp .eq 15, 3) := by decide +kernel
theorem dX4_addUnlike_5 : decode cX4_addUnlike 5 = .ok (.aload_n 0, 1) := by decide +kernel
theorem dX4_addUnlike_6 : decode cX4_addUnlike 6 = .ok (.getfield 18, 3) := by decide +kernel
theorem dX4_addUnlike_9 : decode cX4_addUnlike 9 = .ok (.aload_n 0, 1) := by decide +kernel
theorem dX4_addUnlike_10 : decode cX4_addUnlike 10 = .ok (.getfield 9, 3) := by decide +kernel
theorem dX4_addUnlike_13 : decode cX4_addUnlike 13 = .ok (.arraylength, 1) := by decide +kernel
theorem dX4_addUnlike_14 : decode cX4_addUnlike 14 = .ok (.if_icmp .lt 4, 3) := by decide +kernel
theorem dX4_addUnlike_17 : decode cX4_addUnlike 17 = .ok (.return_, 1) := by decide +kernel
theorem dX4_addUnlike_18 : decode cX4_addUnlike 18 = .ok (.iload_n 1, 1) := by decide +kernel
theorem dX4_addUnlike_19 : decode cX4_addUnlike 19 = .ok (.istore 4, 2) := by decide +kernel
theorem dX4_addUnlike_21 : decode cX4_addUnlike 21 = .ok (.iload 4, 2) := by decide +kernel
theorem dX4_addUnlike_23 : decode cX4_addUnlike 23 = .ok (.aload_n 0, 1) := by decide +kernel
theorem dX4_addUnlike_24 : decode cX4_addUnlike 24 = .ok (.getfield 18, 3) := by decide +kernel
theorem dX4_addUnlike_27 : decode cX4_addUnlike 27 = .ok (.if_icmp .ge 21, 3) := by decide +kernel
theorem dX4_addUnlike_30 : decode cX4_addUnlike 30 = .ok (.aload_n 0, 1) := by decide +kernel
theorem dX4_addUnlike_31 : decode cX4_addUnlike 31 = .ok (.getfield 9, 3) := by decide +kernel
theorem dX4_addUnlike_34 : decode cX4_addUnlike 34 = .ok (.iload 4, 2) := by decide +kernel
theorem dX4_addUnlike_36 : decode cX4_addUnlike 36 = .ok (.iaload, 1) := by decide +kernel
theorem dX4_addUnlike_37 : decode cX4_addUnlike 37 = .ok (.iload_n 3, 1) := by decide +kernel
theorem dX4_addUnlike_38 : decode cX4_addUnlike 38 = .ok (.if_icmp .ne 4, 3) := by decide +kernel
theorem dX4_addUnlike_41 : decode cX4_addUnlike 41 = .ok (.return_, 1) := by decide +kernel
theorem dX4_addUnlike_42 : decode cX4_addUnlike 42 = .ok (.iinc 4 1, 3) := by decide +kernel
theorem dX4_addUnlike_45 : decode cX4_addUnlike 45 = .ok (.goto (-24), 3) := by decide +kernel
theorem dX4_addUnlike_48 : decode cX4_addUnlike 48 = .ok (.aload_n 0, 1) := by decide +kernel
theorem dX4_addUnlike_49 : decode cX4_addUnlike 49 = .ok (.getfield 9, 3) := by decide +kernel
theorem dX4_addUnlike_52 : decode cX4_addUnlike 52 = .ok (.aload_n 0, 1) := by decide +kernel
theorem dX4_addUnlike_53 : decode cX4_addUnlike 53 = .ok (.getfield 18, 3) := by decide +kernel
theorem dX4_addUnlike_56 : decode cX4_addUnlike 56 = .ok (.iload_n 3, 1) := by decide +kernel
theorem dX4_addUnlike_57 : decode cX4_addUnlike 57 = .ok (.iastore, 1) := by decide +kernel
theorem dX4_addUnlike_58 : decode cX4_addUnlike 58 = .ok (.aload_n 0, 1) := by decide +kernel
theorem dX4_addUnlike_59 : decode cX4_addUnlike 59 = .ok (.dup, 1) := by decide +kernel
theorem dX4_addUnlike_60 : decode cX4_addUnlike 60 = .ok (.getfield 18, 3) := by decide +kernel
theorem dX4_addUnlike_63 : decode cX4_addUnlike 63 = .ok (.iconst 1, 1) := by decide +kernel
theorem dX4_addUnlike_64 : decode cX4_addUnlike 64 = .ok (.iadd, 1) := by decide +kernel
theorem dX4_addUnlike_65 : decode cX4_addUnlike 65 = .ok (.putfield 18, 3) := by decide +kernel
theorem dX4_addUnlike_68 : decode cX4_addUnlike 68 = .ok (.return_, 1) := by decide +kernel
theorem dX4_slipped_0 : decode cX4_slipped 0 = .ok (.iload_n 0, 1) := by decide +kernel
theorem dX4_slipped_1 : decode cX4_slipped 1 = .ok (.iconst 3, 1) := by decide +kernel
theorem dX4_slipped_2 : decode cX4_slipped 2 = .ok (.if_icmp .ne 36, 3) := by decide +kernel
theorem dX4_slipped_5 : decode cX4_slipped 5 = .ok (.iload_n 2, 1) := by decide +kernel
theorem dX4_slipped_6 : decode cX4_slipped 6 = .ok (.iload_n 3, 1) := by decide +kernel
theorem dX4_slipped_7 : decode cX4_slipped 7 = .ok (.isub, 1) := by decide +kernel
theorem dX4_slipped_8 : decode cX4_slipped 8 = .ok (.invokestatic 40, 3) := by decide +kernel
theorem dX4_slipped_11 : decode cX4_slipped 11 = .ok (.istore 5, 2) := by decide +kernel
theorem dX4_slipped_13 : decode cX4_slipped 13 = .ok (.iload_n 2, 1) := by decide +kernel
theorem dX4_slipped_14 : decode cX4_slipped 14 = .ok (.iconst 1, 1) := by decide +kernel
theorem dX4_slipped_15 : decode cX4_slipped 15 = .ok (.iadd, 1) := by decide +kernel
theorem dX4_slipped_16 : decode cX4_slipped 16 = .ok (.invokestatic 30, 3) := by decide +kernel
theorem dX4_slipped_19 : decode cX4_slipped 19 = .ok (.iload_n 1, 1) := by decide +kernel
theorem dX4_slipped_20 : decode cX4_slipped 20 = .ok (.iload 5, 2) := by decide +kernel
theorem dX4_slipped_22 : decode cX4_slipped 22 = .ok (.idiv, 1) := by decide +kernel
theorem dX4_slipped_23 : decode cX4_slipped 23 = .ok (.iconst 3, 1) := by decide +kernel
theorem dX4_slipped_24 : decode cX4_slipped 24 = .ok (.imul, 1) := by decide +kernel
theorem dX4_slipped_25 : decode cX4_slipped 25 = .ok (.iload 4, 2) := by decide +kernel
theorem dX4_slipped_27 : decode cX4_slipped 27 = .ok (.iadd, 1) := by decide +kernel
theorem dX4_slipped_28 : decode cX4_slipped 28 = .ok (.iload 5, 2) := by decide +kernel
theorem dX4_slipped_30 : decode cX4_slipped 30 = .ok (.imul, 1) := by decide +kernel
theorem dX4_slipped_31 : decode cX4_slipped 31 = .ok (.iadd, 1) := by decide +kernel
theorem dX4_slipped_32 : decode cX4_slipped 32 = .ok (.iload_n 1, 1) := by decide +kernel
theorem dX4_slipped_33 : decode cX4_slipped 33 = .ok (.iload 5, 2) := by decide +kernel
theorem dX4_slipped_35 : decode cX4_slipped 35 = .ok (.irem, 1) := by decide +kernel
theorem dX4_slipped_36 : decode cX4_slipped 36 = .ok (.iadd, 1) := by decide +kernel
theorem dX4_slipped_37 : decode cX4_slipped 37 = .ok (.ireturn, 1) := by decide +kernel
theorem dX4_slipped_38 : decode cX4_slipped 38 = .ok (.iload_n 2, 1) := by decide +kernel
theorem dX4_slipped_39 : decode cX4_slipped 39 = .ok (.iconst 1, 1) := by decide +kernel
theorem dX4_slipped_40 : decode cX4_slipped 40 = .ok (.isub, 1) := by decide +kernel
theorem dX4_slipped_41 : decode cX4_slipped 41 = .ok (.iload_n 3, 1) := by decide +kernel
theorem dX4_slipped_42 : decode cX4_slipped 42 = .ok (.isub, 1) := by decide +kernel
theorem dX4_slipped_43 : decode cX4_slipped 43 = .ok (.invokestatic 40, 3) := by decide +kernel
theorem dX4_slipped_46 : decode cX4_slipped 46 = .ok (.istore 5, 2) := by decide +kernel
theorem dX4_slipped_48 : decode cX4_slipped 48 = .ok (.iload_n 1, 1) := by decide +kernel
theorem dX4_slipped_49 : decode cX4_slipped 49 = .ok (.iload 5, 2) := by decide +kernel
theorem dX4_slipped_51 : decode cX4_slipped 51 = .ok (.iconst 3, 1) := by decide +kernel
theorem dX4_slipped_52 : decode cX4_slipped 52 = .ok (.imul, 1) := by decide +kernel
theorem dX4_slipped_53 : decode cX4_slipped 53 = .ok (.idiv, 1) := by decide +kernel
theorem dX4_slipped_54 : decode cX4_slipped 54 = .ok (.istore 6, 2) := by decide +kernel
theorem dX4_slipped_56 : decode cX4_slipped 56 = .ok (.iload_n 0, 1) := by decide +kernel
theorem dX4_slipped_57 : decode cX4_slipped 57 = .ok (.iconst 1, 1) := by decide +kernel
theorem dX4_slipped_58 : decode cX4_slipped 58 = .ok (.if_icmp .ne 21, 3) := by decide +kernel
theorem dX4_slipped_61 : decode cX4_slipped 61 = .ok (.iload_n 2, 1) := by decide +kernel
theorem dX4_slipped_62 : decode cX4_slipped 62 = .ok (.iconst 1, 1) := by decide +kernel
theorem dX4_slipped_63 : decode cX4_slipped 63 = .ok (.isub, 1) := by decide +kernel
theorem dX4_slipped_64 : decode cX4_slipped 64 = .ok (.invokestatic 30, 3) := by decide +kernel
theorem dX4_slipped_67 : decode cX4_slipped 67 = .ok (.iload 6, 2) := by decide +kernel
theorem dX4_slipped_69 : decode cX4_slipped 69 = .ok (.iload 5, 2) := by decide +kernel
theorem dX4_slipped_71 : decode cX4_slipped 71 = .ok (.imul, 1) := by decide +kernel
theorem dX4_slipped_72 : decode cX4_slipped 72 = .ok (.iadd, 1) := by decide +kernel
theorem dX4_slipped_73 : decode cX4_slipped 73 = .ok (.iload_n 1, 1) := by decide +kernel
theorem dX4_slipped_74 : decode cX4_slipped 74 = .ok (.iload 5, 2) := by decide +kernel
theorem dX4_slipped_76 : decode cX4_slipped 76 = .ok (.irem, 1) := by decide +kernel
theorem dX4_slipped_77 : decode cX4_slipped 77 = .ok (.iadd, 1) := by decide +kernel
theorem dX4_slipped_78 : decode cX4_slipped 78 = .ok (.ireturn, 1) := by decide +kernel
theorem dX4_slipped_79 : decode cX4_slipped 79 = .ok (.iload_n 2, 1) := by decide +kernel
theorem dX4_slipped_80 : decode cX4_slipped 80 = .ok (.invokestatic 30, 3) := by decide +kernel
theorem dX4_slipped_83 : decode cX4_slipped 83 = .ok (.iload 6, 2) := by decide +kernel
theorem dX4_slipped_85 : decode cX4_slipped 85 = .ok (.iconst 3, 1) := by decide +kernel
theorem dX4_slipped_86 : decode cX4_slipped 86 = .ok (.imul, 1) := by decide +kernel
theorem dX4_slipped_87 : decode cX4_slipped 87 = .ok (.iload 4, 2) := by decide +kernel
theorem dX4_slipped_89 : decode cX4_slipped 89 = .ok (.iadd, 1) := by decide +kernel
theorem dX4_slipped_90 : decode cX4_slipped 90 = .ok (.iload 5, 2) := by decide +kernel
theorem dX4_slipped_92 : decode cX4_slipped 92 = .ok (.imul, 1) := by decide +kernel
theorem dX4_slipped_93 : decode cX4_slipped 93 = .ok (.iadd, 1) := by decide +kernel
theorem dX4_slipped_94 : decode cX4_slipped 94 = .ok (.iload_n 1, 1) := by decide +kernel
theorem dX4_slipped_95 : decode cX4_slipped 95 = .ok (.iload 5, 2) := by decide +kernel
theorem dX4_slipped_97 : decode cX4_slipped 97 = .ok (.irem, 1) := by decide +kernel
theorem dX4_slipped_98 : decode cX4_slipped 98 = .ok (.iadd, 1) := by decide +kernel
theorem dX4_slipped_99 : decode cX4_slipped 99 = .ok (.ireturn, 1) := by decide +kernel
theorem dX4_rowOf_0 : decode cX4_rowOf 0 = .ok (.iload_n 0, 1) := by decide +kernel
theorem dX4_rowOf_1 : decode cX4_rowOf 1 = .ok (.iconst 1, 1) := by decide +kernel
theorem dX4_rowOf_2 : decode cX4_rowOf 2 = .ok (.if_icmp .lt 23, 3) := by decide +kernel
theorem dX4_rowOf_5 : decode cX4_rowOf 5 = .ok (.iload_n 0, 1) := by decide +kernel
theorem dX4_rowOf_6 : decode cX4_rowOf 6 = .ok (.iconst 3, 1) := by decide +kernel
theorem dX4_rowOf_7 : decode cX4_rowOf 7 = .ok (.if_icmp .gt 18, 3) := by decide +kernel
theorem dX4_rowOf_10 : decode cX4_rowOf 10 = .ok (.iload_n 1, 1) := by decide +kernel
theorem dX4_rowOf_11 : decode cX4_rowOf 11 = .ok (.ifCond .lt 14, 3) := by decide +kernel
theorem dX4_rowOf_14 : decode cX4_rowOf 14 = .ok (.iload_n 1, 1) := by decide +kernel
theorem dX4_rowOf_15 : decode cX4_rowOf 15 = .ok (.sipush 364, 3) := by decide +kernel
theorem dX4_rowOf_18 : decode cX4_rowOf 18 = .ok (.if_icmp .ge 7, 3) := by decide +kernel
theorem dX4_rowOf_21 : decode cX4_rowOf 21 = .ok (.iconst 1, 1) := by decide +kernel
theorem dX4_rowOf_22 : decode cX4_rowOf 22 = .ok (.goto 4, 3) := by decide +kernel
theorem dX4_rowOf_25 : decode cX4_rowOf 25 = .ok (.iconst 0, 1) := by decide +kernel
theorem dX4_rowOf_26 : decode cX4_rowOf 26 = .ok (.istore_n 2, 1) := by decide +kernel
theorem dX4_rowOf_27 : decode cX4_rowOf 27 = .ok (.iload_n 2, 1) := by decide +kernel
theorem dX4_rowOf_28 : decode cX4_rowOf 28 = .ok (.ifCond .eq 15, 3) := by decide +kernel
theorem dX4_rowOf_31 : decode cX4_rowOf 31 = .ok (.iload_n 0, 1) := by decide +kernel
theorem dX4_rowOf_32 : decode cX4_rowOf 32 = .ok (.iconst 1, 1) := by decide +kernel
theorem dX4_rowOf_33 : decode cX4_rowOf 33 = .ok (.isub, 1) := by decide +kernel
theorem dX4_rowOf_34 : decode cX4_rowOf 34 = .ok (.sipush 364, 3) := by decide +kernel
theorem dX4_rowOf_37 : decode cX4_rowOf 37 = .ok (.imul, 1) := by decide +kernel
theorem dX4_rowOf_38 : decode cX4_rowOf 38 = .ok (.iload_n 1, 1) := by decide +kernel
theorem dX4_rowOf_39 : decode cX4_rowOf 39 = .ok (.iadd, 1) := by decide +kernel
theorem dX4_rowOf_40 : decode cX4_rowOf 40 = .ok (.goto 4, 3) := by decide +kernel
theorem dX4_rowOf_43 : decode cX4_rowOf 43 = .ok (.iconst (-1), 1) := by decide +kernel
theorem dX4_rowOf_44 : decode cX4_rowOf 44 = .ok (.ireturn, 1) := by decide +kernel
theorem dX4_count_0 : decode cX4_count 0 = .ok (.iload_n 1, 1) := by decide +kernel
theorem dX4_count_1 : decode cX4_count 1 = .ok (.iload_n 2, 1) := by decide +kernel
theorem dX4_count_2 : decode cX4_count 2 = .ok (.invokestatic 43, 3) := by decide +kernel
theorem dX4_count_5 : decode cX4_count 5 = .ok (.istore_n 3, 1) := by decide +kernel
theorem dX4_count_6 : decode cX4_count 6 = .ok (.iload_n 3, 1) := by decide +kernel
theorem dX4_count_7 : decode cX4_count 7 = .ok (.ifCond .ge 7, 3) := by decide +kernel
theorem dX4_count_10 : decode cX4_count 10 = .ok (.iconst 0, 1) := by decide +kernel
theorem dX4_count_11 : decode cX4_count 11 = .ok (.goto 18, 3) := by decide +kernel
theorem dX4_count_14 : decode cX4_count 14 = .ok (.aload_n 0, 1) := by decide +kernel
theorem dX4_count_15 : decode cX4_count 15 = .ok (.getfield 15, 3) := by decide +kernel
theorem dX4_count_18 : decode cX4_count 18 = .ok (.iload_n 3, 1) := by decide +kernel
theorem dX4_count_19 : decode cX4_count 19 = .ok (.iconst 1, 1) := by decide +kernel
theorem dX4_count_20 : decode cX4_count 20 = .ok (.iadd, 1) := by decide +kernel
theorem dX4_count_21 : decode cX4_count 21 = .ok (.iaload, 1) := by decide +kernel
theorem dX4_count_22 : decode cX4_count 22 = .ok (.aload_n 0, 1) := by decide +kernel
theorem dX4_count_23 : decode cX4_count 23 = .ok (.getfield 15, 3) := by decide +kernel
theorem dX4_count_26 : decode cX4_count 26 = .ok (.iload_n 3, 1) := by decide +kernel
theorem dX4_count_27 : decode cX4_count 27 = .ok (.iaload, 1) := by decide +kernel
theorem dX4_count_28 : decode cX4_count 28 = .ok (.isub, 1) := by decide +kernel
theorem dX4_count_29 : decode cX4_count 29 = .ok (.ireturn, 1) := by decide +kernel
theorem dX4_numbered_0 : decode cX4_numbered 0 = .ok (.iload_n 1, 1) := by decide +kernel
theorem dX4_numbered_1 : decode cX4_numbered 1 = .ok (.iload_n 2, 1) := by decide +kernel
theorem dX4_numbered_2 : decode cX4_numbered 2 = .ok (.invokestatic 43, 3) := by decide +kernel
theorem dX4_numbered_5 : decode cX4_numbered 5 = .ok (.istore 4, 2) := by decide +kernel
theorem dX4_numbered_7 : decode cX4_numbered 7 = .ok (.iload 4, 2) := by decide +kernel
theorem dX4_numbered_9 : decode cX4_numbered 9 = .ok (.ifCond .lt 29, 3) := by decide +kernel
theorem dX4_numbered_12 : decode cX4_numbered 12 = .ok (.iload_n 3, 1) := by decide +kernel
theorem dX4_numbered_13 : decode cX4_numbered 13 = .ok (.iconst 1, 1) := by decide +kernel
theorem dX4_numbered_14 : decode cX4_numbered 14 = .ok (.if_icmp .lt 24, 3) := by decide +kernel
theorem dX4_numbered_17 : decode cX4_numbered 17 = .ok (.iload_n 3, 1) := by decide +kernel
theorem dX4_numbered_18 : decode cX4_numbered 18 = .ok (.aload_n 0, 1) := by decide +kernel
theorem dX4_numbered_19 : decode cX4_numbered 19 = .ok (.getfield 15, 3) := by decide +kernel
theorem dX4_numbered_22 : decode cX4_numbered 22 = .ok (.iload 4, 2) := by decide +kernel
theorem dX4_numbered_24 : decode cX4_numbered 24 = .ok (.iconst 1, 1) := by decide +kernel
theorem dX4_numbered_25 : decode cX4_numbered 25 = .ok (.iadd, 1) := by decide +kernel
theorem dX4_numbered_26 : decode cX4_numbered 26 = .ok (.iaload, 1) := by decide +kernel
theorem dX4_numbered_27 : decode cX4_numbered 27 = .ok (.aload_n 0, 1) := by decide +kernel
theorem dX4_numbered_28 : decode cX4_numbered 28 = .ok (.getfield 15, 3) := by decide +kernel
theorem dX4_numbered_31 : decode cX4_numbered 31 = .ok (.iload 4, 2) := by decide +kernel
theorem dX4_numbered_33 : decode cX4_numbered 33 = .ok (.iaload, 1) := by decide +kernel
theorem dX4_numbered_34 : decode cX4_numbered 34 = .ok (.isub, 1) := by decide +kernel
theorem dX4_numbered_35 : decode cX4_numbered 35 = .ok (.if_icmp .le 5, 3) := by decide +kernel
theorem dX4_numbered_38 : decode cX4_numbered 38 = .ok (.iload_n 2, 1) := by decide +kernel
theorem dX4_numbered_39 : decode cX4_numbered 39 = .ok (.ireturn, 1) := by decide +kernel
theorem dX4_numbered_40 : decode cX4_numbered 40 = .ok (.aload_n 0, 1) := by decide +kernel
theorem dX4_numbered_41 : decode cX4_numbered 41 = .ok (.getfield 15, 3) := by decide +kernel
theorem dX4_numbered_44 : decode cX4_numbered 44 = .ok (.iload 4, 2) := by decide +kernel
theorem dX4_numbered_46 : decode cX4_numbered 46 = .ok (.iaload, 1) := by decide +kernel
theorem dX4_numbered_47 : decode cX4_numbered 47 = .ok (.iload_n 3, 1) := by decide +kernel
theorem dX4_numbered_48 : decode cX4_numbered 48 = .ok (.iadd, 1) := by decide +kernel
theorem dX4_numbered_49 : decode cX4_numbered 49 = .ok (.iconst 1, 1) := by decide +kernel
theorem dX4_numbered_50 : decode cX4_numbered 50 = .ok (.isub, 1) := by decide +kernel
theorem dX4_numbered_51 : decode cX4_numbered 51 = .ok (.istore 5, 2) := by decide +kernel
theorem dX4_numbered_53 : decode cX4_numbered 53 = .ok (.iload 5, 2) := by decide +kernel
theorem dX4_numbered_55 : decode cX4_numbered 55 = .ok (.ifCond .lt 23, 3) := by decide +kernel
theorem dX4_numbered_58 : decode cX4_numbered 58 = .ok (.iload 5, 2) := by decide +kernel
theorem dX4_numbered_60 : decode cX4_numbered 60 = .ok (.aload_n 0, 1) := by decide +kernel
theorem dX4_numbered_61 : decode cX4_numbered 61 = .ok (.getfield 9, 3) := by decide +kernel
theorem dX4_numbered_64 : decode cX4_numbered 64 = .ok (.arraylength, 1) := by decide +kernel
theorem dX4_numbered_65 : decode cX4_numbered 65 = .ok (.if_icmp .ge 13, 3) := by decide +kernel
theorem dX4_numbered_68 : decode cX4_numbered 68 = .ok (.aload_n 0, 1) := by decide +kernel
theorem dX4_numbered_69 : decode cX4_numbered 69 = .ok (.getfield 9, 3) := by decide +kernel
theorem dX4_numbered_72 : decode cX4_numbered 72 = .ok (.iload 5, 2) := by decide +kernel
theorem dX4_numbered_74 : decode cX4_numbered 74 = .ok (.iaload, 1) := by decide +kernel
theorem dX4_numbered_75 : decode cX4_numbered 75 = .ok (.goto 4, 3) := by decide +kernel
theorem dX4_numbered_78 : decode cX4_numbered 78 = .ok (.iload_n 2, 1) := by decide +kernel
theorem dX4_numbered_79 : decode cX4_numbered 79 = .ok (.ireturn, 1) := by decide +kernel
theorem dX5_init_0 : decode cX5_init 0 = .ok (.aload_n 0, 1) := by decide +kernel
theorem dX5_init_1 : decode cX5_init 1 = .ok (.invokespecial 3, 3) := by decide +kernel
theorem dX5_init_4 : decode cX5_init 4 = .ok (.aload_n 0, 1) := by decide +kernel
theorem dX5_init_5 : decode cX5_init 5 = .ok (.bipush 16, 2) := by decide +kernel
theorem dX5_init_7 : decode cX5_init 7 = .ok (.newarray .int, 2) := by decide +kernel
theorem dX5_init_9 : decode cX5_init 9 = .ok (.putfield 9, 3) := by decide +kernel
theorem dX5_init_12 : decode cX5_init 12 = .ok (.aload_n 0, 1) := by decide +kernel
theorem dX5_init_13 : decode cX5_init 13 = .ok (.bipush 16, 2) := by decide +kernel
theorem dX5_init_15 : decode cX5_init 15 = .ok (.newarray .int, 2) := by decide +kernel
theorem dX5_init_17 : decode cX5_init 17 = .ok (.putfield 15, 3) := by decide +kernel
theorem dX5_init_20 : decode cX5_init 20 = .ok (.aload_n 0, 1) := by decide +kernel
theorem dX5_init_21 : decode cX5_init 21 = .ok (.bipush 6, 2) := by decide +kernel
theorem dX5_init_23 : decode cX5_init 23 = .ok (.newarray .int, 2) := by decide +kernel
theorem dX5_init_25 : decode cX5_init 25 = .ok (.putfield 18, 3) := by decide +kernel
theorem dX5_init_28 : decode cX5_init 28 = .ok (.aload_n 0, 1) := by decide +kernel
theorem dX5_init_29 : decode cX5_init 29 = .ok (.iconst 0, 1) := by decide +kernel
theorem dX5_init_30 : decode cX5_init 30 = .ok (.putfield 21, 3) := by decide +kernel
theorem dX5_init_33 : decode cX5_init 33 = .ok (.aload_n 0, 1) := by decide +kernel
theorem dX5_init_34 : decode cX5_init 34 = .ok (.iconst 0, 1) := by decide +kernel
theorem dX5_init_35 : decode cX5_init 35 = .ok (.putfield 25, 3) := by decide +kernel
theorem dX5_init_38 : decode cX5_init 38 = .ok (.return_, 1) := by decide +kernel
theorem dX5_prepare_0 : decode cX5_prepare 0 = .ok (.aload_n 0, 1) := by decide +kernel
theorem dX5_prepare_1 : decode cX5_prepare 1 = .ok (.iload_n 3, 1) := by decide +kernel
theorem dX5_prepare_2 : decode cX5_prepare 2 = .ok (.putfield 25, 3) := by decide +kernel
theorem dX5_prepare_5 : decode cX5_prepare 5 = .ok (.aload_n 0, 1) := by decide +kernel
theorem dX5_prepare_6 : decode cX5_prepare 6 = .ok (.aload_n 1, 1) := by decide +kernel
theorem dX5_prepare_7 : decode cX5_prepare 7 = .ok (.getfield 28, 3) := by decide +kernel
theorem dX5_prepare_10 : decode cX5_prepare 10 = .ok (.getfield 34, 3) := by decide +kernel
theorem dX5_prepare_13 : decode cX5_prepare 13 = .ok (.bipush 16, 2) := by decide +kernel
theorem dX5_prepare_15 : decode cX5_prepare 15 = .ok (.invokestatic 37, 3) := by decide +kernel
theorem dX5_prepare_18 : decode cX5_prepare 18 = .ok (.putfield 21, 3) := by decide +kernel
theorem dX5_prepare_21 : decode cX5_prepare 21 = .ok (.iconst 0, 1) := by decide +kernel
theorem dX5_prepare_22 : decode cX5_prepare 22 = .ok (.istore 4, 2) := by decide +kernel
theorem dX5_prepare_24 : decode cX5_prepare 24 = .ok (.iload 4, 2) := by decide +kernel
theorem dX5_prepare_26 : decode cX5_prepare 26 = .ok (.bipush 6, 2) := by decide +kernel
theorem dX5_prepare_28 : decode cX5_prepare 28 = .ok (.if_icmp .ge 20, 3) := by decide +kernel
theorem dX5_prepare_31 : decode cX5_prepare 31 = .ok (.aload_n 0, 1) := by decide +kernel
theorem dX5_prepare_32 : decode cX5_prepare 32 = .ok (.getfield 18, 3) := by decide +kernel
theorem dX5_prepare_35 : decode cX5_prepare 35 = .ok (.iload 4, 2) := by decide +kernel
theorem dX5_prepare_37 : decode cX5_prepare 37 = .ok (.iconst 1, 1) := by decide +kernel
theorem dX5_prepare_38 : decode cX5_prepare 38 = .ok (.iload 4, 2) := by decide +kernel
theorem dX5_prepare_40 : decode cX5_prepare 40 = .ok (.ishl, 1) := by decide +kernel
theorem dX5_prepare_41 : decode cX5_prepare 41 = .ok (.iastore, 1) := by decide +kernel
theorem dX5_prepare_42 : decode cX5_prepare 42 = .ok (.iinc 4 1, 3) := by decide +kernel
theorem dX5_prepare_45 : decode cX5_prepare 45 = .ok (.goto (-21), 3) := by decide +kernel
theorem dX5_prepare_48 : decode cX5_prepare 48 = .ok (.aload_n 0, 1) := by decide +kernel
theorem dX5_prepare_49 : decode cX5_prepare 49 = .ok (.getfield 21, 3) := by decide +kernel
theorem dX5_prepare_52 : decode cX5_prepare 52 = .ok (.iconst 1, 1) := by decide +kernel
theorem dX5_prepare_53 : decode cX5_prepare 53 = .ok (.isub, 1) := by decide +kernel
theorem dX5_prepare_54 : decode cX5_prepare 54 = .ok (.istore 4, 2) := by decide +kernel
theorem dX5_prepare_56 : decode cX5_prepare 56 = .ok (.iload 4, 2) := by decide +kernel
theorem dX5_prepare_58 : decode cX5_prepare 58 = .ok (.ifCond .lt 46, 3) := by decide +kernel
theorem dX5_prepare_61 : decode cX5_prepare 61 = .ok (.aload_n 0, 1) := by decide +kernel
theorem dX5_prepare_62 : decode cX5_prepare 62 = .ok (.getfield 9, 3) := by decide +kernel
theorem dX5_prepare_65 : decode cX5_prepare 65 = .ok (.iload 4, 2) := by decide +kernel
theorem dX5_prepare_67 : decode cX5_prepare 67 = .ok (.iconst 0, 1) := by decide +kernel
theorem dX5_prepare_68 : decode cX5_prepare 68 = .ok (.iastore, 1) := by decide +kernel
theorem dX5_prepare_69 : decode cX5_prepare 69 = .ok (.aload_n 0, 1) := by decide +kernel
theorem dX5_prepare_70 : decode cX5_prepare 70 = .ok (.getfield 15, 3) := by decide +kernel
theorem dX5_prepare_73 : decode cX5_prepare 73 = .ok (.iload 4, 2) := by decide +kernel
theorem dX5_prepare_75 : decode cX5_prepare 75 = .ok (.iconst 0, 1) := by decide +kernel
theorem dX5_prepare_76 : decode cX5_prepare 76 = .ok (.iastore, 1) := by decide +kernel
theorem dX5_prepare_77 : decode cX5_prepare 77 = .ok (.iload 4, 2) := by decide +kernel
theorem dX5_prepare_79 : decode cX5_prepare 79 = .ok (.aload_n 2, 1) := by decide +kernel
theorem dX5_prepare_80 : decode cX5_prepare 80 = .ok (.arraylength, 1) := by decide +kernel
theorem dX5_prepare_81 : decode cX5_prepare 81 = .ok (.if_icmp .ge 17, 3) := by decide +kernel
theorem dX5_prepare_84 : decode cX5_prepare 84 = .ok (.aload_n 2, 1) := by decide +kernel
theorem dX5_prepare_85 : decode cX5_prepare 85 = .ok (.iload 4, 2) := by decide +kernel
theorem dX5_prepare_87 : decode cX5_prepare 87 = .ok (.baload, 1) := by decide +kernel
theorem dX5_prepare_88 : decode cX5_prepare 88 = .ok (.ifCond .eq 10, 3) := by decide +kernel
theorem dX5_prepare_91 : decode cX5_prepare 91 = .ok (.aload_n 0, 1) := by decide +kernel
theorem dX5_prepare_92 : decode cX5_prepare 92 = .ok (.aload_n 1, 1) := by decide +kernel
theorem dX5_prepare_93 : decode cX5_prepare 93 = .ok (.iload 4, 2) := by decide +kernel
theorem dX5_prepare_95 : decode cX5_prepare 95 = .ok (.invokevirtual 43, 3) := by decide +kernel
theorem dX5_prepare_98 : decode cX5_prepare 98 = .ok (.iinc 4 (-1), 3) := by decide +kernel
theorem dX5_prepare_101 : decode cX5_prepare 101 = .ok (.goto (-45), 3) := by decide +kernel
theorem dX5_prepare_104 : decode cX5_prepare 104 = .ok (.return_, 1) := by decide +kernel
theorem dX5_goBack_0 : decode cX5_goBack 0 = .ok (.aload_n 1, 1) := by decide +kernel
theorem dX5_goBack_1 : decode cX5_goBack 1 = .ok (.getfield 28, 3) := by decide +kernel
theorem dX5_goBack_4 : decode cX5_goBack 4 = .ok (.getfield 47, 3) := by decide +kernel
theorem dX5_goBack_7 : decode cX5_goBack 7 = .ok (.iload_n 2, 1) := by decide +kernel
theorem dX5_goBack_8 : decode cX5_goBack 8 = .ok (.iaload, 1) := by decide +kernel
theorem dX5_goBack_9 : decode cX5_goBack 9 = .ok (.istore_n 3, 1) := by decide +kernel
theorem dX5_goBack_10 : decode cX5_goBack 10 = .ok (.aload_n 1, 1) := by decide +kernel
theorem dX5_goBack_11 : decode cX5_goBack 11 = .ok (.getfield 28, 3) := by decide +kernel
theorem dX5_goBack_14 : decode cX5_goBack 14 = .ok (.getfield 50, 3) := by decide +kernel
theorem dX5_goBack_17 : decode cX5_goBack 17 = .ok (.iload_n 2, 1) := by decide +kernel
theorem dX5_goBack_18 : decode cX5_goBack 18 = .ok (.iaload, 1) := by decide +kernel
theorem dX5_goBack_19 : decode cX5_goBack 19 = .ok (.istore 4, 2) := by decide +kernel
theorem dX5_goBack_21 : decode cX5_goBack 21 = .ok (.iload 4, 2) := by decide +kernel
theorem dX5_goBack_23 : decode cX5_goBack 23 = .ok (.invokestatic 53, 3) := by decide +kernel
theorem dX5_goBack_26 : decode cX5_goBack 26 = .ok (.ifCond .ne 4, 3) := by decide +kernel
theorem dX5_goBack_29 : decode cX5_goBack 29 = .ok (.return_, 1) := by decide +kernel
theorem dX5_goBack_30 : decode cX5_goBack 30 = .ok (.aload_n 0, 1) := by decide +kernel
theorem dX5_goBack_31 : decode cX5_goBack 31 = .ok (.getfield 9, 3) := by decide +kernel
theorem dX5_goBack_34 : decode cX5_goBack 34 = .ok (.iload_n 2, 1) := by decide +kernel
theorem dX5_goBack_35 : decode cX5_goBack 35 = .ok (.aload_n 0, 1) := by decide +kernel
theorem dX5_goBack_36 : decode cX5_goBack 36 = .ok (.getfield 18, 3) := by decide +kernel
theorem dX5_goBack_39 : decode cX5_goBack 39 = .ok (.iload 4, 2) := by decide +kernel
theorem dX5_goBack_41 : decode cX5_goBack 41 = .ok (.iaload, 1) := by decide +kernel
theorem dX5_goBack_42 : decode cX5_goBack 42 = .ok (.iastore, 1) := by decide +kernel
theorem dX5_goBack_43 : decode cX5_goBack 43 = .ok (.aload_n 0, 1) := by decide +kernel
theorem dX5_goBack_44 : decode cX5_goBack 44 = .ok (.getfield 15, 3) := by decide +kernel
theorem dX5_goBack_47 : decode cX5_goBack 47 = .ok (.iload_n 2, 1) := by decide +kernel
theorem dX5_goBack_48 : decode cX5_goBack 48 = .ok (.aload_n 1, 1) := by decide +kernel
theorem dX5_goBack_49 : decode cX5_goBack 49 = .ok (.getfield 57, 3) := by decide +kernel
theorem dX5_goBack_52 : decode cX5_goBack 52 = .ok (.iload 4, 2) := by decide +kernel
theorem dX5_goBack_54 : decode cX5_goBack 54 = .ok (.iaload, 1) := by decide +kernel
theorem dX5_goBack_55 : decode cX5_goBack 55 = .ok (.iastore, 1) := by decide +kernel
theorem dX5_goBack_56 : decode cX5_goBack 56 = .ok (.aload_n 0, 1) := by decide +kernel
theorem dX5_goBack_57 : decode cX5_goBack 57 = .ok (.getfield 18, 3) := by decide +kernel
theorem dX5_goBack_60 : decode cX5_goBack 60 = .ok (.iload 4, 2) := by decide +kernel
theorem dX5_goBack_62 : decode cX5_goBack 62 = .ok (.iconst 0, 1) := by decide +kernel
theorem dX5_goBack_63 : decode cX5_goBack 63 = .ok (.iastore, 1) := by decide +kernel
theorem dX5_goBack_64 : decode cX5_goBack 64 = .ok (.iload_n 3, 1) := by decide +kernel
theorem dX5_goBack_65 : decode cX5_goBack 65 = .ok (.invokestatic 53, 3) := by decide +kernel
theorem dX5_goBack_68 : decode cX5_goBack 68 = .ok (.ifCond .eq 18, 3) := by decide +kernel
theorem dX5_goBack_71 : decode cX5_goBack 71 = .ok (.aload_n 0, 1) := by decide +kernel
theorem dX5_goBack_72 : decode cX5_goBack 72 = .ok (.getfield 18, 3) := by decide +kernel
theorem dX5_goBack_75 : decode cX5_goBack 75 = .ok (.iload_n 3, 1) := by decide +kernel
theorem dX5_goBack_76 : decode cX5_goBack 76 = .ok (.dup2, 1) := by decide +kernel
theorem dX5_goBack_77 : decode cX5_goBack 77 = .ok (.iaload, 1) := by decide +kernel
theorem dX5_goBack_78 : decode cX5_goBack 78 = .ok (.aload_n 0, 1) := by decide +kernel
theorem dX5_goBack_79 : decode cX5_goBack 79 = .ok (.getfield 9, 3) := by decide +kernel
theorem dX5_goBack_82 : decode cX5_goBack 82 = .ok (.iload_n 2, 1) := by decide +kernel
theorem dX5_goBack_83 : decode cX5_goBack 83 = .ok (.iaload, 1) := by decide +kernel
theorem dX5_goBack_84 : decode cX5_goBack 84 = .ok (.ior, 1) := by decide +kernel
theorem dX5_goBack_85 : decode cX5_goBack 85 = .ok (.iastore, 1) := by decide +kernel
theorem dX5_goBack_86 : decode cX5_goBack 86 = .ok (.return_, 1) := by decide +kernel
theorem dX5_tells_0 : decode cX5_tells 0 = .ok (.iload_n 1, 1) := by decide +kernel
theorem dX5_tells_1 : decode cX5_tells 1 = .ok (.aload_n 0, 1) := by decide +kernel
theorem dX5_tells_2 : decode cX5_tells 2 = .ok (.getfield 25, 3) := by decide +kernel
theorem dX5_tells_5 : decode cX5_tells 5 = .ok (.iand, 1) := by decide +kernel
theorem dX5_tells_6 : decode cX5_tells 6 = .ok (.istore_n 2, 1) := by decide +kernel
theorem dX5_tells_7 : decode cX5_tells 7 = .ok (.iload_n 2, 1) := by decide +kernel
theorem dX5_tells_8 : decode cX5_tells 8 = .ok (.ifCond .ne 5, 3) := by decide +kernel
theorem dX5_tells_11 : decode cX5_tells 11 = .ok (.iconst 0, 1) := by decide +kernel
theorem dX5_tells_12 : decode cX5_tells 12 = .ok (.ireturn, 1) := by decide +kernel
theorem dX5_tells_13 : decode cX5_tells 13 = .ok (.iconst 0, 1) := by decide +kernel
theorem dX5_tells_14 : decode cX5_tells 14 = .ok (.istore_n 3, 1) := by decide +kernel
theorem dX5_tells_15 : decode cX5_tells 15 = .ok (.iload_n 3, 1) := by decide +kernel
theorem dX5_tells_16 : decode cX5_tells 16 = .ok (.aload_n 0, 1) := by decide +kernel
theorem dX5_tells_17 : decode cX5_tells 17 = .ok (.getfield 21, 3) := by decide +kernel
theorem dX5_tells_20 : decode cX5_tells 20 = .ok (.if_icmp .ge 53, 3) := by decide +kernel
theorem dX5_tells_23 : decode cX5_tells 23 = .ok (.aload_n 0, 1) := by decide +kernel
theorem dX5_tells_24 : decode cX5_tells 24 = .ok (.iload_n 3, 1) := by decide +kernel
theorem dX5_tells_25 : decode cX5_tells 25 = .ok (.invokevirtual 60, 3) := by decide +kernel
theorem dX5_tells_28 : decode cX5_tells 28 = .ok (.ifCond .eq 18, 3) := by decide +kernel
theorem dX5_tells_31 : decode cX5_tells 31 = .ok (.iload_n 2, 1) := by decide +kernel
theorem dX5_tells_32 : decode cX5_tells 32 = .ok (.aload_n 0, 1) := by decide +kernel
theorem dX5_tells_33 : decode cX5_tells 33 = .ok (.getfield 9, 3) := by decide +kernel
theorem dX5_tells_36 : decode cX5_tells 36 = .ok (.iload_n 3, 1) := by decide +kernel
theorem dX5_tells_37 : decode cX5_tells 37 = .ok (.iaload, 1) := by decide +kernel
theorem dX5_tells_38 : decode cX5_tells 38 = .ok (.iconst (-1), 1) := by decide +kernel
theorem dX5_tells_39 : decode cX5_tells 39 = .ok (.ixor, 1) := by decide +kernel
theorem dX5_tells_40 : decode cX5_tells 40 = .ok (.iand, 1) := by decide +kernel
theorem dX5_tells_41 : decode cX5_tells 41 = .ok (.ifCond .ne 5, 3) := by decide +kernel
theorem dX5_tells_44 : decode cX5_tells 44 = .ok (.iconst 0, 1) := by decide +kernel
theorem dX5_tells_45 : decode cX5_tells 45 = .ok (.ireturn, 1) := by decide +kernel
theorem dX5_tells_46 : decode cX5_tells 46 = .ok (.aload_n 0, 1) := by decide +kernel
theorem dX5_tells_47 : decode cX5_tells 47 = .ok (.getfield 15, 3) := by decide +kernel
theorem dX5_tells_50 : decode cX5_tells 50 = .ok (.iload_n 3, 1) := by decide +kernel
theorem dX5_tells_51 : decode cX5_tells 51 = .ok (.iaload, 1) := by decide +kernel
theorem dX5_tells_52 : decode cX5_tells 52 = .ok (.iconst 2, 1) := by decide +kernel
theorem dX5_tells_53 : decode cX5_tells 53 = .ok (.if_icmp .ne 14, 3) := by decide +kernel
theorem dX5_tells_56 : decode cX5_tells 56 = .ok (.aload_n 0, 1) := by decide +kernel
theorem dX5_tells_57 : decode cX5_tells 57 = .ok (.iload_n 2, 1) := by decide +kernel
theorem dX5_tells_58 : decode cX5_tells 58 = .ok (.iload_n 3, 1) := by decide +kernel
theorem dX5_tells_59 : decode cX5_tells 59 = .ok (.invokevirtual 63, 3) := by decide +kernel
theorem dX5_tells_62 : decode cX5_tells 62 = .ok (.ifCond .eq 5, 3) := by decide +kernel
theorem dX5_tells_65 : decode cX5_tells 65 = .ok (.iconst 0, 1) := by decide +kernel
theorem dX5_tells_66 : decode cX5_tells 66 = .ok (.ireturn, 1) := by decide +kernel
theorem dX5_tells_67 : decode cX5_tells 67 = .ok (.iinc 3 1, 3) := by decide +kernel
theorem dX5_tells_70 : decode cX5_tells 70 = .ok (.goto (-55), 3) := by decide +kernel
theorem dX5_tells_73 : decode cX5_tells 73 = .ok (.iconst 1, 1) := by decide +kernel
theorem dX5_tells_74 : decode cX5_tells 74 = .ok (.ireturn, 1) := by decide +kernel
theorem dX5_fewestBirds_0 : decode cX5_fewestBirds 0 = .ok (.bipush (-6), 2) := by decide +kernel
theorem dX5_fewestBirds_2 : decode cX5_fewestBirds 2 = .ok (.istore_n 1, 1) := by decide +kernel
theorem dX5_fewestBirds_3 : decode cX5_fewestBirds 3 = .ok (.iconst 1, 1) := by decide +kernel
theorem dX5_fewestBirds_4 : decode cX5_fewestBirds 4 = .ok (.istore_n 2, 1) := by decide +kernel
theorem dX5_fewestBirds_5 : decode cX5_fewestBirds 5 = .ok (.iload_n 2, 1) := by decide +kernel
theorem dX5_fewestBirds_6 : decode cX5_fewestBirds 6 = .ok (.bipush 63, 2) := by decide +kernel
theorem dX5_fewestBirds_8 : decode cX5_fewestBirds 8 = .ok (.if_icmp .gt 46, 3) := by decide +kernel
theorem dX5_fewestBirds_11 : decode cX5_fewestBirds 11 = .ok (.iload_n 1, 1) := by decide +kernel
theorem dX5_fewestBirds_12 : decode cX5_fewestBirds 12 = .ok (.bipush (-6), 2) := by decide +kernel
theorem dX5_fewestBirds_14 : decode cX5_fewestBirds 14 = .ok (.if_icmp .eq 14, 3) := by decide +kernel
theorem dX5_fewestBirds_17 : decode cX5_fewestBirds 17 = .ok (.iload_n 2, 1) := by decide +kernel
theorem dX5_fewestBirds_18 : decode cX5_fewestBirds 18 = .ok (.invokestatic 67, 3) := by decide +kernel
theorem dX5_fewestBirds_21 : decode cX5_fewestBirds 21 = .ok (.iload_n 1, 1) := by decide +kernel
theorem dX5_fewestBirds_22 : decode cX5_fewestBirds 22 = .ok (.invokestatic 67, 3) := by decide +kernel
theorem dX5_fewestBirds_25 : decode cX5_fewestBirds 25 = .ok (.if_icmp .ge 7, 3) := by decide +kernel
theorem dX5_fewestBirds_28 : decode cX5_fewestBirds 28 = .ok (.iconst 1, 1) := by decide +kernel
theorem dX5_fewestBirds_29 : decode cX5_fewestBirds 29 = .ok (.goto 4, 3) := by decide +kernel
theorem dX5_fewestBirds_32 : decode cX5_fewestBirds 32 = .ok (.iconst 0, 1) := by decide +kernel
theorem dX5_fewestBirds_33 : decode cX5_fewestBirds 33 = .ok (.istore_n 3, 1) := by decide +kernel
theorem dX5_fewestBirds_34 : decode cX5_fewestBirds 34 = .ok (.iload_n 3, 1) := by decide +kernel
theorem dX5_fewestBirds_35 : decode cX5_fewestBirds 35 = .ok (.ifCond .eq 13, 3) := by decide +kernel
theorem dX5_fewestBirds_38 : decode cX5_fewestBirds 38 = .ok (.aload_n 0, 1) := by decide +kernel
theorem dX5_fewestBirds_39 : decode cX5_fewestBirds 39 = .ok (.iload_n 2, 1) := by decide +kernel
theorem dX5_fewestBirds_40 : decode cX5_fewestBirds 40 = .ok (.invokevirtual 73, 3) := by decide +kernel
theorem dX5_fewestBirds_43 : decode cX5_fewestBirds 43 = .ok (.ifCond .eq 5, 3) := by decide +kernel
theorem dX5_fewestBirds_46 : decode cX5_fewestBirds 46 = .ok (.iload_n 2, 1) := by decide +kernel
theorem dX5_fewestBirds_47 : decode cX5_fewestBirds 47 = .ok (.istore_n 1, 1) := by decide +kernel
theorem dX5_fewestBirds_48 : decode cX5_fewestBirds 48 = .ok (.iinc 2 1, 3) := by decide +kernel
theorem dX5_fewestBirds_51 : decode cX5_fewestBirds 51 = .ok (.goto (-46), 3) := by decide +kernel
theorem dX5_fewestBirds_54 : decode cX5_fewestBirds 54 = .ok (.iload_n 1, 1) := by decide +kernel
theorem dX5_fewestBirds_55 : decode cX5_fewestBirds 55 = .ok (.ireturn, 1) := by decide +kernel
theorem dX5_slipsIn_0 : decode cX5_slipsIn 0 = .ok (.aload_n 0, 1) := by decide +kernel
theorem dX5_slipsIn_1 : decode cX5_slipsIn 1 = .ok (.getfield 15, 3) := by decide +kernel
theorem dX5_slipsIn_4 : decode cX5_slipsIn 4 = .ok (.iload_n 1, 1) := by decide +kernel
theorem dX5_slipsIn_5 : decode cX5_slipsIn 5 = .ok (.iaload, 1) := by decide +kernel
theorem dX5_slipsIn_6 : decode cX5_slipsIn 6 = .ok (.iconst 1, 1) := by decide +kernel
theorem dX5_slipsIn_7 : decode cX5_slipsIn 7 = .ok (.if_icmp .lt 17, 3) := by decide +kernel
theorem dX5_slipsIn_10 : decode cX5_slipsIn 10 = .ok (.aload_n 0, 1) := by decide +kernel
theorem dX5_slipsIn_11 : decode cX5_slipsIn 11 = .ok (.getfield 15, 3) := by decide +kernel
theorem dX5_slipsIn_14 : decode cX5_slipsIn 14 = .ok (.iload_n 1, 1) := by decide +kernel
theorem dX5_slipsIn_15 : decode cX5_slipsIn 15 = .ok (.iaload, 1) := by decide +kernel
theorem dX5_slipsIn_16 : decode cX5_slipsIn 16 = .ok (.iconst 3, 1) := by decide +kernel
theorem dX5_slipsIn_17 : decode cX5_slipsIn 17 = .ok (.if_icmp .gt 7, 3) := by decide +kernel
theorem dX5_slipsIn_20 : decode cX5_slipsIn 20 = .ok (.iconst 1, 1) := by decide +kernel
theorem dX5_slipsIn_21 : decode cX5_slipsIn 21 = .ok (.goto 4, 3) := by decide +kernel
theorem dX5_slipsIn_24 : decode cX5_slipsIn 24 = .ok (.iconst 0, 1) := by decide +kernel
theorem dX5_slipsIn_25 : decode cX5_slipsIn 25 = .ok (.ireturn, 1) := by decide +kernel
theorem dX5_halves_0 : decode cX5_halves 0 = .ok (.iload_n 1, 1) := by decide +kernel
theorem dX5_halves_1 : decode cX5_halves 1 = .ok (.aload_n 0, 1) := by decide +kernel
theorem dX5_halves_2 : decode cX5_halves 2 = .ok (.getfield 9, 3) := by decide +kernel
theorem dX5_halves_5 : decode cX5_halves 5 = .ok (.iload_n 2, 1) := by decide +kernel
theorem dX5_halves_6 : decode cX5_halves 6 = .ok (.iaload, 1) := by decide +kernel
theorem dX5_halves_7 : decode cX5_halves 7 = .ok (.iconst (-1), 1) := by decide +kernel
theorem dX5_halves_8 : decode cX5_halves 8 = .ok (.ixor, 1) := by decide +kernel
theorem dX5_halves_9 : decode cX5_halves 9 = .ok (.iand, 1) := by decide +kernel
theorem dX5_halves_10 : decode cX5_halves 10 = .ok (.istore_n 3, 1) := by decide +kernel
theorem dX5_halves_11 : decode cX5_halves 11 = .ok (.iconst 0, 1) := by decide +kernel
theorem dX5_halves_12 : decode cX5_halves 12 = .ok (.istore 4, 2) := by decide +kernel
theorem dX5_halves_14 : decode cX5_halves 14 = .ok (.iload 4, 2) := by decide +kernel
theorem dX5_halves_16 : decode cX5_halves 16 = .ok (.iload_n 2, 1) := by decide +kernel
theorem dX5_halves_17 : decode cX5_halves 17 = .ok (.if_icmp .ge 35, 3) := by decide +kernel
theorem dX5_halves_20 : decode cX5_halves 20 = .ok (.aload_n 0, 1) := by decide +kernel
theorem dX5_halves_21 : decode cX5_halves 21 = .ok (.getfield 15, 3) := by decide +kernel
theorem dX5_halves_24 : decode cX5_halves 24 = .ok (.iload 4, 2) := by decide +kernel
theorem dX5_halves_26 : decode cX5_halves 26 = .ok (.iaload, 1) := by decide +kernel
theorem dX5_halves_27 : decode cX5_halves 27 = .ok (.iconst 2, 1) := by decide +kernel
theorem dX5_halves_28 : decode cX5_halves 28 = .ok (.if_icmp .ne 18, 3) := by decide +kernel
theorem dX5_halves_31 : decode cX5_halves 31 = .ok (.iload_n 1, 1) := by decide +kernel
theorem dX5_halves_32 : decode cX5_halves 32 = .ok (.aload_n 0, 1) := by decide +kernel
theorem dX5_halves_33 : decode cX5_halves 33 = .ok (.getfield 9, 3) := by decide +kernel
theorem dX5_halves_36 : decode cX5_halves 36 = .ok (.iload 4, 2) := by decide +kernel
theorem dX5_halves_38 : decode cX5_halves 38 = .ok (.iaload, 1) := by decide +kernel
theorem dX5_halves_39 : decode cX5_halves 39 = .ok (.iand, 1) := by decide +kernel
theorem dX5_halves_40 : decode cX5_halves 40 = .ok (.iload_n 3, 1) := by decide +kernel
theorem dX5_halves_41 : decode cX5_halves 41 = .ok (.if_icmp .ne 5, 3) := by decide +kernel
theorem dX5_halves_44 : decode cX5_halves 44 = .ok (.iconst 1, 1) := by decide +kernel
theorem dX5_halves_45 : decode cX5_halves 45 = .ok (.ireturn, 1) := by decide +kernel
theorem dX5_halves_46 : decode cX5_halves 46 = .ok (.iinc 4 1, 3) := by decide +kernel
theorem dX5_halves_49 : decode cX5_halves 49 = .ok (.goto (-35), 3) := by decide +kernel
theorem dX5_halves_52 : decode cX5_halves 52 = .ok (.iconst 0, 1) := by decide +kernel
theorem dX5_halves_53 : decode cX5_halves 53 = .ok (.ireturn, 1) := by decide +kernel
theorem dX6_init_0 : decode cX6_init 0 = .ok (.aload_n 0, 1) := by decide +kernel
theorem dX6_init_1 : decode cX6_init 1 = .ok (.invokespecial 3, 3) := by decide +kernel
theorem dX6_init_4 : decode cX6_init 4 = .ok (.aload_n 0, 1) := by decide +kernel
theorem dX6_init_5 : decode cX6_init 5 = .ok (.bipush 6, 2) := by decide +kernel
theorem dX6_init_7 : decode cX6_init 7 = .ok (.newarray .int, 2) := by decide +kernel
theorem dX6_init_9 : decode cX6_init 9 = .ok (.putfield 9, 3) := by decide +kernel
theorem dX6_init_12 : decode cX6_init 12 = .ok (.aload_n 0, 1) := by decide +kernel
theorem dX6_init_13 : decode cX6_init 13 = .ok (.bipush 16, 2) := by decide +kernel
theorem dX6_init_15 : decode cX6_init 15 = .ok (.newarray .boolean, 2) := by decide +kernel
theorem dX6_init_17 : decode cX6_init 17 = .ok (.putfield 15, 3) := by decide +kernel
theorem dX6_init_20 : decode cX6_init 20 = .ok (.aload_n 0, 1) := by decide +kernel
theorem dX6_init_21 : decode cX6_init 21 = .ok (.iconst 0, 1) := by decide +kernel
theorem dX6_init_22 : decode cX6_init 22 = .ok (.putfield 19, 3) := by decide +kernel
theorem dX6_init_25 : decode cX6_init 25 = .ok (.aload_n 0, 1) := by decide +kernel
theorem dX6_init_26 : decode cX6_init 26 = .ok (.iconst 0, 1) := by decide +kernel
theorem dX6_init_27 : decode cX6_init 27 = .ok (.putfield 23, 3) := by decide +kernel
theorem dX6_init_30 : decode cX6_init 30 = .ok (.return_, 1) := by decide +kernel
theorem dX6_throughDays_0 : decode cX6_throughDays 0 = .ok (.aload_n 0, 1) := by decide +kernel
theorem dX6_throughDays_1 : decode cX6_throughDays 1 = .ok (.invokevirtual 26, 3) := by decide +kernel
theorem dX6_throughDays_4 : decode cX6_throughDays 4 = .ok (.aload_n 0, 1) := by decide +kernel
theorem dX6_throughDays_5 : decode cX6_throughDays 5 = .ok (.iconst 0, 1) := by decide +kernel
theorem dX6_throughDays_6 : decode cX6_throughDays 6 = .ok (.putfield 19, 3) := by decide +kernel
theorem dX6_throughDays_9 : decode cX6_throughDays 9 = .ok (.aload_n 1, 1) := by decide +kernel
theorem dX6_throughDays_10 : decode cX6_throughDays 10 = .ok (.getfield 29, 3) := by decide +kernel
theorem dX6_throughDays_13 : decode cX6_throughDays 13 = .ok (.astore_n 3, 1) := by decide +kernel
theorem dX6_throughDays_14 : decode cX6_throughDays 14 = .ok (.iconst 0, 1) := by decide +kernel
theorem dX6_throughDays_15 : decode cX6_throughDays 15 = .ok (.istore 4, 2) := by decide +kernel
theorem dX6_throughDays_17 : decode cX6_throughDays 17 = .ok (.iload 4, 2) := by decide +kernel
theorem dX6_throughDays_19 : decode cX6_throughDays 19 = .ok (.aload_n 3, 1) := by decide +kernel
theorem dX6_throughDays_20 : decode cX6_throughDays 20 = .ok (.getfield 35, 3) := by decide +kernel
theorem dX6_throughDays_23 : decode cX6_throughDays 23 = .ok (.if_icmp .ge 49, 3) := by decide +kernel
theorem dX6_throughDays_26 : decode cX6_throughDays 26 = .ok (.iload 4, 2) := by decide +kernel
theorem dX6_throughDays_28 : decode cX6_throughDays 28 = .ok (.bipush 16, 2) := by decide +kernel
theorem dX6_throughDays_30 : decode cX6_throughDays 30 = .ok (.if_icmp .ge 42, 3) := by decide +kernel
theorem dX6_throughDays_33 : decode cX6_throughDays 33 = .ok (.aload_n 0, 1) := by decide +kernel
theorem dX6_throughDays_34 : decode cX6_throughDays 34 = .ok (.aload_n 1, 1) := by decide +kernel
theorem dX6_throughDays_35 : decode cX6_throughDays 35 = .ok (.iload 4, 2) := by decide +kernel
theorem dX6_throughDays_37 : decode cX6_throughDays 37 = .ok (.iconst 1, 1) := by decide +kernel
theorem dX6_throughDays_38 : decode cX6_throughDays 38 = .ok (.invokevirtual 40, 3) := by decide +kernel
theorem dX6_throughDays_41 : decode cX6_throughDays 41 = .ok (.aload_n 0, 1) := by decide +kernel
theorem dX6_throughDays_42 : decode cX6_throughDays 42 = .ok (.getfield 15, 3) := by decide +kernel
theorem dX6_throughDays_45 : decode cX6_throughDays 45 = .ok (.iload 4, 2) := by decide +kernel
theorem dX6_throughDays_47 : decode cX6_throughDays 47 = .ok (.baload, 1) := by decide +kernel
theorem dX6_throughDays_48 : decode cX6_throughDays 48 = .ok (.ifCond .eq 18, 3) := by decide +kernel
theorem dX6_throughDays_51 : decode cX6_throughDays 51 = .ok (.aload_n 0, 1) := by decide +kernel
theorem dX6_throughDays_52 : decode cX6_throughDays 52 = .ok (.aload_n 1, 1) := by decide +kernel
theorem dX6_throughDays_53 : decode cX6_throughDays 53 = .ok (.aload_n 2, 1) := by decide +kernel
theorem dX6_throughDays_54 : decode cX6_throughDays 54 = .ok (.iload 4, 2) := by decide +kernel
theorem dX6_throughDays_56 : decode cX6_throughDays 56 = .ok (.aload_n 3, 1) := by decide +kernel
theorem dX6_throughDays_57 : decode cX6_throughDays 57 = .ok (.getfield 44, 3) := by decide +kernel
theorem dX6_throughDays_60 : decode cX6_throughDays 60 = .ok (.iload 4, 2) := by decide +kernel
theorem dX6_throughDays_62 : decode cX6_throughDays 62 = .ok (.iaload, 1) := by decide +kernel
theorem dX6_throughDays_63 : decode cX6_throughDays 63 = .ok (.invokevirtual 47, 3) := by decide +kernel
theorem dX6_throughDays_66 : decode cX6_throughDays 66 = .ok (.iinc 4 1, 3) := by decide +kernel
theorem dX6_throughDays_69 : decode cX6_throughDays 69 = .ok (.goto (-52), 3) := by decide +kernel
theorem dX6_throughDays_72 : decode cX6_throughDays 72 = .ok (.return_, 1) := by decide +kernel
theorem dX6_beginYears_0 : decode cX6_beginYears 0 = .ok (.aload_n 0, 1) := by decide +kernel
theorem dX6_beginYears_1 : decode cX6_beginYears 1 = .ok (.invokevirtual 26, 3) := by decide +kernel
theorem dX6_beginYears_4 : decode cX6_beginYears 4 = .ok (.aload_n 0, 1) := by decide +kernel
theorem dX6_beginYears_5 : decode cX6_beginYears 5 = .ok (.iload_n 2, 1) := by decide +kernel
theorem dX6_beginYears_6 : decode cX6_beginYears 6 = .ok (.putfield 23, 3) := by decide +kernel
theorem dX6_beginYears_9 : decode cX6_beginYears 9 = .ok (.return_, 1) := by decide +kernel
theorem dX6_throughDrawnDay_0 : decode cX6_throughDrawnDay 0 = .ok (.aload_n 0, 1) := by decide +kernel
theorem dX6_throughDrawnDay_1 : decode cX6_throughDrawnDay 1 = .ok (.iconst 0, 1) := by decide +kernel
theorem dX6_throughDrawnDay_2 : decode cX6_throughDrawnDay 2 = .ok (.putfield 19, 3) := by decide +kernel
theorem dX6_throughDrawnDay_5 : decode cX6_throughDrawnDay 5 = .ok (.iconst 0, 1) := by decide +kernel
theorem dX6_throughDrawnDay_6 : decode cX6_throughDrawnDay 6 = .ok (.istore 4, 2) := by decide +kernel
theorem dX6_throughDrawnDay_8 : decode cX6_throughDrawnDay 8 = .ok (.iload 4, 2) := by decide +kernel
theorem dX6_throughDrawnDay_10 : decode cX6_throughDrawnDay 10 = .ok (.aload_n 1, 1) := by decide +kernel
theorem dX6_throughDrawnDay_11 : decode cX6_throughDrawnDay 11 = .ok (.getfield 29, 3) := by decide +kernel
theorem dX6_throughDrawnDay_14 : decode cX6_throughDrawnDay 14 = .ok (.getfield 35, 3) := by decide +kernel
theorem dX6_throughDrawnDay_17 : decode cX6_throughDrawnDay 17 = .ok (.if_icmp .ge 50, 3) := by decide +kernel
theorem dX6_throughDrawnDay_20 : decode cX6_throughDrawnDay 20 = .ok (.iload 4, 2) := by decide +kernel
theorem dX6_throughDrawnDay_22 : decode cX6_throughDrawnDay 22 = .ok (.bipush 16, 2) := by decide +kernel
theorem dX6_throughDrawnDay_24 : decode cX6_throughDrawnDay 24 = .ok (.if_icmp .ge 43, 3) := by decide +kernel
theorem dX6_throughDrawnDay_27 : decode cX6_throughDrawnDay 27 = .ok (.aload_n 0, 1) := by decide +kernel
theorem dX6_throughDrawnDay_28 : decode cX6_throughDrawnDay 28 = .ok (.aload_n 1, 1) := by decide +kernel
theorem dX6_throughDrawnDay_29 : decode cX6_throughDrawnDay 29 = .ok (.iload 4, 2) := by decide +kernel
theorem dX6_throughDrawnDay_31 : decode cX6_throughDrawnDay 31 = .ok (.iload_n 3, 1) := by decide +kernel
theorem dX6_throughDrawnDay_32 : decode cX6_throughDrawnDay 32 = .ok (.invokevirtual 40, 3) := by decide +kernel
theorem dX6_throughDrawnDay_35 : decode cX6_throughDrawnDay 35 = .ok (.aload_n 0, 1) := by decide +kernel
theorem dX6_throughDrawnDay_36 : decode cX6_throughDrawnDay 36 = .ok (.getfield 15, 3) := by decide +kernel
theorem dX6_throughDrawnDay_39 : decode cX6_throughDrawnDay 39 = .ok (.iload 4, 2) := by decide +kernel
theorem dX6_throughDrawnDay_41 : decode cX6_throughDrawnDay 41 = .ok (.baload, 1) := by decide +kernel
theorem dX6_throughDrawnDay_42 : decode cX6_throughDrawnDay 42 = .ok (.ifCond .eq 19, 3) := by decide +kernel
theorem dX6_throughDrawnDay_45 : decode cX6_throughDrawnDay 45 = .ok (.aload_n 0, 1) := by decide +kernel
theorem dX6_throughDrawnDay_46 : decode cX6_throughDrawnDay 46 = .ok (.aload_n 1, 1) := by decide +kernel
theorem dX6_throughDrawnDay_47 : decode cX6_throughDrawnDay 47 = .ok (.aload_n 2, 1) := by decide +kernel
theorem dX6_throughDrawnDay_48 : decode cX6_throughDrawnDay 48 = .ok (.iload 4, 2) := by decide +kernel
theorem dX6_throughDrawnDay_50 : decode cX6_throughDrawnDay 50 = .ok (.aload_n 0, 1) := by decide +kernel
theorem dX6_throughDrawnDay_51 : decode cX6_throughDrawnDay 51 = .ok (.aload_n 1, 1) := by decide +kernel
theorem dX6_throughDrawnDay_52 : decode cX6_throughDrawnDay 52 = .ok (.aload_n 2, 1) := by decide +kernel
theorem dX6_throughDrawnDay_53 : decode cX6_throughDrawnDay 53 = .ok (.iload 4, 2) := by decide +kernel
theorem dX6_throughDrawnDay_55 : decode cX6_throughDrawnDay 55 = .ok (.invokevirtual 51, 3) := by decide +kernel
theorem dX6_throughDrawnDay_58 : decode cX6_throughDrawnDay 58 = .ok (.invokevirtual 47, 3) := by decide +kernel
theorem dX6_throughDrawnDay_61 : decode cX6_throughDrawnDay 61 = .ok (.iinc 4 1, 3) := by decide +kernel
theorem dX6_throughDrawnDay_64 : decode cX6_throughDrawnDay 64 = .ok (.goto (-56), 3) := by decide +kernel
theorem dX6_throughDrawnDay_67 : decode cX6_throughDrawnDay 67 = .ok (.return_, 1) := by decide +kernel
theorem dX6_forgetAll_0 : decode cX6_forgetAll 0 = .ok (.iconst 0, 1) := by decide +kernel
theorem dX6_forgetAll_1 : decode cX6_forgetAll 1 = .ok (.istore_n 1, 1) := by decide +kernel
theorem dX6_forgetAll_2 : decode cX6_forgetAll 2 = .ok (.iload_n 1, 1) := by decide +kernel
theorem dX6_forgetAll_3 : decode cX6_forgetAll 3 = .ok (.bipush 6, 2) := by decide +kernel
theorem dX6_forgetAll_5 : decode cX6_forgetAll 5 = .ok (.if_icmp .ge 16, 3) := by decide +kernel
theorem dX6_forgetAll_8 : decode cX6_forgetAll 8 = .ok (.aload_n 0, 1) := by decide +kernel
theorem dX6_forgetAll_9 : decode cX6_forgetAll 9 = .ok (.getfield 9, 3) := by decide +kernel
theorem dX6_forgetAll_12 : decode cX6_forgetAll 12 = .ok (.iload_n 1, 1) := by decide +kernel
theorem dX6_forgetAll_13 : decode cX6_forgetAll 13 = .ok (.iconst (-1), 1) := by decide +kernel
theorem dX6_forgetAll_14 : decode cX6_forgetAll 14 = .ok (.iastore, 1) := by decide +kernel
theorem dX6_forgetAll_15 : decode cX6_forgetAll 15 = .ok (.iinc 1 1, 3) := by decide +kernel
theorem dX6_forgetAll_18 : decode cX6_forgetAll 18 = .ok (.goto (-16), 3) := by decide +kernel
theorem dX6_forgetAll_21 : decode cX6_forgetAll 21 = .ok (.return_, 1) := by decide +kernel
theorem dX6_listen_0 : decode cX6_listen 0 = .ok (.aload_n 1, 1) := by decide +kernel
theorem dX6_listen_1 : decode cX6_listen 1 = .ok (.getfield 29, 3) := by decide +kernel
theorem dX6_listen_4 : decode cX6_listen 4 = .ok (.getfield 55, 3) := by decide +kernel
theorem dX6_listen_7 : decode cX6_listen 7 = .ok (.iload_n 2, 1) := by decide +kernel
theorem dX6_listen_8 : decode cX6_listen 8 = .ok (.iaload, 1) := by decide +kernel
theorem dX6_listen_9 : decode cX6_listen 9 = .ok (.istore 4, 2) := by decide +kernel
theorem dX6_listen_11 : decode cX6_listen 11 = .ok (.aload_n 0, 1) := by decide +kernel
theorem dX6_listen_12 : decode cX6_listen 12 = .ok (.getfield 15, 3) := by decide +kernel
theorem dX6_listen_15 : decode cX6_listen 15 = .ok (.iload_n 2, 1) := by decide +kernel
theorem dX6_listen_16 : decode cX6_listen 16 = .ok (.iconst 0, 1) := by decide +kernel
theorem dX6_listen_17 : decode cX6_listen 17 = .ok (.bastore, 1) := by decide +kernel
theorem dX6_listen_18 : decode cX6_listen 18 = .ok (.iload 4, 2) := by decide +kernel
theorem dX6_listen_20 : decode cX6_listen 20 = .ok (.bipush 6, 2) := by decide +kernel
theorem dX6_listen_22 : decode cX6_listen 22 = .ok (.if_icmp .ne 13, 3) := by decide +kernel
theorem dX6_listen_25 : decode cX6_listen 25 = .ok (.aload_n 0, 1) := by decide +kernel
theorem dX6_listen_26 : decode cX6_listen 26 = .ok (.getfield 15, 3) := by decide +kernel
theorem dX6_listen_29 : decode cX6_listen 29 = .ok (.iload_n 2, 1) := by decide +kernel
theorem dX6_listen_30 : decode cX6_listen 30 = .ok (.iload_n 3, 1) := by decide +kernel
theorem dX6_listen_31 : decode cX6_listen 31 = .ok (.bastore, 1) := by decide +kernel
theorem dX6_listen_32 : decode cX6_listen 32 = .ok (.goto 124, 3) := by decide +kernel
theorem dX6_listen_35 : decode cX6_listen 35 = .ok (.iload 4, 2) := by decide +kernel
theorem dX6_listen_37 : decode cX6_listen 37 = .ok (.bipush 7, 2) := by decide +kernel
theorem dX6_listen_39 : decode cX6_listen 39 = .ok (.if_icmp .ne 26, 3) := by decide +kernel
theorem dX6_listen_42 : decode cX6_listen 42 = .ok (.aload_n 0, 1) := by decide +kernel
theorem dX6_listen_43 : decode cX6_listen 43 = .ok (.dup, 1) := by decide +kernel
theorem dX6_listen_44 : decode cX6_listen 44 = .ok (.getfield 19, 3) := by decide +kernel
theorem dX6_listen_47 : decode cX6_listen 47 = .ok (.iconst 1, 1) := by decide +kernel
theorem dX6_listen_48 : decode cX6_listen 48 = .ok (.aload_n 1, 1) := by decide +kernel
theorem dX6_listen_49 : decode cX6_listen 49 = .ok (.getfield 29, 3) := by decide +kernel
theorem dX6_listen_52 : decode cX6_listen 52 = .ok (.getfield 58, 3) := by decide +kernel
theorem dX6_listen_55 : decode cX6_listen 55 = .ok (.iload_n 2, 1) := by decide +kernel
theorem dX6_listen_56 : decode cX6_listen 56 = .ok (.iaload, 1) := by decide +kernel
theorem dX6_listen_57 : decode cX6_listen 57 = .ok (.ishl, 1) := by decide +kernel
theorem dX6_listen_58 : decode cX6_listen 58 = .ok (.ixor, 1) := by decide +kernel
theorem dX6_listen_59 : decode cX6_listen 59 = .ok (.putfield 19, 3) := by decide +kernel
theorem dX6_listen_62 : decode cX6_listen 62 = .ok (.goto 94, 3) := by decide +kernel
theorem dX6_listen_65 : decode cX6_listen 65 = .ok (.iload 4, 2) := by decide +kernel
theorem dX6_listen_67 : decode cX6_listen 67 = .ok (.invokestatic 61, 3) := by decide +kernel
theorem dX6_listen_70 : decode cX6_listen 70 = .ok (.ifCond .eq 86, 3) := by decide +kernel
theorem dX6_listen_73 : decode cX6_listen 73 = .ok (.aload_n 0, 1) := by decide +kernel
theorem dX6_listen_74 : decode cX6_listen 74 = .ok (.getfield 9, 3) := by decide +kernel
theorem dX6_listen_77 : decode cX6_listen 77 = .ok (.iload 4, 2) := by decide +kernel
theorem dX6_listen_79 : decode cX6_listen 79 = .ok (.iaload, 1) := by decide +kernel
theorem dX6_listen_80 : decode cX6_listen 80 = .ok (.iconst (-1), 1) := by decide +kernel
theorem dX6_listen_81 : decode cX6_listen 81 = .ok (.if_icmp .eq 75, 3) := by decide +kernel
theorem dX6_listen_84 : decode cX6_listen 84 = .ok (.aload_n 0, 1) := by decide +kernel
theorem dX6_listen_85 : decode cX6_listen 85 = .ok (.getfield 19, 3) := by decide +kernel
theorem dX6_listen_88 : decode cX6_listen 88 = .ok (.iload 4, 2) := by decide +kernel
theorem dX6_listen_90 : decode cX6_listen 90 = .ok (.ishr, 1) := by decide +kernel
theorem dX6_listen_91 : decode cX6_listen 91 = .ok (.iconst 1, 1) := by decide +kernel
theorem dX6_listen_92 : decode cX6_listen 92 = .ok (.iand, 1) := by decide +kernel
theorem dX6_listen_93 : decode cX6_listen 93 = .ok (.ifCond .ne 63, 3) := by decide +kernel
theorem dX6_listen_96 : decode cX6_listen 96 = .ok (.iload_n 2, 1) := by decide +kernel
theorem dX6_listen_97 : decode cX6_listen 97 = .ok (.ifCond .le 29, 3) := by decide +kernel
theorem dX6_listen_100 : decode cX6_listen 100 = .ok (.aload_n 0, 1) := by decide +kernel
theorem dX6_listen_101 : decode cX6_listen 101 = .ok (.getfield 15, 3) := by decide +kernel
theorem dX6_listen_104 : decode cX6_listen 104 = .ok (.iload_n 2, 1) := by decide +kernel
theorem dX6_listen_105 : decode cX6_listen 105 = .ok (.iconst 1, 1) := by decide +kernel
theorem dX6_listen_106 : decode cX6_listen 106 = .ok (.isub, 1) := by decide +kernel
theorem dX6_listen_107 : decode cX6_listen 107 = .ok (.baload, 1) := by decide +kernel
theorem dX6_listen_108 : decode cX6_listen 108 = .ok (.ifCond .eq 18, 3) := by decide +kernel
theorem dX6_listen_111 : decode cX6_listen 111 = .ok (.aload_n 1, 1) := by decide +kernel
theorem dX6_listen_112 : decode cX6_listen 112 = .ok (.getfield 29, 3) := by decide +kernel
theorem dX6_listen_115 : decode cX6_listen 115 = .ok (.iload_n 2, 1) := by decide +kernel
theorem dX6_listen_116 : decode cX6_listen 116 = .ok (.invokevirtual 65, 3) := by decide +kernel
theorem dX6_listen_119 : decode cX6_listen 119 = .ok (.ifCond .eq 7, 3) := by decide +kernel
theorem dX6_listen_122 : decode cX6_listen 122 = .ok (.iconst 1, 1) := by decide +kernel
theorem dX6_listen_123 : decode cX6_listen 123 = .ok (.goto 4, 3) := by decide +kernel
theorem dX6_listen_126 : decode cX6_listen 126 = .ok (.iconst 0, 1) := by decide +kernel
theorem dX6_listen_127 : decode cX6_listen 127 = .ok (.istore 5, 2) := by decide +kernel
theorem dX6_listen_129 : decode cX6_listen 129 = .ok (.aload_n 0, 1) := by decide +kernel
theorem dX6_listen_130 : decode cX6_listen 130 = .ok (.getfield 15, 3) := by decide +kernel
theorem dX6_listen_133 : decode cX6_listen 133 = .ok (.iload_n 2, 1) := by decide +kernel
theorem dX6_listen_134 : decode cX6_listen 134 = .ok (.iload 5, 2) := by decide +kernel
theorem dX6_listen_136 : decode cX6_listen 136 = .ok (.ifCond .ne 14, 3) := by decide +kernel
theorem dX6_listen_139 : decode cX6_listen 139 = .ok (.aload_n 1, 1) := by decide +kernel
theorem dX6_listen_140 : decode cX6_listen 140 = .ok (.getfield 68, 3) := by decide +kernel
theorem dX6_listen_143 : decode cX6_listen 143 = .ok (.iload 4, 2) := by decide +kernel
theorem dX6_listen_145 : decode cX6_listen 145 = .ok (.iaload, 1) := by decide +kernel
theorem dX6_listen_146 : decode cX6_listen 146 = .ok (.iconst 4, 1) := by decide +kernel
theorem dX6_listen_147 : decode cX6_listen 147 = .ok (.if_icmp .eq 7, 3) := by decide +kernel
theorem dX6_listen_150 : decode cX6_listen 150 = .ok (.iconst 1, 1) := by decide +kernel
theorem dX6_listen_151 : decode cX6_listen 151 = .ok (.goto 4, 3) := by decide +kernel
theorem dX6_listen_154 : decode cX6_listen 154 = .ok (.iconst 0, 1) := by decide +kernel
theorem dX6_listen_155 : decode cX6_listen 155 = .ok (.bastore, 1) := by decide +kernel
theorem dX6_listen_156 : decode cX6_listen 156 = .ok (.return_, 1) := by decide +kernel
theorem dX6_saidIn_0 : decode cX6_saidIn 0 = .ok (.aload_n 1, 1) := by decide +kernel
theorem dX6_saidIn_1 : decode cX6_saidIn 1 = .ok (.getfield 29, 3) := by decide +kernel
theorem dX6_saidIn_4 : decode cX6_saidIn 4 = .ok (.getfield 55, 3) := by decide +kernel
theorem dX6_saidIn_7 : decode cX6_saidIn 7 = .ok (.iload_n 2, 1) := by decide +kernel
theorem dX6_saidIn_8 : decode cX6_saidIn 8 = .ok (.iaload, 1) := by decide +kernel
theorem dX6_saidIn_9 : decode cX6_saidIn 9 = .ok (.istore_n 3, 1) := by decide +kernel
theorem dX6_saidIn_10 : decode cX6_saidIn 10 = .ok (.iload_n 3, 1) := by decide +kernel
theorem dX6_saidIn_11 : decode cX6_saidIn 11 = .ok (.invokestatic 61, 3) := by decide +kernel
theorem dX6_saidIn_14 : decode cX6_saidIn 14 = .ok (.ifCond .eq 12, 3) := by decide +kernel
theorem dX6_saidIn_17 : decode cX6_saidIn 17 = .ok (.aload_n 0, 1) := by decide +kernel
theorem dX6_saidIn_18 : decode cX6_saidIn 18 = .ok (.getfield 9, 3) := by decide +kernel
theorem dX6_saidIn_21 : decode cX6_saidIn 21 = .ok (.iload_n 3, 1) := by decide +kernel
theorem dX6_saidIn_22 : decode cX6_saidIn 22 = .ok (.iaload, 1) := by decide +kernel
theorem dX6_saidIn_23 : decode cX6_saidIn 23 = .ok (.goto 7, 3) := by decide +kernel
theorem dX6_saidIn_26 : decode cX6_saidIn 26 = .ok (.aload_n 1, 1) := by decide +kernel
theorem dX6_saidIn_27 : decode cX6_saidIn 27 = .ok (.getfield 71, 3) := by decide +kernel
theorem dX6_saidIn_30 : decode cX6_saidIn 30 = .ok (.ireturn, 1) := by decide +kernel
theorem dX6_keep_0 : decode cX6_keep 0 = .ok (.aload_n 1, 1) := by decide +kernel
theorem dX6_keep_1 : decode cX6_keep 1 = .ok (.getfield 29, 3) := by decide +kernel
theorem dX6_keep_4 : decode cX6_keep 4 = .ok (.getfield 58, 3) := by decide +kernel
theorem dX6_keep_7 : decode cX6_keep 7 = .ok (.iload_n 3, 1) := by decide +kernel
theorem dX6_keep_8 : decode cX6_keep 8 = .ok (.iaload, 1) := by decide +kernel
theorem dX6_keep_9 : decode cX6_keep 9 = .ok (.istore 5, 2) := by decide +kernel
theorem dX6_keep_11 : decode cX6_keep 11 = .ok (.iload 5, 2) := by decide +kernel
theorem dX6_keep_13 : decode cX6_keep 13 = .ok (.invokestatic 61, 3) := by decide +kernel
theorem dX6_keep_16 : decode cX6_keep 16 = .ok (.ifCond .ne 4, 3) := by decide +kernel
theorem dX6_keep_19 : decode cX6_keep 19 = .ok (.return_, 1) := by decide +kernel
theorem dX6_keep_20 : decode cX6_keep 20 = .ok (.aload_n 0, 1) := by decide +kernel
theorem dX6_keep_21 : decode cX6_keep 21 = .ok (.getfield 9, 3) := by decide +kernel
theorem dX6_keep_24 : decode cX6_keep 24 = .ok (.iload 5, 2) := by decide +kernel
theorem dX6_keep_26 : decode cX6_keep 26 = .ok (.aload_n 2, 1) := by decide +kernel
theorem dX6_keep_27 : decode cX6_keep 27 = .ok (.aload_n 1, 1) := by decide +kernel
theorem dX6_keep_28 : decode cX6_keep 28 = .ok (.getfield 68, 3) := by decide +kernel
theorem dX6_keep_31 : decode cX6_keep 31 = .ok (.iload 5, 2) := by decide +kernel
theorem dX6_keep_33 : decode cX6_keep 33 = .ok (.iaload, 1) := by decide +kernel
theorem dX6_keep_34 : decode cX6_keep 34 = .ok (.aload_n 0, 1) := by decide +kernel
theorem dX6_keep_35 : decode cX6_keep 35 = .ok (.aload_n 1, 1) := by decide +kernel
theorem dX6_keep_36 : decode cX6_keep 36 = .ok (.iload_n 3, 1) := by decide +kernel
theorem dX6_keep_37 : decode cX6_keep 37 = .ok (.invokevirtual 74, 3) := by decide +kernel
theorem dX6_keep_40 : decode cX6_keep 40 = .ok (.iload 4, 2) := by decide +kernel
theorem dX6_keep_42 : decode cX6_keep 42 = .ok (.invokevirtual 78, 3) := by decide +kernel
theorem dX6_keep_45 : decode cX6_keep 45 = .ok (.iastore, 1) := by decide +kernel
theorem dX6_keep_46 : decode cX6_keep 46 = .ok (.return_, 1) := by decide +kernel
theorem dX6_draw_0 : decode cX6_draw 0 = .ok (.aload_n 1, 1) := by decide +kernel
theorem dX6_draw_1 : decode cX6_draw 1 = .ok (.getfield 29, 3) := by decide +kernel
theorem dX6_draw_4 : decode cX6_draw 4 = .ok (.getfield 58, 3) := by decide +kernel
theorem dX6_draw_7 : decode cX6_draw 7 = .ok (.iload_n 3, 1) := by decide +kernel
theorem dX6_draw_8 : decode cX6_draw 8 = .ok (.iaload, 1) := by decide +kernel
theorem dX6_draw_9 : decode cX6_draw 9 = .ok (.istore 4, 2) := by decide +kernel
theorem dX6_draw_11 : decode cX6_draw 11 = .ok (.iload 4, 2) := by decide +kernel
theorem dX6_draw_13 : decode cX6_draw 13 = .ok (.invokestatic 61, 3) := by decide +kernel
theorem dX6_draw_16 : decode cX6_draw 16 = .ok (.ifCond .eq 13, 3) := by decide +kernel
theorem dX6_draw_19 : decode cX6_draw 19 = .ok (.aload_n 1, 1) := by decide +kernel
theorem dX6_draw_20 : decode cX6_draw 20 = .ok (.getfield 68, 3) := by decide +kernel
theorem dX6_draw_23 : decode cX6_draw 23 = .ok (.iload 4, 2) := by decide +kernel
theorem dX6_draw_25 : decode cX6_draw 25 = .ok (.iaload, 1) := by decide +kernel
theorem dX6_draw_26 : decode cX6_draw 26 = .ok (.goto 4, 3) := by decide +kernel
theorem dX6_draw_29 : decode cX6_draw 29 = .ok (.iconst 0, 1) := by decide +kernel
theorem dX6_draw_30 : decode cX6_draw 30 = .ok (.istore 5, 2) := by decide +kernel
theorem dX6_draw_32 : decode cX6_draw 32 = .ok (.iload 5, 2) := by decide +kernel
theorem dX6_draw_34 : decode cX6_draw 34 = .ok (.iconst 1, 1) := by decide +kernel
theorem dX6_draw_35 : decode cX6_draw 35 = .ok (.if_icmp .lt 9, 3) := by decide +kernel
theorem dX6_draw_38 : decode cX6_draw 38 = .ok (.iload 5, 2) := by decide +kernel
theorem dX6_draw_40 : decode cX6_draw 40 = .ok (.iconst 3, 1) := by decide +kernel
theorem dX6_draw_41 : decode cX6_draw 41 = .ok (.if_icmp .le 5, 3) := by decide +kernel
theorem dX6_draw_44 : decode cX6_draw 44 = .ok (.iconst 0, 1) := by decide +kernel
theorem dX6_draw_45 : decode cX6_draw 45 = .ok (.ireturn, 1) := by decide +kernel
theorem dX6_draw_46 : decode cX6_draw 46 = .ok (.aload_n 0, 1) := by decide +kernel
theorem dX6_draw_47 : decode cX6_draw 47 = .ok (.invokevirtual 84, 3) := by decide +kernel
theorem dX6_draw_50 : decode cX6_draw 50 = .ok (.aload_n 1, 1) := by decide +kernel
theorem dX6_draw_51 : decode cX6_draw 51 = .ok (.getfield 87, 3) := by decide +kernel
theorem dX6_draw_54 : decode cX6_draw 54 = .ok (.iconst 1, 1) := by decide +kernel
theorem dX6_draw_55 : decode cX6_draw 55 = .ok (.if_icmp .lt 15, 3) := by decide +kernel
theorem dX6_draw_58 : decode cX6_draw 58 = .ok (.aload_n 0, 1) := by decide +kernel
theorem dX6_draw_59 : decode cX6_draw 59 = .ok (.getfield 23, 3) := by decide +kernel
theorem dX6_draw_62 : decode cX6_draw 62 = .ok (.aload_n 1, 1) := by decide +kernel
theorem dX6_draw_63 : decode cX6_draw 63 = .ok (.getfield 87, 3) := by decide +kernel
theorem dX6_draw_66 : decode cX6_draw 66 = .ok (.irem, 1) := by decide +kernel
theorem dX6_draw_67 : decode cX6_draw 67 = .ok (.ifCond .eq 5, 3) := by decide +kernel
theorem dX6_draw_70 : decode cX6_draw 70 = .ok (.iconst 0, 1) := by decide +kernel
theorem dX6_draw_71 : decode cX6_draw 71 = .ok (.ireturn, 1) := by decide +kernel
theorem dX6_draw_72 : decode cX6_draw 72 = .ok (.aload_n 0, 1) := by decide +kernel
theorem dX6_draw_73 : decode cX6_draw 73 = .ok (.invokevirtual 84, 3) := by decide +kernel
theorem dX6_draw_76 : decode cX6_draw 76 = .ok (.aload_n 2, 1) := by decide +kernel
theorem dX6_draw_77 : decode cX6_draw 77 = .ok (.iload 5, 2) := by decide +kernel
theorem dX6_draw_79 : decode cX6_draw 79 = .ok (.aload_n 0, 1) := by decide +kernel
theorem dX6_draw_80 : decode cX6_draw 80 = .ok (.aload_n 1, 1) := by decide +kernel
theorem dX6_draw_81 : decode cX6_draw 81 = .ok (.iload_n 3, 1) := by decide +kernel
theorem dX6_draw_82 : decode cX6_draw 82 = .ok (.invokevirtual 74, 3) := by decide +kernel
theorem dX6_draw_85 : decode cX6_draw 85 = .ok (.invokevirtual 90, 3) := by decide +kernel
theorem dX6_draw_88 : decode cX6_draw 88 = .ok (.istore 6, 2) := by decide +kernel
theorem dX6_draw_90 : decode cX6_draw 90 = .ok (.iload 6, 2) := by decide +kernel
theorem dX6_draw_92 : decode cX6_draw 92 = .ok (.iconst 1, 1) := by decide +kernel
theorem dX6_draw_93 : decode cX6_draw 93 = .ok (.if_icmp .ge 7, 3) := by decide +kernel
theorem dX6_draw_96 : decode cX6_draw 96 = .ok (.iconst 0, 1) := by decide +kernel
theorem dX6_draw_97 : decode cX6_draw 97 = .ok (.goto 12, 3) := by decide +kernel
theorem dX6_draw_100 : decode cX6_draw 100 = .ok (.iconst 1, 1) := by decide +kernel
theorem dX6_draw_101 : decode cX6_draw 101 = .ok (.aload_n 0, 1) := by decide +kernel
theorem dX6_draw_102 : decode cX6_draw 102 = .ok (.getfield 23, 3) := by decide +kernel
theorem dX6_draw_105 : decode cX6_draw 105 = .ok (.iload 6, 2) := by decide +kernel
theorem dX6_draw_107 : decode cX6_draw 107 = .ok (.irem, 1) := by decide +kernel
theorem dX6_draw_108 : decode cX6_draw 108 = .ok (.iadd, 1) := by decide +kernel
theorem dX6_draw_109 : decode cX6_draw 109 = .ok (.ireturn, 1) := by decide +kernel
theorem dX6_nextSeed_0 : decode cX6_nextSeed 0 = .ok (.aload_n 0, 1) := by decide +kernel
theorem dX6_nextSeed_1 : decode cX6_nextSeed 1 = .ok (.bipush 75, 2) := by decide +kernel
theorem dX6_nextSeed_3 : decode cX6_nextSeed 3 = .ok (.aload_n 0, 1) := by decide +kernel
theorem dX6_nextSeed_4 : decode cX6_nextSeed 4 = .ok (.getfield 23, 3) := by decide +kernel
theorem dX6_nextSeed_7 : decode cX6_nextSeed 7 = .ok (.imul, 1) := by decide +kernel
theorem dX6_nextSeed_8 : decode cX6_nextSeed 8 = .ok (.bipush 74, 2) := by decide +kernel
theorem dX6_nextSeed_10 : decode cX6_nextSeed 10 = .ok (.iadd, 1) := by decide +kernel
theorem dX6_nextSeed_11 : decode cX6_nextSeed 11 = .ok (.ldc 94, 2) := by decide +kernel
theorem dX6_nextSeed_13 : decode cX6_nextSeed 13 = .ok (.irem, 1) := by decide +kernel
theorem dX6_nextSeed_14 : decode cX6_nextSeed 14 = .ok (.putfield 23, 3) := by decide +kernel
theorem dX6_nextSeed_17 : decode cX6_nextSeed 17 = .ok (.return_, 1) := by decide +kernel
theorem dX7_init_0 : decode cX7_init 0 = .ok (.aload_n 0, 1) := by decide +kernel
theorem dX7_init_1 : decode cX7_init 1 = .ok (.invokespecial 1, 3) := by decide +kernel
theorem dX7_init_4 : decode cX7_init 4 = .ok (.aload_n 0, 1) := by decide +kernel
theorem dX7_init_5 : decode cX7_init 5 = .ok (.new 7, 3) := by decide +kernel
theorem dX7_init_8 : decode cX7_init 8 = .ok (.dup, 1) := by decide +kernel
theorem dX7_init_9 : decode cX7_init 9 = .ok (.invokespecial 9, 3) := by decide +kernel
theorem dX7_init_12 : decode cX7_init 12 = .ok (.putfield 10, 3) := by decide +kernel
theorem dX7_init_15 : decode cX7_init 15 = .ok (.aload_n 0, 1) := by decide +kernel
theorem dX7_init_16 : decode cX7_init 16 = .ok (.new 16, 3) := by decide +kernel
theorem dX7_init_19 : decode cX7_init 19 = .ok (.dup, 1) := by decide +kernel
theorem dX7_init_20 : decode cX7_init 20 = .ok (.invokespecial 18, 3) := by decide +kernel
theorem dX7_init_23 : decode cX7_init 23 = .ok (.putfield 19, 3) := by decide +kernel
theorem dX7_init_26 : decode cX7_init 26 = .ok (.aload_n 0, 1) := by decide +kernel
theorem dX7_init_27 : decode cX7_init 27 = .ok (.new 23, 3) := by decide +kernel
theorem dX7_init_30 : decode cX7_init 30 = .ok (.dup, 1) := by decide +kernel
theorem dX7_init_31 : decode cX7_init 31 = .ok (.invokespecial 25, 3) := by decide +kernel
theorem dX7_init_34 : decode cX7_init 34 = .ok (.putfield 26, 3) := by decide +kernel
theorem dX7_init_37 : decode cX7_init 37 = .ok (.aload_n 0, 1) := by decide +kernel
theorem dX7_init_38 : decode cX7_init 38 = .ok (.new 30, 3) := by decide +kernel
theorem dX7_init_41 : decode cX7_init 41 = .ok (.dup, 1) := by decide +kernel
theorem dX7_init_42 : decode cX7_init 42 = .ok (.invokespecial 32, 3) := by decide +kernel
theorem dX7_init_45 : decode cX7_init 45 = .ok (.putfield 33, 3) := by decide +kernel
theorem dX7_init_48 : decode cX7_init 48 = .ok (.aload_n 0, 1) := by decide +kernel
theorem dX7_init_49 : decode cX7_init 49 = .ok (.iconst 2, 1) := by decide +kernel
theorem dX7_init_50 : decode cX7_init 50 = .ok (.anewarray 30, 3) := by decide +kernel
theorem dX7_init_53 : decode cX7_init 53 = .ok (.dup, 1) := by decide +kernel
theorem dX7_init_54 : decode cX7_init 54 = .ok (.iconst 0, 1) := by decide +kernel
theorem dX7_init_55 : decode cX7_init 55 = .ok (.new 30, 3) := by decide +kernel
theorem dX7_init_58 : decode cX7_init 58 = .ok (.dup, 1) := by decide +kernel
theorem dX7_init_59 : decode cX7_init 59 = .ok (.invokespecial 32, 3) := by decide +kernel
theorem dX7_init_62 : decode cX7_init 62 = .ok (.aastore, 1) := by decide +kernel
theorem dX7_init_63 : decode cX7_init 63 = .ok (.dup, 1) := by decide +kernel
theorem dX7_init_64 : decode cX7_init 64 = .ok (.iconst 1, 1) := by decide +kernel
theorem dX7_init_65 : decode cX7_init 65 = .ok (.new 30, 3) := by decide +kernel
theorem dX7_init_68 : decode cX7_init 68 = .ok (.dup, 1) := by decide +kernel
theorem dX7_init_69 : decode cX7_init 69 = .ok (.invokespecial 32, 3) := by decide +kernel
theorem dX7_init_72 : decode cX7_init 72 = .ok (.aastore, 1) := by decide +kernel
theorem dX7_init_73 : decode cX7_init 73 = .ok (.putfield 37, 3) := by decide +kernel
theorem dX7_init_76 : decode cX7_init 76 = .ok (.aload_n 0, 1) := by decide +kernel
theorem dX7_init_77 : decode cX7_init 77 = .ok (.iconst 2, 1) := by decide +kernel
theorem dX7_init_78 : decode cX7_init 78 = .ok (.newarray .boolean, 2) := by decide +kernel
theorem dX7_init_80 : decode cX7_init 80 = .ok (.putfield 41, 3) := by decide +kernel
theorem dX7_init_83 : decode cX7_init 83 = .ok (.aload_n 0, 1) := by decide +kernel
theorem dX7_init_84 : decode cX7_init 84 = .ok (.new 45, 3) := by decide +kernel
theorem dX7_init_87 : decode cX7_init 87 = .ok (.dup, 1) := by decide +kernel
theorem dX7_init_88 : decode cX7_init 88 = .ok (.invokespecial 47, 3) := by decide +kernel
theorem dX7_init_91 : decode cX7_init 91 = .ok (.putfield 48, 3) := by decide +kernel
theorem dX7_init_94 : decode cX7_init 94 = .ok (.aload_n 0, 1) := by decide +kernel
theorem dX7_init_95 : decode cX7_init 95 = .ok (.new 52, 3) := by decide +kernel
theorem dX7_init_98 : decode cX7_init 98 = .ok (.dup, 1) := by decide +kernel
theorem dX7_init_99 : decode cX7_init 99 = .ok (.invokespecial 54, 3) := by decide +kernel
theorem dX7_init_102 : decode cX7_init 102 = .ok (.putfield 55, 3) := by decide +kernel
theorem dX7_init_105 : decode cX7_init 105 = .ok (.aload_n 0, 1) := by decide +kernel
theorem dX7_init_106 : decode cX7_init 106 = .ok (.new 52, 3) := by decide +kernel
theorem dX7_init_109 : decode cX7_init 109 = .ok (.dup, 1) := by decide +kernel
theorem dX7_init_110 : decode cX7_init 110 = .ok (.invokespecial 54, 3) := by decide +kernel
theorem dX7_init_113 : decode cX7_init 113 = .ok (.putfield 59, 3) := by decide +kernel
theorem dX7_init_116 : decode cX7_init 116 = .ok (.aload_n 0, 1) := by decide +kernel
theorem dX7_init_117 : decode cX7_init 117 = .ok (.bipush 6, 2) := by decide +kernel
theorem dX7_init_119 : decode cX7_init 119 = .ok (.newarray .int, 2) := by decide +kernel
theorem dX7_init_121 : decode cX7_init 121 = .ok (.putfield 62, 3) := by decide +kernel
theorem dX7_init_124 : decode cX7_init 124 = .ok (.aload_n 0, 1) := by decide +kernel
theorem dX7_init_125 : decode cX7_init 125 = .ok (.new 66, 3) := by decide +kernel
theorem dX7_init_128 : decode cX7_init 128 = .ok (.dup, 1) := by decide +kernel
theorem dX7_init_129 : decode cX7_init 129 = .ok (.invokespecial 68, 3) := by decide +kernel
theorem dX7_init_132 : decode cX7_init 132 = .ok (.putfield 69, 3) := by decide +kernel
theorem dX7_init_135 : decode cX7_init 135 = .ok (.aload_n 0, 1) := by decide +kernel
theorem dX7_init_136 : decode cX7_init 136 = .ok (.iconst 0, 1) := by decide +kernel
theorem dX7_init_137 : decode cX7_init 137 = .ok (.putfield 73, 3) := by decide +kernel
theorem dX7_init_140 : decode cX7_init 140 = .ok (.aload_n 0, 1) := by decide +kernel
theorem dX7_init_141 : decode cX7_init 141 = .ok (.iconst 0, 1) := by decide +kernel
theorem dX7_init_142 : decode cX7_init 142 = .ok (.putfield 77, 3) := by decide +kernel
theorem dX7_init_145 : decode cX7_init 145 = .ok (.return_, 1) := by decide +kernel
theorem dX7_sort_0 : decode cX7_sort 0 = .ok (.iload_n 1, 1) := by decide +kernel
theorem dX7_sort_1 : decode cX7_sort 1 = .ok (.invokestatic 80, 3) := by decide +kernel
theorem dX7_sort_4 : decode cX7_sort 4 = .ok (.ifCond .ne 5, 3) := by decide +kernel
theorem dX7_sort_7 : decode cX7_sort 7 = .ok (.iconst (-1), 1) := by decide +kernel
theorem dX7_sort_8 : decode cX7_sort 8 = .ok (.ireturn, 1) := by decide +kernel
theorem dX7_sort_9 : decode cX7_sort 9 = .ok (.iload_n 2, 1) := by decide +kernel
theorem dX7_sort_10 : decode cX7_sort 10 = .ok (.ifCond .lt 8, 3) := by decide +kernel
theorem dX7_sort_13 : decode cX7_sort 13 = .ok (.iload_n 2, 1) := by decide +kernel
theorem dX7_sort_14 : decode cX7_sort 14 = .ok (.iconst 4, 1) := by decide +kernel
theorem dX7_sort_15 : decode cX7_sort 15 = .ok (.if_icmp .le 6, 3) := by decide +kernel
theorem dX7_sort_18 : decode cX7_sort 18 = .ok (.bipush (-2), 2) := by decide +kernel
theorem dX7_sort_20 : decode cX7_sort 20 = .ok (.ireturn, 1) := by decide +kernel
theorem dX7_sort_21 : decode cX7_sort 21 = .ok (.aload_n 0, 1) := by decide +kernel
theorem dX7_sort_22 : decode cX7_sort 22 = .ok (.getfield 33, 3) := by decide +kernel
theorem dX7_sort_25 : decode cX7_sort 25 = .ok (.getfield 84, 3) := by decide +kernel
theorem dX7_sort_28 : decode cX7_sort 28 = .ok (.iload_n 1, 1) := by decide +kernel
theorem dX7_sort_29 : decode cX7_sort 29 = .ok (.iaload, 1) := by decide +kernel
theorem dX7_sort_30 : decode cX7_sort 30 = .ok (.istore_n 3, 1) := by decide +kernel
theorem dX7_sort_31 : decode cX7_sort 31 = .ok (.aload_n 0, 1) := by decide +kernel
theorem dX7_sort_32 : decode cX7_sort 32 = .ok (.getfield 33, 3) := by decide +kernel
theorem dX7_sort_35 : decode cX7_sort 35 = .ok (.getfield 84, 3) := by decide +kernel
theorem dX7_sort_38 : decode cX7_sort 38 = .ok (.iload_n 1, 1) := by decide +kernel
theorem dX7_sort_39 : decode cX7_sort 39 = .ok (.iload_n 2, 1) := by decide +kernel
theorem dX7_sort_40 : decode cX7_sort 40 = .ok (.iastore, 1) := by decide +kernel
theorem dX7_sort_41 : decode cX7_sort 41 = .ok (.aload_n 0, 1) := by decide +kernel
theorem dX7_sort_42 : decode cX7_sort 42 = .ok (.invokevirtual 87, 3) := by decide +kernel
theorem dX7_sort_45 : decode cX7_sort 45 = .ok (.iload_n 3, 1) := by decide +kernel
theorem dX7_sort_46 : decode cX7_sort 46 = .ok (.ireturn, 1) := by decide +kernel
theorem dX7_say_0 : decode cX7_say 0 = .ok (.iload_n 1, 1) := by decide +kernel
theorem dX7_say_1 : decode cX7_say 1 = .ok (.bipush 33, 2) := by decide +kernel
theorem dX7_say_3 : decode cX7_say 3 = .ok (.if_icmp .lt 9, 3) := by decide +kernel
theorem dX7_say_6 : decode cX7_say 6 = .ok (.iload_n 1, 1) := by decide +kernel
theorem dX7_say_7 : decode cX7_say 7 = .ok (.bipush 126, 2) := by decide +kernel
theorem dX7_say_9 : decode cX7_say 9 = .ok (.if_icmp .le 6, 3) := by decide +kernel
theorem dX7_say_12 : decode cX7_say 12 = .ok (.bipush (-2), 2) := by decide +kernel
theorem dX7_say_14 : decode cX7_say 14 = .ok (.ireturn, 1) := by decide +kernel
theorem dX7_say_15 : decode cX7_say 15 = .ok (.aload_n 0, 1) := by decide +kernel
theorem dX7_say_16 : decode cX7_say 16 = .ok (.getfield 19, 3) := by decide +kernel
theorem dX7_say_19 : decode cX7_say 19 = .ok (.iload_n 1, 1) := by decide +kernel
theorem dX7_say_20 : decode cX7_say 20 = .ok (.invokevirtual 90, 3) := by decide +kernel
theorem dX7_say_23 : decode cX7_say 23 = .ok (.ifCond .eq 13, 3) := by decide +kernel
theorem dX7_say_26 : decode cX7_say 26 = .ok (.aload_n 0, 1) := by decide +kernel
theorem dX7_say_27 : decode cX7_say 27 = .ok (.getfield 19, 3) := by decide +kernel
theorem dX7_say_30 : decode cX7_say 30 = .ok (.getfield 93, 3) := by decide +kernel
theorem dX7_say_33 : decode cX7_say 33 = .ok (.goto 5, 3) := by decide +kernel
theorem dX7_say_36 : decode cX7_say 36 = .ok (.bipush (-4), 2) := by decide +kernel
theorem dX7_say_38 : decode cX7_say 38 = .ok (.ireturn, 1) := by decide +kernel
theorem dX7_wipe_0 : decode cX7_wipe 0 = .ok (.aload_n 0, 1) := by decide +kernel
theorem dX7_wipe_1 : decode cX7_wipe 1 = .ok (.getfield 19, 3) := by decide +kernel
theorem dX7_wipe_4 : decode cX7_wipe 4 = .ok (.getfield 93, 3) := by decide +kernel
theorem dX7_wipe_7 : decode cX7_wipe 7 = .ok (.istore_n 1, 1) := by decide +kernel
theorem dX7_wipe_8 : decode cX7_wipe 8 = .ok (.aload_n 0, 1) := by decide +kernel
theorem dX7_wipe_9 : decode cX7_wipe 9 = .ok (.getfield 19, 3) := by decide +kernel
theorem dX7_wipe_12 : decode cX7_wipe 12 = .ok (.iconst 0, 1) := by decide +kernel
theorem dX7_wipe_13 : decode cX7_wipe 13 = .ok (.putfield 93, 3) := by decide +kernel
theorem dX7_wipe_16 : decode cX7_wipe 16 = .ok (.iload_n 1, 1) := by decide +kernel
theorem dX7_wipe_17 : decode cX7_wipe 17 = .ok (.ireturn, 1) := by decide +kernel
theorem dX7_fault_0 : decode cX7_fault 0 = .ok (.iload_n 1, 1) := by decide +kernel
theorem dX7_fault_1 : decode cX7_fault 1 = .ok (.ifCond .ne 15, 3) := by decide +kernel
theorem dX7_fault_4 : decode cX7_fault 4 = .ok (.aload_n 0, 1) := by decide +kernel
theorem dX7_fault_5 : decode cX7_fault 5 = .ok (.getfield 19, 3) := by decide +kernel
theorem dX7_fault_8 : decode cX7_fault 8 = .ok (.aload_n 0, 1) := by decide +kernel
theorem dX7_fault_9 : decode cX7_fault 9 = .ok (.getfield 26, 3) := by decide +kernel
theorem dX7_fault_12 : decode cX7_fault 12 = .ok (.invokevirtual 97, 3) := by decide +kernel
theorem dX7_fault_15 : decode cX7_fault 15 = .ok (.ireturn, 1) := by decide +kernel
theorem dX7_fault_16 : decode cX7_fault 16 = .ok (.iload_n 1, 1) := by decide +kernel
theorem dX7_fault_17 : decode cX7_fault 17 = .ok (.iconst 1, 1) := by decide +kernel
theorem dX7_fault_18 : decode cX7_fault 18 = .ok (.if_icmp .ne 11, 3) := by decide +kernel
theorem dX7_fault_21 : decode cX7_fault 21 = .ok (.aload_n 0, 1) := by decide +kernel
theorem dX7_fault_22 : decode cX7_fault 22 = .ok (.getfield 19, 3) := by decide +kernel
theorem dX7_fault_25 : decode cX7_fault 25 = .ok (.invokevirtual 101, 3) := by decide +kernel
theorem dX7_fault_28 : decode cX7_fault 28 = .ok (.ireturn, 1) := by decide +kernel
theorem dX7_fault_29 : decode cX7_fault 29 = .ok (.bipush (-2), 2) := by decide +kernel
theorem dX7_fault_31 : decode cX7_fault 31 = .ok (.ireturn, 1) := by decide +kernel
theorem dX7_days_0 : decode cX7_days 0 = .ok (.aload_n 0, 1) := by decide +kernel
theorem dX7_days_1 : decode cX7_days 1 = .ok (.getfield 19, 3) := by decide +kernel
theorem dX7_days_4 : decode cX7_days 4 = .ok (.aload_n 0, 1) := by decide +kernel
theorem dX7_days_5 : decode cX7_days 5 = .ok (.getfield 26, 3) := by decide +kernel
theorem dX7_days_8 : decode cX7_days 8 = .ok (.invokevirtual 97, 3) := by decide +kernel
theorem dX7_days_11 : decode cX7_days 11 = .ok (.bipush (-6), 2) := by decide +kernel
theorem dX7_days_13 : decode cX7_days 13 = .ok (.if_icmp .eq 6, 3) := by decide +kernel
theorem dX7_days_16 : decode cX7_days 16 = .ok (.bipush (-5), 2) := by decide +kernel
theorem dX7_days_18 : decode cX7_days 18 = .ok (.ireturn, 1) := by decide +kernel
theorem dX7_days_19 : decode cX7_days 19 = .ok (.aload_n 0, 1) := by decide +kernel
theorem dX7_days_20 : decode cX7_days 20 = .ok (.getfield 33, 3) := by decide +kernel
theorem dX7_days_23 : decode cX7_days 23 = .ok (.getfield 105, 3) := by decide +kernel
theorem dX7_days_26 : decode cX7_days 26 = .ok (.aload_n 0, 1) := by decide +kernel
theorem dX7_days_27 : decode cX7_days 27 = .ok (.getfield 26, 3) := by decide +kernel
theorem dX7_days_30 : decode cX7_days 30 = .ok (.invokevirtual 108, 3) := by decide +kernel
theorem dX7_days_33 : decode cX7_days 33 = .ok (.aload_n 0, 1) := by decide +kernel
theorem dX7_days_34 : decode cX7_days 34 = .ok (.getfield 19, 3) := by decide +kernel
theorem dX7_days_37 : decode cX7_days 37 = .ok (.iconst 0, 1) := by decide +kernel
theorem dX7_days_38 : decode cX7_days 38 = .ok (.putfield 93, 3) := by decide +kernel
theorem dX7_days_41 : decode cX7_days 41 = .ok (.aload_n 0, 1) := by decide +kernel
theorem dX7_days_42 : decode cX7_days 42 = .ok (.invokevirtual 87, 3) := by decide +kernel
theorem dX7_days_45 : decode cX7_days 45 = .ok (.aload_n 0, 1) := by decide +kernel
theorem dX7_days_46 : decode cX7_days 46 = .ok (.getfield 33, 3) := by decide +kernel
theorem dX7_days_49 : decode cX7_days 49 = .ok (.getfield 105, 3) := by decide +kernel
theorem dX7_days_52 : decode cX7_days 52 = .ok (.getfield 112, 3) := by decide +kernel
theorem dX7_days_55 : decode cX7_days 55 = .ok (.ireturn, 1) := by decide +kernel
theorem dX7_part_0 : decode cX7_part 0 = .ok (.iload_n 1, 1) := by decide +kernel
theorem dX7_part_1 : decode cX7_part 1 = .ok (.ifCond .lt 23, 3) := by decide +kernel
theorem dX7_part_4 : decode cX7_part 4 = .ok (.iload_n 1, 1) := by decide +kernel
theorem dX7_part_5 : decode cX7_part 5 = .ok (.aload_n 0, 1) := by decide +kernel
theorem dX7_part_6 : decode cX7_part 6 = .ok (.getfield 33, 3) := by decide +kernel
theorem dX7_part_9 : decode cX7_part 9 = .ok (.getfield 105, 3) := by decide +kernel
theorem dX7_part_12 : decode cX7_part 12 = .ok (.getfield 112, 3) := by decide +kernel
theorem dX7_part_15 : decode cX7_part 15 = .ok (.if_icmp .ge 9, 3) := by decide +kernel
theorem dX7_part_18 : decode cX7_part 18 = .ok (.iload_n 1, 1) := by decide +kernel
theorem dX7_part_19 : decode cX7_part 19 = .ok (.bipush 16, 2) := by decide +kernel
theorem dX7_part_21 : decode cX7_part 21 = .ok (.if_icmp .lt 5, 3) := by decide +kernel
theorem dX7_part_24 : decode cX7_part 24 = .ok (.iconst (-1), 1) := by decide +kernel
theorem dX7_part_25 : decode cX7_part 25 = .ok (.ireturn, 1) := by decide +kernel
theorem dX7_part_26 : decode cX7_part 26 = .ok (.iload_n 2, 1) := by decide +kernel
theorem dX7_part_27 : decode cX7_part 27 = .ok (.tableswitch 101 0 3 #[29, 42, 55, 68], 29) := by decide +kernel
theorem dX7_part_56 : decode cX7_part 56 = .ok (.aload_n 0, 1) := by decide +kernel
theorem dX7_part_57 : decode cX7_part 57 = .ok (.getfield 33, 3) := by decide +kernel
theorem dX7_part_60 : decode cX7_part 60 = .ok (.getfield 105, 3) := by decide +kernel
theorem dX7_part_63 : decode cX7_part 63 = .ok (.getfield 115, 3) := by decide +kernel
theorem dX7_part_66 : decode cX7_part 66 = .ok (.iload_n 1, 1) := by decide +kernel
theorem dX7_part_67 : decode cX7_part 67 = .ok (.iaload, 1) := by decide +kernel
theorem dX7_part_68 : decode cX7_part 68 = .ok (.ireturn, 1) := by decide +kernel
theorem dX7_part_69 : decode cX7_part 69 = .ok (.aload_n 0, 1) := by decide +kernel
theorem dX7_part_70 : decode cX7_part 70 = .ok (.getfield 33, 3) := by decide +kernel
theorem dX7_part_73 : decode cX7_part 73 = .ok (.getfield 105, 3) := by decide +kernel
theorem dX7_part_76 : decode cX7_part 76 = .ok (.getfield 118, 3) := by decide +kernel
theorem dX7_part_79 : decode cX7_part 79 = .ok (.iload_n 1, 1) := by decide +kernel
theorem dX7_part_80 : decode cX7_part 80 = .ok (.iaload, 1) := by decide +kernel
theorem dX7_part_81 : decode cX7_part 81 = .ok (.ireturn, 1) := by decide +kernel
theorem dX7_part_82 : decode cX7_part 82 = .ok (.aload_n 0, 1) := by decide +kernel
theorem dX7_part_83 : decode cX7_part 83 = .ok (.getfield 33, 3) := by decide +kernel
theorem dX7_part_86 : decode cX7_part 86 = .ok (.getfield 105, 3) := by decide +kernel
theorem dX7_part_89 : decode cX7_part 89 = .ok (.getfield 121, 3) := by decide +kernel
theorem dX7_part_92 : decode cX7_part 92 = .ok (.iload_n 1, 1) := by decide +kernel
theorem dX7_part_93 : decode cX7_part 93 = .ok (.iaload, 1) := by decide +kernel
theorem dX7_part_94 : decode cX7_part 94 = .ok (.ireturn, 1) := by decide +kernel
theorem dX7_part_95 : decode cX7_part 95 = .ok (.aload_n 0, 1) := by decide +kernel
theorem dX7_part_96 : decode cX7_part 96 = .ok (.getfield 48, 3) := by decide +kernel
theorem dX7_part_99 : decode cX7_part 99 = .ok (.aload_n 0, 1) := by decide +kernel
theorem dX7_part_100 : decode cX7_part 100 = .ok (.getfield 33, 3) := by decide +kernel
theorem dX7_part_103 : decode cX7_part 103 = .ok (.aload_n 0, 1) := by decide +kernel
theorem dX7_part_104 : decode cX7_part 104 = .ok (.getfield 10, 3) := by decide +kernel
theorem dX7_part_107 : decode cX7_part 107 = .ok (.invokevirtual 124, 3) := by decide +kernel
theorem dX7_part_110 : decode cX7_part 110 = .ok (.aload_n 0, 1) := by decide +kernel
theorem dX7_part_111 : decode cX7_part 111 = .ok (.getfield 48, 3) := by decide +kernel
theorem dX7_part_114 : decode cX7_part 114 = .ok (.getfield 128, 3) := by decide +kernel
theorem dX7_part_117 : decode cX7_part 117 = .ok (.iload_n 1, 1) := by decide +kernel
theorem dX7_part_118 : decode cX7_part 118 = .ok (.baload, 1) := by decide +kernel
theorem dX7_part_119 : decode cX7_part 119 = .ok (.ifCond .eq 7, 3) := by decide +kernel
theorem dX7_part_122 : decode cX7_part 122 = .ok (.iconst 1, 1) := by decide +kernel
theorem dX7_part_123 : decode cX7_part 123 = .ok (.goto 4, 3) := by decide +kernel
theorem dX7_part_126 : decode cX7_part 126 = .ok (.iconst 0, 1) := by decide +kernel
theorem dX7_part_127 : decode cX7_part 127 = .ok (.ireturn, 1) := by decide +kernel
theorem dX7_part_128 : decode cX7_part 128 = .ok (.bipush (-2), 2) := by decide +kernel
theorem dX7_part_130 : decode cX7_part 130 = .ok (.ireturn, 1) := by decide +kernel
theorem dX7_slips_0 : decode cX7_slips 0 = .ok (.iload_n 1, 1) := by decide +kernel
theorem dX7_slips_1 : decode cX7_slips 1 = .ok (.ifCond .lt 8, 3) := by decide +kernel
theorem dX7_slips_4 : decode cX7_slips 4 = .ok (.iload_n 1, 1) := by decide +kernel
theorem dX7_slips_5 : decode cX7_slips 5 = .ok (.iconst 4, 1) := by decide +kernel
theorem dX7_slips_6 : decode cX7_slips 6 = .ok (.if_icmp .le 6, 3) := by decide +kernel
theorem dX7_slips_9 : decode cX7_slips 9 = .ok (.bipush (-2), 2) := by decide +kernel
theorem dX7_slips_11 : decode cX7_slips 11 = .ok (.ireturn, 1) := by decide +kernel
theorem dX7_slips_12 : decode cX7_slips 12 = .ok (.aload_n 0, 1) := by decide +kernel
theorem dX7_slips_13 : decode cX7_slips 13 = .ok (.getfield 19, 3) := by decide +kernel
theorem dX7_slips_16 : decode cX7_slips 16 = .ok (.invokevirtual 131, 3) := by decide +kernel
theorem dX7_slips_19 : decode cX7_slips 19 = .ok (.istore_n 3, 1) := by decide +kernel
theorem dX7_slips_20 : decode cX7_slips 20 = .ok (.iload_n 3, 1) := by decide +kernel
theorem dX7_slips_21 : decode cX7_slips 21 = .ok (.iconst (-1), 1) := by decide +kernel
theorem dX7_slips_22 : decode cX7_slips 22 = .ok (.if_icmp .ne 6, 3) := by decide +kernel
theorem dX7_slips_25 : decode cX7_slips 25 = .ok (.bipush (-5), 2) := by decide +kernel
theorem dX7_slips_27 : decode cX7_slips 27 = .ok (.ireturn, 1) := by decide +kernel
theorem dX7_slips_28 : decode cX7_slips 28 = .ok (.aload_n 0, 1) := by decide +kernel
theorem dX7_slips_29 : decode cX7_slips 29 = .ok (.getfield 10, 3) := by decide +kernel
theorem dX7_slips_32 : decode cX7_slips 32 = .ok (.iload_n 1, 1) := by decide +kernel
theorem dX7_slips_33 : decode cX7_slips 33 = .ok (.iload_n 3, 1) := by decide +kernel
theorem dX7_slips_34 : decode cX7_slips 34 = .ok (.invokevirtual 134, 3) := by decide +kernel
theorem dX7_slips_37 : decode cX7_slips 37 = .ok (.istore 4, 2) := by decide +kernel
theorem dX7_slips_39 : decode cX7_slips 39 = .ok (.iload_n 2, 1) := by decide +kernel
theorem dX7_slips_40 : decode cX7_slips 40 = .ok (.ifCond .ne 6, 3) := by decide +kernel
theorem dX7_slips_43 : decode cX7_slips 43 = .ok (.iload 4, 2) := by decide +kernel
theorem dX7_slips_45 : decode cX7_slips 45 = .ok (.ireturn, 1) := by decide +kernel
theorem dX7_slips_46 : decode cX7_slips 46 = .ok (.iload_n 2, 1) := by decide +kernel
theorem dX7_slips_47 : decode cX7_slips 47 = .ok (.ifCond .lt 9, 3) := by decide +kernel
theorem dX7_slips_50 : decode cX7_slips 50 = .ok (.iload_n 2, 1) := by decide +kernel
theorem dX7_slips_51 : decode cX7_slips 51 = .ok (.iload 4, 2) := by decide +kernel
theorem dX7_slips_53 : decode cX7_slips 53 = .ok (.if_icmp .le 6, 3) := by decide +kernel
theorem dX7_slips_56 : decode cX7_slips 56 = .ok (.bipush (-6), 2) := by decide +kernel
theorem dX7_slips_58 : decode cX7_slips 58 = .ok (.ireturn, 1) := by decide +kernel
theorem dX7_slips_59 : decode cX7_slips 59 = .ok (.aload_n 0, 1) := by decide +kernel
theorem dX7_slips_60 : decode cX7_slips 60 = .ok (.getfield 10, 3) := by decide +kernel
theorem dX7_slips_63 : decode cX7_slips 63 = .ok (.iload_n 1, 1) := by decide +kernel
theorem dX7_slips_64 : decode cX7_slips 64 = .ok (.iload_n 3, 1) := by decide +kernel
theorem dX7_slips_65 : decode cX7_slips 65 = .ok (.iload_n 2, 1) := by decide +kernel
theorem dX7_slips_66 : decode cX7_slips 66 = .ok (.invokevirtual 138, 3) := by decide +kernel
theorem dX7_slips_69 : decode cX7_slips 69 = .ok (.invokestatic 142, 3) := by decide +kernel
theorem dX7_slips_72 : decode cX7_slips 72 = .ok (.ireturn, 1) := by decide +kernel
theorem dX7_bargain_0 : decode cX7_bargain 0 = .ok (.aload_n 0, 1) := by decide +kernel
theorem dX7_bargain_1 : decode cX7_bargain 1 = .ok (.getfield 19, 3) := by decide +kernel
theorem dX7_bargain_4 : decode cX7_bargain 4 = .ok (.invokevirtual 131, 3) := by decide +kernel
theorem dX7_bargain_7 : decode cX7_bargain 7 = .ok (.istore_n 1, 1) := by decide +kernel
theorem dX7_bargain_8 : decode cX7_bargain 8 = .ok (.iload_n 1, 1) := by decide +kernel
theorem dX7_bargain_9 : decode cX7_bargain 9 = .ok (.iconst (-1), 1) := by decide +kernel
theorem dX7_bargain_10 : decode cX7_bargain 10 = .ok (.if_icmp .ne 6, 3) := by decide +kernel
theorem dX7_bargain_13 : decode cX7_bargain 13 = .ok (.bipush (-5), 2) := by decide +kernel
theorem dX7_bargain_15 : decode cX7_bargain 15 = .ok (.ireturn, 1) := by decide +kernel
theorem dX7_bargain_16 : decode cX7_bargain 16 = .ok (.aload_n 0, 1) := by decide +kernel
theorem dX7_bargain_17 : decode cX7_bargain 17 = .ok (.getfield 33, 3) := by decide +kernel
theorem dX7_bargain_20 : decode cX7_bargain 20 = .ok (.iload_n 1, 1) := by decide +kernel
theorem dX7_bargain_21 : decode cX7_bargain 21 = .ok (.putfield 146, 3) := by decide +kernel
theorem dX7_bargain_24 : decode cX7_bargain 24 = .ok (.aload_n 0, 1) := by decide +kernel
theorem dX7_bargain_25 : decode cX7_bargain 25 = .ok (.getfield 19, 3) := by decide +kernel
theorem dX7_bargain_28 : decode cX7_bargain 28 = .ok (.iconst 0, 1) := by decide +kernel
theorem dX7_bargain_29 : decode cX7_bargain 29 = .ok (.putfield 93, 3) := by decide +kernel
theorem dX7_bargain_32 : decode cX7_bargain 32 = .ok (.iload_n 1, 1) := by decide +kernel
theorem dX7_bargain_33 : decode cX7_bargain 33 = .ok (.invokestatic 142, 3) := by decide +kernel
theorem dX7_bargain_36 : decode cX7_bargain 36 = .ok (.ireturn, 1) := by decide +kernel
theorem dX7_says_0 : decode cX7_says 0 = .ok (.iload_n 1, 1) := by decide +kernel
theorem dX7_says_1 : decode cX7_says 1 = .ok (.invokestatic 80, 3) := by decide +kernel
theorem dX7_says_4 : decode cX7_says 4 = .ok (.ifCond .ne 5, 3) := by decide +kernel
theorem dX7_says_7 : decode cX7_says 7 = .ok (.iconst (-1), 1) := by decide +kernel
theorem dX7_says_8 : decode cX7_says 8 = .ok (.ireturn, 1) := by decide +kernel
theorem dX7_says_9 : decode cX7_says 9 = .ok (.aload_n 0, 1) := by decide +kernel
theorem dX7_says_10 : decode cX7_says 10 = .ok (.getfield 48, 3) := by decide +kernel
theorem dX7_says_13 : decode cX7_says 13 = .ok (.aload_n 0, 1) := by decide +kernel
theorem dX7_says_14 : decode cX7_says 14 = .ok (.getfield 33, 3) := by decide +kernel
theorem dX7_says_17 : decode cX7_says 17 = .ok (.aload_n 0, 1) := by decide +kernel
theorem dX7_says_18 : decode cX7_says 18 = .ok (.getfield 10, 3) := by decide +kernel
theorem dX7_says_21 : decode cX7_says 21 = .ok (.invokevirtual 124, 3) := by decide +kernel
theorem dX7_says_24 : decode cX7_says 24 = .ok (.aload_n 0, 1) := by decide +kernel
theorem dX7_says_25 : decode cX7_says 25 = .ok (.getfield 48, 3) := by decide +kernel
theorem dX7_says_28 : decode cX7_says 28 = .ok (.getfield 149, 3) := by decide +kernel
theorem dX7_says_31 : decode cX7_says 31 = .ok (.iload_n 1, 1) := by decide +kernel
theorem dX7_says_32 : decode cX7_says 32 = .ok (.iaload, 1) := by decide +kernel
theorem dX7_says_33 : decode cX7_says 33 = .ok (.iload_n 2, 1) := by decide +kernel
theorem dX7_says_34 : decode cX7_says 34 = .ok (.invokestatic 152, 3) := by decide +kernel
theorem dX7_says_37 : decode cX7_says 37 = .ok (.ireturn, 1) := by decide +kernel
theorem dX7_testify_0 : decode cX7_testify 0 = .ok (.iload_n 1, 1) := by decide +kernel
theorem dX7_testify_1 : decode cX7_testify 1 = .ok (.invokestatic 80, 3) := by decide +kernel
theorem dX7_testify_4 : decode cX7_testify 4 = .ok (.ifCond .ne 5, 3) := by decide +kernel
theorem dX7_testify_7 : decode cX7_testify 7 = .ok (.iconst (-1), 1) := by decide +kernel
theorem dX7_testify_8 : decode cX7_testify 8 = .ok (.ireturn, 1) := by decide +kernel
theorem dX7_testify_9 : decode cX7_testify 9 = .ok (.aload_n 0, 1) := by decide +kernel
theorem dX7_testify_10 : decode cX7_testify 10 = .ok (.getfield 19, 3) := by decide +kernel
theorem dX7_testify_13 : decode cX7_testify 13 = .ok (.invokevirtual 131, 3) := by decide +kernel
theorem dX7_testify_16 : decode cX7_testify 16 = .ok (.istore_n 2, 1) := by decide +kernel
theorem dX7_testify_17 : decode cX7_testify 17 = .ok (.iload_n 2, 1) := by decide +kernel
theorem dX7_testify_18 : decode cX7_testify 18 = .ok (.iconst (-1), 1) := by decide +kernel
theorem dX7_testify_19 : decode cX7_testify 19 = .ok (.if_icmp .ne 6, 3) := by decide +kernel
theorem dX7_testify_22 : decode cX7_testify 22 = .ok (.bipush (-5), 2) := by decide +kernel
theorem dX7_testify_24 : decode cX7_testify 24 = .ok (.ireturn, 1) := by decide +kernel
theorem dX7_testify_25 : decode cX7_testify 25 = .ok (.aload_n 0, 1) := by decide +kernel
theorem dX7_testify_26 : decode cX7_testify 26 = .ok (.getfield 33, 3) := by decide +kernel
theorem dX7_testify_29 : decode cX7_testify 29 = .ok (.getfield 155, 3) := by decide +kernel
theorem dX7_testify_32 : decode cX7_testify 32 = .ok (.iload_n 1, 1) := by decide +kernel
theorem dX7_testify_33 : decode cX7_testify 33 = .ok (.iload_n 2, 1) := by decide +kernel
theorem dX7_testify_34 : decode cX7_testify 34 = .ok (.iastore, 1) := by decide +kernel
theorem dX7_testify_35 : decode cX7_testify 35 = .ok (.aload_n 0, 1) := by decide +kernel
theorem dX7_testify_36 : decode cX7_testify 36 = .ok (.getfield 19, 3) := by decide +kernel
theorem dX7_testify_39 : decode cX7_testify 39 = .ok (.iconst 0, 1) := by decide +kernel
theorem dX7_testify_40 : decode cX7_testify 40 = .ok (.putfield 93, 3) := by decide +kernel
theorem dX7_testify_43 : decode cX7_testify 43 = .ok (.aload_n 0, 1) := by decide +kernel
theorem dX7_testify_44 : decode cX7_testify 44 = .ok (.invokevirtual 87, 3) := by decide +kernel
theorem dX7_testify_47 : decode cX7_testify 47 = .ok (.iload_n 2, 1) := by decide +kernel
theorem dX7_testify_48 : decode cX7_testify 48 = .ok (.invokestatic 142, 3) := by decide +kernel
theorem dX7_testify_51 : decode cX7_testify 51 = .ok (.ireturn, 1) := by decide +kernel
theorem dX7_unsay_0 : decode cX7_unsay 0 = .ok (.iload_n 1, 1) := by decide +kernel
theorem dX7_unsay_1 : decode cX7_unsay 1 = .ok (.invokestatic 80, 3) := by decide +kernel
theorem dX7_unsay_4 : decode cX7_unsay 4 = .ok (.ifCond .ne 5, 3) := by decide +kernel
theorem dX7_unsay_7 : decode cX7_unsay 7 = .ok (.iconst (-1), 1) := by decide +kernel
theorem dX7_unsay_8 : decode cX7_unsay 8 = .ok (.ireturn, 1) := by decide +kernel
theorem dX7_unsay_9 : decode cX7_unsay 9 = .ok (.aload_n 0, 1) := by decide +kernel
theorem dX7_unsay_10 : decode cX7_unsay 10 = .ok (.getfield 33, 3) := by decide +kernel
theorem dX7_unsay_13 : decode cX7_unsay 13 = .ok (.getfield 155, 3) := by decide +kernel
theorem dX7_unsay_16 : decode cX7_unsay 16 = .ok (.iload_n 1, 1) := by decide +kernel
theorem dX7_unsay_17 : decode cX7_unsay 17 = .ok (.iaload, 1) := by decide +kernel
theorem dX7_unsay_18 : decode cX7_unsay 18 = .ok (.iconst (-1), 1) := by decide +kernel
theorem dX7_unsay_19 : decode cX7_unsay 19 = .ok (.if_icmp .ne 5, 3) := by decide +kernel
theorem dX7_unsay_22 : decode cX7_unsay 22 = .ok (.iconst 0, 1) := by decide +kernel
theorem dX7_unsay_23 : decode cX7_unsay 23 = .ok (.ireturn, 1) := by decide +kernel
theorem dX7_unsay_24 : decode cX7_unsay 24 = .ok (.aload_n 0, 1) := by decide +kernel
theorem dX7_unsay_25 : decode cX7_unsay 25 = .ok (.getfield 33, 3) := by decide +kernel
theorem dX7_unsay_28 : decode cX7_unsay 28 = .ok (.getfield 155, 3) := by decide +kernel
theorem dX7_unsay_31 : decode cX7_unsay 31 = .ok (.iload_n 1, 1) := by decide +kernel
theorem dX7_unsay_32 : decode cX7_unsay 32 = .ok (.iconst (-1), 1) := by decide +kernel
theorem dX7_unsay_33 : decode cX7_unsay 33 = .ok (.iastore, 1) := by decide +kernel
theorem dX7_unsay_34 : decode cX7_unsay 34 = .ok (.aload_n 0, 1) := by decide +kernel
theorem dX7_unsay_35 : decode cX7_unsay 35 = .ok (.invokevirtual 87, 3) := by decide +kernel
theorem dX7_unsay_38 : decode cX7_unsay 38 = .ok (.iconst 1, 1) := by decide +kernel
theorem dX7_unsay_39 : decode cX7_unsay 39 = .ok (.ireturn, 1) := by decide +kernel
theorem dX7_cost_0 : decode cX7_cost 0 = .ok (.aload_n 0, 1) := by decide +kernel
theorem dX7_cost_1 : decode cX7_cost 1 = .ok (.getfield 19, 3) := by decide +kernel
theorem dX7_cost_4 : decode cX7_cost 4 = .ok (.invokevirtual 131, 3) := by decide +kernel
theorem dX7_cost_7 : decode cX7_cost 7 = .ok (.istore_n 1, 1) := by decide +kernel
theorem dX7_cost_8 : decode cX7_cost 8 = .ok (.iload_n 1, 1) := by decide +kernel
theorem dX7_cost_9 : decode cX7_cost 9 = .ok (.iconst (-1), 1) := by decide +kernel
theorem dX7_cost_10 : decode cX7_cost 10 = .ok (.if_icmp .ne 6, 3) := by decide +kernel
theorem dX7_cost_13 : decode cX7_cost 13 = .ok (.bipush (-5), 2) := by decide +kernel
theorem dX7_cost_15 : decode cX7_cost 15 = .ok (.ireturn, 1) := by decide +kernel
theorem dX7_cost_16 : decode cX7_cost 16 = .ok (.aload_n 0, 1) := by decide +kernel
theorem dX7_cost_17 : decode cX7_cost 17 = .ok (.invokevirtual 158, 3) := by decide +kernel
theorem dX7_cost_20 : decode cX7_cost 20 = .ok (.aload_n 0, 1) := by decide +kernel
theorem dX7_cost_21 : decode cX7_cost 21 = .ok (.getfield 55, 3) := by decide +kernel
theorem dX7_cost_24 : decode cX7_cost 24 = .ok (.iload_n 1, 1) := by decide +kernel
theorem dX7_cost_25 : decode cX7_cost 25 = .ok (.invokevirtual 161, 3) := by decide +kernel
theorem dX7_cost_28 : decode cX7_cost 28 = .ok (.istore_n 2, 1) := by decide +kernel
theorem dX7_cost_29 : decode cX7_cost 29 = .ok (.iload_n 2, 1) := by decide +kernel
theorem dX7_cost_30 : decode cX7_cost 30 = .ok (.sipush 1000, 3) := by decide +kernel
theorem dX7_cost_33 : decode cX7_cost 33 = .ok (.if_icmp .ge 7, 3) := by decide +kernel
theorem dX7_cost_36 : decode cX7_cost 36 = .ok (.iload_n 2, 1) := by decide +kernel
theorem dX7_cost_37 : decode cX7_cost 37 = .ok (.goto 5, 3) := by decide +kernel
theorem dX7_cost_40 : decode cX7_cost 40 = .ok (.bipush (-6), 2) := by decide +kernel
theorem dX7_cost_42 : decode cX7_cost 42 = .ok (.ireturn, 1) := by decide +kernel
theorem dX7_likely_0 : decode cX7_likely 0 = .ok (.iload_n 1, 1) := by decide +kernel
theorem dX7_likely_1 : decode cX7_likely 1 = .ok (.ifCond .lt 20, 3) := by decide +kernel
theorem dX7_likely_4 : decode cX7_likely 4 = .ok (.iload_n 1, 1) := by decide +kernel
theorem dX7_likely_5 : decode cX7_likely 5 = .ok (.iconst 2, 1) := by decide +kernel
theorem dX7_likely_6 : decode cX7_likely 6 = .ok (.if_icmp .le 9, 3) := by decide +kernel
theorem dX7_likely_9 : decode cX7_likely 9 = .ok (.iload_n 1, 1) := by decide +kernel
theorem dX7_likely_10 : decode cX7_likely 10 = .ok (.bipush 10, 2) := by decide +kernel
theorem dX7_likely_12 : decode cX7_likely 12 = .ok (.if_icmp .lt 9, 3) := by decide +kernel
theorem dX7_likely_15 : decode cX7_likely 15 = .ok (.iload_n 1, 1) := by decide +kernel
theorem dX7_likely_16 : decode cX7_likely 16 = .ok (.bipush 15, 2) := by decide +kernel
theorem dX7_likely_18 : decode cX7_likely 18 = .ok (.if_icmp .lt 6, 3) := by decide +kernel
theorem dX7_likely_21 : decode cX7_likely 21 = .ok (.bipush (-2), 2) := by decide +kernel
theorem dX7_likely_23 : decode cX7_likely 23 = .ok (.ireturn, 1) := by decide +kernel
theorem dX7_likely_24 : decode cX7_likely 24 = .ok (.aload_n 0, 1) := by decide +kernel
theorem dX7_likely_25 : decode cX7_likely 25 = .ok (.invokevirtual 158, 3) := by decide +kernel
theorem dX7_likely_28 : decode cX7_likely 28 = .ok (.aload_n 0, 1) := by decide +kernel
theorem dX7_likely_29 : decode cX7_likely 29 = .ok (.getfield 55, 3) := by decide +kernel
theorem dX7_likely_32 : decode cX7_likely 32 = .ok (.getfield 164, 3) := by decide +kernel
theorem dX7_likely_35 : decode cX7_likely 35 = .ok (.sipush 1000, 3) := by decide +kernel
theorem dX7_likely_38 : decode cX7_likely 38 = .ok (.if_icmp .ne 6, 3) := by decide +kernel
theorem dX7_likely_41 : decode cX7_likely 41 = .ok (.bipush (-6), 2) := by decide +kernel
theorem dX7_likely_43 : decode cX7_likely 43 = .ok (.ireturn, 1) := by decide +kernel
theorem dX7_likely_44 : decode cX7_likely 44 = .ok (.iload_n 1, 1) := by decide +kernel
theorem dX7_likely_45 : decode cX7_likely 45 = .ok (.ifCond .ne 11, 3) := by decide +kernel
theorem dX7_likely_48 : decode cX7_likely 48 = .ok (.aload_n 0, 1) := by decide +kernel
theorem dX7_likely_49 : decode cX7_likely 49 = .ok (.getfield 55, 3) := by decide +kernel
theorem dX7_likely_52 : decode cX7_likely 52 = .ok (.getfield 164, 3) := by decide +kernel
theorem dX7_likely_55 : decode cX7_likely 55 = .ok (.ireturn, 1) := by decide +kernel
theorem dX7_likely_56 : decode cX7_likely 56 = .ok (.iload_n 1, 1) := by decide +kernel
theorem dX7_likely_57 : decode cX7_likely 57 = .ok (.iconst 1, 1) := by decide +kernel
theorem dX7_likely_58 : decode cX7_likely 58 = .ok (.if_icmp .ne 11, 3) := by decide +kernel
theorem dX7_likely_61 : decode cX7_likely 61 = .ok (.aload_n 0, 1) := by decide +kernel
theorem dX7_likely_62 : decode cX7_likely 62 = .ok (.getfield 55, 3) := by decide +kernel
theorem dX7_likely_65 : decode cX7_likely 65 = .ok (.getfield 167, 3) := by decide +kernel
theorem dX7_likely_68 : decode cX7_likely 68 = .ok (.ireturn, 1) := by decide +kernel
theorem dX7_likely_69 : decode cX7_likely 69 = .ok (.iload_n 1, 1) := by decide +kernel
theorem dX7_likely_70 : decode cX7_likely 70 = .ok (.iconst 2, 1) := by decide +kernel
theorem dX7_likely_71 : decode cX7_likely 71 = .ok (.if_icmp .ne 14, 3) := by decide +kernel
theorem dX7_likely_74 : decode cX7_likely 74 = .ok (.aload_n 0, 1) := by decide +kernel
theorem dX7_likely_75 : decode cX7_likely 75 = .ok (.getfield 55, 3) := by decide +kernel
theorem dX7_likely_78 : decode cX7_likely 78 = .ok (.getfield 170, 3) := by decide +kernel
theorem dX7_likely_81 : decode cX7_likely 81 = .ok (.invokestatic 142, 3) := by decide +kernel
theorem dX7_likely_84 : decode cX7_likely 84 = .ok (.ireturn, 1) := by decide +kernel
theorem dX7_likely_85 : decode cX7_likely 85 = .ok (.aload_n 0, 1) := by decide +kernel
theorem dX7_likely_86 : decode cX7_likely 86 = .ok (.getfield 55, 3) := by decide +kernel
theorem dX7_likely_89 : decode cX7_likely 89 = .ok (.getfield 170, 3) := by decide +kernel
theorem dX7_likely_92 : decode cX7_likely 92 = .ok (.iload_n 1, 1) := by decide +kernel
theorem dX7_likely_93 : decode cX7_likely 93 = .ok (.bipush 10, 2) := by decide +kernel
theorem dX7_likely_95 : decode cX7_likely 95 = .ok (.isub, 1) := by decide +kernel
theorem dX7_likely_96 : decode cX7_likely 96 = .ok (.invokestatic 152, 3) := by decide +kernel
theorem dX7_likely_99 : decode cX7_likely 99 = .ok (.ireturn, 1) := by decide +kernel
theorem dX7_ways_0 : decode cX7_ways 0 = .ok (.aload_n 0, 1) := by decide +kernel
theorem dX7_ways_1 : decode cX7_ways 1 = .ok (.getfield 19, 3) := by decide +kernel
theorem dX7_ways_4 : decode cX7_ways 4 = .ok (.invokevirtual 131, 3) := by decide +kernel
theorem dX7_ways_7 : decode cX7_ways 7 = .ok (.istore_n 1, 1) := by decide +kernel
theorem dX7_ways_8 : decode cX7_ways 8 = .ok (.iload_n 1, 1) := by decide +kernel
theorem dX7_ways_9 : decode cX7_ways 9 = .ok (.iconst (-1), 1) := by decide +kernel
theorem dX7_ways_10 : decode cX7_ways 10 = .ok (.if_icmp .ne 7, 3) := by decide +kernel
theorem dX7_ways_13 : decode cX7_ways 13 = .ok (.ldc2_w 173, 3) := by decide +kernel
theorem dX7_ways_16 : decode cX7_ways 16 = .ok (.lreturn, 1) := by decide +kernel
theorem dX7_ways_17 : decode cX7_ways 17 = .ok (.aload_n 0, 1) := by decide +kernel
theorem dX7_ways_18 : decode cX7_ways 18 = .ok (.invokevirtual 158, 3) := by decide +kernel
theorem dX7_ways_21 : decode cX7_ways 21 = .ok (.aload_n 0, 1) := by decide +kernel
theorem dX7_ways_22 : decode cX7_ways 22 = .ok (.getfield 55, 3) := by decide +kernel
theorem dX7_ways_25 : decode cX7_ways 25 = .ok (.iload_n 1, 1) := by decide +kernel
theorem dX7_ways_26 : decode cX7_ways 26 = .ok (.invokevirtual 175, 3) := by decide +kernel
theorem dX7_ways_29 : decode cX7_ways 29 = .ok (.lreturn, 1) := by decide +kernel
theorem dX7_odds_0 : decode cX7_odds 0 = .ok (.iload_n 1, 1) := by decide +kernel
theorem dX7_odds_1 : decode cX7_odds 1 = .ok (.ifCond .lt 8, 3) := by decide +kernel
theorem dX7_odds_4 : decode cX7_odds 4 = .ok (.iload_n 1, 1) := by decide +kernel
theorem dX7_odds_5 : decode cX7_odds 5 = .ok (.iconst 1, 1) := by decide +kernel
theorem dX7_odds_6 : decode cX7_odds 6 = .ok (.if_icmp .le 7, 3) := by decide +kernel
theorem dX7_odds_9 : decode cX7_odds 9 = .ok (.ldc2_w 179, 3) := by decide +kernel
theorem dX7_odds_12 : decode cX7_odds 12 = .ok (.lreturn, 1) := by decide +kernel
theorem dX7_odds_13 : decode cX7_odds 13 = .ok (.aload_n 0, 1) := by decide +kernel
theorem dX7_odds_14 : decode cX7_odds 14 = .ok (.invokevirtual 158, 3) := by decide +kernel
theorem dX7_odds_17 : decode cX7_odds 17 = .ok (.aload_n 0, 1) := by decide +kernel
theorem dX7_odds_18 : decode cX7_odds 18 = .ok (.getfield 55, 3) := by decide +kernel
theorem dX7_odds_21 : decode cX7_odds 21 = .ok (.getfield 164, 3) := by decide +kernel
theorem dX7_odds_24 : decode cX7_odds 24 = .ok (.sipush 1000, 3) := by decide +kernel
theorem dX7_odds_27 : decode cX7_odds 27 = .ok (.if_icmp .ne 7, 3) := by decide +kernel
theorem dX7_odds_30 : decode cX7_odds 30 = .ok (.ldc2_w 181, 3) := by decide +kernel
theorem dX7_odds_33 : decode cX7_odds 33 = .ok (.lreturn, 1) := by decide +kernel
theorem dX7_odds_34 : decode cX7_odds 34 = .ok (.aload_n 0, 1) := by decide +kernel
theorem dX7_odds_35 : decode cX7_odds 35 = .ok (.getfield 19, 3) := by decide +kernel
theorem dX7_odds_38 : decode cX7_odds 38 = .ok (.invokevirtual 131, 3) := by decide +kernel
theorem dX7_odds_41 : decode cX7_odds 41 = .ok (.istore_n 2, 1) := by decide +kernel
theorem dX7_odds_42 : decode cX7_odds 42 = .ok (.iload_n 2, 1) := by decide +kernel
theorem dX7_odds_43 : decode cX7_odds 43 = .ok (.iconst (-1), 1) := by decide +kernel
theorem dX7_odds_44 : decode cX7_odds 44 = .ok (.if_icmp .ne 7, 3) := by decide +kernel
theorem dX7_odds_47 : decode cX7_odds 47 = .ok (.ldc2_w 173, 3) := by decide +kernel
theorem dX7_odds_50 : decode cX7_odds 50 = .ok (.lreturn, 1) := by decide +kernel
theorem dX7_odds_51 : decode cX7_odds 51 = .ok (.aload_n 0, 1) := by decide +kernel
theorem dX7_odds_52 : decode cX7_odds 52 = .ok (.getfield 55, 3) := by decide +kernel
theorem dX7_odds_55 : decode cX7_odds 55 = .ok (.iload_n 2, 1) := by decide +kernel
theorem dX7_odds_56 : decode cX7_odds 56 = .ok (.invokevirtual 175, 3) := by decide +kernel
theorem dX7_odds_59 : decode cX7_odds 59 = .ok (.lstore_n 3, 1) := by decide +kernel
theorem dX7_odds_60 : decode cX7_odds 60 = .ok (.lload_n 3, 1) := by decide +kernel
theorem dX7_odds_61 : decode cX7_odds 61 = .ok (.aload_n 0, 1) := by decide +kernel
theorem dX7_odds_62 : decode cX7_odds 62 = .ok (.getfield 55, 3) := by decide +kernel
theorem dX7_odds_65 : decode cX7_odds 65 = .ok (.getfield 183, 3) := by decide +kernel
theorem dX7_odds_68 : decode cX7_odds 68 = .ok (.invokestatic 187, 3) := by decide +kernel
theorem dX7_odds_71 : decode cX7_odds 71 = .ok (.lstore 5, 2) := by decide +kernel
theorem dX7_odds_73 : decode cX7_odds 73 = .ok (.lload 5, 2) := by decide +kernel
theorem dX7_odds_75 : decode cX7_odds 75 = .ok (.lconst 1, 1) := by decide +kernel
theorem dX7_odds_76 : decode cX7_odds 76 = .ok (.lcmp, 1) := by decide +kernel
theorem dX7_odds_77 : decode cX7_odds 77 = .ok (.ifCond .ge 7, 3) := by decide +kernel
theorem dX7_odds_80 : decode cX7_odds 80 = .ok (.ldc2_w 181, 3) := by decide +kernel
theorem dX7_odds_83 : decode cX7_odds 83 = .ok (.lreturn, 1) := by decide +kernel
theorem dX7_odds_84 : decode cX7_odds 84 = .ok (.iload_n 1, 1) := by decide +kernel
theorem dX7_odds_85 : decode cX7_odds 85 = .ok (.ifCond .ne 10, 3) := by decide +kernel
theorem dX7_odds_88 : decode cX7_odds 88 = .ok (.lload_n 3, 1) := by decide +kernel
theorem dX7_odds_89 : decode cX7_odds 89 = .ok (.lload 5, 2) := by decide +kernel
theorem dX7_odds_91 : decode cX7_odds 91 = .ok (.ldiv, 1) := by decide +kernel
theorem dX7_odds_92 : decode cX7_odds 92 = .ok (.goto 13, 3) := by decide +kernel
theorem dX7_odds_95 : decode cX7_odds 95 = .ok (.aload_n 0, 1) := by decide +kernel
theorem dX7_odds_96 : decode cX7_odds 96 = .ok (.getfield 55, 3) := by decide +kernel
theorem dX7_odds_99 : decode cX7_odds 99 = .ok (.getfield 183, 3) := by decide +kernel
theorem dX7_odds_102 : decode cX7_odds 102 = .ok (.lload 5, 2) := by decide +kernel
theorem dX7_odds_104 : decode cX7_odds 104 = .ok (.ldiv, 1) := by decide +kernel
theorem dX7_odds_105 : decode cX7_odds 105 = .ok (.lreturn, 1) := by decide +kernel
theorem dX7_canBe_0 : decode cX7_canBe 0 = .ok (.iload_n 1, 1) := by decide +kernel
theorem dX7_canBe_1 : decode cX7_canBe 1 = .ok (.ifCond .lt 9, 3) := by decide +kernel
theorem dX7_canBe_4 : decode cX7_canBe 4 = .ok (.iload_n 1, 1) := by decide +kernel
theorem dX7_canBe_5 : decode cX7_canBe 5 = .ok (.bipush 16, 2) := by decide +kernel
theorem dX7_canBe_7 : decode cX7_canBe 7 = .ok (.if_icmp .le 6, 3) := by decide +kernel
theorem dX7_canBe_10 : decode cX7_canBe 10 = .ok (.bipush (-2), 2) := by decide +kernel
theorem dX7_canBe_12 : decode cX7_canBe 12 = .ok (.ireturn, 1) := by decide +kernel
theorem dX7_canBe_13 : decode cX7_canBe 13 = .ok (.aload_n 0, 1) := by decide +kernel
theorem dX7_canBe_14 : decode cX7_canBe 14 = .ok (.invokevirtual 158, 3) := by decide +kernel
theorem dX7_canBe_17 : decode cX7_canBe 17 = .ok (.aload_n 0, 1) := by decide +kernel
theorem dX7_canBe_18 : decode cX7_canBe 18 = .ok (.getfield 55, 3) := by decide +kernel
theorem dX7_canBe_21 : decode cX7_canBe 21 = .ok (.iload_n 1, 1) := by decide +kernel
theorem dX7_canBe_22 : decode cX7_canBe 22 = .ok (.invokevirtual 191, 3) := by decide +kernel
theorem dX7_canBe_25 : decode cX7_canBe 25 = .ok (.ireturn, 1) := by decide +kernel
theorem dX7_taught_0 : decode cX7_taught 0 = .ok (.iload_n 1, 1) := by decide +kernel
theorem dX7_taught_1 : decode cX7_taught 1 = .ok (.ifCond .lt 9, 3) := by decide +kernel
theorem dX7_taught_4 : decode cX7_taught 4 = .ok (.iload_n 1, 1) := by decide +kernel
theorem dX7_taught_5 : decode cX7_taught 5 = .ok (.bipush 16, 2) := by decide +kernel
theorem dX7_taught_7 : decode cX7_taught 7 = .ok (.if_icmp .le 6, 3) := by decide +kernel
theorem dX7_taught_10 : decode cX7_taught 10 = .ok (.bipush (-2), 2) := by decide +kernel
theorem dX7_taught_12 : decode cX7_taught 12 = .ok (.ireturn, 1) := by decide +kernel
theorem dX7_taught_13 : decode cX7_taught 13 = .ok (.aload_n 0, 1) := by decide +kernel
theorem dX7_taught_14 : decode cX7_taught 14 = .ok (.invokevirtual 158, 3) := by decide +kernel
theorem dX7_taught_17 : decode cX7_taught 17 = .ok (.aload_n 0, 1) := by decide +kernel
theorem dX7_taught_18 : decode cX7_taught 18 = .ok (.getfield 55, 3) := by decide +kernel
theorem dX7_taught_21 : decode cX7_taught 21 = .ok (.getfield 164, 3) := by decide +kernel
theorem dX7_taught_24 : decode cX7_taught 24 = .ok (.iload_n 1, 1) := by decide +kernel
theorem dX7_taught_25 : decode cX7_taught 25 = .ok (.if_icmp .gt 6, 3) := by decide +kernel
theorem dX7_taught_28 : decode cX7_taught 28 = .ok (.bipush (-3), 2) := by decide +kernel
theorem dX7_taught_30 : decode cX7_taught 30 = .ok (.ireturn, 1) := by decide +kernel
theorem dX7_taught_31 : decode cX7_taught 31 = .ok (.aload_n 0, 1) := by decide +kernel
theorem dX7_taught_32 : decode cX7_taught 32 = .ok (.invokevirtual 194, 3) := by decide +kernel
theorem dX7_taught_35 : decode cX7_taught 35 = .ok (.iconst 0, 1) := by decide +kernel
theorem dX7_taught_36 : decode cX7_taught 36 = .ok (.istore_n 2, 1) := by decide +kernel
theorem dX7_taught_37 : decode cX7_taught 37 = .ok (.iconst 0, 1) := by decide +kernel
theorem dX7_taught_38 : decode cX7_taught 38 = .ok (.istore_n 3, 1) := by decide +kernel
theorem dX7_taught_39 : decode cX7_taught 39 = .ok (.iload_n 3, 1) := by decide +kernel
theorem dX7_taught_40 : decode cX7_taught 40 = .ok (.bipush 6, 2) := by decide +kernel
theorem dX7_taught_42 : decode cX7_taught 42 = .ok (.if_icmp .ge 25, 3) := by decide +kernel
theorem dX7_taught_45 : decode cX7_taught 45 = .ok (.aload_n 0, 1) := by decide +kernel
theorem dX7_taught_46 : decode cX7_taught 46 = .ok (.getfield 62, 3) := by decide +kernel
theorem dX7_taught_49 : decode cX7_taught 49 = .ok (.iload_n 3, 1) := by decide +kernel
theorem dX7_taught_50 : decode cX7_taught 50 = .ok (.iaload, 1) := by decide +kernel
theorem dX7_taught_51 : decode cX7_taught 51 = .ok (.iload_n 1, 1) := by decide +kernel
theorem dX7_taught_52 : decode cX7_taught 52 = .ok (.if_icmp .gt 9, 3) := by decide +kernel
theorem dX7_taught_55 : decode cX7_taught 55 = .ok (.iload_n 2, 1) := by decide +kernel
theorem dX7_taught_56 : decode cX7_taught 56 = .ok (.iconst 1, 1) := by decide +kernel
theorem dX7_taught_57 : decode cX7_taught 57 = .ok (.iload_n 3, 1) := by decide +kernel
theorem dX7_taught_58 : decode cX7_taught 58 = .ok (.ishl, 1) := by decide +kernel
theorem dX7_taught_59 : decode cX7_taught 59 = .ok (.ior, 1) := by decide +kernel
theorem dX7_taught_60 : decode cX7_taught 60 = .ok (.istore_n 2, 1) := by decide +kernel
theorem dX7_taught_61 : decode cX7_taught 61 = .ok (.iinc 3 1, 3) := by decide +kernel
theorem dX7_taught_64 : decode cX7_taught 64 = .ok (.goto (-25), 3) := by decide +kernel
theorem dX7_taught_67 : decode cX7_taught 67 = .ok (.iload_n 2, 1) := by decide +kernel
theorem dX7_taught_68 : decode cX7_taught 68 = .ok (.ireturn, 1) := by decide +kernel
theorem dX7_few_0 : decode cX7_few 0 = .ok (.iload_n 1, 1) := by decide +kernel
theorem dX7_few_1 : decode cX7_few 1 = .ok (.iconst 1, 1) := by decide +kernel
theorem dX7_few_2 : decode cX7_few 2 = .ok (.if_icmp .lt 8, 3) := by decide +kernel
theorem dX7_few_5 : decode cX7_few 5 = .ok (.iload_n 1, 1) := by decide +kernel
theorem dX7_few_6 : decode cX7_few 6 = .ok (.iconst 3, 1) := by decide +kernel
theorem dX7_few_7 : decode cX7_few 7 = .ok (.if_icmp .le 6, 3) := by decide +kernel
theorem dX7_few_10 : decode cX7_few 10 = .ok (.bipush (-2), 2) := by decide +kernel
theorem dX7_few_12 : decode cX7_few 12 = .ok (.ireturn, 1) := by decide +kernel
theorem dX7_few_13 : decode cX7_few 13 = .ok (.aload_n 0, 1) := by decide +kernel
theorem dX7_few_14 : decode cX7_few 14 = .ok (.invokevirtual 197, 3) := by decide +kernel
theorem dX7_few_17 : decode cX7_few 17 = .ok (.aload_n 0, 1) := by decide +kernel
theorem dX7_few_18 : decode cX7_few 18 = .ok (.getfield 69, 3) := by decide +kernel
theorem dX7_few_21 : decode cX7_few 21 = .ok (.invokevirtual 200, 3) := by decide +kernel
theorem dX7_few_24 : decode cX7_few 24 = .ok (.ireturn, 1) := by decide +kernel
theorem dX7_doubt_0 : decode cX7_doubt 0 = .ok (.iload_n 1, 1) := by decide +kernel
theorem dX7_doubt_1 : decode cX7_doubt 1 = .ok (.iconst 1, 1) := by decide +kernel
theorem dX7_doubt_2 : decode cX7_doubt 2 = .ok (.if_icmp .lt 18, 3) := by decide +kernel
theorem dX7_doubt_5 : decode cX7_doubt 5 = .ok (.iload_n 1, 1) := by decide +kernel
theorem dX7_doubt_6 : decode cX7_doubt 6 = .ok (.iconst 3, 1) := by decide +kernel
theorem dX7_doubt_7 : decode cX7_doubt 7 = .ok (.if_icmp .gt 13, 3) := by decide +kernel
theorem dX7_doubt_10 : decode cX7_doubt 10 = .ok (.iload_n 2, 1) := by decide +kernel
theorem dX7_doubt_11 : decode cX7_doubt 11 = .ok (.ifCond .lt 9, 3) := by decide +kernel
theorem dX7_doubt_14 : decode cX7_doubt 14 = .ok (.iload_n 2, 1) := by decide +kernel
theorem dX7_doubt_15 : decode cX7_doubt 15 = .ok (.bipush 63, 2) := by decide +kernel
theorem dX7_doubt_17 : decode cX7_doubt 17 = .ok (.if_icmp .le 6, 3) := by decide +kernel
theorem dX7_doubt_20 : decode cX7_doubt 20 = .ok (.bipush (-2), 2) := by decide +kernel
theorem dX7_doubt_22 : decode cX7_doubt 22 = .ok (.ireturn, 1) := by decide +kernel
theorem dX7_doubt_23 : decode cX7_doubt 23 = .ok (.aload_n 0, 1) := by decide +kernel
theorem dX7_doubt_24 : decode cX7_doubt 24 = .ok (.invokevirtual 197, 3) := by decide +kernel
theorem dX7_doubt_27 : decode cX7_doubt 27 = .ok (.aload_n 0, 1) := by decide +kernel
theorem dX7_doubt_28 : decode cX7_doubt 28 = .ok (.getfield 69, 3) := by decide +kernel
theorem dX7_doubt_31 : decode cX7_doubt 31 = .ok (.iload_n 2, 1) := by decide +kernel
theorem dX7_doubt_32 : decode cX7_doubt 32 = .ok (.invokevirtual 203, 3) := by decide +kernel
theorem dX7_doubt_35 : decode cX7_doubt 35 = .ok (.ifCond .eq 7, 3) := by decide +kernel
theorem dX7_doubt_38 : decode cX7_doubt 38 = .ok (.iconst 0, 1) := by decide +kernel
theorem dX7_doubt_39 : decode cX7_doubt 39 = .ok (.goto 7, 3) := by decide +kernel
theorem dX7_doubt_42 : decode cX7_doubt 42 = .ok (.iload_n 1, 1) := by decide +kernel
theorem dX7_doubt_43 : decode cX7_doubt 43 = .ok (.invokestatic 206, 3) := by decide +kernel
theorem dX7_doubt_46 : decode cX7_doubt 46 = .ok (.ireturn, 1) := by decide +kernel
theorem dX7_rare_0 : decode cX7_rare 0 = .ok (.iload_n 1, 1) := by decide +kernel
theorem dX7_rare_1 : decode cX7_rare 1 = .ok (.iconst 1, 1) := by decide +kernel
theorem dX7_rare_2 : decode cX7_rare 2 = .ok (.if_icmp .lt 9, 3) := by decide +kernel
theorem dX7_rare_5 : decode cX7_rare 5 = .ok (.iload_n 1, 1) := by decide +kernel
theorem dX7_rare_6 : decode cX7_rare 6 = .ok (.bipush 99, 2) := by decide +kernel
theorem dX7_rare_8 : decode cX7_rare 8 = .ok (.if_icmp .le 6, 3) := by decide +kernel
theorem dX7_rare_11 : decode cX7_rare 11 = .ok (.bipush (-2), 2) := by decide +kernel
theorem dX7_rare_13 : decode cX7_rare 13 = .ok (.ireturn, 1) := by decide +kernel
theorem dX7_rare_14 : decode cX7_rare 14 = .ok (.aload_n 0, 1) := by decide +kernel
theorem dX7_rare_15 : decode cX7_rare 15 = .ok (.getfield 33, 3) := by decide +kernel
theorem dX7_rare_18 : decode cX7_rare 18 = .ok (.getfield 209, 3) := by decide +kernel
theorem dX7_rare_21 : decode cX7_rare 21 = .ok (.istore_n 2, 1) := by decide +kernel
theorem dX7_rare_22 : decode cX7_rare 22 = .ok (.aload_n 0, 1) := by decide +kernel
theorem dX7_rare_23 : decode cX7_rare 23 = .ok (.getfield 33, 3) := by decide +kernel
theorem dX7_rare_26 : decode cX7_rare 26 = .ok (.iload_n 1, 1) := by decide +kernel
theorem dX7_rare_27 : decode cX7_rare 27 = .ok (.putfield 209, 3) := by decide +kernel
theorem dX7_rare_30 : decode cX7_rare 30 = .ok (.iload_n 2, 1) := by decide +kernel
theorem dX7_rare_31 : decode cX7_rare 31 = .ok (.ireturn, 1) := by decide +kernel
theorem dX7_years_0 : decode cX7_years 0 = .ok (.iload_n 3, 1) := by decide +kernel
theorem dX7_years_1 : decode cX7_years 1 = .ok (.invokestatic 80, 3) := by decide +kernel
theorem dX7_years_4 : decode cX7_years 4 = .ok (.ifCond .ne 5, 3) := by decide +kernel
theorem dX7_years_7 : decode cX7_years 7 = .ok (.iconst (-1), 1) := by decide +kernel
theorem dX7_years_8 : decode cX7_years 8 = .ok (.ireturn, 1) := by decide +kernel
theorem dX7_years_9 : decode cX7_years 9 = .ok (.iload_n 1, 1) := by decide +kernel
theorem dX7_years_10 : decode cX7_years 10 = .ok (.iload_n 2, 1) := by decide +kernel
theorem dX7_years_11 : decode cX7_years 11 = .ok (.invokestatic 212, 3) := by decide +kernel
theorem dX7_years_14 : decode cX7_years 14 = .ok (.ifCond .ne 6, 3) := by decide +kernel
theorem dX7_years_17 : decode cX7_years 17 = .ok (.bipush (-2), 2) := by decide +kernel
theorem dX7_years_19 : decode cX7_years 19 = .ok (.ireturn, 1) := by decide +kernel
theorem dX7_years_20 : decode cX7_years 20 = .ok (.aload_n 0, 1) := by decide +kernel
theorem dX7_years_21 : decode cX7_years 21 = .ok (.getfield 48, 3) := by decide +kernel
theorem dX7_years_24 : decode cX7_years 24 = .ok (.aload_n 0, 1) := by decide +kernel
theorem dX7_years_25 : decode cX7_years 25 = .ok (.getfield 33, 3) := by decide +kernel
theorem dX7_years_28 : decode cX7_years 28 = .ok (.iload_n 1, 1) := by decide +kernel
theorem dX7_years_29 : decode cX7_years 29 = .ok (.invokevirtual 216, 3) := by decide +kernel
theorem dX7_years_32 : decode cX7_years 32 = .ok (.iconst 1, 1) := by decide +kernel
theorem dX7_years_33 : decode cX7_years 33 = .ok (.istore 5, 2) := by decide +kernel
theorem dX7_years_35 : decode cX7_years 35 = .ok (.iload 5, 2) := by decide +kernel
theorem dX7_years_37 : decode cX7_years 37 = .ok (.iload_n 2, 1) := by decide +kernel
theorem dX7_years_38 : decode cX7_years 38 = .ok (.if_icmp .gt 35, 3) := by decide +kernel
theorem dX7_years_41 : decode cX7_years 41 = .ok (.aload_n 0, 1) := by decide +kernel
theorem dX7_years_42 : decode cX7_years 42 = .ok (.getfield 48, 3) := by decide +kernel
theorem dX7_years_45 : decode cX7_years 45 = .ok (.aload_n 0, 1) := by decide +kernel
theorem dX7_years_46 : decode cX7_years 46 = .ok (.getfield 33, 3) := by decide +kernel
theorem dX7_years_49 : decode cX7_years 49 = .ok (.aload_n 0, 1) := by decide +kernel
theorem dX7_years_50 : decode cX7_years 50 = .ok (.getfield 10, 3) := by decide +kernel
theorem dX7_years_53 : decode cX7_years 53 = .ok (.iload 5, 2) := by decide +kernel
theorem dX7_years_55 : decode cX7_years 55 = .ok (.iconst 1, 1) := by decide +kernel
theorem dX7_years_56 : decode cX7_years 56 = .ok (.if_icmp .ne 7, 3) := by decide +kernel
theorem dX7_years_59 : decode cX7_years 59 = .ok (.iconst 1, 1) := by decide +kernel
theorem dX7_years_60 : decode cX7_years 60 = .ok (.goto 4, 3) := by decide +kernel
theorem dX7_years_63 : decode cX7_years 63 = .ok (.iconst 0, 1) := by decide +kernel
theorem dX7_years_64 : decode cX7_years 64 = .ok (.invokevirtual 220, 3) := by decide +kernel
theorem dX7_years_67 : decode cX7_years 67 = .ok (.iinc 5 1, 3) := by decide +kernel
theorem dX7_years_70 : decode cX7_years 70 = .ok (.goto (-35), 3) := by decide +kernel
theorem dX7_years_73 : decode cX7_years 73 = .ok (.aload_n 0, 1) := by decide +kernel
theorem dX7_years_74 : decode cX7_years 74 = .ok (.getfield 48, 3) := by decide +kernel
theorem dX7_years_77 : decode cX7_years 77 = .ok (.getfield 149, 3) := by decide +kernel
theorem dX7_years_80 : decode cX7_years 80 = .ok (.iload_n 3, 1) := by decide +kernel
theorem dX7_years_81 : decode cX7_years 81 = .ok (.iaload, 1) := by decide +kernel
theorem dX7_years_82 : decode cX7_years 82 = .ok (.iload 4, 2) := by decide +kernel
theorem dX7_years_84 : decode cX7_years 84 = .ok (.invokestatic 152, 3) := by decide +kernel
theorem dX7_years_87 : decode cX7_years 87 = .ok (.ireturn, 1) := by decide +kernel
theorem dX7_lost_0 : decode cX7_lost 0 = .ok (.iload_n 3, 1) := by decide +kernel
theorem dX7_lost_1 : decode cX7_lost 1 = .ok (.invokestatic 80, 3) := by decide +kernel
theorem dX7_lost_4 : decode cX7_lost 4 = .ok (.ifCond .ne 5, 3) := by decide +kernel
theorem dX7_lost_7 : decode cX7_lost 7 = .ok (.iconst (-1), 1) := by decide +kernel
theorem dX7_lost_8 : decode cX7_lost 8 = .ok (.ireturn, 1) := by decide +kernel
theorem dX7_lost_9 : decode cX7_lost 9 = .ok (.iload_n 1, 1) := by decide +kernel
theorem dX7_lost_10 : decode cX7_lost 10 = .ok (.iload_n 2, 1) := by decide +kernel
theorem dX7_lost_11 : decode cX7_lost 11 = .ok (.invokestatic 212, 3) := by decide +kernel
theorem dX7_lost_14 : decode cX7_lost 14 = .ok (.ifCond .ne 6, 3) := by decide +kernel
theorem dX7_lost_17 : decode cX7_lost 17 = .ok (.bipush (-2), 2) := by decide +kernel
theorem dX7_lost_19 : decode cX7_lost 19 = .ok (.ireturn, 1) := by decide +kernel
theorem dX7_lost_20 : decode cX7_lost 20 = .ok (.aload_n 0, 1) := by decide +kernel
theorem dX7_lost_21 : decode cX7_lost 21 = .ok (.getfield 48, 3) := by decide +kernel
theorem dX7_lost_24 : decode cX7_lost 24 = .ok (.aload_n 0, 1) := by decide +kernel
theorem dX7_lost_25 : decode cX7_lost 25 = .ok (.getfield 33, 3) := by decide +kernel
theorem dX7_lost_28 : decode cX7_lost 28 = .ok (.iload_n 1, 1) := by decide +kernel
theorem dX7_lost_29 : decode cX7_lost 29 = .ok (.invokevirtual 216, 3) := by decide +kernel
theorem dX7_lost_32 : decode cX7_lost 32 = .ok (.iconst 1, 1) := by decide +kernel
theorem dX7_lost_33 : decode cX7_lost 33 = .ok (.istore 4, 2) := by decide +kernel
theorem dX7_lost_35 : decode cX7_lost 35 = .ok (.iload 4, 2) := by decide +kernel
theorem dX7_lost_37 : decode cX7_lost 37 = .ok (.iload_n 2, 1) := by decide +kernel
theorem dX7_lost_38 : decode cX7_lost 38 = .ok (.if_icmp .gt 57, 3) := by decide +kernel
theorem dX7_lost_41 : decode cX7_lost 41 = .ok (.aload_n 0, 1) := by decide +kernel
theorem dX7_lost_42 : decode cX7_lost 42 = .ok (.getfield 48, 3) := by decide +kernel
theorem dX7_lost_45 : decode cX7_lost 45 = .ok (.aload_n 0, 1) := by decide +kernel
theorem dX7_lost_46 : decode cX7_lost 46 = .ok (.getfield 33, 3) := by decide +kernel
theorem dX7_lost_49 : decode cX7_lost 49 = .ok (.aload_n 0, 1) := by decide +kernel
theorem dX7_lost_50 : decode cX7_lost 50 = .ok (.getfield 10, 3) := by decide +kernel
theorem dX7_lost_53 : decode cX7_lost 53 = .ok (.iload 4, 2) := by decide +kernel
theorem dX7_lost_55 : decode cX7_lost 55 = .ok (.iconst 1, 1) := by decide +kernel
theorem dX7_lost_56 : decode cX7_lost 56 = .ok (.if_icmp .ne 7, 3) := by decide +kernel
theorem dX7_lost_59 : decode cX7_lost 59 = .ok (.iconst 1, 1) := by decide +kernel
theorem dX7_lost_60 : decode cX7_lost 60 = .ok (.goto 4, 3) := by decide +kernel
theorem dX7_lost_63 : decode cX7_lost 63 = .ok (.iconst 0, 1) := by decide +kernel
theorem dX7_lost_64 : decode cX7_lost 64 = .ok (.invokevirtual 220, 3) := by decide +kernel
theorem dX7_lost_67 : decode cX7_lost 67 = .ok (.aload_n 0, 1) := by decide +kernel
theorem dX7_lost_68 : decode cX7_lost 68 = .ok (.getfield 48, 3) := by decide +kernel
theorem dX7_lost_71 : decode cX7_lost 71 = .ok (.getfield 149, 3) := by decide +kernel
theorem dX7_lost_74 : decode cX7_lost 74 = .ok (.iload_n 3, 1) := by decide +kernel
theorem dX7_lost_75 : decode cX7_lost 75 = .ok (.iaload, 1) := by decide +kernel
theorem dX7_lost_76 : decode cX7_lost 76 = .ok (.aload_n 0, 1) := by decide +kernel
theorem dX7_lost_77 : decode cX7_lost 77 = .ok (.getfield 33, 3) := by decide +kernel
theorem dX7_lost_80 : decode cX7_lost 80 = .ok (.getfield 146, 3) := by decide +kernel
theorem dX7_lost_83 : decode cX7_lost 83 = .ok (.if_icmp .eq 6, 3) := by decide +kernel
theorem dX7_lost_86 : decode cX7_lost 86 = .ok (.iload 4, 2) := by decide +kernel
theorem dX7_lost_88 : decode cX7_lost 88 = .ok (.ireturn, 1) := by decide +kernel
theorem dX7_lost_89 : decode cX7_lost 89 = .ok (.iinc 4 1, 3) := by decide +kernel
theorem dX7_lost_92 : decode cX7_lost 92 = .ok (.goto (-57), 3) := by decide +kernel
theorem dX7_lost_95 : decode cX7_lost 95 = .ok (.bipush (-6), 2) := by decide +kernel
theorem dX7_lost_97 : decode cX7_lost 97 = .ok (.ireturn, 1) := by decide +kernel
theorem dX7_image_0 : decode cX7_image 0 = .ok (.iload_n 1, 1) := by decide +kernel
theorem dX7_image_1 : decode cX7_image 1 = .ok (.ifCond .lt 8, 3) := by decide +kernel
theorem dX7_image_4 : decode cX7_image 4 = .ok (.iload_n 1, 1) := by decide +kernel
theorem dX7_image_5 : decode cX7_image 5 = .ok (.iconst 2, 1) := by decide +kernel
theorem dX7_image_6 : decode cX7_image 6 = .ok (.if_icmp .lt 6, 3) := by decide +kernel
theorem dX7_image_9 : decode cX7_image 9 = .ok (.bipush (-2), 2) := by decide +kernel
theorem dX7_image_11 : decode cX7_image 11 = .ok (.ireturn, 1) := by decide +kernel
theorem dX7_image_12 : decode cX7_image 12 = .ok (.aload_n 0, 1) := by decide +kernel
theorem dX7_image_13 : decode cX7_image 13 = .ok (.getfield 37, 3) := by decide +kernel
theorem dX7_image_16 : decode cX7_image 16 = .ok (.iload_n 1, 1) := by decide +kernel
theorem dX7_image_17 : decode cX7_image 17 = .ok (.aaload, 1) := by decide +kernel
theorem dX7_image_18 : decode cX7_image 18 = .ok (.aload_n 0, 1) := by decide +kernel
theorem dX7_image_19 : decode cX7_image 19 = .ok (.getfield 33, 3) := by decide +kernel
theorem dX7_image_22 : decode cX7_image 22 = .ok (.invokevirtual 224, 3) := by decide +kernel
theorem dX7_image_25 : decode cX7_image 25 = .ok (.aload_n 0, 1) := by decide +kernel
theorem dX7_image_26 : decode cX7_image 26 = .ok (.getfield 41, 3) := by decide +kernel
theorem dX7_image_29 : decode cX7_image 29 = .ok (.iload_n 1, 1) := by decide +kernel
theorem dX7_image_30 : decode cX7_image 30 = .ok (.iconst 1, 1) := by decide +kernel
theorem dX7_image_31 : decode cX7_image 31 = .ok (.bastore, 1) := by decide +kernel
theorem dX7_image_32 : decode cX7_image 32 = .ok (.iconst 1, 1) := by decide +kernel
theorem dX7_image_33 : decode cX7_image 33 = .ok (.ireturn, 1) := by decide +kernel
theorem dX7_restore_0 : decode cX7_restore 0 = .ok (.iload_n 1, 1) := by decide +kernel
theorem dX7_restore_1 : decode cX7_restore 1 = .ok (.ifCond .lt 8, 3) := by decide +kernel
theorem dX7_restore_4 : decode cX7_restore 4 = .ok (.iload_n 1, 1) := by decide +kernel
theorem dX7_restore_5 : decode cX7_restore 5 = .ok (.iconst 2, 1) := by decide +kernel
theorem dX7_restore_6 : decode cX7_restore 6 = .ok (.if_icmp .lt 6, 3) := by decide +kernel
theorem dX7_restore_9 : decode cX7_restore 9 = .ok (.bipush (-2), 2) := by decide +kernel
theorem dX7_restore_11 : decode cX7_restore 11 = .ok (.ireturn, 1) := by decide +kernel
theorem dX7_restore_12 : decode cX7_restore 12 = .ok (.aload_n 0, 1) := by decide +kernel
theorem dX7_restore_13 : decode cX7_restore 13 = .ok (.getfield 41, 3) := by decide +kernel
theorem dX7_restore_16 : decode cX7_restore 16 = .ok (.iload_n 1, 1) := by decide +kernel
theorem dX7_restore_17 : decode cX7_restore 17 = .ok (.baload, 1) := by decide +kernel
theorem dX7_restore_18 : decode cX7_restore 18 = .ok (.ifCond .ne 6, 3) := by decide +kernel
theorem dX7_restore_21 : decode cX7_restore 21 = .ok (.bipush (-3), 2) := by decide +kernel
theorem dX7_restore_23 : decode cX7_restore 23 = .ok (.ireturn, 1) := by decide +kernel
theorem dX7_restore_24 : decode cX7_restore 24 = .ok (.aload_n 0, 1) := by decide +kernel
theorem dX7_restore_25 : decode cX7_restore 25 = .ok (.getfield 33, 3) := by decide +kernel
theorem dX7_restore_28 : decode cX7_restore 28 = .ok (.aload_n 0, 1) := by decide +kernel
theorem dX7_restore_29 : decode cX7_restore 29 = .ok (.getfield 37, 3) := by decide +kernel
theorem dX7_restore_32 : decode cX7_restore 32 = .ok (.iload_n 1, 1) := by decide +kernel
theorem dX7_restore_33 : decode cX7_restore 33 = .ok (.aaload, 1) := by decide +kernel
theorem dX7_restore_34 : decode cX7_restore 34 = .ok (.invokevirtual 224, 3) := by decide +kernel
theorem dX7_restore_37 : decode cX7_restore 37 = .ok (.aload_n 0, 1) := by decide +kernel
theorem dX7_restore_38 : decode cX7_restore 38 = .ok (.invokevirtual 87, 3) := by decide +kernel
theorem dX7_restore_41 : decode cX7_restore 41 = .ok (.iconst 1, 1) := by decide +kernel
theorem dX7_restore_42 : decode cX7_restore 42 = .ok (.ireturn, 1) := by decide +kernel
theorem dX7_told_0 : decode cX7_told 0 = .ok (.iload_n 1, 1) := by decide +kernel
theorem dX7_told_1 : decode cX7_told 1 = .ok (.bipush 10, 2) := by decide +kernel
theorem dX7_told_3 : decode cX7_told 3 = .ok (.isub, 1) := by decide +kernel
theorem dX7_told_4 : decode cX7_told 4 = .ok (.invokestatic 80, 3) := by decide +kernel
theorem dX7_told_7 : decode cX7_told 7 = .ok (.ifCond .eq 16, 3) := by decide +kernel
theorem dX7_told_10 : decode cX7_told 10 = .ok (.aload_n 0, 1) := by decide +kernel
theorem dX7_told_11 : decode cX7_told 11 = .ok (.getfield 33, 3) := by decide +kernel
theorem dX7_told_14 : decode cX7_told 14 = .ok (.getfield 84, 3) := by decide +kernel
theorem dX7_told_17 : decode cX7_told 17 = .ok (.iload_n 1, 1) := by decide +kernel
theorem dX7_told_18 : decode cX7_told 18 = .ok (.bipush 10, 2) := by decide +kernel
theorem dX7_told_20 : decode cX7_told 20 = .ok (.isub, 1) := by decide +kernel
theorem dX7_told_21 : decode cX7_told 21 = .ok (.iaload, 1) := by decide +kernel
theorem dX7_told_22 : decode cX7_told 22 = .ok (.ireturn, 1) := by decide +kernel
theorem dX7_told_23 : decode cX7_told 23 = .ok (.iload_n 1, 1) := by decide +kernel
theorem dX7_told_24 : decode cX7_told 24 = .ok (.bipush 20, 2) := by decide +kernel
theorem dX7_told_26 : decode cX7_told 26 = .ok (.isub, 1) := by decide +kernel
theorem dX7_told_27 : decode cX7_told 27 = .ok (.invokestatic 80, 3) := by decide +kernel
theorem dX7_told_30 : decode cX7_told 30 = .ok (.ifCond .eq 20, 3) := by decide +kernel
theorem dX7_told_33 : decode cX7_told 33 = .ok (.aload_n 0, 1) := by decide +kernel
theorem dX7_told_34 : decode cX7_told 34 = .ok (.getfield 33, 3) := by decide +kernel
theorem dX7_told_37 : decode cX7_told 37 = .ok (.getfield 155, 3) := by decide +kernel
theorem dX7_told_40 : decode cX7_told 40 = .ok (.iload_n 1, 1) := by decide +kernel
theorem dX7_told_41 : decode cX7_told 41 = .ok (.bipush 20, 2) := by decide +kernel
theorem dX7_told_43 : decode cX7_told 43 = .ok (.isub, 1) := by decide +kernel
theorem dX7_told_44 : decode cX7_told 44 = .ok (.iaload, 1) := by decide +kernel
theorem dX7_told_45 : decode cX7_told 45 = .ok (.iconst (-1), 1) := by decide +kernel
theorem dX7_told_46 : decode cX7_told 46 = .ok (.invokestatic 152, 3) := by decide +kernel
theorem dX7_told_49 : decode cX7_told 49 = .ok (.ireturn, 1) := by decide +kernel
theorem dX7_told_50 : decode cX7_told 50 = .ok (.iload_n 1, 1) := by decide +kernel
theorem dX7_told_51 : decode cX7_told 51 = .ok (.tableswitch 112 0 5 #[37, 45, 56, 67, 75, 86], 37) := by decide +kernel
theorem dX7_told_88 : decode cX7_told 88 = .ok (.aload_n 0, 1) := by decide +kernel
theorem dX7_told_89 : decode cX7_told 89 = .ok (.getfield 19, 3) := by decide +kernel
theorem dX7_told_92 : decode cX7_told 92 = .ok (.getfield 93, 3) := by decide +kernel
theorem dX7_told_95 : decode cX7_told 95 = .ok (.ireturn, 1) := by decide +kernel
theorem dX7_told_96 : decode cX7_told 96 = .ok (.aload_n 0, 1) := by decide +kernel
theorem dX7_told_97 : decode cX7_told 97 = .ok (.getfield 33, 3) := by decide +kernel
theorem dX7_told_100 : decode cX7_told 100 = .ok (.getfield 105, 3) := by decide +kernel
theorem dX7_told_103 : decode cX7_told 103 = .ok (.getfield 112, 3) := by decide +kernel
theorem dX7_told_106 : decode cX7_told 106 = .ok (.ireturn, 1) := by decide +kernel
theorem dX7_told_107 : decode cX7_told 107 = .ok (.aload_n 0, 1) := by decide +kernel
theorem dX7_told_108 : decode cX7_told 108 = .ok (.getfield 33, 3) := by decide +kernel
theorem dX7_told_111 : decode cX7_told 111 = .ok (.getfield 146, 3) := by decide +kernel
theorem dX7_told_114 : decode cX7_told 114 = .ok (.invokestatic 142, 3) := by decide +kernel
theorem dX7_told_117 : decode cX7_told 117 = .ok (.ireturn, 1) := by decide +kernel
theorem dX7_told_118 : decode cX7_told 118 = .ok (.aload_n 0, 1) := by decide +kernel
theorem dX7_told_119 : decode cX7_told 119 = .ok (.getfield 33, 3) := by decide +kernel
theorem dX7_told_122 : decode cX7_told 122 = .ok (.getfield 209, 3) := by decide +kernel
theorem dX7_told_125 : decode cX7_told 125 = .ok (.ireturn, 1) := by decide +kernel
theorem dX7_told_126 : decode cX7_told 126 = .ok (.aload_n 0, 1) := by decide +kernel
theorem dX7_told_127 : decode cX7_told 127 = .ok (.getfield 33, 3) := by decide +kernel
theorem dX7_told_130 : decode cX7_told 130 = .ok (.getfield 155, 3) := by decide +kernel
theorem dX7_told_133 : decode cX7_told 133 = .ok (.invokestatic 227, 3) := by decide +kernel
theorem dX7_told_136 : decode cX7_told 136 = .ok (.ireturn, 1) := by decide +kernel
theorem dX7_told_137 : decode cX7_told 137 = .ok (.aload_n 0, 1) := by decide +kernel
theorem dX7_told_138 : decode cX7_told 138 = .ok (.getfield 48, 3) := by decide +kernel
theorem dX7_told_141 : decode cX7_told 141 = .ok (.aload_n 0, 1) := by decide +kernel
theorem dX7_told_142 : decode cX7_told 142 = .ok (.getfield 33, 3) := by decide +kernel
theorem dX7_told_145 : decode cX7_told 145 = .ok (.aload_n 0, 1) := by decide +kernel
theorem dX7_told_146 : decode cX7_told 146 = .ok (.getfield 10, 3) := by decide +kernel
theorem dX7_told_149 : decode cX7_told 149 = .ok (.invokevirtual 124, 3) := by decide +kernel
theorem dX7_told_152 : decode cX7_told 152 = .ok (.aload_n 0, 1) := by decide +kernel
theorem dX7_told_153 : decode cX7_told 153 = .ok (.getfield 48, 3) := by decide +kernel
theorem dX7_told_156 : decode cX7_told 156 = .ok (.getfield 149, 3) := by decide +kernel
theorem dX7_told_159 : decode cX7_told 159 = .ok (.invokestatic 227, 3) := by decide +kernel
theorem dX7_told_162 : decode cX7_told 162 = .ok (.ireturn, 1) := by decide +kernel
theorem dX7_told_163 : decode cX7_told 163 = .ok (.bipush (-2), 2) := by decide +kernel
theorem dX7_told_165 : decode cX7_told 165 = .ok (.ireturn, 1) := by decide +kernel
theorem dX7_forgetHistories_0 : decode cX7_forgetHistories 0 = .ok (.aload_n 0, 1) := by decide +kernel
theorem dX7_forgetHistories_1 : decode cX7_forgetHistories 1 = .ok (.iconst 0, 1) := by decide +kernel
theorem dX7_forgetHistories_2 : decode cX7_forgetHistories 2 = .ok (.putfield 73, 3) := by decide +kernel
theorem dX7_forgetHistories_5 : decode cX7_forgetHistories 5 = .ok (.aload_n 0, 1) := by decide +kernel
theorem dX7_forgetHistories_6 : decode cX7_forgetHistories 6 = .ok (.iconst 0, 1) := by decide +kernel
theorem dX7_forgetHistories_7 : decode cX7_forgetHistories 7 = .ok (.putfield 77, 3) := by decide +kernel
theorem dX7_forgetHistories_10 : decode cX7_forgetHistories 10 = .ok (.return_, 1) := by decide +kernel
theorem dX7_reckonHistories_0 : decode cX7_reckonHistories 0 = .ok (.aload_n 0, 1) := by decide +kernel
theorem dX7_reckonHistories_1 : decode cX7_reckonHistories 1 = .ok (.getfield 73, 3) := by decide +kernel
theorem dX7_reckonHistories_4 : decode cX7_reckonHistories 4 = .ok (.ifCond .eq 4, 3) := by decide +kernel
theorem dX7_reckonHistories_7 : decode cX7_reckonHistories 7 = .ok (.return_, 1) := by decide +kernel
theorem dX7_reckonHistories_8 : decode cX7_reckonHistories 8 = .ok (.aload_n 0, 1) := by decide +kernel
theorem dX7_reckonHistories_9 : decode cX7_reckonHistories 9 = .ok (.getfield 48, 3) := by decide +kernel
theorem dX7_reckonHistories_12 : decode cX7_reckonHistories 12 = .ok (.aload_n 0, 1) := by decide +kernel
theorem dX7_reckonHistories_13 : decode cX7_reckonHistories 13 = .ok (.getfield 33, 3) := by decide +kernel
theorem dX7_reckonHistories_16 : decode cX7_reckonHistories 16 = .ok (.aload_n 0, 1) := by decide +kernel
theorem dX7_reckonHistories_17 : decode cX7_reckonHistories 17 = .ok (.getfield 10, 3) := by decide +kernel
theorem dX7_reckonHistories_20 : decode cX7_reckonHistories 20 = .ok (.invokevirtual 124, 3) := by decide +kernel
theorem dX7_reckonHistories_23 : decode cX7_reckonHistories 23 = .ok (.aload_n 0, 1) := by decide +kernel
theorem dX7_reckonHistories_24 : decode cX7_reckonHistories 24 = .ok (.getfield 55, 3) := by decide +kernel
theorem dX7_reckonHistories_27 : decode cX7_reckonHistories 27 = .ok (.aload_n 0, 1) := by decide +kernel
theorem dX7_reckonHistories_28 : decode cX7_reckonHistories 28 = .ok (.getfield 33, 3) := by decide +kernel
theorem dX7_reckonHistories_31 : decode cX7_reckonHistories 31 = .ok (.aload_n 0, 1) := by decide +kernel
theorem dX7_reckonHistories_32 : decode cX7_reckonHistories 32 = .ok (.getfield 48, 3) := by decide +kernel
theorem dX7_reckonHistories_35 : decode cX7_reckonHistories 35 = .ok (.getfield 128, 3) := by decide +kernel
theorem dX7_reckonHistories_38 : decode cX7_reckonHistories 38 = .ok (.aload_n 0, 1) := by decide +kernel
theorem dX7_reckonHistories_39 : decode cX7_reckonHistories 39 = .ok (.getfield 10, 3) := by decide +kernel
theorem dX7_reckonHistories_42 : decode cX7_reckonHistories 42 = .ok (.iconst (-1), 1) := by decide +kernel
theorem dX7_reckonHistories_43 : decode cX7_reckonHistories 43 = .ok (.invokevirtual 231, 3) := by decide +kernel
theorem dX7_reckonHistories_46 : decode cX7_reckonHistories 46 = .ok (.aload_n 0, 1) := by decide +kernel
theorem dX7_reckonHistories_47 : decode cX7_reckonHistories 47 = .ok (.iconst 1, 1) := by decide +kernel
theorem dX7_reckonHistories_48 : decode cX7_reckonHistories 48 = .ok (.putfield 73, 3) := by decide +kernel
theorem dX7_reckonHistories_51 : decode cX7_reckonHistories 51 = .ok (.return_, 1) := by decide +kernel
theorem dX7_reckonWithout_0 : decode cX7_reckonWithout 0 = .ok (.aload_n 0, 1) := by decide +kernel
theorem dX7_reckonWithout_1 : decode cX7_reckonWithout 1 = .ok (.getfield 77, 3) := by decide +kernel
theorem dX7_reckonWithout_4 : decode cX7_reckonWithout 4 = .ok (.ifCond .eq 4, 3) := by decide +kernel
theorem dX7_reckonWithout_7 : decode cX7_reckonWithout 7 = .ok (.return_, 1) := by decide +kernel
theorem dX7_reckonWithout_8 : decode cX7_reckonWithout 8 = .ok (.aload_n 0, 1) := by decide +kernel
theorem dX7_reckonWithout_9 : decode cX7_reckonWithout 9 = .ok (.getfield 48, 3) := by decide +kernel
theorem dX7_reckonWithout_12 : decode cX7_reckonWithout 12 = .ok (.aload_n 0, 1) := by decide +kernel
theorem dX7_reckonWithout_13 : decode cX7_reckonWithout 13 = .ok (.getfield 33, 3) := by decide +kernel
theorem dX7_reckonWithout_16 : decode cX7_reckonWithout 16 = .ok (.aload_n 0, 1) := by decide +kernel
theorem dX7_reckonWithout_17 : decode cX7_reckonWithout 17 = .ok (.getfield 10, 3) := by decide +kernel
theorem dX7_reckonWithout_20 : decode cX7_reckonWithout 20 = .ok (.invokevirtual 124, 3) := by decide +kernel
theorem dX7_reckonWithout_23 : decode cX7_reckonWithout 23 = .ok (.iconst 0, 1) := by decide +kernel
theorem dX7_reckonWithout_24 : decode cX7_reckonWithout 24 = .ok (.istore_n 1, 1) := by decide +kernel
theorem dX7_reckonWithout_25 : decode cX7_reckonWithout 25 = .ok (.iload_n 1, 1) := by decide +kernel
theorem dX7_reckonWithout_26 : decode cX7_reckonWithout 26 = .ok (.bipush 6, 2) := by decide +kernel
theorem dX7_reckonWithout_28 : decode cX7_reckonWithout 28 = .ok (.if_icmp .ge 70, 3) := by decide +kernel
theorem dX7_reckonWithout_31 : decode cX7_reckonWithout 31 = .ok (.aload_n 0, 1) := by decide +kernel
theorem dX7_reckonWithout_32 : decode cX7_reckonWithout 32 = .ok (.getfield 62, 3) := by decide +kernel
theorem dX7_reckonWithout_35 : decode cX7_reckonWithout 35 = .ok (.iload_n 1, 1) := by decide +kernel
theorem dX7_reckonWithout_36 : decode cX7_reckonWithout 36 = .ok (.sipush 1000, 3) := by decide +kernel
theorem dX7_reckonWithout_39 : decode cX7_reckonWithout 39 = .ok (.iastore, 1) := by decide +kernel
theorem dX7_reckonWithout_40 : decode cX7_reckonWithout 40 = .ok (.aload_n 0, 1) := by decide +kernel
theorem dX7_reckonWithout_41 : decode cX7_reckonWithout 41 = .ok (.getfield 33, 3) := by decide +kernel
theorem dX7_reckonWithout_44 : decode cX7_reckonWithout 44 = .ok (.getfield 155, 3) := by decide +kernel
theorem dX7_reckonWithout_47 : decode cX7_reckonWithout 47 = .ok (.iload_n 1, 1) := by decide +kernel
theorem dX7_reckonWithout_48 : decode cX7_reckonWithout 48 = .ok (.iaload, 1) := by decide +kernel
theorem dX7_reckonWithout_49 : decode cX7_reckonWithout 49 = .ok (.iconst (-1), 1) := by decide +kernel
theorem dX7_reckonWithout_50 : decode cX7_reckonWithout 50 = .ok (.if_icmp .ne 6, 3) := by decide +kernel
theorem dX7_reckonWithout_53 : decode cX7_reckonWithout 53 = .ok (.goto 39, 3) := by decide +kernel
theorem dX7_reckonWithout_56 : decode cX7_reckonWithout 56 = .ok (.aload_n 0, 1) := by decide +kernel
theorem dX7_reckonWithout_57 : decode cX7_reckonWithout 57 = .ok (.getfield 59, 3) := by decide +kernel
theorem dX7_reckonWithout_60 : decode cX7_reckonWithout 60 = .ok (.aload_n 0, 1) := by decide +kernel
theorem dX7_reckonWithout_61 : decode cX7_reckonWithout 61 = .ok (.getfield 33, 3) := by decide +kernel
theorem dX7_reckonWithout_64 : decode cX7_reckonWithout 64 = .ok (.aload_n 0, 1) := by decide +kernel
theorem dX7_reckonWithout_65 : decode cX7_reckonWithout 65 = .ok (.getfield 48, 3) := by decide +kernel
theorem dX7_reckonWithout_68 : decode cX7_reckonWithout 68 = .ok (.getfield 128, 3) := by decide +kernel
theorem dX7_reckonWithout_71 : decode cX7_reckonWithout 71 = .ok (.aload_n 0, 1) := by decide +kernel
theorem dX7_reckonWithout_72 : decode cX7_reckonWithout 72 = .ok (.getfield 10, 3) := by decide +kernel
theorem dX7_reckonWithout_75 : decode cX7_reckonWithout 75 = .ok (.iload_n 1, 1) := by decide +kernel
theorem dX7_reckonWithout_76 : decode cX7_reckonWithout 76 = .ok (.invokevirtual 231, 3) := by decide +kernel
theorem dX7_reckonWithout_79 : decode cX7_reckonWithout 79 = .ok (.aload_n 0, 1) := by decide +kernel
theorem dX7_reckonWithout_80 : decode cX7_reckonWithout 80 = .ok (.getfield 62, 3) := by decide +kernel
theorem dX7_reckonWithout_83 : decode cX7_reckonWithout 83 = .ok (.iload_n 1, 1) := by decide +kernel
theorem dX7_reckonWithout_84 : decode cX7_reckonWithout 84 = .ok (.aload_n 0, 1) := by decide +kernel
theorem dX7_reckonWithout_85 : decode cX7_reckonWithout 85 = .ok (.getfield 59, 3) := by decide +kernel
theorem dX7_reckonWithout_88 : decode cX7_reckonWithout 88 = .ok (.getfield 164, 3) := by decide +kernel
theorem dX7_reckonWithout_91 : decode cX7_reckonWithout 91 = .ok (.iastore, 1) := by decide +kernel
theorem dX7_reckonWithout_92 : decode cX7_reckonWithout 92 = .ok (.iinc 1 1, 3) := by decide +kernel
theorem dX7_reckonWithout_95 : decode cX7_reckonWithout 95 = .ok (.goto (-70), 3) := by decide +kernel
theorem dX7_reckonWithout_98 : decode cX7_reckonWithout 98 = .ok (.aload_n 0, 1) := by decide +kernel
theorem dX7_reckonWithout_99 : decode cX7_reckonWithout 99 = .ok (.iconst 1, 1) := by decide +kernel
theorem dX7_reckonWithout_100 : decode cX7_reckonWithout 100 = .ok (.putfield 77, 3) := by decide +kernel
theorem dX7_reckonWithout_103 : decode cX7_reckonWithout 103 = .ok (.return_, 1) := by decide +kernel
theorem dX7_prepareTelling_0 : decode cX7_prepareTelling 0 = .ok (.aload_n 0, 1) := by decide +kernel
theorem dX7_prepareTelling_1 : decode cX7_prepareTelling 1 = .ok (.getfield 48, 3) := by decide +kernel
theorem dX7_prepareTelling_4 : decode cX7_prepareTelling 4 = .ok (.aload_n 0, 1) := by decide +kernel
theorem dX7_prepareTelling_5 : decode cX7_prepareTelling 5 = .ok (.getfield 33, 3) := by decide +kernel
theorem dX7_prepareTelling_8 : decode cX7_prepareTelling 8 = .ok (.aload_n 0, 1) := by decide +kernel
theorem dX7_prepareTelling_9 : decode cX7_prepareTelling 9 = .ok (.getfield 10, 3) := by decide +kernel
theorem dX7_prepareTelling_12 : decode cX7_prepareTelling 12 = .ok (.invokevirtual 124, 3) := by decide +kernel
theorem dX7_prepareTelling_15 : decode cX7_prepareTelling 15 = .ok (.aload_n 0, 1) := by decide +kernel
theorem dX7_prepareTelling_16 : decode cX7_prepareTelling 16 = .ok (.getfield 69, 3) := by decide +kernel
theorem dX7_prepareTelling_19 : decode cX7_prepareTelling 19 = .ok (.aload_n 0, 1) := by decide +kernel
theorem dX7_prepareTelling_20 : decode cX7_prepareTelling 20 = .ok (.getfield 33, 3) := by decide +kernel
theorem dX7_prepareTelling_23 : decode cX7_prepareTelling 23 = .ok (.aload_n 0, 1) := by decide +kernel
theorem dX7_prepareTelling_24 : decode cX7_prepareTelling 24 = .ok (.getfield 48, 3) := by decide +kernel
theorem dX7_prepareTelling_27 : decode cX7_prepareTelling 27 = .ok (.getfield 128, 3) := by decide +kernel
theorem dX7_prepareTelling_30 : decode cX7_prepareTelling 30 = .ok (.aload_n 0, 1) := by decide +kernel
theorem dX7_prepareTelling_31 : decode cX7_prepareTelling 31 = .ok (.getfield 48, 3) := by decide +kernel
theorem dX7_prepareTelling_34 : decode cX7_prepareTelling 34 = .ok (.getfield 149, 3) := by decide +kernel
theorem dX7_prepareTelling_37 : decode cX7_prepareTelling 37 = .ok (.invokestatic 227, 3) := by decide +kernel
theorem dX7_prepareTelling_40 : decode cX7_prepareTelling 40 = .ok (.invokevirtual 235, 3) := by decide +kernel
theorem dX7_prepareTelling_43 : decode cX7_prepareTelling 43 = .ok (.return_, 1) := by decide +kernel
theorem dX7_areYears_0 : decode cX7_areYears 0 = .ok (.iload_n 0, 1) := by decide +kernel
theorem dX7_areYears_1 : decode cX7_areYears 1 = .ok (.ifCond .lt 26, 3) := by decide +kernel
theorem dX7_areYears_4 : decode cX7_areYears 4 = .ok (.iload_n 0, 1) := by decide +kernel
theorem dX7_areYears_5 : decode cX7_areYears 5 = .ok (.sipush 9999, 3) := by decide +kernel
theorem dX7_areYears_8 : decode cX7_areYears 8 = .ok (.if_icmp .gt 19, 3) := by decide +kernel
theorem dX7_areYears_11 : decode cX7_areYears 11 = .ok (.iload_n 1, 1) := by decide +kernel
theorem dX7_areYears_12 : decode cX7_areYears 12 = .ok (.iconst 1, 1) := by decide +kernel
theorem dX7_areYears_13 : decode cX7_areYears 13 = .ok (.if_icmp .lt 14, 3) := by decide +kernel
theorem dX7_areYears_16 : decode cX7_areYears 16 = .ok (.iload_n 1, 1) := by decide +kernel
theorem dX7_areYears_17 : decode cX7_areYears 17 = .ok (.sipush 400, 3) := by decide +kernel
theorem dX7_areYears_20 : decode cX7_areYears 20 = .ok (.if_icmp .gt 7, 3) := by decide +kernel
theorem dX7_areYears_23 : decode cX7_areYears 23 = .ok (.iconst 1, 1) := by decide +kernel
theorem dX7_areYears_24 : decode cX7_areYears 24 = .ok (.goto 4, 3) := by decide +kernel
theorem dX7_areYears_27 : decode cX7_areYears 27 = .ok (.iconst 0, 1) := by decide +kernel
theorem dX7_areYears_28 : decode cX7_areYears 28 = .ok (.ireturn, 1) := by decide +kernel
theorem dX7_isBird_0 : decode cX7_isBird 0 = .ok (.iload_n 0, 1) := by decide +kernel
theorem dX7_isBird_1 : decode cX7_isBird 1 = .ok (.ifCond .lt 13, 3) := by decide +kernel
theorem dX7_isBird_4 : decode cX7_isBird 4 = .ok (.iload_n 0, 1) := by decide +kernel
theorem dX7_isBird_5 : decode cX7_isBird 5 = .ok (.bipush 6, 2) := by decide +kernel
theorem dX7_isBird_7 : decode cX7_isBird 7 = .ok (.if_icmp .ge 7, 3) := by decide +kernel
theorem dX7_isBird_10 : decode cX7_isBird 10 = .ok (.iconst 1, 1) := by decide +kernel
theorem dX7_isBird_11 : decode cX7_isBird 11 = .ok (.goto 4, 3) := by decide +kernel
theorem dX7_isBird_14 : decode cX7_isBird 14 = .ok (.iconst 0, 1) := by decide +kernel
theorem dX7_isBird_15 : decode cX7_isBird 15 = .ok (.ireturn, 1) := by decide +kernel
theorem dX7_birdsWithSaying_0 : decode cX7_birdsWithSaying 0 = .ok (.iconst 0, 1) := by decide +kernel
theorem dX7_birdsWithSaying_1 : decode cX7_birdsWithSaying 1 = .ok (.istore_n 1, 1) := by decide +kernel
theorem dX7_birdsWithSaying_2 : decode cX7_birdsWithSaying 2 = .ok (.iconst 0, 1) := by decide +kernel
theorem dX7_birdsWithSaying_3 : decode cX7_birdsWithSaying 3 = .ok (.istore_n 2, 1) := by decide +kernel
theorem dX7_birdsWithSaying_4 : decode cX7_birdsWithSaying 4 = .ok (.iload_n 2, 1) := by decide +kernel
theorem dX7_birdsWithSaying_5 : decode cX7_birdsWithSaying 5 = .ok (.bipush 6, 2) := by decide +kernel
theorem dX7_birdsWithSaying_7 : decode cX7_birdsWithSaying 7 = .ok (.if_icmp .ge 28, 3) := by decide +kernel
theorem dX7_birdsWithSaying_10 : decode cX7_birdsWithSaying 10 = .ok (.iload_n 2, 1) := by decide +kernel
theorem dX7_birdsWithSaying_11 : decode cX7_birdsWithSaying 11 = .ok (.aload_n 0, 1) := by decide +kernel
theorem dX7_birdsWithSaying_12 : decode cX7_birdsWithSaying 12 = .ok (.arraylength, 1) := by decide +kernel
theorem dX7_birdsWithSaying_13 : decode cX7_birdsWithSaying 13 = .ok (.if_icmp .ge 22, 3) := by decide +kernel
theorem dX7_birdsWithSaying_16 : decode cX7_birdsWithSaying 16 = .ok (.aload_n 0, 1) := by decide +kernel
theorem dX7_birdsWithSaying_17 : decode cX7_birdsWithSaying 17 = .ok (.iload_n 2, 1) := by decide +kernel
theorem dX7_birdsWithSaying_18 : decode cX7_birdsWithSaying 18 = .ok (.iaload, 1) := by decide +kernel
theorem dX7_birdsWithSaying_19 : decode cX7_birdsWithSaying 19 = .ok (.iconst (-1), 1) := by decide +kernel
theorem dX7_birdsWithSaying_20 : decode cX7_birdsWithSaying 20 = .ok (.if_icmp .eq 9, 3) := by decide +kernel
theorem dX7_birdsWithSaying_23 : decode cX7_birdsWithSaying 23 = .ok (.iload_n 1, 1) := by decide +kernel
theorem dX7_birdsWithSaying_24 : decode cX7_birdsWithSaying 24 = .ok (.iconst 1, 1) := by decide +kernel
theorem dX7_birdsWithSaying_25 : decode cX7_birdsWithSaying 25 = .ok (.iload_n 2, 1) := by decide +kernel
theorem dX7_birdsWithSaying_26 : decode cX7_birdsWithSaying 26 = .ok (.ishl, 1) := by decide +kernel
theorem dX7_birdsWithSaying_27 : decode cX7_birdsWithSaying 27 = .ok (.ior, 1) := by decide +kernel
theorem dX7_birdsWithSaying_28 : decode cX7_birdsWithSaying 28 = .ok (.istore_n 1, 1) := by decide +kernel
theorem dX7_birdsWithSaying_29 : decode cX7_birdsWithSaying 29 = .ok (.iinc 2 1, 3) := by decide +kernel
theorem dX7_birdsWithSaying_32 : decode cX7_birdsWithSaying 32 = .ok (.goto (-28), 3) := by decide +kernel
theorem dX7_birdsWithSaying_35 : decode cX7_birdsWithSaying 35 = .ok (.iload_n 1, 1) := by decide +kernel
theorem dX7_birdsWithSaying_36 : decode cX7_birdsWithSaying 36 = .ok (.ireturn, 1) := by decide +kernel
theorem dX7_power_0 : decode cX7_power 0 = .ok (.iload_n 0, 1) := by decide +kernel
theorem dX7_power_1 : decode cX7_power 1 = .ok (.ifCond .lt 19, 3) := by decide +kernel
theorem dX7_power_4 : decode cX7_power 4 = .ok (.iload_n 0, 1) := by decide +kernel
theorem dX7_power_5 : decode cX7_power 5 = .ok (.getstatic 239, 3) := by decide +kernel
theorem dX7_power_8 : decode cX7_power 8 = .ok (.arraylength, 1) := by decide +kernel
theorem dX7_power_9 : decode cX7_power 9 = .ok (.if_icmp .ge 11, 3) := by decide +kernel
theorem dX7_power_12 : decode cX7_power 12 = .ok (.getstatic 239, 3) := by decide +kernel
theorem dX7_power_15 : decode cX7_power 15 = .ok (.iload_n 0, 1) := by decide +kernel
theorem dX7_power_16 : decode cX7_power 16 = .ok (.iaload, 1) := by decide +kernel
theorem dX7_power_17 : decode cX7_power 17 = .ok (.goto 4, 3) := by decide +kernel
theorem dX7_power_20 : decode cX7_power 20 = .ok (.iconst 1, 1) := by decide +kernel
theorem dX7_power_21 : decode cX7_power 21 = .ok (.ireturn, 1) := by decide +kernel
theorem dX7_firstOf_0 : decode cX7_firstOf 0 = .ok (.iload_n 0, 1) := by decide +kernel
theorem dX7_firstOf_1 : decode cX7_firstOf 1 = .ok (.ifCond .lt 19, 3) := by decide +kernel
theorem dX7_firstOf_4 : decode cX7_firstOf 4 = .ok (.iload_n 0, 1) := by decide +kernel
theorem dX7_firstOf_5 : decode cX7_firstOf 5 = .ok (.getstatic 242, 3) := by decide +kernel
theorem dX7_firstOf_8 : decode cX7_firstOf 8 = .ok (.arraylength, 1) := by decide +kernel
theorem dX7_firstOf_9 : decode cX7_firstOf 9 = .ok (.if_icmp .ge 11, 3) := by decide +kernel
theorem dX7_firstOf_12 : decode cX7_firstOf 12 = .ok (.getstatic 242, 3) := by decide +kernel
theorem dX7_firstOf_15 : decode cX7_firstOf 15 = .ok (.iload_n 0, 1) := by decide +kernel
theorem dX7_firstOf_16 : decode cX7_firstOf 16 = .ok (.iaload, 1) := by decide +kernel
theorem dX7_firstOf_17 : decode cX7_firstOf 17 = .ok (.goto 6, 3) := by decide +kernel
theorem dX7_firstOf_20 : decode cX7_firstOf 20 = .ok (.sipush 364, 3) := by decide +kernel
theorem dX7_firstOf_23 : decode cX7_firstOf 23 = .ok (.ireturn, 1) := by decide +kernel
theorem dX7_lengthOf_0 : decode cX7_lengthOf 0 = .ok (.iconst 0, 1) := by decide +kernel
theorem dX7_lengthOf_1 : decode cX7_lengthOf 1 = .ok (.istore_n 1, 1) := by decide +kernel
theorem dX7_lengthOf_2 : decode cX7_lengthOf 2 = .ok (.iload_n 1, 1) := by decide +kernel
theorem dX7_lengthOf_3 : decode cX7_lengthOf 3 = .ok (.iconst 5, 1) := by decide +kernel
theorem dX7_lengthOf_4 : decode cX7_lengthOf 4 = .ok (.if_icmp .ge 19, 3) := by decide +kernel
theorem dX7_lengthOf_7 : decode cX7_lengthOf 7 = .ok (.iload_n 1, 1) := by decide +kernel
theorem dX7_lengthOf_8 : decode cX7_lengthOf 8 = .ok (.iconst 1, 1) := by decide +kernel
theorem dX7_lengthOf_9 : decode cX7_lengthOf 9 = .ok (.iadd, 1) := by decide +kernel
theorem dX7_lengthOf_10 : decode cX7_lengthOf 10 = .ok (.invokestatic 245, 3) := by decide +kernel
theorem dX7_lengthOf_13 : decode cX7_lengthOf 13 = .ok (.iload_n 0, 1) := by decide +kernel
theorem dX7_lengthOf_14 : decode cX7_lengthOf 14 = .ok (.if_icmp .gt 9, 3) := by decide +kernel
theorem dX7_lengthOf_17 : decode cX7_lengthOf 17 = .ok (.iinc 1 1, 3) := by decide +kernel
theorem dX7_lengthOf_20 : decode cX7_lengthOf 20 = .ok (.goto (-18), 3) := by decide +kernel
theorem dX7_lengthOf_23 : decode cX7_lengthOf 23 = .ok (.iload_n 1, 1) := by decide +kernel
theorem dX7_lengthOf_24 : decode cX7_lengthOf 24 = .ok (.ireturn, 1) := by decide +kernel
theorem dX7_wordOf_0 : decode cX7_wordOf 0 = .ok (.iload_n 0, 1) := by decide +kernel
theorem dX7_wordOf_1 : decode cX7_wordOf 1 = .ok (.iconst (-1), 1) := by decide +kernel
theorem dX7_wordOf_2 : decode cX7_wordOf 2 = .ok (.if_icmp .ne 6, 3) := by decide +kernel
theorem dX7_wordOf_5 : decode cX7_wordOf 5 = .ok (.bipush (-6), 2) := by decide +kernel
theorem dX7_wordOf_7 : decode cX7_wordOf 7 = .ok (.ireturn, 1) := by decide +kernel
theorem dX7_wordOf_8 : decode cX7_wordOf 8 = .ok (.iload_n 0, 1) := by decide +kernel
theorem dX7_wordOf_9 : decode cX7_wordOf 9 = .ok (.invokestatic 142, 3) := by decide +kernel
theorem dX7_wordOf_12 : decode cX7_wordOf 12 = .ok (.istore_n 2, 1) := by decide +kernel
theorem dX7_wordOf_13 : decode cX7_wordOf 13 = .ok (.iload_n 1, 1) := by decide +kernel
theorem dX7_wordOf_14 : decode cX7_wordOf 14 = .ok (.iconst (-1), 1) := by decide +kernel
theorem dX7_wordOf_15 : decode cX7_wordOf 15 = .ok (.if_icmp .ne 5, 3) := by decide +kernel
theorem dX7_wordOf_18 : decode cX7_wordOf 18 = .ok (.iload_n 2, 1) := by decide +kernel
theorem dX7_wordOf_19 : decode cX7_wordOf 19 = .ok (.ireturn, 1) := by decide +kernel
theorem dX7_wordOf_20 : decode cX7_wordOf 20 = .ok (.iload_n 1, 1) := by decide +kernel
theorem dX7_wordOf_21 : decode cX7_wordOf 21 = .ok (.ifCond .lt 8, 3) := by decide +kernel
theorem dX7_wordOf_24 : decode cX7_wordOf 24 = .ok (.iload_n 1, 1) := by decide +kernel
theorem dX7_wordOf_25 : decode cX7_wordOf 25 = .ok (.iload_n 2, 1) := by decide +kernel
theorem dX7_wordOf_26 : decode cX7_wordOf 26 = .ok (.if_icmp .lt 6, 3) := by decide +kernel
theorem dX7_wordOf_29 : decode cX7_wordOf 29 = .ok (.bipush (-6), 2) := by decide +kernel
theorem dX7_wordOf_31 : decode cX7_wordOf 31 = .ok (.ireturn, 1) := by decide +kernel
theorem dX7_wordOf_32 : decode cX7_wordOf 32 = .ok (.iload_n 2, 1) := by decide +kernel
theorem dX7_wordOf_33 : decode cX7_wordOf 33 = .ok (.iconst 1, 1) := by decide +kernel
theorem dX7_wordOf_34 : decode cX7_wordOf 34 = .ok (.isub, 1) := by decide +kernel
theorem dX7_wordOf_35 : decode cX7_wordOf 35 = .ok (.iload_n 1, 1) := by decide +kernel
theorem dX7_wordOf_36 : decode cX7_wordOf 36 = .ok (.isub, 1) := by decide +kernel
theorem dX7_wordOf_37 : decode cX7_wordOf 37 = .ok (.invokestatic 206, 3) := by decide +kernel
theorem dX7_wordOf_40 : decode cX7_wordOf 40 = .ok (.istore_n 3, 1) := by decide +kernel
theorem dX7_wordOf_41 : decode cX7_wordOf 41 = .ok (.bipush 97, 2) := by decide +kernel
theorem dX7_wordOf_43 : decode cX7_wordOf 43 = .ok (.iload_n 0, 1) := by decide +kernel
theorem dX7_wordOf_44 : decode cX7_wordOf 44 = .ok (.iload_n 2, 1) := by decide +kernel
theorem dX7_wordOf_45 : decode cX7_wordOf 45 = .ok (.invokestatic 245, 3) := by decide +kernel
theorem dX7_wordOf_48 : decode cX7_wordOf 48 = .ok (.isub, 1) := by decide +kernel
theorem dX7_wordOf_49 : decode cX7_wordOf 49 = .ok (.iload_n 3, 1) := by decide +kernel
theorem dX7_wordOf_50 : decode cX7_wordOf 50 = .ok (.idiv, 1) := by decide +kernel
theorem dX7_wordOf_51 : decode cX7_wordOf 51 = .ok (.iconst 3, 1) := by decide +kernel
theorem dX7_wordOf_52 : decode cX7_wordOf 52 = .ok (.irem, 1) := by decide +kernel
theorem dX7_wordOf_53 : decode cX7_wordOf 53 = .ok (.iadd, 1) := by decide +kernel
theorem dX7_wordOf_54 : decode cX7_wordOf 54 = .ok (.ireturn, 1) := by decide +kernel
theorem dX7_commonDivisor_0 : decode cX7_commonDivisor 0 = .ok (.iconst 0, 1) := by decide +kernel
theorem dX7_commonDivisor_1 : decode cX7_commonDivisor 1 = .ok (.istore 4, 2) := by decide +kernel
theorem dX7_commonDivisor_3 : decode cX7_commonDivisor 3 = .ok (.iload 4, 2) := by decide +kernel
theorem dX7_commonDivisor_5 : decode cX7_commonDivisor 5 = .ok (.sipush 200, 3) := by decide +kernel
theorem dX7_commonDivisor_8 : decode cX7_commonDivisor 8 = .ok (.if_icmp .ge 25, 3) := by decide +kernel
theorem dX7_commonDivisor_11 : decode cX7_commonDivisor 11 = .ok (.lload_n 2, 1) := by decide +kernel
theorem dX7_commonDivisor_12 : decode cX7_commonDivisor 12 = .ok (.lconst 0, 1) := by decide +kernel
theorem dX7_commonDivisor_13 : decode cX7_commonDivisor 13 = .ok (.lcmp, 1) := by decide +kernel
theorem dX7_commonDivisor_14 : decode cX7_commonDivisor 14 = .ok (.ifCond .eq 19, 3) := by decide +kernel
theorem dX7_commonDivisor_17 : decode cX7_commonDivisor 17 = .ok (.lload_n 0, 1) := by decide +kernel
theorem dX7_commonDivisor_18 : decode cX7_commonDivisor 18 = .ok (.lload_n 2, 1) := by decide +kernel
theorem dX7_commonDivisor_19 : decode cX7_commonDivisor 19 = .ok (.lrem, 1) := by decide +kernel
theorem dX7_commonDivisor_20 : decode cX7_commonDivisor 20 = .ok (.lstore 5, 2) := by decide +kernel
theorem dX7_commonDivisor_22 : decode cX7_commonDivisor 22 = .ok (.lload_n 2, 1) := by decide +kernel
theorem dX7_commonDivisor_23 : decode cX7_commonDivisor 23 = .ok (.lstore_n 0, 1) := by decide +kernel
theorem dX7_commonDivisor_24 : decode cX7_commonDivisor 24 = .ok (.lload 5, 2) := by decide +kernel
theorem dX7_commonDivisor_26 : decode cX7_commonDivisor 26 = .ok (.lstore_n 2, 1) := by decide +kernel
theorem dX7_commonDivisor_27 : decode cX7_commonDivisor 27 = .ok (.iinc 4 1, 3) := by decide +kernel
theorem dX7_commonDivisor_30 : decode cX7_commonDivisor 30 = .ok (.goto (-27), 3) := by decide +kernel
theorem dX7_commonDivisor_33 : decode cX7_commonDivisor 33 = .ok (.lload_n 0, 1) := by decide +kernel
theorem dX7_commonDivisor_34 : decode cX7_commonDivisor 34 = .ok (.lreturn, 1) := by decide +kernel
theorem dX8_init_0 : decode cX8_init 0 = .ok (.aload_n 0, 1) := by decide +kernel
theorem dX8_init_1 : decode cX8_init 1 = .ok (.invokespecial 1, 3) := by decide +kernel
theorem dX8_init_4 : decode cX8_init 4 = .ok (.aload_n 0, 1) := by decide +kernel
theorem dX8_init_5 : decode cX8_init 5 = .ok (.bipush 8, 2) := by decide +kernel
theorem dX8_init_7 : decode cX8_init 7 = .ok (.newarray .int, 2) := by decide +kernel
theorem dX8_init_9 : decode cX8_init 9 = .ok (.putfield 7, 3) := by decide +kernel
theorem dX8_init_12 : decode cX8_init 12 = .ok (.aload_n 0, 1) := by decide +kernel
theorem dX8_init_13 : decode cX8_init 13 = .ok (.bipush 40, 2) := by decide +kernel
theorem dX8_init_15 : decode cX8_init 15 = .ok (.newarray .int, 2) := by decide +kernel
theorem dX8_init_17 : decode cX8_init 17 = .ok (.putfield 13, 3) := by decide +kernel
theorem dX8_init_20 : decode cX8_init 20 = .ok (.aload_n 0, 1) := by decide +kernel
theorem dX8_init_21 : decode cX8_init 21 = .ok (.bipush 6, 2) := by decide +kernel
theorem dX8_init_23 : decode cX8_init 23 = .ok (.newarray .int, 2) := by decide +kernel
theorem dX8_init_25 : decode cX8_init 25 = .ok (.putfield 16, 3) := by decide +kernel
theorem dX8_init_28 : decode cX8_init 28 = .ok (.aload_n 0, 1) := by decide +kernel
theorem dX8_init_29 : decode cX8_init 29 = .ok (.bipush 16, 2) := by decide +kernel
theorem dX8_init_31 : decode cX8_init 31 = .ok (.newarray .int, 2) := by decide +kernel
theorem dX8_init_33 : decode cX8_init 33 = .ok (.putfield 19, 3) := by decide +kernel
theorem dX8_init_36 : decode cX8_init 36 = .ok (.aload_n 0, 1) := by decide +kernel
theorem dX8_init_37 : decode cX8_init 37 = .ok (.bipush 16, 2) := by decide +kernel
theorem dX8_init_39 : decode cX8_init 39 = .ok (.newarray .int, 2) := by decide +kernel
theorem dX8_init_41 : decode cX8_init 41 = .ok (.putfield 22, 3) := by decide +kernel
theorem dX8_init_44 : decode cX8_init 44 = .ok (.aload_n 0, 1) := by decide +kernel
theorem dX8_init_45 : decode cX8_init 45 = .ok (.bipush 16, 2) := by decide +kernel
theorem dX8_init_47 : decode cX8_init 47 = .ok (.newarray .int, 2) := by decide +kernel
theorem dX8_init_49 : decode cX8_init 49 = .ok (.putfield 25, 3) := by decide +kernel
theorem dX8_init_52 : decode cX8_init 52 = .ok (.aload_n 0, 1) := by decide +kernel
theorem dX8_init_53 : decode cX8_init 53 = .ok (.bipush 6, 2) := by decide +kernel
theorem dX8_init_55 : decode cX8_init 55 = .ok (.newarray .int, 2) := by decide +kernel
theorem dX8_init_57 : decode cX8_init 57 = .ok (.putfield 28, 3) := by decide +kernel
theorem dX8_init_60 : decode cX8_init 60 = .ok (.aload_n 0, 1) := by decide +kernel
theorem dX8_init_61 : decode cX8_init 61 = .ok (.bipush 48, 2) := by decide +kernel
theorem dX8_init_63 : decode cX8_init 63 = .ok (.newarray .int, 2) := by decide +kernel
theorem dX8_init_65 : decode cX8_init 65 = .ok (.putfield 31, 3) := by decide +kernel
theorem dX8_init_68 : decode cX8_init 68 = .ok (.aload_n 0, 1) := by decide +kernel
theorem dX8_init_69 : decode cX8_init 69 = .ok (.bipush 6, 2) := by decide +kernel
theorem dX8_init_71 : decode cX8_init 71 = .ok (.newarray .int, 2) := by decide +kernel
theorem dX8_init_73 : decode cX8_init 73 = .ok (.putfield 34, 3) := by decide +kernel
theorem dX8_init_76 : decode cX8_init 76 = .ok (.aload_n 0, 1) := by decide +kernel
theorem dX8_init_77 : decode cX8_init 77 = .ok (.bipush 16, 2) := by decide +kernel
theorem dX8_init_79 : decode cX8_init 79 = .ok (.newarray .boolean, 2) := by decide +kernel
theorem dX8_init_81 : decode cX8_init 81 = .ok (.putfield 37, 3) := by decide +kernel
theorem dX8_init_84 : decode cX8_init 84 = .ok (.aload_n 0, 1) := by decide +kernel
theorem dX8_init_85 : decode cX8_init 85 = .ok (.sipush 6188, 3) := by decide +kernel
theorem dX8_init_88 : decode cX8_init 88 = .ok (.newarray .int, 2) := by decide +kernel
theorem dX8_init_90 : decode cX8_init 90 = .ok (.putfield 41, 3) := by decide +kernel
theorem dX8_init_93 : decode cX8_init 93 = .ok (.aload_n 0, 1) := by decide +kernel
theorem dX8_init_94 : decode cX8_init 94 = .ok (.sipush 6188, 3) := by decide +kernel
theorem dX8_init_97 : decode cX8_init 97 = .ok (.newarray .long, 2) := by decide +kernel
theorem dX8_init_99 : decode cX8_init 99 = .ok (.putfield 44, 3) := by decide +kernel
theorem dX8_init_102 : decode cX8_init 102 = .ok (.aload_n 0, 1) := by decide +kernel
theorem dX8_init_103 : decode cX8_init 103 = .ok (.sipush 8000, 3) := by decide +kernel
theorem dX8_init_106 : decode cX8_init 106 = .ok (.newarray .long, 2) := by decide +kernel
theorem dX8_init_108 : decode cX8_init 108 = .ok (.putfield 48, 3) := by decide +kernel
theorem dX8_init_111 : decode cX8_init 111 = .ok (.aload_n 0, 1) := by decide +kernel
theorem dX8_init_112 : decode cX8_init 112 = .ok (.sipush 8000, 3) := by decide +kernel
theorem dX8_init_115 : decode cX8_init 115 = .ok (.newarray .int, 2) := by decide +kernel
theorem dX8_init_117 : decode cX8_init 117 = .ok (.putfield 51, 3) := by decide +kernel
theorem dX8_init_120 : decode cX8_init 120 = .ok (.aload_n 0, 1) := by decide +kernel
theorem dX8_init_121 : decode cX8_init 121 = .ok (.sipush 16384, 3) := by decide +kernel
theorem dX8_init_124 : decode cX8_init 124 = .ok (.newarray .long, 2) := by decide +kernel
theorem dX8_init_126 : decode cX8_init 126 = .ok (.putfield 54, 3) := by decide +kernel
theorem dX8_init_129 : decode cX8_init 129 = .ok (.aload_n 0, 1) := by decide +kernel
theorem dX8_init_130 : decode cX8_init 130 = .ok (.sipush 16384, 3) := by decide +kernel
theorem dX8_init_133 : decode cX8_init 133 = .ok (.newarray .int, 2) := by decide +kernel
theorem dX8_init_135 : decode cX8_init 135 = .ok (.putfield 57, 3) := by decide +kernel
theorem dX8_init_138 : decode cX8_init 138 = .ok (.aload_n 0, 1) := by decide +kernel
theorem dX8_init_139 : decode cX8_init 139 = .ok (.sipush 160, 3) := by decide +kernel
theorem dX8_init_142 : decode cX8_init 142 = .ok (.newarray .int, 2) := by decide +kernel
theorem dX8_init_144 : decode cX8_init 144 = .ok (.putfield 60, 3) := by decide +kernel
theorem dX8_init_147 : decode cX8_init 147 = .ok (.aload_n 0, 1) := by decide +kernel
theorem dX8_init_148 : decode cX8_init 148 = .ok (.iconst 2, 1) := by decide +kernel
theorem dX8_init_149 : decode cX8_init 149 = .ok (.newarray .boolean, 2) := by decide +kernel
theorem dX8_init_151 : decode cX8_init 151 = .ok (.putfield 63, 3) := by decide +kernel
theorem dX8_init_154 : decode cX8_init 154 = .ok (.aload_n 0, 1) := by decide +kernel
theorem dX8_init_155 : decode cX8_init 155 = .ok (.bipush 40, 2) := by decide +kernel
theorem dX8_init_157 : decode cX8_init 157 = .ok (.putfield 66, 3) := by decide +kernel
theorem dX8_init_160 : decode cX8_init 160 = .ok (.iconst 0, 1) := by decide +kernel
theorem dX8_init_161 : decode cX8_init 161 = .ok (.istore_n 1, 1) := by decide +kernel
theorem dX8_init_162 : decode cX8_init 162 = .ok (.iload_n 1, 1) := by decide +kernel
theorem dX8_init_163 : decode cX8_init 163 = .ok (.bipush 6, 2) := by decide +kernel
theorem dX8_init_165 : decode cX8_init 165 = .ok (.if_icmp .ge 17, 3) := by decide +kernel
theorem dX8_init_168 : decode cX8_init 168 = .ok (.aload_n 0, 1) := by decide +kernel
theorem dX8_init_169 : decode cX8_init 169 = .ok (.getfield 28, 3) := by decide +kernel
theorem dX8_init_172 : decode cX8_init 172 = .ok (.iload_n 1, 1) := by decide +kernel
theorem dX8_init_173 : decode cX8_init 173 = .ok (.bipush (-6), 2) := by decide +kernel
theorem dX8_init_175 : decode cX8_init 175 = .ok (.iastore, 1) := by decide +kernel
theorem dX8_init_176 : decode cX8_init 176 = .ok (.iinc 1 1, 3) := by decide +kernel
theorem dX8_init_179 : decode cX8_init 179 = .ok (.goto (-17), 3) := by decide +kernel
theorem dX8_init_182 : decode cX8_init 182 = .ok (.return_, 1) := by decide +kernel
theorem dX8_in_0 : decode cX8_in 0 = .ok (.lload_n 0, 1) := by decide +kernel
theorem dX8_in_1 : decode cX8_in 1 = .ok (.lload_n 2, 1) := by decide +kernel
theorem dX8_in_2 : decode cX8_in 2 = .ok (.lcmp, 1) := by decide +kernel
theorem dX8_in_3 : decode cX8_in 3 = .ok (.ifCond .lt 14, 3) := by decide +kernel
theorem dX8_in_6 : decode cX8_in 6 = .ok (.lload_n 0, 1) := by decide +kernel
theorem dX8_in_7 : decode cX8_in 7 = .ok (.lload 4, 2) := by decide +kernel
theorem dX8_in_9 : decode cX8_in 9 = .ok (.lcmp, 1) := by decide +kernel
theorem dX8_in_10 : decode cX8_in 10 = .ok (.ifCond .gt 7, 3) := by decide +kernel
theorem dX8_in_13 : decode cX8_in 13 = .ok (.iconst 1, 1) := by decide +kernel
theorem dX8_in_14 : decode cX8_in 14 = .ok (.goto 4, 3) := by decide +kernel
theorem dX8_in_17 : decode cX8_in 17 = .ok (.iconst 0, 1) := by decide +kernel
theorem dX8_in_18 : decode cX8_in 18 = .ok (.ireturn, 1) := by decide +kernel
theorem dX8_isBird_0 : decode cX8_isBird 0 = .ok (.iload_n 0, 1) := by decide +kernel
theorem dX8_isBird_1 : decode cX8_isBird 1 = .ok (.i2l, 1) := by decide +kernel
theorem dX8_isBird_2 : decode cX8_isBird 2 = .ok (.lconst 0, 1) := by decide +kernel
theorem dX8_isBird_3 : decode cX8_isBird 3 = .ok (.ldc2_w 70, 3) := by decide +kernel
theorem dX8_isBird_6 : decode cX8_isBird 6 = .ok (.invokestatic 72, 3) := by decide +kernel
theorem dX8_isBird_9 : decode cX8_isBird 9 = .ok (.ireturn, 1) := by decide +kernel
theorem dX8_ones_0 : decode cX8_ones 0 = .ok (.iconst 0, 1) := by decide +kernel
theorem dX8_ones_1 : decode cX8_ones 1 = .ok (.istore_n 1, 1) := by decide +kernel
theorem dX8_ones_2 : decode cX8_ones 2 = .ok (.iload_n 0, 1) := by decide +kernel
theorem dX8_ones_3 : decode cX8_ones 3 = .ok (.istore_n 2, 1) := by decide +kernel
theorem dX8_ones_4 : decode cX8_ones 4 = .ok (.iload_n 2, 1) := by decide +kernel
theorem dX8_ones_5 : decode cX8_ones 5 = .ok (.ifCond .eq 15, 3) := by decide +kernel
theorem dX8_ones_8 : decode cX8_ones 8 = .ok (.iinc 1 1, 3) := by decide +kernel
theorem dX8_ones_11 : decode cX8_ones 11 = .ok (.iload_n 2, 1) := by decide +kernel
theorem dX8_ones_12 : decode cX8_ones 12 = .ok (.iload_n 2, 1) := by decide +kernel
theorem dX8_ones_13 : decode cX8_ones 13 = .ok (.iconst 1, 1) := by decide +kernel
theorem dX8_ones_14 : decode cX8_ones 14 = .ok (.isub, 1) := by decide +kernel
theorem dX8_ones_15 : decode cX8_ones 15 = .ok (.iand, 1) := by decide +kernel
theorem dX8_ones_16 : decode cX8_ones 16 = .ok (.istore_n 2, 1) := by decide +kernel
theorem dX8_ones_17 : decode cX8_ones 17 = .ok (.goto (-13), 3) := by decide +kernel
theorem dX8_ones_20 : decode cX8_ones 20 = .ok (.iload_n 1, 1) := by decide +kernel
theorem dX8_ones_21 : decode cX8_ones 21 = .ok (.ireturn, 1) := by decide +kernel
theorem dX8_firstOf_0 : decode cX8_firstOf 0 = .ok (.iconst 0, 1) := by decide +kernel
theorem dX8_firstOf_1 : decode cX8_firstOf 1 = .ok (.istore_n 1, 1) := by decide +kernel
theorem dX8_firstOf_2 : decode cX8_firstOf 2 = .ok (.iconst 1, 1) := by decide +kernel
theorem dX8_firstOf_3 : decode cX8_firstOf 3 = .ok (.istore_n 2, 1) := by decide +kernel
theorem dX8_firstOf_4 : decode cX8_firstOf 4 = .ok (.iconst 0, 1) := by decide +kernel
theorem dX8_firstOf_5 : decode cX8_firstOf 5 = .ok (.istore_n 3, 1) := by decide +kernel
theorem dX8_firstOf_6 : decode cX8_firstOf 6 = .ok (.iload_n 3, 1) := by decide +kernel
theorem dX8_firstOf_7 : decode cX8_firstOf 7 = .ok (.iload_n 0, 1) := by decide +kernel
theorem dX8_firstOf_8 : decode cX8_firstOf 8 = .ok (.if_icmp .ge 17, 3) := by decide +kernel
theorem dX8_firstOf_11 : decode cX8_firstOf 11 = .ok (.iload_n 1, 1) := by decide +kernel
theorem dX8_firstOf_12 : decode cX8_firstOf 12 = .ok (.iload_n 2, 1) := by decide +kernel
theorem dX8_firstOf_13 : decode cX8_firstOf 13 = .ok (.iadd, 1) := by decide +kernel
theorem dX8_firstOf_14 : decode cX8_firstOf 14 = .ok (.istore_n 1, 1) := by decide +kernel
theorem dX8_firstOf_15 : decode cX8_firstOf 15 = .ok (.iload_n 2, 1) := by decide +kernel
theorem dX8_firstOf_16 : decode cX8_firstOf 16 = .ok (.iconst 3, 1) := by decide +kernel
theorem dX8_firstOf_17 : decode cX8_firstOf 17 = .ok (.imul, 1) := by decide +kernel
theorem dX8_firstOf_18 : decode cX8_firstOf 18 = .ok (.istore_n 2, 1) := by decide +kernel
theorem dX8_firstOf_19 : decode cX8_firstOf 19 = .ok (.iinc 3 1, 3) := by decide +kernel
theorem dX8_firstOf_22 : decode cX8_firstOf 22 = .ok (.goto (-16), 3) := by decide +kernel
theorem dX8_firstOf_25 : decode cX8_firstOf 25 = .ok (.iload_n 1, 1) := by decide +kernel
theorem dX8_firstOf_26 : decode cX8_firstOf 26 = .ok (.ireturn, 1) := by decide +kernel
theorem dX8_wordsOf_0 : decode cX8_wordsOf 0 = .ok (.iconst 0, 1) := by decide +kernel
theorem dX8_wordsOf_1 : decode cX8_wordsOf 1 = .ok (.istore_n 1, 1) := by decide +kernel
theorem dX8_wordsOf_2 : decode cX8_wordsOf 2 = .ok (.iload_n 1, 1) := by decide +kernel
theorem dX8_wordsOf_3 : decode cX8_wordsOf 3 = .ok (.iconst 1, 1) := by decide +kernel
theorem dX8_wordsOf_4 : decode cX8_wordsOf 4 = .ok (.iadd, 1) := by decide +kernel
theorem dX8_wordsOf_5 : decode cX8_wordsOf 5 = .ok (.invokestatic 76, 3) := by decide +kernel
theorem dX8_wordsOf_8 : decode cX8_wordsOf 8 = .ok (.iload_n 0, 1) := by decide +kernel
theorem dX8_wordsOf_9 : decode cX8_wordsOf 9 = .ok (.if_icmp .gt 9, 3) := by decide +kernel
theorem dX8_wordsOf_12 : decode cX8_wordsOf 12 = .ok (.iinc 1 1, 3) := by decide +kernel
theorem dX8_wordsOf_15 : decode cX8_wordsOf 15 = .ok (.goto (-13), 3) := by decide +kernel
theorem dX8_wordsOf_18 : decode cX8_wordsOf 18 = .ok (.iload_n 1, 1) := by decide +kernel
theorem dX8_wordsOf_19 : decode cX8_wordsOf 19 = .ok (.ireturn, 1) := by decide +kernel
theorem dX8_lay_0 : decode cX8_lay 0 = .ok (.aload_n 0, 1) := by decide +kernel
theorem dX8_lay_1 : decode cX8_lay 1 = .ok (.iload_n 1, 1) := by decide +kernel
theorem dX8_lay_2 : decode cX8_lay 2 = .ok (.invokestatic 80, 3) := by decide +kernel
theorem dX8_lay_5 : decode cX8_lay 5 = .ok (.putfield 83, 3) := by decide +kernel
theorem dX8_lay_8 : decode cX8_lay 8 = .ok (.iload_n 1, 1) := by decide +kernel
theorem dX8_lay_9 : decode cX8_lay 9 = .ok (.aload_n 0, 1) := by decide +kernel
theorem dX8_lay_10 : decode cX8_lay 10 = .ok (.getfield 83, 3) := by decide +kernel
theorem dX8_lay_13 : decode cX8_lay 13 = .ok (.invokestatic 76, 3) := by decide +kernel
theorem dX8_lay_16 : decode cX8_lay 16 = .ok (.isub, 1) := by decide +kernel
theorem dX8_lay_17 : decode cX8_lay 17 = .ok (.istore_n 2, 1) := by decide +kernel
theorem dX8_lay_18 : decode cX8_lay 18 = .ok (.aload_n 0, 1) := by decide +kernel
theorem dX8_lay_19 : decode cX8_lay 19 = .ok (.getfield 83, 3) := by decide +kernel
theorem dX8_lay_22 : decode cX8_lay 22 = .ok (.iconst 1, 1) := by decide +kernel
theorem dX8_lay_23 : decode cX8_lay 23 = .ok (.isub, 1) := by decide +kernel
theorem dX8_lay_24 : decode cX8_lay 24 = .ok (.istore_n 3, 1) := by decide +kernel
theorem dX8_lay_25 : decode cX8_lay 25 = .ok (.iload_n 3, 1) := by decide +kernel
theorem dX8_lay_26 : decode cX8_lay 26 = .ok (.ifCond .lt 22, 3) := by decide +kernel
theorem dX8_lay_29 : decode cX8_lay 29 = .ok (.aload_n 0, 1) := by decide +kernel
theorem dX8_lay_30 : decode cX8_lay 30 = .ok (.getfield 7, 3) := by decide +kernel
theorem dX8_lay_33 : decode cX8_lay 33 = .ok (.iload_n 3, 1) := by decide +kernel
theorem dX8_lay_34 : decode cX8_lay 34 = .ok (.iload_n 2, 1) := by decide +kernel
theorem dX8_lay_35 : decode cX8_lay 35 = .ok (.iconst 3, 1) := by decide +kernel
theorem dX8_lay_36 : decode cX8_lay 36 = .ok (.irem, 1) := by decide +kernel
theorem dX8_lay_37 : decode cX8_lay 37 = .ok (.iastore, 1) := by decide +kernel
theorem dX8_lay_38 : decode cX8_lay 38 = .ok (.iload_n 2, 1) := by decide +kernel
theorem dX8_lay_39 : decode cX8_lay 39 = .ok (.iconst 3, 1) := by decide +kernel
theorem dX8_lay_40 : decode cX8_lay 40 = .ok (.idiv, 1) := by decide +kernel
theorem dX8_lay_41 : decode cX8_lay 41 = .ok (.istore_n 2, 1) := by decide +kernel
theorem dX8_lay_42 : decode cX8_lay 42 = .ok (.iinc 3 (-1), 3) := by decide +kernel
theorem dX8_lay_45 : decode cX8_lay 45 = .ok (.goto (-20), 3) := by decide +kernel
theorem dX8_lay_48 : decode cX8_lay 48 = .ok (.return_, 1) := by decide +kernel
theorem dX8_signAt_0 : decode cX8_signAt 0 = .ok (.iload_n 1, 1) := by decide +kernel
theorem dX8_signAt_1 : decode cX8_signAt 1 = .ok (.ifCond .ge 6, 3) := by decide +kernel
theorem dX8_signAt_4 : decode cX8_signAt 4 = .ok (.bipush (-6), 2) := by decide +kernel
theorem dX8_signAt_6 : decode cX8_signAt 6 = .ok (.ireturn, 1) := by decide +kernel
theorem dX8_signAt_7 : decode cX8_signAt 7 = .ok (.aload_n 0, 1) := by decide +kernel
theorem dX8_signAt_8 : decode cX8_signAt 8 = .ok (.iload_n 1, 1) := by decide +kernel
theorem dX8_signAt_9 : decode cX8_signAt 9 = .ok (.invokevirtual 86, 3) := by decide +kernel
theorem dX8_signAt_12 : decode cX8_signAt 12 = .ok (.iload_n 2, 1) := by decide +kernel
theorem dX8_signAt_13 : decode cX8_signAt 13 = .ok (.iconst (-1), 1) := by decide +kernel
theorem dX8_signAt_14 : decode cX8_signAt 14 = .ok (.if_icmp .ne 10, 3) := by decide +kernel
theorem dX8_signAt_17 : decode cX8_signAt 17 = .ok (.aload_n 0, 1) := by decide +kernel
theorem dX8_signAt_18 : decode cX8_signAt 18 = .ok (.getfield 83, 3) := by decide +kernel
theorem dX8_signAt_21 : decode cX8_signAt 21 = .ok (.goto 33, 3) := by decide +kernel
theorem dX8_signAt_24 : decode cX8_signAt 24 = .ok (.iload_n 2, 1) := by decide +kernel
theorem dX8_signAt_25 : decode cX8_signAt 25 = .ok (.i2l, 1) := by decide +kernel
theorem dX8_signAt_26 : decode cX8_signAt 26 = .ok (.lconst 0, 1) := by decide +kernel
theorem dX8_signAt_27 : decode cX8_signAt 27 = .ok (.aload_n 0, 1) := by decide +kernel
theorem dX8_signAt_28 : decode cX8_signAt 28 = .ok (.getfield 83, 3) := by decide +kernel
theorem dX8_signAt_31 : decode cX8_signAt 31 = .ok (.iconst 1, 1) := by decide +kernel
theorem dX8_signAt_32 : decode cX8_signAt 32 = .ok (.isub, 1) := by decide +kernel
theorem dX8_signAt_33 : decode cX8_signAt 33 = .ok (.i2l, 1) := by decide +kernel
theorem dX8_signAt_34 : decode cX8_signAt 34 = .ok (.invokestatic 72, 3) := by decide +kernel
theorem dX8_signAt_37 : decode cX8_signAt 37 = .ok (.ifCond .eq 15, 3) := by decide +kernel
theorem dX8_signAt_40 : decode cX8_signAt 40 = .ok (.bipush 97, 2) := by decide +kernel
theorem dX8_signAt_42 : decode cX8_signAt 42 = .ok (.aload_n 0, 1) := by decide +kernel
theorem dX8_signAt_43 : decode cX8_signAt 43 = .ok (.getfield 7, 3) := by decide +kernel
theorem dX8_signAt_46 : decode cX8_signAt 46 = .ok (.iload_n 2, 1) := by decide +kernel
theorem dX8_signAt_47 : decode cX8_signAt 47 = .ok (.iaload, 1) := by decide +kernel
theorem dX8_signAt_48 : decode cX8_signAt 48 = .ok (.iadd, 1) := by decide +kernel
theorem dX8_signAt_49 : decode cX8_signAt 49 = .ok (.goto 5, 3) := by decide +kernel
theorem dX8_signAt_52 : decode cX8_signAt 52 = .ok (.bipush (-6), 2) := by decide +kernel
theorem dX8_signAt_54 : decode cX8_signAt 54 = .ok (.ireturn, 1) := by decide +kernel
theorem dX8_numberWith_0 : decode cX8_numberWith 0 = .ok (.iload_n 1, 1) := by decide +kernel
theorem dX8_numberWith_1 : decode cX8_numberWith 1 = .ok (.iconst 1, 1) := by decide +kernel
theorem dX8_numberWith_2 : decode cX8_numberWith 2 = .ok (.if_icmp .ne 12, 3) := by decide +kernel
theorem dX8_numberWith_5 : decode cX8_numberWith 5 = .ok (.aload_n 0, 1) := by decide +kernel
theorem dX8_numberWith_6 : decode cX8_numberWith 6 = .ok (.getfield 83, 3) := by decide +kernel
theorem dX8_numberWith_9 : decode cX8_numberWith 9 = .ok (.iconst 1, 1) := by decide +kernel
theorem dX8_numberWith_10 : decode cX8_numberWith 10 = .ok (.isub, 1) := by decide +kernel
theorem dX8_numberWith_11 : decode cX8_numberWith 11 = .ok (.goto 21, 3) := by decide +kernel
theorem dX8_numberWith_14 : decode cX8_numberWith 14 = .ok (.iload_n 1, 1) := by decide +kernel
theorem dX8_numberWith_15 : decode cX8_numberWith 15 = .ok (.iconst 3, 1) := by decide +kernel
theorem dX8_numberWith_16 : decode cX8_numberWith 16 = .ok (.if_icmp .ne 12, 3) := by decide +kernel
theorem dX8_numberWith_19 : decode cX8_numberWith 19 = .ok (.aload_n 0, 1) := by decide +kernel
theorem dX8_numberWith_20 : decode cX8_numberWith 20 = .ok (.getfield 83, 3) := by decide +kernel
theorem dX8_numberWith_23 : decode cX8_numberWith 23 = .ok (.iconst 1, 1) := by decide +kernel
theorem dX8_numberWith_24 : decode cX8_numberWith 24 = .ok (.iadd, 1) := by decide +kernel
theorem dX8_numberWith_25 : decode cX8_numberWith 25 = .ok (.goto 7, 3) := by decide +kernel
theorem dX8_numberWith_28 : decode cX8_numberWith 28 = .ok (.aload_n 0, 1) := by decide +kernel
theorem dX8_numberWith_29 : decode cX8_numberWith 29 = .ok (.getfield 83, 3) := by decide +kernel
theorem dX8_numberWith_32 : decode cX8_numberWith 32 = .ok (.istore 4, 2) := by decide +kernel
theorem dX8_numberWith_34 : decode cX8_numberWith 34 = .ok (.iconst 0, 1) := by decide +kernel
theorem dX8_numberWith_35 : decode cX8_numberWith 35 = .ok (.istore 5, 2) := by decide +kernel
theorem dX8_numberWith_37 : decode cX8_numberWith 37 = .ok (.iconst 0, 1) := by decide +kernel
theorem dX8_numberWith_38 : decode cX8_numberWith 38 = .ok (.istore 6, 2) := by decide +kernel
theorem dX8_numberWith_40 : decode cX8_numberWith 40 = .ok (.iload 6, 2) := by decide +kernel
theorem dX8_numberWith_42 : decode cX8_numberWith 42 = .ok (.iload 4, 2) := by decide +kernel
theorem dX8_numberWith_44 : decode cX8_numberWith 44 = .ok (.if_icmp .ge 103, 3) := by decide +kernel
theorem dX8_numberWith_47 : decode cX8_numberWith 47 = .ok (.iload_n 1, 1) := by decide +kernel
theorem dX8_numberWith_48 : decode cX8_numberWith 48 = .ok (.iconst 1, 1) := by decide +kernel
theorem dX8_numberWith_49 : decode cX8_numberWith 49 = .ok (.if_icmp .ne 26, 3) := by decide +kernel
theorem dX8_numberWith_52 : decode cX8_numberWith 52 = .ok (.aload_n 0, 1) := by decide +kernel
theorem dX8_numberWith_53 : decode cX8_numberWith 53 = .ok (.getfield 7, 3) := by decide +kernel
theorem dX8_numberWith_56 : decode cX8_numberWith 56 = .ok (.iload 6, 2) := by decide +kernel
theorem dX8_numberWith_58 : decode cX8_numberWith 58 = .ok (.iload_n 2, 1) := by decide +kernel
theorem dX8_numberWith_59 : decode cX8_numberWith 59 = .ok (.if_icmp .ge 8, 3) := by decide +kernel
theorem dX8_numberWith_62 : decode cX8_numberWith 62 = .ok (.iload 6, 2) := by decide +kernel
theorem dX8_numberWith_64 : decode cX8_numberWith 64 = .ok (.goto 7, 3) := by decide +kernel
theorem dX8_numberWith_67 : decode cX8_numberWith 67 = .ok (.iload 6, 2) := by decide +kernel
theorem dX8_numberWith_69 : decode cX8_numberWith 69 = .ok (.iconst 1, 1) := by decide +kernel
theorem dX8_numberWith_70 : decode cX8_numberWith 70 = .ok (.iadd, 1) := by decide +kernel
theorem dX8_numberWith_71 : decode cX8_numberWith 71 = .ok (.iaload, 1) := by decide +kernel
theorem dX8_numberWith_72 : decode cX8_numberWith 72 = .ok (.goto 58, 3) := by decide +kernel
theorem dX8_numberWith_75 : decode cX8_numberWith 75 = .ok (.iload_n 1, 1) := by decide +kernel
theorem dX8_numberWith_76 : decode cX8_numberWith 76 = .ok (.iconst 2, 1) := by decide +kernel
theorem dX8_numberWith_77 : decode cX8_numberWith 77 = .ok (.if_icmp .ne 23, 3) := by decide +kernel
theorem dX8_numberWith_80 : decode cX8_numberWith 80 = .ok (.iload 6, 2) := by decide +kernel
theorem dX8_numberWith_82 : decode cX8_numberWith 82 = .ok (.iload_n 2, 1) := by decide +kernel
theorem dX8_numberWith_83 : decode cX8_numberWith 83 = .ok (.if_icmp .ne 7, 3) := by decide +kernel
theorem dX8_numberWith_86 : decode cX8_numberWith 86 = .ok (.iload_n 3, 1) := by decide +kernel
theorem dX8_numberWith_87 : decode cX8_numberWith 87 = .ok (.goto 43, 3) := by decide +kernel
theorem dX8_numberWith_90 : decode cX8_numberWith 90 = .ok (.aload_n 0, 1) := by decide +kernel
theorem dX8_numberWith_91 : decode cX8_numberWith 91 = .ok (.getfield 7, 3) := by decide +kernel
theorem dX8_numberWith_94 : decode cX8_numberWith 94 = .ok (.iload 6, 2) := by decide +kernel
theorem dX8_numberWith_96 : decode cX8_numberWith 96 = .ok (.iaload, 1) := by decide +kernel
theorem dX8_numberWith_97 : decode cX8_numberWith 97 = .ok (.goto 33, 3) := by decide +kernel
theorem dX8_numberWith_100 : decode cX8_numberWith 100 = .ok (.iload 6, 2) := by decide +kernel
theorem dX8_numberWith_102 : decode cX8_numberWith 102 = .ok (.iload_n 2, 1) := by decide +kernel
theorem dX8_numberWith_103 : decode cX8_numberWith 103 = .ok (.if_icmp .ne 7, 3) := by decide +kernel
theorem dX8_numberWith_106 : decode cX8_numberWith 106 = .ok (.iload_n 3, 1) := by decide +kernel
theorem dX8_numberWith_107 : decode cX8_numberWith 107 = .ok (.goto 23, 3) := by decide +kernel
theorem dX8_numberWith_110 : decode cX8_numberWith 110 = .ok (.aload_n 0, 1) := by decide +kernel
theorem dX8_numberWith_111 : decode cX8_numberWith 111 = .ok (.getfield 7, 3) := by decide +kernel
theorem dX8_numberWith_114 : decode cX8_numberWith 114 = .ok (.iload 6, 2) := by decide +kernel
theorem dX8_numberWith_116 : decode cX8_numberWith 116 = .ok (.iload_n 2, 1) := by decide +kernel
theorem dX8_numberWith_117 : decode cX8_numberWith 117 = .ok (.if_icmp .ge 8, 3) := by decide +kernel
theorem dX8_numberWith_120 : decode cX8_numberWith 120 = .ok (.iload 6, 2) := by decide +kernel
theorem dX8_numberWith_122 : decode cX8_numberWith 122 = .ok (.goto 7, 3) := by decide +kernel
theorem dX8_numberWith_125 : decode cX8_numberWith 125 = .ok (.iload 6, 2) := by decide +kernel
theorem dX8_numberWith_127 : decode cX8_numberWith 127 = .ok (.iconst 1, 1) := by decide +kernel
theorem dX8_numberWith_128 : decode cX8_numberWith 128 = .ok (.isub, 1) := by decide +kernel
theorem dX8_numberWith_129 : decode cX8_numberWith 129 = .ok (.iaload, 1) := by decide +kernel
theorem dX8_numberWith_130 : decode cX8_numberWith 130 = .ok (.istore 7, 2) := by decide +kernel
theorem dX8_numberWith_132 : decode cX8_numberWith 132 = .ok (.iconst 3, 1) := by decide +kernel
theorem dX8_numberWith_133 : decode cX8_numberWith 133 = .ok (.iload 5, 2) := by decide +kernel
theorem dX8_numberWith_135 : decode cX8_numberWith 135 = .ok (.imul, 1) := by decide +kernel
theorem dX8_numberWith_136 : decode cX8_numberWith 136 = .ok (.iload 7, 2) := by decide +kernel
theorem dX8_numberWith_138 : decode cX8_numberWith 138 = .ok (.iadd, 1) := by decide +kernel
theorem dX8_numberWith_139 : decode cX8_numberWith 139 = .ok (.istore 5, 2) := by decide +kernel
theorem dX8_numberWith_141 : decode cX8_numberWith 141 = .ok (.iinc 6 1, 3) := by decide +kernel
theorem dX8_numberWith_144 : decode cX8_numberWith 144 = .ok (.goto (-104), 3) := by decide +kernel
theorem dX8_numberWith_147 : decode cX8_numberWith 147 = .ok (.iload 4, 2) := by decide +kernel
theorem dX8_numberWith_149 : decode cX8_numberWith 149 = .ok (.invokestatic 76, 3) := by decide +kernel
theorem dX8_numberWith_152 : decode cX8_numberWith 152 = .ok (.iload 5, 2) := by decide +kernel
theorem dX8_numberWith_154 : decode cX8_numberWith 154 = .ok (.iadd, 1) := by decide +kernel
theorem dX8_numberWith_155 : decode cX8_numberWith 155 = .ok (.ireturn, 1) := by decide +kernel
theorem dX8_addSlip_0 : decode cX8_addSlip 0 = .ok (.iload_n 2, 1) := by decide +kernel
theorem dX8_addSlip_1 : decode cX8_addSlip 1 = .ok (.iload_n 1, 1) := by decide +kernel
theorem dX8_addSlip_2 : decode cX8_addSlip 2 = .ok (.if_icmp .eq 7, 3) := by decide +kernel
theorem dX8_addSlip_5 : decode cX8_addSlip 5 = .ok (.iconst 1, 1) := by decide +kernel
theorem dX8_addSlip_6 : decode cX8_addSlip 6 = .ok (.goto 4, 3) := by decide +kernel
theorem dX8_addSlip_9 : decode cX8_addSlip 9 = .ok (.iconst 0, 1) := by decide +kernel
theorem dX8_addSlip_10 : decode cX8_addSlip 10 = .ok (.istore_n 3, 1) := by decide +kernel
theorem dX8_addSlip_11 : decode cX8_addSlip 11 = .ok (.iconst 0, 1) := by decide +kernel
theorem dX8_addSlip_12 : decode cX8_addSlip 12 = .ok (.istore 4, 2) := by decide +kernel
theorem dX8_addSlip_14 : decode cX8_addSlip 14 = .ok (.iload 4, 2) := by decide +kernel
theorem dX8_addSlip_16 : decode cX8_addSlip 16 = .ok (.aload_n 0, 1) := by decide +kernel
theorem dX8_addSlip_17 : decode cX8_addSlip 17 = .ok (.getfield 90, 3) := by decide +kernel
theorem dX8_addSlip_20 : decode cX8_addSlip 20 = .ok (.if_icmp .ge 30, 3) := by decide +kernel
theorem dX8_addSlip_23 : decode cX8_addSlip 23 = .ok (.iload_n 3, 1) := by decide +kernel
theorem dX8_addSlip_24 : decode cX8_addSlip 24 = .ok (.ifCond .eq 18, 3) := by decide +kernel
theorem dX8_addSlip_27 : decode cX8_addSlip 27 = .ok (.aload_n 0, 1) := by decide +kernel
theorem dX8_addSlip_28 : decode cX8_addSlip 28 = .ok (.getfield 13, 3) := by decide +kernel
theorem dX8_addSlip_31 : decode cX8_addSlip 31 = .ok (.iload 4, 2) := by decide +kernel
theorem dX8_addSlip_33 : decode cX8_addSlip 33 = .ok (.iaload, 1) := by decide +kernel
theorem dX8_addSlip_34 : decode cX8_addSlip 34 = .ok (.iload_n 2, 1) := by decide +kernel
theorem dX8_addSlip_35 : decode cX8_addSlip 35 = .ok (.if_icmp .eq 7, 3) := by decide +kernel
theorem dX8_addSlip_38 : decode cX8_addSlip 38 = .ok (.iconst 1, 1) := by decide +kernel
theorem dX8_addSlip_39 : decode cX8_addSlip 39 = .ok (.goto 4, 3) := by decide +kernel
theorem dX8_addSlip_42 : decode cX8_addSlip 42 = .ok (.iconst 0, 1) := by decide +kernel
theorem dX8_addSlip_43 : decode cX8_addSlip 43 = .ok (.istore_n 3, 1) := by decide +kernel
theorem dX8_addSlip_44 : decode cX8_addSlip 44 = .ok (.iinc 4 1, 3) := by decide +kernel
theorem dX8_addSlip_47 : decode cX8_addSlip 47 = .ok (.goto (-33), 3) := by decide +kernel
theorem dX8_addSlip_50 : decode cX8_addSlip 50 = .ok (.iload_n 3, 1) := by decide +kernel
theorem dX8_addSlip_51 : decode cX8_addSlip 51 = .ok (.ifCond .eq 23, 3) := by decide +kernel
theorem dX8_addSlip_54 : decode cX8_addSlip 54 = .ok (.aload_n 0, 1) := by decide +kernel
theorem dX8_addSlip_55 : decode cX8_addSlip 55 = .ok (.getfield 13, 3) := by decide +kernel
theorem dX8_addSlip_58 : decode cX8_addSlip 58 = .ok (.aload_n 0, 1) := by decide +kernel
theorem dX8_addSlip_59 : decode cX8_addSlip 59 = .ok (.getfield 90, 3) := by decide +kernel
theorem dX8_addSlip_62 : decode cX8_addSlip 62 = .ok (.iload_n 2, 1) := by decide +kernel
theorem dX8_addSlip_63 : decode cX8_addSlip 63 = .ok (.iastore, 1) := by decide +kernel
theorem dX8_addSlip_64 : decode cX8_addSlip 64 = .ok (.aload_n 0, 1) := by decide +kernel
theorem dX8_addSlip_65 : decode cX8_addSlip 65 = .ok (.dup, 1) := by decide +kernel
theorem dX8_addSlip_66 : decode cX8_addSlip 66 = .ok (.getfield 90, 3) := by decide +kernel
theorem dX8_addSlip_69 : decode cX8_addSlip 69 = .ok (.iconst 1, 1) := by decide +kernel
theorem dX8_addSlip_70 : decode cX8_addSlip 70 = .ok (.iadd, 1) := by decide +kernel
theorem dX8_addSlip_71 : decode cX8_addSlip 71 = .ok (.putfield 90, 3) := by decide +kernel
theorem dX8_addSlip_74 : decode cX8_addSlip 74 = .ok (.return_, 1) := by decide +kernel
theorem dX8_findSlips_0 : decode cX8_findSlips 0 = .ok (.aload_n 0, 1) := by decide +kernel
theorem dX8_findSlips_1 : decode cX8_findSlips 1 = .ok (.iconst 0, 1) := by decide +kernel
theorem dX8_findSlips_2 : decode cX8_findSlips 2 = .ok (.putfield 90, 3) := by decide +kernel
theorem dX8_findSlips_5 : decode cX8_findSlips 5 = .ok (.iload_n 1, 1) := by decide +kernel
theorem dX8_findSlips_6 : decode cX8_findSlips 6 = .ok (.i2l, 1) := by decide +kernel
theorem dX8_findSlips_7 : decode cX8_findSlips 7 = .ok (.lconst 1, 1) := by decide +kernel
theorem dX8_findSlips_8 : decode cX8_findSlips 8 = .ok (.ldc2_w 93, 3) := by decide +kernel
theorem dX8_findSlips_11 : decode cX8_findSlips 11 = .ok (.invokestatic 72, 3) := by decide +kernel
theorem dX8_findSlips_14 : decode cX8_findSlips 14 = .ok (.ifCond .ne 4, 3) := by decide +kernel
theorem dX8_findSlips_17 : decode cX8_findSlips 17 = .ok (.return_, 1) := by decide +kernel
theorem dX8_findSlips_18 : decode cX8_findSlips 18 = .ok (.aload_n 0, 1) := by decide +kernel
theorem dX8_findSlips_19 : decode cX8_findSlips 19 = .ok (.iload_n 2, 1) := by decide +kernel
theorem dX8_findSlips_20 : decode cX8_findSlips 20 = .ok (.invokevirtual 86, 3) := by decide +kernel
theorem dX8_findSlips_23 : decode cX8_findSlips 23 = .ok (.iload_n 1, 1) := by decide +kernel
theorem dX8_findSlips_24 : decode cX8_findSlips 24 = .ok (.iconst 3, 1) := by decide +kernel
theorem dX8_findSlips_25 : decode cX8_findSlips 25 = .ok (.if_icmp .ne 12, 3) := by decide +kernel
theorem dX8_findSlips_28 : decode cX8_findSlips 28 = .ok (.aload_n 0, 1) := by decide +kernel
theorem dX8_findSlips_29 : decode cX8_findSlips 29 = .ok (.getfield 83, 3) := by decide +kernel
theorem dX8_findSlips_32 : decode cX8_findSlips 32 = .ok (.iconst 5, 1) := by decide +kernel
theorem dX8_findSlips_33 : decode cX8_findSlips 33 = .ok (.if_icmp .ne 4, 3) := by decide +kernel
theorem dX8_findSlips_36 : decode cX8_findSlips 36 = .ok (.return_, 1) := by decide +kernel
theorem dX8_findSlips_37 : decode cX8_findSlips 37 = .ok (.iload_n 1, 1) := by decide +kernel
theorem dX8_findSlips_38 : decode cX8_findSlips 38 = .ok (.iconst 3, 1) := by decide +kernel
theorem dX8_findSlips_39 : decode cX8_findSlips 39 = .ok (.if_icmp .ne 12, 3) := by decide +kernel
theorem dX8_findSlips_42 : decode cX8_findSlips 42 = .ok (.aload_n 0, 1) := by decide +kernel
theorem dX8_findSlips_43 : decode cX8_findSlips 43 = .ok (.getfield 83, 3) := by decide +kernel
theorem dX8_findSlips_46 : decode cX8_findSlips 46 = .ok (.iconst 1, 1) := by decide +kernel
theorem dX8_findSlips_47 : decode cX8_findSlips 47 = .ok (.iadd, 1) := by decide +kernel
theorem dX8_findSlips_48 : decode cX8_findSlips 48 = .ok (.goto 7, 3) := by decide +kernel
theorem dX8_findSlips_51 : decode cX8_findSlips 51 = .ok (.aload_n 0, 1) := by decide +kernel
theorem dX8_findSlips_52 : decode cX8_findSlips 52 = .ok (.getfield 83, 3) := by decide +kernel
theorem dX8_findSlips_55 : decode cX8_findSlips 55 = .ok (.istore_n 3, 1) := by decide +kernel
theorem dX8_findSlips_56 : decode cX8_findSlips 56 = .ok (.iconst 0, 1) := by decide +kernel
theorem dX8_findSlips_57 : decode cX8_findSlips 57 = .ok (.istore 4, 2) := by decide +kernel
theorem dX8_findSlips_59 : decode cX8_findSlips 59 = .ok (.iload 4, 2) := by decide +kernel
theorem dX8_findSlips_61 : decode cX8_findSlips 61 = .ok (.iload_n 3, 1) := by decide +kernel
theorem dX8_findSlips_62 : decode cX8_findSlips 62 = .ok (.if_icmp .ge 47, 3) := by decide +kernel
theorem dX8_findSlips_65 : decode cX8_findSlips 65 = .ok (.iconst 0, 1) := by decide +kernel
theorem dX8_findSlips_66 : decode cX8_findSlips 66 = .ok (.istore 5, 2) := by decide +kernel
theorem dX8_findSlips_68 : decode cX8_findSlips 68 = .ok (.iload 5, 2) := by decide +kernel
theorem dX8_findSlips_70 : decode cX8_findSlips 70 = .ok (.iload_n 1, 1) := by decide +kernel
theorem dX8_findSlips_71 : decode cX8_findSlips 71 = .ok (.iconst 1, 1) := by decide +kernel
theorem dX8_findSlips_72 : decode cX8_findSlips 72 = .ok (.if_icmp .ne 7, 3) := by decide +kernel
theorem dX8_findSlips_75 : decode cX8_findSlips 75 = .ok (.iconst 1, 1) := by decide +kernel
theorem dX8_findSlips_76 : decode cX8_findSlips 76 = .ok (.goto 4, 3) := by decide +kernel
theorem dX8_findSlips_79 : decode cX8_findSlips 79 = .ok (.iconst 3, 1) := by decide +kernel
theorem dX8_findSlips_80 : decode cX8_findSlips 80 = .ok (.if_icmp .ge 23, 3) := by decide +kernel
theorem dX8_findSlips_83 : decode cX8_findSlips 83 = .ok (.aload_n 0, 1) := by decide +kernel
theorem dX8_findSlips_84 : decode cX8_findSlips 84 = .ok (.iload_n 2, 1) := by decide +kernel
theorem dX8_findSlips_85 : decode cX8_findSlips 85 = .ok (.aload_n 0, 1) := by decide +kernel
theorem dX8_findSlips_86 : decode cX8_findSlips 86 = .ok (.iload_n 1, 1) := by decide +kernel
theorem dX8_findSlips_87 : decode cX8_findSlips 87 = .ok (.iload 4, 2) := by decide +kernel
theorem dX8_findSlips_89 : decode cX8_findSlips 89 = .ok (.iload 5, 2) := by decide +kernel
theorem dX8_findSlips_91 : decode cX8_findSlips 91 = .ok (.invokevirtual 95, 3) := by decide +kernel
theorem dX8_findSlips_94 : decode cX8_findSlips 94 = .ok (.invokevirtual 99, 3) := by decide +kernel
theorem dX8_findSlips_97 : decode cX8_findSlips 97 = .ok (.iinc 5 1, 3) := by decide +kernel
theorem dX8_findSlips_100 : decode cX8_findSlips 100 = .ok (.goto (-32), 3) := by decide +kernel
theorem dX8_findSlips_103 : decode cX8_findSlips 103 = .ok (.iinc 4 1, 3) := by decide +kernel
theorem dX8_findSlips_106 : decode cX8_findSlips 106 = .ok (.goto (-47), 3) := by decide +kernel
theorem dX8_findSlips_109 : decode cX8_findSlips 109 = .ok (.return_, 1) := by decide +kernel
theorem dX8_sort_0 : decode cX8_sort 0 = .ok (.iload_n 1, 1) := by decide +kernel
theorem dX8_sort_1 : decode cX8_sort 1 = .ok (.invokestatic 103, 3) := by decide +kernel
theorem dX8_sort_4 : decode cX8_sort 4 = .ok (.ifCond .ne 5, 3) := by decide +kernel
theorem dX8_sort_7 : decode cX8_sort 7 = .ok (.iconst (-1), 1) := by decide +kernel
theorem dX8_sort_8 : decode cX8_sort 8 = .ok (.ireturn, 1) := by decide +kernel
theorem dX8_sort_9 : decode cX8_sort 9 = .ok (.iload_n 2, 1) := by decide +kernel
theorem dX8_sort_10 : decode cX8_sort 10 = .ok (.i2l, 1) := by decide +kernel
theorem dX8_sort_11 : decode cX8_sort 11 = .ok (.lconst 0, 1) := by decide +kernel
theorem dX8_sort_12 : decode cX8_sort 12 = .ok (.ldc2_w 107, 3) := by decide +kernel
theorem dX8_sort_15 : decode cX8_sort 15 = .ok (.invokestatic 72, 3) := by decide +kernel
theorem dX8_sort_18 : decode cX8_sort 18 = .ok (.ifCond .ne 6, 3) := by decide +kernel
theorem dX8_sort_21 : decode cX8_sort 21 = .ok (.bipush (-2), 2) := by decide +kernel
theorem dX8_sort_23 : decode cX8_sort 23 = .ok (.ireturn, 1) := by decide +kernel
theorem dX8_sort_24 : decode cX8_sort 24 = .ok (.aload_n 0, 1) := by decide +kernel
theorem dX8_sort_25 : decode cX8_sort 25 = .ok (.getfield 16, 3) := by decide +kernel
theorem dX8_sort_28 : decode cX8_sort 28 = .ok (.iload_n 1, 1) := by decide +kernel
theorem dX8_sort_29 : decode cX8_sort 29 = .ok (.iaload, 1) := by decide +kernel
theorem dX8_sort_30 : decode cX8_sort 30 = .ok (.istore_n 3, 1) := by decide +kernel
theorem dX8_sort_31 : decode cX8_sort 31 = .ok (.aload_n 0, 1) := by decide +kernel
theorem dX8_sort_32 : decode cX8_sort 32 = .ok (.getfield 16, 3) := by decide +kernel
theorem dX8_sort_35 : decode cX8_sort 35 = .ok (.iload_n 1, 1) := by decide +kernel
theorem dX8_sort_36 : decode cX8_sort 36 = .ok (.iload_n 2, 1) := by decide +kernel
theorem dX8_sort_37 : decode cX8_sort 37 = .ok (.iastore, 1) := by decide +kernel
theorem dX8_sort_38 : decode cX8_sort 38 = .ok (.iload_n 3, 1) := by decide +kernel
theorem dX8_sort_39 : decode cX8_sort 39 = .ok (.ireturn, 1) := by decide +kernel
theorem dX8_say_0 : decode cX8_say 0 = .ok (.iload_n 1, 1) := by decide +kernel
theorem dX8_say_1 : decode cX8_say 1 = .ok (.i2l, 1) := by decide +kernel
theorem dX8_say_2 : decode cX8_say 2 = .ok (.ldc2_w 109, 3) := by decide +kernel
theorem dX8_say_5 : decode cX8_say 5 = .ok (.ldc2_w 111, 3) := by decide +kernel
theorem dX8_say_8 : decode cX8_say 8 = .ok (.invokestatic 72, 3) := by decide +kernel
theorem dX8_say_11 : decode cX8_say 11 = .ok (.ifCond .ne 6, 3) := by decide +kernel
theorem dX8_say_14 : decode cX8_say 14 = .ok (.bipush (-2), 2) := by decide +kernel
theorem dX8_say_16 : decode cX8_say 16 = .ok (.ireturn, 1) := by decide +kernel
theorem dX8_say_17 : decode cX8_say 17 = .ok (.aload_n 0, 1) := by decide +kernel
theorem dX8_say_18 : decode cX8_say 18 = .ok (.getfield 113, 3) := by decide +kernel
theorem dX8_say_21 : decode cX8_say 21 = .ok (.bipush 48, 2) := by decide +kernel
theorem dX8_say_23 : decode cX8_say 23 = .ok (.if_icmp .ne 6, 3) := by decide +kernel
theorem dX8_say_26 : decode cX8_say 26 = .ok (.bipush (-4), 2) := by decide +kernel
theorem dX8_say_28 : decode cX8_say 28 = .ok (.ireturn, 1) := by decide +kernel
theorem dX8_say_29 : decode cX8_say 29 = .ok (.aload_n 0, 1) := by decide +kernel
theorem dX8_say_30 : decode cX8_say 30 = .ok (.getfield 31, 3) := by decide +kernel
theorem dX8_say_33 : decode cX8_say 33 = .ok (.aload_n 0, 1) := by decide +kernel
theorem dX8_say_34 : decode cX8_say 34 = .ok (.getfield 113, 3) := by decide +kernel
theorem dX8_say_37 : decode cX8_say 37 = .ok (.iload_n 1, 1) := by decide +kernel
theorem dX8_say_38 : decode cX8_say 38 = .ok (.iastore, 1) := by decide +kernel
theorem dX8_say_39 : decode cX8_say 39 = .ok (.aload_n 0, 1) := by decide +kernel
theorem dX8_say_40 : decode cX8_say 40 = .ok (.dup, 1) := by decide +kernel
theorem dX8_say_41 : decode cX8_say 41 = .ok (.getfield 113, 3) := by decide +kernel
theorem dX8_say_44 : decode cX8_say 44 = .ok (.iconst 1, 1) := by decide +kernel
theorem dX8_say_45 : decode cX8_say 45 = .ok (.iadd, 1) := by decide +kernel
theorem dX8_say_46 : decode cX8_say 46 = .ok (.putfield 113, 3) := by decide +kernel
theorem dX8_say_49 : decode cX8_say 49 = .ok (.aload_n 0, 1) := by decide +kernel
theorem dX8_say_50 : decode cX8_say 50 = .ok (.getfield 113, 3) := by decide +kernel
theorem dX8_say_53 : decode cX8_say 53 = .ok (.ireturn, 1) := by decide +kernel
theorem dX8_wipe_0 : decode cX8_wipe 0 = .ok (.aload_n 0, 1) := by decide +kernel
theorem dX8_wipe_1 : decode cX8_wipe 1 = .ok (.getfield 113, 3) := by decide +kernel
theorem dX8_wipe_4 : decode cX8_wipe 4 = .ok (.istore_n 1, 1) := by decide +kernel
theorem dX8_wipe_5 : decode cX8_wipe 5 = .ok (.aload_n 0, 1) := by decide +kernel
theorem dX8_wipe_6 : decode cX8_wipe 6 = .ok (.iconst 0, 1) := by decide +kernel
theorem dX8_wipe_7 : decode cX8_wipe 7 = .ok (.putfield 113, 3) := by decide +kernel
theorem dX8_wipe_10 : decode cX8_wipe 10 = .ok (.iload_n 1, 1) := by decide +kernel
theorem dX8_wipe_11 : decode cX8_wipe 11 = .ok (.ireturn, 1) := by decide +kernel
theorem dX8_isLetter_0 : decode cX8_isLetter 0 = .ok (.iload_n 0, 1) := by decide +kernel
theorem dX8_isLetter_1 : decode cX8_isLetter 1 = .ok (.i2l, 1) := by decide +kernel
theorem dX8_isLetter_2 : decode cX8_isLetter 2 = .ok (.ldc2_w 116, 3) := by decide +kernel
theorem dX8_isLetter_5 : decode cX8_isLetter 5 = .ok (.ldc2_w 118, 3) := by decide +kernel
theorem dX8_isLetter_8 : decode cX8_isLetter 8 = .ok (.invokestatic 72, 3) := by decide +kernel
theorem dX8_isLetter_11 : decode cX8_isLetter 11 = .ok (.ireturn, 1) := by decide +kernel
theorem dX8_faultOfDays_0 : decode cX8_faultOfDays 0 = .ok (.iconst 0, 1) := by decide +kernel
theorem dX8_faultOfDays_1 : decode cX8_faultOfDays 1 = .ok (.istore_n 1, 1) := by decide +kernel
theorem dX8_faultOfDays_2 : decode cX8_faultOfDays 2 = .ok (.iconst 0, 1) := by decide +kernel
theorem dX8_faultOfDays_3 : decode cX8_faultOfDays 3 = .ok (.istore_n 2, 1) := by decide +kernel
theorem dX8_faultOfDays_4 : decode cX8_faultOfDays 4 = .ok (.iconst 0, 1) := by decide +kernel
theorem dX8_faultOfDays_5 : decode cX8_faultOfDays 5 = .ok (.istore_n 3, 1) := by decide +kernel
theorem dX8_faultOfDays_6 : decode cX8_faultOfDays 6 = .ok (.iload_n 3, 1) := by decide +kernel
theorem dX8_faultOfDays_7 : decode cX8_faultOfDays 7 = .ok (.aload_n 0, 1) := by decide +kernel
theorem dX8_faultOfDays_8 : decode cX8_faultOfDays 8 = .ok (.getfield 113, 3) := by decide +kernel
theorem dX8_faultOfDays_11 : decode cX8_faultOfDays 11 = .ok (.if_icmp .ge 144, 3) := by decide +kernel
theorem dX8_faultOfDays_14 : decode cX8_faultOfDays 14 = .ok (.aload_n 0, 1) := by decide +kernel
theorem dX8_faultOfDays_15 : decode cX8_faultOfDays 15 = .ok (.getfield 31, 3) := by decide +kernel
theorem dX8_faultOfDays_18 : decode cX8_faultOfDays 18 = .ok (.iload_n 3, 1) := by decide +kernel
theorem dX8_faultOfDays_19 : decode cX8_faultOfDays 19 = .ok (.iaload, 1) := by decide +kernel
theorem dX8_faultOfDays_20 : decode cX8_faultOfDays 20 = .ok (.istore 4, 2) := by decide +kernel
theorem dX8_faultOfDays_22 : decode cX8_faultOfDays 22 = .ok (.iload_n 1, 1) := by decide +kernel
theorem dX8_faultOfDays_23 : decode cX8_faultOfDays 23 = .ok (.iconst 1, 1) := by decide +kernel
theorem dX8_faultOfDays_24 : decode cX8_faultOfDays 24 = .ok (.if_icmp .ne 31, 3) := by decide +kernel
theorem dX8_faultOfDays_27 : decode cX8_faultOfDays 27 = .ok (.iload 4, 2) := by decide +kernel
theorem dX8_faultOfDays_29 : decode cX8_faultOfDays 29 = .ok (.invokestatic 120, 3) := by decide +kernel
theorem dX8_faultOfDays_32 : decode cX8_faultOfDays 32 = .ok (.ifCond .eq 16, 3) := by decide +kernel
theorem dX8_faultOfDays_35 : decode cX8_faultOfDays 35 = .ok (.iload 4, 2) := by decide +kernel
theorem dX8_faultOfDays_37 : decode cX8_faultOfDays 37 = .ok (.aload_n 0, 1) := by decide +kernel
theorem dX8_faultOfDays_38 : decode cX8_faultOfDays 38 = .ok (.getfield 31, 3) := by decide +kernel
theorem dX8_faultOfDays_41 : decode cX8_faultOfDays 41 = .ok (.iload_n 3, 1) := by decide +kernel
theorem dX8_faultOfDays_42 : decode cX8_faultOfDays 42 = .ok (.iconst 1, 1) := by decide +kernel
theorem dX8_faultOfDays_43 : decode cX8_faultOfDays 43 = .ok (.isub, 1) := by decide +kernel
theorem dX8_faultOfDays_44 : decode cX8_faultOfDays 44 = .ok (.iaload, 1) := by decide +kernel
theorem dX8_faultOfDays_45 : decode cX8_faultOfDays 45 = .ok (.if_icmp .ne 5, 3) := by decide +kernel
theorem dX8_faultOfDays_48 : decode cX8_faultOfDays 48 = .ok (.iload_n 3, 1) := by decide +kernel
theorem dX8_faultOfDays_49 : decode cX8_faultOfDays 49 = .ok (.ireturn, 1) := by decide +kernel
theorem dX8_faultOfDays_50 : decode cX8_faultOfDays 50 = .ok (.iconst 2, 1) := by decide +kernel
theorem dX8_faultOfDays_51 : decode cX8_faultOfDays 51 = .ok (.istore_n 1, 1) := by decide +kernel
theorem dX8_faultOfDays_52 : decode cX8_faultOfDays 52 = .ok (.goto 97, 3) := by decide +kernel
theorem dX8_faultOfDays_55 : decode cX8_faultOfDays 55 = .ok (.iload_n 1, 1) := by decide +kernel
theorem dX8_faultOfDays_56 : decode cX8_faultOfDays 56 = .ok (.iconst 3, 1) := by decide +kernel
theorem dX8_faultOfDays_57 : decode cX8_faultOfDays 57 = .ok (.if_icmp .ne 18, 3) := by decide +kernel
theorem dX8_faultOfDays_60 : decode cX8_faultOfDays 60 = .ok (.iload 4, 2) := by decide +kernel
theorem dX8_faultOfDays_62 : decode cX8_faultOfDays 62 = .ok (.invokestatic 120, 3) := by decide +kernel
theorem dX8_faultOfDays_65 : decode cX8_faultOfDays 65 = .ok (.ifCond .ne 5, 3) := by decide +kernel
theorem dX8_faultOfDays_68 : decode cX8_faultOfDays 68 = .ok (.iload_n 3, 1) := by decide +kernel
theorem dX8_faultOfDays_69 : decode cX8_faultOfDays 69 = .ok (.ireturn, 1) := by decide +kernel
theorem dX8_faultOfDays_70 : decode cX8_faultOfDays 70 = .ok (.iconst 0, 1) := by decide +kernel
theorem dX8_faultOfDays_71 : decode cX8_faultOfDays 71 = .ok (.istore_n 1, 1) := by decide +kernel
theorem dX8_faultOfDays_72 : decode cX8_faultOfDays 72 = .ok (.goto 77, 3) := by decide +kernel
theorem dX8_faultOfDays_75 : decode cX8_faultOfDays 75 = .ok (.iload_n 1, 1) := by decide +kernel
theorem dX8_faultOfDays_76 : decode cX8_faultOfDays 76 = .ok (.iconst 2, 1) := by decide +kernel
theorem dX8_faultOfDays_77 : decode cX8_faultOfDays 77 = .ok (.if_icmp .ne 23, 3) := by decide +kernel
theorem dX8_faultOfDays_80 : decode cX8_faultOfDays 80 = .ok (.iload 4, 2) := by decide +kernel
theorem dX8_faultOfDays_82 : decode cX8_faultOfDays 82 = .ok (.i2l, 1) := by decide +kernel
theorem dX8_faultOfDays_83 : decode cX8_faultOfDays 83 = .ok (.ldc2_w 123, 3) := by decide +kernel
theorem dX8_faultOfDays_86 : decode cX8_faultOfDays 86 = .ok (.ldc2_w 125, 3) := by decide +kernel
theorem dX8_faultOfDays_89 : decode cX8_faultOfDays 89 = .ok (.invokestatic 72, 3) := by decide +kernel
theorem dX8_faultOfDays_92 : decode cX8_faultOfDays 92 = .ok (.ifCond .eq 8, 3) := by decide +kernel
theorem dX8_faultOfDays_95 : decode cX8_faultOfDays 95 = .ok (.iconst 0, 1) := by decide +kernel
theorem dX8_faultOfDays_96 : decode cX8_faultOfDays 96 = .ok (.istore_n 1, 1) := by decide +kernel
theorem dX8_faultOfDays_97 : decode cX8_faultOfDays 97 = .ok (.goto 52, 3) := by decide +kernel
theorem dX8_faultOfDays_100 : decode cX8_faultOfDays 100 = .ok (.iload_n 2, 1) := by decide +kernel
theorem dX8_faultOfDays_101 : decode cX8_faultOfDays 101 = .ok (.bipush 16, 2) := by decide +kernel
theorem dX8_faultOfDays_103 : decode cX8_faultOfDays 103 = .ok (.if_icmp .ge 44, 3) := by decide +kernel
theorem dX8_faultOfDays_106 : decode cX8_faultOfDays 106 = .ok (.iload 4, 2) := by decide +kernel
theorem dX8_faultOfDays_108 : decode cX8_faultOfDays 108 = .ok (.bipush 88, 2) := by decide +kernel
theorem dX8_faultOfDays_110 : decode cX8_faultOfDays 110 = .ok (.if_icmp .eq 18, 3) := by decide +kernel
theorem dX8_faultOfDays_113 : decode cX8_faultOfDays 113 = .ok (.iload 4, 2) := by decide +kernel
theorem dX8_faultOfDays_115 : decode cX8_faultOfDays 115 = .ok (.invokestatic 120, 3) := by decide +kernel
theorem dX8_faultOfDays_118 : decode cX8_faultOfDays 118 = .ok (.ifCond .ne 10, 3) := by decide +kernel
theorem dX8_faultOfDays_121 : decode cX8_faultOfDays 121 = .ok (.iload 4, 2) := by decide +kernel
theorem dX8_faultOfDays_123 : decode cX8_faultOfDays 123 = .ok (.bipush 109, 2) := by decide +kernel
theorem dX8_faultOfDays_125 : decode cX8_faultOfDays 125 = .ok (.if_icmp .ne 22, 3) := by decide +kernel
theorem dX8_faultOfDays_128 : decode cX8_faultOfDays 128 = .ok (.iinc 2 1, 3) := by decide +kernel
theorem dX8_faultOfDays_131 : decode cX8_faultOfDays 131 = .ok (.iload 4, 2) := by decide +kernel
theorem dX8_faultOfDays_133 : decode cX8_faultOfDays 133 = .ok (.bipush 109, 2) := by decide +kernel
theorem dX8_faultOfDays_135 : decode cX8_faultOfDays 135 = .ok (.if_icmp .ne 7, 3) := by decide +kernel
theorem dX8_faultOfDays_138 : decode cX8_faultOfDays 138 = .ok (.iconst 3, 1) := by decide +kernel
theorem dX8_faultOfDays_139 : decode cX8_faultOfDays 139 = .ok (.goto 4, 3) := by decide +kernel
theorem dX8_faultOfDays_142 : decode cX8_faultOfDays 142 = .ok (.iconst 1, 1) := by decide +kernel
theorem dX8_faultOfDays_143 : decode cX8_faultOfDays 143 = .ok (.istore_n 1, 1) := by decide +kernel
theorem dX8_faultOfDays_144 : decode cX8_faultOfDays 144 = .ok (.goto 5, 3) := by decide +kernel
theorem dX8_faultOfDays_147 : decode cX8_faultOfDays 147 = .ok (.iload_n 3, 1) := by decide +kernel
theorem dX8_faultOfDays_148 : decode cX8_faultOfDays 148 = .ok (.ireturn, 1) := by decide +kernel
theorem dX8_faultOfDays_149 : decode cX8_faultOfDays 149 = .ok (.iinc 3 1, 3) := by decide +kernel
theorem dX8_faultOfDays_152 : decode cX8_faultOfDays 152 = .ok (.goto (-146), 3) := by decide +kernel
theorem dX8_faultOfDays_155 : decode cX8_faultOfDays 155 = .ok (.iload_n 1, 1) := by decide +kernel
theorem dX8_faultOfDays_156 : decode cX8_faultOfDays 156 = .ok (.iconst 1, 1) := by decide +kernel
theorem dX8_faultOfDays_157 : decode cX8_faultOfDays 157 = .ok (.if_icmp .eq 8, 3) := by decide +kernel
theorem dX8_faultOfDays_160 : decode cX8_faultOfDays 160 = .ok (.iload_n 1, 1) := by decide +kernel
theorem dX8_faultOfDays_161 : decode cX8_faultOfDays 161 = .ok (.iconst 3, 1) := by decide +kernel
theorem dX8_faultOfDays_162 : decode cX8_faultOfDays 162 = .ok (.if_icmp .ne 10, 3) := by decide +kernel
theorem dX8_faultOfDays_165 : decode cX8_faultOfDays 165 = .ok (.aload_n 0, 1) := by decide +kernel
theorem dX8_faultOfDays_166 : decode cX8_faultOfDays 166 = .ok (.getfield 113, 3) := by decide +kernel
theorem dX8_faultOfDays_169 : decode cX8_faultOfDays 169 = .ok (.goto 5, 3) := by decide +kernel
theorem dX8_faultOfDays_172 : decode cX8_faultOfDays 172 = .ok (.bipush (-6), 2) := by decide +kernel
theorem dX8_faultOfDays_174 : decode cX8_faultOfDays 174 = .ok (.ireturn, 1) := by decide +kernel
theorem dX8_faultOfSaying_0 : decode cX8_faultOfSaying 0 = .ok (.iconst 0, 1) := by decide +kernel
theorem dX8_faultOfSaying_1 : decode cX8_faultOfSaying 1 = .ok (.istore_n 1, 1) := by decide +kernel
theorem dX8_faultOfSaying_2 : decode cX8_faultOfSaying 2 = .ok (.iload_n 1, 1) := by decide +kernel
theorem dX8_faultOfSaying_3 : decode cX8_faultOfSaying 3 = .ok (.aload_n 0, 1) := by decide +kernel
theorem dX8_faultOfSaying_4 : decode cX8_faultOfSaying 4 = .ok (.getfield 113, 3) := by decide +kernel
theorem dX8_faultOfSaying_7 : decode cX8_faultOfSaying 7 = .ok (.if_icmp .ge 35, 3) := by decide +kernel
theorem dX8_faultOfSaying_10 : decode cX8_faultOfSaying 10 = .ok (.iload_n 1, 1) := by decide +kernel
theorem dX8_faultOfSaying_11 : decode cX8_faultOfSaying 11 = .ok (.iconst 5, 1) := by decide +kernel
theorem dX8_faultOfSaying_12 : decode cX8_faultOfSaying 12 = .ok (.if_icmp .eq 22, 3) := by decide +kernel
theorem dX8_faultOfSaying_15 : decode cX8_faultOfSaying 15 = .ok (.aload_n 0, 1) := by decide +kernel
theorem dX8_faultOfSaying_16 : decode cX8_faultOfSaying 16 = .ok (.getfield 31, 3) := by decide +kernel
theorem dX8_faultOfSaying_19 : decode cX8_faultOfSaying 19 = .ok (.iload_n 1, 1) := by decide +kernel
theorem dX8_faultOfSaying_20 : decode cX8_faultOfSaying 20 = .ok (.iaload, 1) := by decide +kernel
theorem dX8_faultOfSaying_21 : decode cX8_faultOfSaying 21 = .ok (.i2l, 1) := by decide +kernel
theorem dX8_faultOfSaying_22 : decode cX8_faultOfSaying 22 = .ok (.ldc2_w 127, 3) := by decide +kernel
theorem dX8_faultOfSaying_25 : decode cX8_faultOfSaying 25 = .ok (.ldc2_w 129, 3) := by decide +kernel
theorem dX8_faultOfSaying_28 : decode cX8_faultOfSaying 28 = .ok (.invokestatic 72, 3) := by decide +kernel
theorem dX8_faultOfSaying_31 : decode cX8_faultOfSaying 31 = .ok (.ifCond .ne 5, 3) := by decide +kernel
theorem dX8_faultOfSaying_34 : decode cX8_faultOfSaying 34 = .ok (.iload_n 1, 1) := by decide +kernel
theorem dX8_faultOfSaying_35 : decode cX8_faultOfSaying 35 = .ok (.ireturn, 1) := by decide +kernel
theorem dX8_faultOfSaying_36 : decode cX8_faultOfSaying 36 = .ok (.iinc 1 1, 3) := by decide +kernel
theorem dX8_faultOfSaying_39 : decode cX8_faultOfSaying 39 = .ok (.goto (-37), 3) := by decide +kernel
theorem dX8_faultOfSaying_42 : decode cX8_faultOfSaying 42 = .ok (.bipush (-6), 2) := by decide +kernel
theorem dX8_faultOfSaying_44 : decode cX8_faultOfSaying 44 = .ok (.ireturn, 1) := by decide +kernel
theorem dX8_fault_0 : decode cX8_fault 0 = .ok (.iload_n 1, 1) := by decide +kernel
theorem dX8_fault_1 : decode cX8_fault 1 = .ok (.ifCond .ne 10, 3) := by decide +kernel
theorem dX8_fault_4 : decode cX8_fault 4 = .ok (.aload_n 0, 1) := by decide +kernel
theorem dX8_fault_5 : decode cX8_fault 5 = .ok (.invokevirtual 131, 3) := by decide +kernel
theorem dX8_fault_8 : decode cX8_fault 8 = .ok (.goto 17, 3) := by decide +kernel
theorem dX8_fault_11 : decode cX8_fault 11 = .ok (.iload_n 1, 1) := by decide +kernel
theorem dX8_fault_12 : decode cX8_fault 12 = .ok (.iconst 1, 1) := by decide +kernel
theorem dX8_fault_13 : decode cX8_fault 13 = .ok (.if_icmp .ne 10, 3) := by decide +kernel
theorem dX8_fault_16 : decode cX8_fault 16 = .ok (.aload_n 0, 1) := by decide +kernel
theorem dX8_fault_17 : decode cX8_fault 17 = .ok (.invokevirtual 135, 3) := by decide +kernel
theorem dX8_fault_20 : decode cX8_fault 20 = .ok (.goto 5, 3) := by decide +kernel
theorem dX8_fault_23 : decode cX8_fault 23 = .ok (.bipush (-2), 2) := by decide +kernel
theorem dX8_fault_25 : decode cX8_fault 25 = .ok (.ireturn, 1) := by decide +kernel
theorem dX8_days_0 : decode cX8_days 0 = .ok (.aload_n 0, 1) := by decide +kernel
theorem dX8_days_1 : decode cX8_days 1 = .ok (.invokevirtual 131, 3) := by decide +kernel
theorem dX8_days_4 : decode cX8_days 4 = .ok (.ifCond .lt 6, 3) := by decide +kernel
theorem dX8_days_7 : decode cX8_days 7 = .ok (.bipush (-5), 2) := by decide +kernel
theorem dX8_days_9 : decode cX8_days 9 = .ok (.ireturn, 1) := by decide +kernel
theorem dX8_days_10 : decode cX8_days 10 = .ok (.aload_n 0, 1) := by decide +kernel
theorem dX8_days_11 : decode cX8_days 11 = .ok (.iconst 0, 1) := by decide +kernel
theorem dX8_days_12 : decode cX8_days 12 = .ok (.putfield 138, 3) := by decide +kernel
theorem dX8_days_15 : decode cX8_days 15 = .ok (.iconst 0, 1) := by decide +kernel
theorem dX8_days_16 : decode cX8_days 16 = .ok (.istore_n 1, 1) := by decide +kernel
theorem dX8_days_17 : decode cX8_days 17 = .ok (.iload_n 1, 1) := by decide +kernel
theorem dX8_days_18 : decode cX8_days 18 = .ok (.aload_n 0, 1) := by decide +kernel
theorem dX8_days_19 : decode cX8_days 19 = .ok (.getfield 113, 3) := by decide +kernel
theorem dX8_days_22 : decode cX8_days 22 = .ok (.if_icmp .ge 139, 3) := by decide +kernel
theorem dX8_days_25 : decode cX8_days 25 = .ok (.aload_n 0, 1) := by decide +kernel
theorem dX8_days_26 : decode cX8_days 26 = .ok (.getfield 31, 3) := by decide +kernel
theorem dX8_days_29 : decode cX8_days 29 = .ok (.iload_n 1, 1) := by decide +kernel
theorem dX8_days_30 : decode cX8_days 30 = .ok (.iaload, 1) := by decide +kernel
theorem dX8_days_31 : decode cX8_days 31 = .ok (.istore_n 2, 1) := by decide +kernel
theorem dX8_days_32 : decode cX8_days 32 = .ok (.aload_n 0, 1) := by decide +kernel
theorem dX8_days_33 : decode cX8_days 33 = .ok (.getfield 19, 3) := by decide +kernel
theorem dX8_days_36 : decode cX8_days 36 = .ok (.aload_n 0, 1) := by decide +kernel
theorem dX8_days_37 : decode cX8_days 37 = .ok (.getfield 138, 3) := by decide +kernel
theorem dX8_days_40 : decode cX8_days 40 = .ok (.iload_n 2, 1) := by decide +kernel
theorem dX8_days_41 : decode cX8_days 41 = .ok (.bipush 88, 2) := by decide +kernel
theorem dX8_days_43 : decode cX8_days 43 = .ok (.if_icmp .ne 8, 3) := by decide +kernel
theorem dX8_days_46 : decode cX8_days 46 = .ok (.bipush 6, 2) := by decide +kernel
theorem dX8_days_48 : decode cX8_days 48 = .ok (.goto 18, 3) := by decide +kernel
theorem dX8_days_51 : decode cX8_days 51 = .ok (.iload_n 2, 1) := by decide +kernel
theorem dX8_days_52 : decode cX8_days 52 = .ok (.bipush 109, 2) := by decide +kernel
theorem dX8_days_54 : decode cX8_days 54 = .ok (.if_icmp .ne 8, 3) := by decide +kernel
theorem dX8_days_57 : decode cX8_days 57 = .ok (.bipush 7, 2) := by decide +kernel
theorem dX8_days_59 : decode cX8_days 59 = .ok (.goto 7, 3) := by decide +kernel
theorem dX8_days_62 : decode cX8_days 62 = .ok (.iload_n 2, 1) := by decide +kernel
theorem dX8_days_63 : decode cX8_days 63 = .ok (.bipush 65, 2) := by decide +kernel
theorem dX8_days_65 : decode cX8_days 65 = .ok (.isub, 1) := by decide +kernel
theorem dX8_days_66 : decode cX8_days 66 = .ok (.iastore, 1) := by decide +kernel
theorem dX8_days_67 : decode cX8_days 67 = .ok (.aload_n 0, 1) := by decide +kernel
theorem dX8_days_68 : decode cX8_days 68 = .ok (.getfield 22, 3) := by decide +kernel
theorem dX8_days_71 : decode cX8_days 71 = .ok (.aload_n 0, 1) := by decide +kernel
theorem dX8_days_72 : decode cX8_days 72 = .ok (.getfield 138, 3) := by decide +kernel
theorem dX8_days_75 : decode cX8_days 75 = .ok (.aload_n 0, 1) := by decide +kernel
theorem dX8_days_76 : decode cX8_days 76 = .ok (.getfield 31, 3) := by decide +kernel
theorem dX8_days_79 : decode cX8_days 79 = .ok (.iload_n 1, 1) := by decide +kernel
theorem dX8_days_80 : decode cX8_days 80 = .ok (.iconst 1, 1) := by decide +kernel
theorem dX8_days_81 : decode cX8_days 81 = .ok (.iadd, 1) := by decide +kernel
theorem dX8_days_82 : decode cX8_days 82 = .ok (.iaload, 1) := by decide +kernel
theorem dX8_days_83 : decode cX8_days 83 = .ok (.bipush 65, 2) := by decide +kernel
theorem dX8_days_85 : decode cX8_days 85 = .ok (.isub, 1) := by decide +kernel
theorem dX8_days_86 : decode cX8_days 86 = .ok (.iastore, 1) := by decide +kernel
theorem dX8_days_87 : decode cX8_days 87 = .ok (.iinc 1 2, 3) := by decide +kernel
theorem dX8_days_90 : decode cX8_days 90 = .ok (.aload_n 0, 1) := by decide +kernel
theorem dX8_days_91 : decode cX8_days 91 = .ok (.getfield 25, 3) := by decide +kernel
theorem dX8_days_94 : decode cX8_days 94 = .ok (.aload_n 0, 1) := by decide +kernel
theorem dX8_days_95 : decode cX8_days 95 = .ok (.getfield 138, 3) := by decide +kernel
theorem dX8_days_98 : decode cX8_days 98 = .ok (.iconst 0, 1) := by decide +kernel
theorem dX8_days_99 : decode cX8_days 99 = .ok (.iastore, 1) := by decide +kernel
theorem dX8_days_100 : decode cX8_days 100 = .ok (.iload_n 1, 1) := by decide +kernel
theorem dX8_days_101 : decode cX8_days 101 = .ok (.aload_n 0, 1) := by decide +kernel
theorem dX8_days_102 : decode cX8_days 102 = .ok (.getfield 113, 3) := by decide +kernel
theorem dX8_days_105 : decode cX8_days 105 = .ok (.if_icmp .ge 43, 3) := by decide +kernel
theorem dX8_days_108 : decode cX8_days 108 = .ok (.aload_n 0, 1) := by decide +kernel
theorem dX8_days_109 : decode cX8_days 109 = .ok (.getfield 31, 3) := by decide +kernel
theorem dX8_days_112 : decode cX8_days 112 = .ok (.iload_n 1, 1) := by decide +kernel
theorem dX8_days_113 : decode cX8_days 113 = .ok (.iaload, 1) := by decide +kernel
theorem dX8_days_114 : decode cX8_days 114 = .ok (.i2l, 1) := by decide +kernel
theorem dX8_days_115 : decode cX8_days 115 = .ok (.ldc2_w 123, 3) := by decide +kernel
theorem dX8_days_118 : decode cX8_days 118 = .ok (.ldc2_w 125, 3) := by decide +kernel
theorem dX8_days_121 : decode cX8_days 121 = .ok (.invokestatic 72, 3) := by decide +kernel
theorem dX8_days_124 : decode cX8_days 124 = .ok (.ifCond .eq 24, 3) := by decide +kernel
theorem dX8_days_127 : decode cX8_days 127 = .ok (.aload_n 0, 1) := by decide +kernel
theorem dX8_days_128 : decode cX8_days 128 = .ok (.getfield 25, 3) := by decide +kernel
theorem dX8_days_131 : decode cX8_days 131 = .ok (.aload_n 0, 1) := by decide +kernel
theorem dX8_days_132 : decode cX8_days 132 = .ok (.getfield 138, 3) := by decide +kernel
theorem dX8_days_135 : decode cX8_days 135 = .ok (.aload_n 0, 1) := by decide +kernel
theorem dX8_days_136 : decode cX8_days 136 = .ok (.getfield 31, 3) := by decide +kernel
theorem dX8_days_139 : decode cX8_days 139 = .ok (.iload_n 1, 1) := by decide +kernel
theorem dX8_days_140 : decode cX8_days 140 = .ok (.iaload, 1) := by decide +kernel
theorem dX8_days_141 : decode cX8_days 141 = .ok (.bipush 48, 2) := by decide +kernel
theorem dX8_days_143 : decode cX8_days 143 = .ok (.isub, 1) := by decide +kernel
theorem dX8_days_144 : decode cX8_days 144 = .ok (.iastore, 1) := by decide +kernel
theorem dX8_days_145 : decode cX8_days 145 = .ok (.iinc 1 1, 3) := by decide +kernel
theorem dX8_days_148 : decode cX8_days 148 = .ok (.aload_n 0, 1) := by decide +kernel
theorem dX8_days_149 : decode cX8_days 149 = .ok (.dup, 1) := by decide +kernel
theorem dX8_days_150 : decode cX8_days 150 = .ok (.getfield 138, 3) := by decide +kernel
theorem dX8_days_153 : decode cX8_days 153 = .ok (.iconst 1, 1) := by decide +kernel
theorem dX8_days_154 : decode cX8_days 154 = .ok (.iadd, 1) := by decide +kernel
theorem dX8_days_155 : decode cX8_days 155 = .ok (.putfield 138, 3) := by decide +kernel
theorem dX8_days_158 : decode cX8_days 158 = .ok (.goto (-141), 3) := by decide +kernel
theorem dX8_days_161 : decode cX8_days 161 = .ok (.aload_n 0, 1) := by decide +kernel
theorem dX8_days_162 : decode cX8_days 162 = .ok (.iconst 0, 1) := by decide +kernel
theorem dX8_days_163 : decode cX8_days 163 = .ok (.putfield 113, 3) := by decide +kernel
theorem dX8_days_166 : decode cX8_days 166 = .ok (.aload_n 0, 1) := by decide +kernel
theorem dX8_days_167 : decode cX8_days 167 = .ok (.getfield 138, 3) := by decide +kernel
theorem dX8_days_170 : decode cX8_days 170 = .ok (.ireturn, 1) := by decide +kernel
theorem dX8_padSaying_0 : decode cX8_padSaying 0 = .ok (.iconst 0, 1) := by decide +kernel
theorem dX8_padSaying_1 : decode cX8_padSaying 1 = .ok (.istore_n 1, 1) := by decide +kernel
theorem dX8_padSaying_2 : decode cX8_padSaying 2 = .ok (.iconst 0, 1) := by decide +kernel
theorem dX8_padSaying_3 : decode cX8_padSaying 3 = .ok (.istore_n 2, 1) := by decide +kernel
theorem dX8_padSaying_4 : decode cX8_padSaying 4 = .ok (.iload_n 2, 1) := by decide +kernel
theorem dX8_padSaying_5 : decode cX8_padSaying 5 = .ok (.aload_n 0, 1) := by decide +kernel
theorem dX8_padSaying_6 : decode cX8_padSaying 6 = .ok (.getfield 113, 3) := by decide +kernel
theorem dX8_padSaying_9 : decode cX8_padSaying 9 = .ok (.if_icmp .ge 23, 3) := by decide +kernel
theorem dX8_padSaying_12 : decode cX8_padSaying 12 = .ok (.iconst 3, 1) := by decide +kernel
theorem dX8_padSaying_13 : decode cX8_padSaying 13 = .ok (.iload_n 1, 1) := by decide +kernel
theorem dX8_padSaying_14 : decode cX8_padSaying 14 = .ok (.imul, 1) := by decide +kernel
theorem dX8_padSaying_15 : decode cX8_padSaying 15 = .ok (.aload_n 0, 1) := by decide +kernel
theorem dX8_padSaying_16 : decode cX8_padSaying 16 = .ok (.getfield 31, 3) := by decide +kernel
theorem dX8_padSaying_19 : decode cX8_padSaying 19 = .ok (.iload_n 2, 1) := by decide +kernel
theorem dX8_padSaying_20 : decode cX8_padSaying 20 = .ok (.iaload, 1) := by decide +kernel
theorem dX8_padSaying_21 : decode cX8_padSaying 21 = .ok (.iadd, 1) := by decide +kernel
theorem dX8_padSaying_22 : decode cX8_padSaying 22 = .ok (.bipush 97, 2) := by decide +kernel
theorem dX8_padSaying_24 : decode cX8_padSaying 24 = .ok (.isub, 1) := by decide +kernel
theorem dX8_padSaying_25 : decode cX8_padSaying 25 = .ok (.istore_n 1, 1) := by decide +kernel
theorem dX8_padSaying_26 : decode cX8_padSaying 26 = .ok (.iinc 2 1, 3) := by decide +kernel
theorem dX8_padSaying_29 : decode cX8_padSaying 29 = .ok (.goto (-25), 3) := by decide +kernel
theorem dX8_padSaying_32 : decode cX8_padSaying 32 = .ok (.aload_n 0, 1) := by decide +kernel
theorem dX8_padSaying_33 : decode cX8_padSaying 33 = .ok (.getfield 113, 3) := by decide +kernel
theorem dX8_padSaying_36 : decode cX8_padSaying 36 = .ok (.invokestatic 76, 3) := by decide +kernel
theorem dX8_padSaying_39 : decode cX8_padSaying 39 = .ok (.iload_n 1, 1) := by decide +kernel
theorem dX8_padSaying_40 : decode cX8_padSaying 40 = .ok (.iadd, 1) := by decide +kernel
theorem dX8_padSaying_41 : decode cX8_padSaying 41 = .ok (.ireturn, 1) := by decide +kernel
theorem dX8_slips_0 : decode cX8_slips 0 = .ok (.iload_n 1, 1) := by decide +kernel
theorem dX8_slips_1 : decode cX8_slips 1 = .ok (.i2l, 1) := by decide +kernel
theorem dX8_slips_2 : decode cX8_slips 2 = .ok (.lconst 0, 1) := by decide +kernel
theorem dX8_slips_3 : decode cX8_slips 3 = .ok (.ldc2_w 107, 3) := by decide +kernel
theorem dX8_slips_6 : decode cX8_slips 6 = .ok (.invokestatic 72, 3) := by decide +kernel
theorem dX8_slips_9 : decode cX8_slips 9 = .ok (.ifCond .ne 6, 3) := by decide +kernel
theorem dX8_slips_12 : decode cX8_slips 12 = .ok (.bipush (-2), 2) := by decide +kernel
theorem dX8_slips_14 : decode cX8_slips 14 = .ok (.ireturn, 1) := by decide +kernel
theorem dX8_slips_15 : decode cX8_slips 15 = .ok (.aload_n 0, 1) := by decide +kernel
theorem dX8_slips_16 : decode cX8_slips 16 = .ok (.invokevirtual 135, 3) := by decide +kernel
theorem dX8_slips_19 : decode cX8_slips 19 = .ok (.ifCond .lt 6, 3) := by decide +kernel
theorem dX8_slips_22 : decode cX8_slips 22 = .ok (.bipush (-5), 2) := by decide +kernel
theorem dX8_slips_24 : decode cX8_slips 24 = .ok (.ireturn, 1) := by decide +kernel
theorem dX8_slips_25 : decode cX8_slips 25 = .ok (.aload_n 0, 1) := by decide +kernel
theorem dX8_slips_26 : decode cX8_slips 26 = .ok (.iload_n 1, 1) := by decide +kernel
theorem dX8_slips_27 : decode cX8_slips 27 = .ok (.aload_n 0, 1) := by decide +kernel
theorem dX8_slips_28 : decode cX8_slips 28 = .ok (.invokevirtual 141, 3) := by decide +kernel
theorem dX8_slips_31 : decode cX8_slips 31 = .ok (.invokevirtual 144, 3) := by decide +kernel
theorem dX8_slips_34 : decode cX8_slips 34 = .ok (.iload_n 2, 1) := by decide +kernel
theorem dX8_slips_35 : decode cX8_slips 35 = .ok (.ifCond .ne 10, 3) := by decide +kernel
theorem dX8_slips_38 : decode cX8_slips 38 = .ok (.aload_n 0, 1) := by decide +kernel
theorem dX8_slips_39 : decode cX8_slips 39 = .ok (.getfield 90, 3) := by decide +kernel
theorem dX8_slips_42 : decode cX8_slips 42 = .ok (.goto 33, 3) := by decide +kernel
theorem dX8_slips_45 : decode cX8_slips 45 = .ok (.iload_n 2, 1) := by decide +kernel
theorem dX8_slips_46 : decode cX8_slips 46 = .ok (.i2l, 1) := by decide +kernel
theorem dX8_slips_47 : decode cX8_slips 47 = .ok (.lconst 1, 1) := by decide +kernel
theorem dX8_slips_48 : decode cX8_slips 48 = .ok (.aload_n 0, 1) := by decide +kernel
theorem dX8_slips_49 : decode cX8_slips 49 = .ok (.getfield 90, 3) := by decide +kernel
theorem dX8_slips_52 : decode cX8_slips 52 = .ok (.i2l, 1) := by decide +kernel
theorem dX8_slips_53 : decode cX8_slips 53 = .ok (.invokestatic 72, 3) := by decide +kernel
theorem dX8_slips_56 : decode cX8_slips 56 = .ok (.ifCond .eq 17, 3) := by decide +kernel
theorem dX8_slips_59 : decode cX8_slips 59 = .ok (.aload_n 0, 1) := by decide +kernel
theorem dX8_slips_60 : decode cX8_slips 60 = .ok (.getfield 13, 3) := by decide +kernel
theorem dX8_slips_63 : decode cX8_slips 63 = .ok (.iload_n 2, 1) := by decide +kernel
theorem dX8_slips_64 : decode cX8_slips 64 = .ok (.iconst 1, 1) := by decide +kernel
theorem dX8_slips_65 : decode cX8_slips 65 = .ok (.isub, 1) := by decide +kernel
theorem dX8_slips_66 : decode cX8_slips 66 = .ok (.iaload, 1) := by decide +kernel
theorem dX8_slips_67 : decode cX8_slips 67 = .ok (.invokestatic 80, 3) := by decide +kernel
theorem dX8_slips_70 : decode cX8_slips 70 = .ok (.goto 5, 3) := by decide +kernel
theorem dX8_slips_73 : decode cX8_slips 73 = .ok (.bipush (-6), 2) := by decide +kernel
theorem dX8_slips_75 : decode cX8_slips 75 = .ok (.ireturn, 1) := by decide +kernel
theorem dX8_bargain_0 : decode cX8_bargain 0 = .ok (.aload_n 0, 1) := by decide +kernel
theorem dX8_bargain_1 : decode cX8_bargain 1 = .ok (.invokevirtual 135, 3) := by decide +kernel
theorem dX8_bargain_4 : decode cX8_bargain 4 = .ok (.ifCond .lt 6, 3) := by decide +kernel
theorem dX8_bargain_7 : decode cX8_bargain 7 = .ok (.bipush (-5), 2) := by decide +kernel
theorem dX8_bargain_9 : decode cX8_bargain 9 = .ok (.ireturn, 1) := by decide +kernel
theorem dX8_bargain_10 : decode cX8_bargain 10 = .ok (.aload_n 0, 1) := by decide +kernel
theorem dX8_bargain_11 : decode cX8_bargain 11 = .ok (.aload_n 0, 1) := by decide +kernel
theorem dX8_bargain_12 : decode cX8_bargain 12 = .ok (.invokevirtual 141, 3) := by decide +kernel
theorem dX8_bargain_15 : decode cX8_bargain 15 = .ok (.putfield 147, 3) := by decide +kernel
theorem dX8_bargain_18 : decode cX8_bargain 18 = .ok (.aload_n 0, 1) := by decide +kernel
theorem dX8_bargain_19 : decode cX8_bargain 19 = .ok (.iconst 0, 1) := by decide +kernel
theorem dX8_bargain_20 : decode cX8_bargain 20 = .ok (.putfield 113, 3) := by decide +kernel
theorem dX8_bargain_23 : decode cX8_bargain 23 = .ok (.aload_n 0, 1) := by decide +kernel
theorem dX8_bargain_24 : decode cX8_bargain 24 = .ok (.getfield 147, 3) := by decide +kernel
theorem dX8_bargain_27 : decode cX8_bargain 27 = .ok (.invokestatic 80, 3) := by decide +kernel
theorem dX8_bargain_30 : decode cX8_bargain 30 = .ok (.ireturn, 1) := by decide +kernel
theorem dX8_forget_0 : decode cX8_forget 0 = .ok (.iconst 0, 1) := by decide +kernel
theorem dX8_forget_1 : decode cX8_forget 1 = .ok (.istore_n 1, 1) := by decide +kernel
theorem dX8_forget_2 : decode cX8_forget 2 = .ok (.iload_n 1, 1) := by decide +kernel
theorem dX8_forget_3 : decode cX8_forget 3 = .ok (.bipush 6, 2) := by decide +kernel
theorem dX8_forget_5 : decode cX8_forget 5 = .ok (.if_icmp .ge 17, 3) := by decide +kernel
theorem dX8_forget_8 : decode cX8_forget 8 = .ok (.aload_n 0, 1) := by decide +kernel
theorem dX8_forget_9 : decode cX8_forget 9 = .ok (.getfield 34, 3) := by decide +kernel
theorem dX8_forget_12 : decode cX8_forget 12 = .ok (.iload_n 1, 1) := by decide +kernel
theorem dX8_forget_13 : decode cX8_forget 13 = .ok (.bipush (-6), 2) := by decide +kernel
theorem dX8_forget_15 : decode cX8_forget 15 = .ok (.iastore, 1) := by decide +kernel
theorem dX8_forget_16 : decode cX8_forget 16 = .ok (.iinc 1 1, 3) := by decide +kernel
theorem dX8_forget_19 : decode cX8_forget 19 = .ok (.goto (-17), 3) := by decide +kernel
theorem dX8_forget_22 : decode cX8_forget 22 = .ok (.return_, 1) := by decide +kernel
theorem dX8_hears_0 : decode cX8_hears 0 = .ok (.aload_n 0, 1) := by decide +kernel
theorem dX8_hears_1 : decode cX8_hears 1 = .ok (.getfield 19, 3) := by decide +kernel
theorem dX8_hears_4 : decode cX8_hears 4 = .ok (.iload_n 1, 1) := by decide +kernel
theorem dX8_hears_5 : decode cX8_hears 5 = .ok (.iaload, 1) := by decide +kernel
theorem dX8_hears_6 : decode cX8_hears 6 = .ok (.istore_n 3, 1) := by decide +kernel
theorem dX8_hears_7 : decode cX8_hears 7 = .ok (.iload_n 3, 1) := by decide +kernel
theorem dX8_hears_8 : decode cX8_hears 8 = .ok (.bipush 7, 2) := by decide +kernel
theorem dX8_hears_10 : decode cX8_hears 10 = .ok (.if_icmp .ne 5, 3) := by decide +kernel
theorem dX8_hears_13 : decode cX8_hears 13 = .ok (.iconst 0, 1) := by decide +kernel
theorem dX8_hears_14 : decode cX8_hears 14 = .ok (.ireturn, 1) := by decide +kernel
theorem dX8_hears_15 : decode cX8_hears 15 = .ok (.iload_n 3, 1) := by decide +kernel
theorem dX8_hears_16 : decode cX8_hears 16 = .ok (.bipush 6, 2) := by decide +kernel
theorem dX8_hears_18 : decode cX8_hears 18 = .ok (.if_icmp .ne 5, 3) := by decide +kernel
theorem dX8_hears_21 : decode cX8_hears 21 = .ok (.iload_n 2, 1) := by decide +kernel
theorem dX8_hears_22 : decode cX8_hears 22 = .ok (.ireturn, 1) := by decide +kernel
theorem dX8_hears_23 : decode cX8_hears 23 = .ok (.aload_n 0, 1) := by decide +kernel
theorem dX8_hears_24 : decode cX8_hears 24 = .ok (.getfield 16, 3) := by decide +kernel
theorem dX8_hears_27 : decode cX8_hears 27 = .ok (.iload_n 3, 1) := by decide +kernel
theorem dX8_hears_28 : decode cX8_hears 28 = .ok (.iaload, 1) := by decide +kernel
theorem dX8_hears_29 : decode cX8_hears 29 = .ok (.iconst 4, 1) := by decide +kernel
theorem dX8_hears_30 : decode cX8_hears 30 = .ok (.if_icmp .ne 47, 3) := by decide +kernel
theorem dX8_hears_33 : decode cX8_hears 33 = .ok (.iload_n 1, 1) := by decide +kernel
theorem dX8_hears_34 : decode cX8_hears 34 = .ok (.ifCond .le 47, 3) := by decide +kernel
theorem dX8_hears_37 : decode cX8_hears 37 = .ok (.aload_n 0, 1) := by decide +kernel
theorem dX8_hears_38 : decode cX8_hears 38 = .ok (.getfield 37, 3) := by decide +kernel
theorem dX8_hears_41 : decode cX8_hears 41 = .ok (.iload_n 1, 1) := by decide +kernel
theorem dX8_hears_42 : decode cX8_hears 42 = .ok (.iconst 1, 1) := by decide +kernel
theorem dX8_hears_43 : decode cX8_hears 43 = .ok (.isub, 1) := by decide +kernel
theorem dX8_hears_44 : decode cX8_hears 44 = .ok (.baload, 1) := by decide +kernel
theorem dX8_hears_45 : decode cX8_hears 45 = .ok (.ifCond .eq 36, 3) := by decide +kernel
theorem dX8_hears_48 : decode cX8_hears 48 = .ok (.aload_n 0, 1) := by decide +kernel
theorem dX8_hears_49 : decode cX8_hears 49 = .ok (.getfield 22, 3) := by decide +kernel
theorem dX8_hears_52 : decode cX8_hears 52 = .ok (.iload_n 1, 1) := by decide +kernel
theorem dX8_hears_53 : decode cX8_hears 53 = .ok (.iconst 1, 1) := by decide +kernel
theorem dX8_hears_54 : decode cX8_hears 54 = .ok (.isub, 1) := by decide +kernel
theorem dX8_hears_55 : decode cX8_hears 55 = .ok (.iaload, 1) := by decide +kernel
theorem dX8_hears_56 : decode cX8_hears 56 = .ok (.iload_n 3, 1) := by decide +kernel
theorem dX8_hears_57 : decode cX8_hears 57 = .ok (.if_icmp .ne 24, 3) := by decide +kernel
theorem dX8_hears_60 : decode cX8_hears 60 = .ok (.aload_n 0, 1) := by decide +kernel
theorem dX8_hears_61 : decode cX8_hears 61 = .ok (.getfield 19, 3) := by decide +kernel
theorem dX8_hears_64 : decode cX8_hears 64 = .ok (.iload_n 1, 1) := by decide +kernel
theorem dX8_hears_65 : decode cX8_hears 65 = .ok (.iconst 1, 1) := by decide +kernel
theorem dX8_hears_66 : decode cX8_hears 66 = .ok (.isub, 1) := by decide +kernel
theorem dX8_hears_67 : decode cX8_hears 67 = .ok (.iaload, 1) := by decide +kernel
theorem dX8_hears_68 : decode cX8_hears 68 = .ok (.aload_n 0, 1) := by decide +kernel
theorem dX8_hears_69 : decode cX8_hears 69 = .ok (.getfield 22, 3) := by decide +kernel
theorem dX8_hears_72 : decode cX8_hears 72 = .ok (.iload_n 1, 1) := by decide +kernel
theorem dX8_hears_73 : decode cX8_hears 73 = .ok (.iaload, 1) := by decide +kernel
theorem dX8_hears_74 : decode cX8_hears 74 = .ok (.if_icmp .ne 7, 3) := by decide +kernel
theorem dX8_hears_77 : decode cX8_hears 77 = .ok (.iconst 1, 1) := by decide +kernel
theorem dX8_hears_78 : decode cX8_hears 78 = .ok (.goto 4, 3) := by decide +kernel
theorem dX8_hears_81 : decode cX8_hears 81 = .ok (.iconst 0, 1) := by decide +kernel
theorem dX8_hears_82 : decode cX8_hears 82 = .ok (.istore 4, 2) := by decide +kernel
theorem dX8_hears_84 : decode cX8_hears 84 = .ok (.iload 4, 2) := by decide +kernel
theorem dX8_hears_86 : decode cX8_hears 86 = .ok (.ifCond .eq 27, 3) := by decide +kernel
theorem dX8_hears_89 : decode cX8_hears 89 = .ok (.aload_n 0, 1) := by decide +kernel
theorem dX8_hears_90 : decode cX8_hears 90 = .ok (.getfield 150, 3) := by decide +kernel
theorem dX8_hears_93 : decode cX8_hears 93 = .ok (.iload_n 3, 1) := by decide +kernel
theorem dX8_hears_94 : decode cX8_hears 94 = .ok (.ishr, 1) := by decide +kernel
theorem dX8_hears_95 : decode cX8_hears 95 = .ok (.iconst 1, 1) := by decide +kernel
theorem dX8_hears_96 : decode cX8_hears 96 = .ok (.iand, 1) := by decide +kernel
theorem dX8_hears_97 : decode cX8_hears 97 = .ok (.ifCond .ne 16, 3) := by decide +kernel
theorem dX8_hears_100 : decode cX8_hears 100 = .ok (.aload_n 0, 1) := by decide +kernel
theorem dX8_hears_101 : decode cX8_hears 101 = .ok (.getfield 34, 3) := by decide +kernel
theorem dX8_hears_104 : decode cX8_hears 104 = .ok (.iload_n 3, 1) := by decide +kernel
theorem dX8_hears_105 : decode cX8_hears 105 = .ok (.iaload, 1) := by decide +kernel
theorem dX8_hears_106 : decode cX8_hears 106 = .ok (.ifCond .lt 7, 3) := by decide +kernel
theorem dX8_hears_109 : decode cX8_hears 109 = .ok (.iconst 1, 1) := by decide +kernel
theorem dX8_hears_110 : decode cX8_hears 110 = .ok (.goto 4, 3) := by decide +kernel
theorem dX8_hears_113 : decode cX8_hears 113 = .ok (.iconst 0, 1) := by decide +kernel
theorem dX8_hears_114 : decode cX8_hears 114 = .ok (.ireturn, 1) := by decide +kernel
theorem dX8_go_0 : decode cX8_go 0 = .ok (.aload_n 0, 1) := by decide +kernel
theorem dX8_go_1 : decode cX8_go 1 = .ok (.getfield 37, 3) := by decide +kernel
theorem dX8_go_4 : decode cX8_go 4 = .ok (.iload_n 1, 1) := by decide +kernel
theorem dX8_go_5 : decode cX8_go 5 = .ok (.aload_n 0, 1) := by decide +kernel
theorem dX8_go_6 : decode cX8_go 6 = .ok (.iload_n 1, 1) := by decide +kernel
theorem dX8_go_7 : decode cX8_go 7 = .ok (.iload_n 3, 1) := by decide +kernel
theorem dX8_go_8 : decode cX8_go 8 = .ok (.invokevirtual 153, 3) := by decide +kernel
theorem dX8_go_11 : decode cX8_go 11 = .ok (.bastore, 1) := by decide +kernel
theorem dX8_go_12 : decode cX8_go 12 = .ok (.aload_n 0, 1) := by decide +kernel
theorem dX8_go_13 : decode cX8_go 13 = .ok (.getfield 19, 3) := by decide +kernel
theorem dX8_go_16 : decode cX8_go 16 = .ok (.iload_n 1, 1) := by decide +kernel
theorem dX8_go_17 : decode cX8_go 17 = .ok (.iaload, 1) := by decide +kernel
theorem dX8_go_18 : decode cX8_go 18 = .ok (.bipush 7, 2) := by decide +kernel
theorem dX8_go_20 : decode cX8_go 20 = .ok (.if_icmp .ne 20, 3) := by decide +kernel
theorem dX8_go_23 : decode cX8_go 23 = .ok (.aload_n 0, 1) := by decide +kernel
theorem dX8_go_24 : decode cX8_go 24 = .ok (.dup, 1) := by decide +kernel
theorem dX8_go_25 : decode cX8_go 25 = .ok (.getfield 150, 3) := by decide +kernel
theorem dX8_go_28 : decode cX8_go 28 = .ok (.iconst 1, 1) := by decide +kernel
theorem dX8_go_29 : decode cX8_go 29 = .ok (.aload_n 0, 1) := by decide +kernel
theorem dX8_go_30 : decode cX8_go 30 = .ok (.getfield 22, 3) := by decide +kernel
theorem dX8_go_33 : decode cX8_go 33 = .ok (.iload_n 1, 1) := by decide +kernel
theorem dX8_go_34 : decode cX8_go 34 = .ok (.iaload, 1) := by decide +kernel
theorem dX8_go_35 : decode cX8_go 35 = .ok (.ishl, 1) := by decide +kernel
theorem dX8_go_36 : decode cX8_go 36 = .ok (.ixor, 1) := by decide +kernel
theorem dX8_go_37 : decode cX8_go 37 = .ok (.putfield 150, 3) := by decide +kernel
theorem dX8_go_40 : decode cX8_go 40 = .ok (.aload_n 0, 1) := by decide +kernel
theorem dX8_go_41 : decode cX8_go 41 = .ok (.getfield 37, 3) := by decide +kernel
theorem dX8_go_44 : decode cX8_go 44 = .ok (.iload_n 1, 1) := by decide +kernel
theorem dX8_go_45 : decode cX8_go 45 = .ok (.baload, 1) := by decide +kernel
theorem dX8_go_46 : decode cX8_go 46 = .ok (.ifCond .eq 91, 3) := by decide +kernel
theorem dX8_go_49 : decode cX8_go 49 = .ok (.aload_n 0, 1) := by decide +kernel
theorem dX8_go_50 : decode cX8_go 50 = .ok (.getfield 19, 3) := by decide +kernel
theorem dX8_go_53 : decode cX8_go 53 = .ok (.iload_n 1, 1) := by decide +kernel
theorem dX8_go_54 : decode cX8_go 54 = .ok (.iaload, 1) := by decide +kernel
theorem dX8_go_55 : decode cX8_go 55 = .ok (.bipush 6, 2) := by decide +kernel
theorem dX8_go_57 : decode cX8_go 57 = .ok (.if_icmp .ne 7, 3) := by decide +kernel
theorem dX8_go_60 : decode cX8_go 60 = .ok (.iload_n 2, 1) := by decide +kernel
theorem dX8_go_61 : decode cX8_go 61 = .ok (.goto 14, 3) := by decide +kernel
theorem dX8_go_64 : decode cX8_go 64 = .ok (.aload_n 0, 1) := by decide +kernel
theorem dX8_go_65 : decode cX8_go 65 = .ok (.getfield 34, 3) := by decide +kernel
theorem dX8_go_68 : decode cX8_go 68 = .ok (.aload_n 0, 1) := by decide +kernel
theorem dX8_go_69 : decode cX8_go 69 = .ok (.getfield 19, 3) := by decide +kernel
theorem dX8_go_72 : decode cX8_go 72 = .ok (.iload_n 1, 1) := by decide +kernel
theorem dX8_go_73 : decode cX8_go 73 = .ok (.iaload, 1) := by decide +kernel
theorem dX8_go_74 : decode cX8_go 74 = .ok (.iaload, 1) := by decide +kernel
theorem dX8_go_75 : decode cX8_go 75 = .ok (.istore 5, 2) := by decide +kernel
theorem dX8_go_77 : decode cX8_go 77 = .ok (.iload 4, 2) := by decide +kernel
theorem dX8_go_79 : decode cX8_go 79 = .ok (.ifCond .le 45, 3) := by decide +kernel
theorem dX8_go_82 : decode cX8_go 82 = .ok (.aload_n 0, 1) := by decide +kernel
theorem dX8_go_83 : decode cX8_go 83 = .ok (.aload_n 0, 1) := by decide +kernel
theorem dX8_go_84 : decode cX8_go 84 = .ok (.getfield 16, 3) := by decide +kernel
theorem dX8_go_87 : decode cX8_go 87 = .ok (.aload_n 0, 1) := by decide +kernel
theorem dX8_go_88 : decode cX8_go 88 = .ok (.getfield 22, 3) := by decide +kernel
theorem dX8_go_91 : decode cX8_go 91 = .ok (.iload_n 1, 1) := by decide +kernel
theorem dX8_go_92 : decode cX8_go 92 = .ok (.iaload, 1) := by decide +kernel
theorem dX8_go_93 : decode cX8_go 93 = .ok (.iaload, 1) := by decide +kernel
theorem dX8_go_94 : decode cX8_go 94 = .ok (.iload 5, 2) := by decide +kernel
theorem dX8_go_96 : decode cX8_go 96 = .ok (.invokevirtual 144, 3) := by decide +kernel
theorem dX8_go_99 : decode cX8_go 99 = .ok (.iload 4, 2) := by decide +kernel
theorem dX8_go_101 : decode cX8_go 101 = .ok (.aload_n 0, 1) := by decide +kernel
theorem dX8_go_102 : decode cX8_go 102 = .ok (.getfield 90, 3) := by decide +kernel
theorem dX8_go_105 : decode cX8_go 105 = .ok (.if_icmp .gt 15, 3) := by decide +kernel
theorem dX8_go_108 : decode cX8_go 108 = .ok (.aload_n 0, 1) := by decide +kernel
theorem dX8_go_109 : decode cX8_go 109 = .ok (.getfield 13, 3) := by decide +kernel
theorem dX8_go_112 : decode cX8_go 112 = .ok (.iload 4, 2) := by decide +kernel
theorem dX8_go_114 : decode cX8_go 114 = .ok (.iconst 1, 1) := by decide +kernel
theorem dX8_go_115 : decode cX8_go 115 = .ok (.isub, 1) := by decide +kernel
theorem dX8_go_116 : decode cX8_go 116 = .ok (.iaload, 1) := by decide +kernel
theorem dX8_go_117 : decode cX8_go 117 = .ok (.goto 5, 3) := by decide +kernel
theorem dX8_go_120 : decode cX8_go 120 = .ok (.iload 5, 2) := by decide +kernel
theorem dX8_go_122 : decode cX8_go 122 = .ok (.istore 5, 2) := by decide +kernel
theorem dX8_go_124 : decode cX8_go 124 = .ok (.aload_n 0, 1) := by decide +kernel
theorem dX8_go_125 : decode cX8_go 125 = .ok (.getfield 34, 3) := by decide +kernel
theorem dX8_go_128 : decode cX8_go 128 = .ok (.aload_n 0, 1) := by decide +kernel
theorem dX8_go_129 : decode cX8_go 129 = .ok (.getfield 22, 3) := by decide +kernel
theorem dX8_go_132 : decode cX8_go 132 = .ok (.iload_n 1, 1) := by decide +kernel
theorem dX8_go_133 : decode cX8_go 133 = .ok (.iaload, 1) := by decide +kernel
theorem dX8_go_134 : decode cX8_go 134 = .ok (.iload 5, 2) := by decide +kernel
theorem dX8_go_136 : decode cX8_go 136 = .ok (.iastore, 1) := by decide +kernel
theorem dX8_go_137 : decode cX8_go 137 = .ok (.return_, 1) := by decide +kernel
theorem dX8_goDay_0 : decode cX8_goDay 0 = .ok (.aload_n 0, 1) := by decide +kernel
theorem dX8_goDay_1 : decode cX8_goDay 1 = .ok (.invokevirtual 157, 3) := by decide +kernel
theorem dX8_goDay_4 : decode cX8_goDay 4 = .ok (.aload_n 0, 1) := by decide +kernel
theorem dX8_goDay_5 : decode cX8_goDay 5 = .ok (.iconst 0, 1) := by decide +kernel
theorem dX8_goDay_6 : decode cX8_goDay 6 = .ok (.putfield 150, 3) := by decide +kernel
theorem dX8_goDay_9 : decode cX8_goDay 9 = .ok (.iconst 0, 1) := by decide +kernel
theorem dX8_goDay_10 : decode cX8_goDay 10 = .ok (.istore 4, 2) := by decide +kernel
theorem dX8_goDay_12 : decode cX8_goDay 12 = .ok (.iload 4, 2) := by decide +kernel
theorem dX8_goDay_14 : decode cX8_goDay 14 = .ok (.aload_n 0, 1) := by decide +kernel
theorem dX8_goDay_15 : decode cX8_goDay 15 = .ok (.getfield 138, 3) := by decide +kernel
theorem dX8_goDay_18 : decode cX8_goDay 18 = .ok (.if_icmp .ge 42, 3) := by decide +kernel
theorem dX8_goDay_21 : decode cX8_goDay 21 = .ok (.aload_n 0, 1) := by decide +kernel
theorem dX8_goDay_22 : decode cX8_goDay 22 = .ok (.iload 4, 2) := by decide +kernel
theorem dX8_goDay_24 : decode cX8_goDay 24 = .ok (.iload_n 1, 1) := by decide +kernel
theorem dX8_goDay_25 : decode cX8_goDay 25 = .ok (.iconst 1, 1) := by decide +kernel
theorem dX8_goDay_26 : decode cX8_goDay 26 = .ok (.iload_n 2, 1) := by decide +kernel
theorem dX8_goDay_27 : decode cX8_goDay 27 = .ok (.ifCond .ge 13, 3) := by decide +kernel
theorem dX8_goDay_30 : decode cX8_goDay 30 = .ok (.aload_n 0, 1) := by decide +kernel
theorem dX8_goDay_31 : decode cX8_goDay 31 = .ok (.getfield 25, 3) := by decide +kernel
theorem dX8_goDay_34 : decode cX8_goDay 34 = .ok (.iload 4, 2) := by decide +kernel
theorem dX8_goDay_36 : decode cX8_goDay 36 = .ok (.iaload, 1) := by decide +kernel
theorem dX8_goDay_37 : decode cX8_goDay 37 = .ok (.goto 14, 3) := by decide +kernel
theorem dX8_goDay_40 : decode cX8_goDay 40 = .ok (.iload 4, 2) := by decide +kernel
theorem dX8_goDay_42 : decode cX8_goDay 42 = .ok (.iload_n 2, 1) := by decide +kernel
theorem dX8_goDay_43 : decode cX8_goDay 43 = .ok (.if_icmp .ne 7, 3) := by decide +kernel
theorem dX8_goDay_46 : decode cX8_goDay 46 = .ok (.iload_n 3, 1) := by decide +kernel
theorem dX8_goDay_47 : decode cX8_goDay 47 = .ok (.goto 4, 3) := by decide +kernel
theorem dX8_goDay_50 : decode cX8_goDay 50 = .ok (.iconst 0, 1) := by decide +kernel
theorem dX8_goDay_51 : decode cX8_goDay 51 = .ok (.invokevirtual 160, 3) := by decide +kernel
theorem dX8_goDay_54 : decode cX8_goDay 54 = .ok (.iinc 4 1, 3) := by decide +kernel
theorem dX8_goDay_57 : decode cX8_goDay 57 = .ok (.goto (-45), 3) := by decide +kernel
theorem dX8_goDay_60 : decode cX8_goDay 60 = .ok (.return_, 1) := by decide +kernel
theorem dX8_part_0 : decode cX8_part 0 = .ok (.iload_n 1, 1) := by decide +kernel
theorem dX8_part_1 : decode cX8_part 1 = .ok (.i2l, 1) := by decide +kernel
theorem dX8_part_2 : decode cX8_part 2 = .ok (.lconst 0, 1) := by decide +kernel
theorem dX8_part_3 : decode cX8_part 3 = .ok (.aload_n 0, 1) := by decide +kernel
theorem dX8_part_4 : decode cX8_part 4 = .ok (.getfield 138, 3) := by decide +kernel
theorem dX8_part_7 : decode cX8_part 7 = .ok (.iconst 1, 1) := by decide +kernel
theorem dX8_part_8 : decode cX8_part 8 = .ok (.isub, 1) := by decide +kernel
theorem dX8_part_9 : decode cX8_part 9 = .ok (.i2l, 1) := by decide +kernel
theorem dX8_part_10 : decode cX8_part 10 = .ok (.invokestatic 72, 3) := by decide +kernel
theorem dX8_part_13 : decode cX8_part 13 = .ok (.ifCond .ne 5, 3) := by decide +kernel
theorem dX8_part_16 : decode cX8_part 16 = .ok (.iconst (-1), 1) := by decide +kernel
theorem dX8_part_17 : decode cX8_part 17 = .ok (.ireturn, 1) := by decide +kernel
theorem dX8_part_18 : decode cX8_part 18 = .ok (.iload_n 2, 1) := by decide +kernel
theorem dX8_part_19 : decode cX8_part 19 = .ok (.tableswitch 76 0 3 #[29, 36, 43, 50], 29) := by decide +kernel
theorem dX8_part_48 : decode cX8_part 48 = .ok (.aload_n 0, 1) := by decide +kernel
theorem dX8_part_49 : decode cX8_part 49 = .ok (.getfield 19, 3) := by decide +kernel
theorem dX8_part_52 : decode cX8_part 52 = .ok (.iload_n 1, 1) := by decide +kernel
theorem dX8_part_53 : decode cX8_part 53 = .ok (.iaload, 1) := by decide +kernel
theorem dX8_part_54 : decode cX8_part 54 = .ok (.ireturn, 1) := by decide +kernel
theorem dX8_part_55 : decode cX8_part 55 = .ok (.aload_n 0, 1) := by decide +kernel
theorem dX8_part_56 : decode cX8_part 56 = .ok (.getfield 22, 3) := by decide +kernel
theorem dX8_part_59 : decode cX8_part 59 = .ok (.iload_n 1, 1) := by decide +kernel
theorem dX8_part_60 : decode cX8_part 60 = .ok (.iaload, 1) := by decide +kernel
theorem dX8_part_61 : decode cX8_part 61 = .ok (.ireturn, 1) := by decide +kernel
theorem dX8_part_62 : decode cX8_part 62 = .ok (.aload_n 0, 1) := by decide +kernel
theorem dX8_part_63 : decode cX8_part 63 = .ok (.getfield 25, 3) := by decide +kernel
theorem dX8_part_66 : decode cX8_part 66 = .ok (.iload_n 1, 1) := by decide +kernel
theorem dX8_part_67 : decode cX8_part 67 = .ok (.iaload, 1) := by decide +kernel
theorem dX8_part_68 : decode cX8_part 68 = .ok (.ireturn, 1) := by decide +kernel
theorem dX8_part_69 : decode cX8_part 69 = .ok (.aload_n 0, 1) := by decide +kernel
theorem dX8_part_70 : decode cX8_part 70 = .ok (.aload_n 0, 1) := by decide +kernel
theorem dX8_part_71 : decode cX8_part 71 = .ok (.getfield 147, 3) := by decide +kernel
theorem dX8_part_74 : decode cX8_part 74 = .ok (.bipush (-6), 2) := by decide +kernel
theorem dX8_part_76 : decode cX8_part 76 = .ok (.iconst 0, 1) := by decide +kernel
theorem dX8_part_77 : decode cX8_part 77 = .ok (.invokevirtual 164, 3) := by decide +kernel
theorem dX8_part_80 : decode cX8_part 80 = .ok (.aload_n 0, 1) := by decide +kernel
theorem dX8_part_81 : decode cX8_part 81 = .ok (.getfield 37, 3) := by decide +kernel
theorem dX8_part_84 : decode cX8_part 84 = .ok (.iload_n 1, 1) := by decide +kernel
theorem dX8_part_85 : decode cX8_part 85 = .ok (.baload, 1) := by decide +kernel
theorem dX8_part_86 : decode cX8_part 86 = .ok (.ifCond .eq 7, 3) := by decide +kernel
theorem dX8_part_89 : decode cX8_part 89 = .ok (.iconst 1, 1) := by decide +kernel
theorem dX8_part_90 : decode cX8_part 90 = .ok (.goto 4, 3) := by decide +kernel
theorem dX8_part_93 : decode cX8_part 93 = .ok (.iconst 0, 1) := by decide +kernel
theorem dX8_part_94 : decode cX8_part 94 = .ok (.ireturn, 1) := by decide +kernel
theorem dX8_part_95 : decode cX8_part 95 = .ok (.bipush (-2), 2) := by decide +kernel
theorem dX8_part_97 : decode cX8_part 97 = .ok (.ireturn, 1) := by decide +kernel
theorem dX8_says_0 : decode cX8_says 0 = .ok (.iload_n 1, 1) := by decide +kernel
theorem dX8_says_1 : decode cX8_says 1 = .ok (.invokestatic 103, 3) := by decide +kernel
theorem dX8_says_4 : decode cX8_says 4 = .ok (.ifCond .ne 5, 3) := by decide +kernel
theorem dX8_says_7 : decode cX8_says 7 = .ok (.iconst (-1), 1) := by decide +kernel
theorem dX8_says_8 : decode cX8_says 8 = .ok (.ireturn, 1) := by decide +kernel
theorem dX8_says_9 : decode cX8_says 9 = .ok (.aload_n 0, 1) := by decide +kernel
theorem dX8_says_10 : decode cX8_says 10 = .ok (.aload_n 0, 1) := by decide +kernel
theorem dX8_says_11 : decode cX8_says 11 = .ok (.getfield 147, 3) := by decide +kernel
theorem dX8_says_14 : decode cX8_says 14 = .ok (.bipush (-6), 2) := by decide +kernel
theorem dX8_says_16 : decode cX8_says 16 = .ok (.iconst 0, 1) := by decide +kernel
theorem dX8_says_17 : decode cX8_says 17 = .ok (.invokevirtual 164, 3) := by decide +kernel
theorem dX8_says_20 : decode cX8_says 20 = .ok (.aload_n 0, 1) := by decide +kernel
theorem dX8_says_21 : decode cX8_says 21 = .ok (.aload_n 0, 1) := by decide +kernel
theorem dX8_says_22 : decode cX8_says 22 = .ok (.getfield 34, 3) := by decide +kernel
theorem dX8_says_25 : decode cX8_says 25 = .ok (.iload_n 1, 1) := by decide +kernel
theorem dX8_says_26 : decode cX8_says 26 = .ok (.iaload, 1) := by decide +kernel
theorem dX8_says_27 : decode cX8_says 27 = .ok (.iload_n 2, 1) := by decide +kernel
theorem dX8_says_28 : decode cX8_says 28 = .ok (.invokevirtual 168, 3) := by decide +kernel
theorem dX8_says_31 : decode cX8_says 31 = .ok (.ireturn, 1) := by decide +kernel
theorem dX8_testify_0 : decode cX8_testify 0 = .ok (.iload_n 1, 1) := by decide +kernel
theorem dX8_testify_1 : decode cX8_testify 1 = .ok (.invokestatic 103, 3) := by decide +kernel
theorem dX8_testify_4 : decode cX8_testify 4 = .ok (.ifCond .ne 5, 3) := by decide +kernel
theorem dX8_testify_7 : decode cX8_testify 7 = .ok (.iconst (-1), 1) := by decide +kernel
theorem dX8_testify_8 : decode cX8_testify 8 = .ok (.ireturn, 1) := by decide +kernel
theorem dX8_testify_9 : decode cX8_testify 9 = .ok (.aload_n 0, 1) := by decide +kernel
theorem dX8_testify_10 : decode cX8_testify 10 = .ok (.invokevirtual 135, 3) := by decide +kernel
theorem dX8_testify_13 : decode cX8_testify 13 = .ok (.ifCond .lt 6, 3) := by decide +kernel
theorem dX8_testify_16 : decode cX8_testify 16 = .ok (.bipush (-5), 2) := by decide +kernel
theorem dX8_testify_18 : decode cX8_testify 18 = .ok (.ireturn, 1) := by decide +kernel
theorem dX8_testify_19 : decode cX8_testify 19 = .ok (.aload_n 0, 1) := by decide +kernel
theorem dX8_testify_20 : decode cX8_testify 20 = .ok (.getfield 28, 3) := by decide +kernel
theorem dX8_testify_23 : decode cX8_testify 23 = .ok (.iload_n 1, 1) := by decide +kernel
theorem dX8_testify_24 : decode cX8_testify 24 = .ok (.aload_n 0, 1) := by decide +kernel
theorem dX8_testify_25 : decode cX8_testify 25 = .ok (.invokevirtual 141, 3) := by decide +kernel
theorem dX8_testify_28 : decode cX8_testify 28 = .ok (.iastore, 1) := by decide +kernel
theorem dX8_testify_29 : decode cX8_testify 29 = .ok (.aload_n 0, 1) := by decide +kernel
theorem dX8_testify_30 : decode cX8_testify 30 = .ok (.iconst 0, 1) := by decide +kernel
theorem dX8_testify_31 : decode cX8_testify 31 = .ok (.putfield 113, 3) := by decide +kernel
theorem dX8_testify_34 : decode cX8_testify 34 = .ok (.aload_n 0, 1) := by decide +kernel
theorem dX8_testify_35 : decode cX8_testify 35 = .ok (.getfield 28, 3) := by decide +kernel
theorem dX8_testify_38 : decode cX8_testify 38 = .ok (.iload_n 1, 1) := by decide +kernel
theorem dX8_testify_39 : decode cX8_testify 39 = .ok (.iaload, 1) := by decide +kernel
theorem dX8_testify_40 : decode cX8_testify 40 = .ok (.invokestatic 80, 3) := by decide +kernel
theorem dX8_testify_43 : decode cX8_testify 43 = .ok (.ireturn, 1) := by decide +kernel
theorem dX8_unsay_0 : decode cX8_unsay 0 = .ok (.iload_n 1, 1) := by decide +kernel
theorem dX8_unsay_1 : decode cX8_unsay 1 = .ok (.invokestatic 103, 3) := by decide +kernel
theorem dX8_unsay_4 : decode cX8_unsay 4 = .ok (.ifCond .ne 5, 3) := by decide +kernel
theorem dX8_unsay_7 : decode cX8_unsay 7 = .ok (.iconst (-1), 1) := by decide +kernel
theorem dX8_unsay_8 : decode cX8_unsay 8 = .ok (.ireturn, 1) := by decide +kernel
theorem dX8_unsay_9 : decode cX8_unsay 9 = .ok (.aload_n 0, 1) := by decide +kernel
theorem dX8_unsay_10 : decode cX8_unsay 10 = .ok (.getfield 28, 3) := by decide +kernel
theorem dX8_unsay_13 : decode cX8_unsay 13 = .ok (.iload_n 1, 1) := by decide +kernel
theorem dX8_unsay_14 : decode cX8_unsay 14 = .ok (.iaload, 1) := by decide +kernel
theorem dX8_unsay_15 : decode cX8_unsay 15 = .ok (.ifCond .ge 7, 3) := by decide +kernel
theorem dX8_unsay_18 : decode cX8_unsay 18 = .ok (.iconst 0, 1) := by decide +kernel
theorem dX8_unsay_19 : decode cX8_unsay 19 = .ok (.goto 4, 3) := by decide +kernel
theorem dX8_unsay_22 : decode cX8_unsay 22 = .ok (.iconst 1, 1) := by decide +kernel
theorem dX8_unsay_23 : decode cX8_unsay 23 = .ok (.istore_n 2, 1) := by decide +kernel
theorem dX8_unsay_24 : decode cX8_unsay 24 = .ok (.aload_n 0, 1) := by decide +kernel
theorem dX8_unsay_25 : decode cX8_unsay 25 = .ok (.getfield 28, 3) := by decide +kernel
theorem dX8_unsay_28 : decode cX8_unsay 28 = .ok (.iload_n 1, 1) := by decide +kernel
theorem dX8_unsay_29 : decode cX8_unsay 29 = .ok (.bipush (-6), 2) := by decide +kernel
theorem dX8_unsay_31 : decode cX8_unsay 31 = .ok (.iastore, 1) := by decide +kernel
theorem dX8_unsay_32 : decode cX8_unsay 32 = .ok (.iload_n 2, 1) := by decide +kernel
theorem dX8_unsay_33 : decode cX8_unsay 33 = .ok (.ireturn, 1) := by decide +kernel
theorem dX8_at_0 : decode cX8_at 0 = .ok (.sipush 364, 3) := by decide +kernel
theorem dX8_at_3 : decode cX8_at 3 = .ok (.iload_n 0, 1) := by decide +kernel
theorem dX8_at_4 : decode cX8_at 4 = .ok (.imul, 1) := by decide +kernel
theorem dX8_at_5 : decode cX8_at 5 = .ok (.iload_n 1, 1) := by decide +kernel
theorem dX8_at_6 : decode cX8_at 6 = .ok (.iadd, 1) := by decide +kernel
theorem dX8_at_7 : decode cX8_at 7 = .ok (.ireturn, 1) := by decide +kernel
theorem dX8_sourceOf_0 : decode cX8_sourceOf 0 = .ok (.iload_n 1, 1) := by decide +kernel
theorem dX8_sourceOf_1 : decode cX8_sourceOf 1 = .ok (.iconst 1, 1) := by decide +kernel
theorem dX8_sourceOf_2 : decode cX8_sourceOf 2 = .ok (.isub, 1) := by decide +kernel
theorem dX8_sourceOf_3 : decode cX8_sourceOf 3 = .ok (.istore_n 2, 1) := by decide +kernel
theorem dX8_sourceOf_4 : decode cX8_sourceOf 4 = .ok (.iload_n 2, 1) := by decide +kernel
theorem dX8_sourceOf_5 : decode cX8_sourceOf 5 = .ok (.ifCond .lt 46, 3) := by decide +kernel
theorem dX8_sourceOf_8 : decode cX8_sourceOf 8 = .ok (.aload_n 0, 1) := by decide +kernel
theorem dX8_sourceOf_9 : decode cX8_sourceOf 9 = .ok (.getfield 19, 3) := by decide +kernel
theorem dX8_sourceOf_12 : decode cX8_sourceOf 12 = .ok (.iload_n 1, 1) := by decide +kernel
theorem dX8_sourceOf_13 : decode cX8_sourceOf 13 = .ok (.iaload, 1) := by decide +kernel
theorem dX8_sourceOf_14 : decode cX8_sourceOf 14 = .ok (.bipush 6, 2) := by decide +kernel
theorem dX8_sourceOf_16 : decode cX8_sourceOf 16 = .ok (.if_icmp .eq 35, 3) := by decide +kernel
theorem dX8_sourceOf_19 : decode cX8_sourceOf 19 = .ok (.aload_n 0, 1) := by decide +kernel
theorem dX8_sourceOf_20 : decode cX8_sourceOf 20 = .ok (.getfield 37, 3) := by decide +kernel
theorem dX8_sourceOf_23 : decode cX8_sourceOf 23 = .ok (.iload_n 2, 1) := by decide +kernel
theorem dX8_sourceOf_24 : decode cX8_sourceOf 24 = .ok (.baload, 1) := by decide +kernel
theorem dX8_sourceOf_25 : decode cX8_sourceOf 25 = .ok (.ifCond .eq 20, 3) := by decide +kernel
theorem dX8_sourceOf_28 : decode cX8_sourceOf 28 = .ok (.aload_n 0, 1) := by decide +kernel
theorem dX8_sourceOf_29 : decode cX8_sourceOf 29 = .ok (.getfield 22, 3) := by decide +kernel
theorem dX8_sourceOf_32 : decode cX8_sourceOf 32 = .ok (.iload_n 2, 1) := by decide +kernel
theorem dX8_sourceOf_33 : decode cX8_sourceOf 33 = .ok (.iaload, 1) := by decide +kernel
theorem dX8_sourceOf_34 : decode cX8_sourceOf 34 = .ok (.aload_n 0, 1) := by decide +kernel
theorem dX8_sourceOf_35 : decode cX8_sourceOf 35 = .ok (.getfield 19, 3) := by decide +kernel
theorem dX8_sourceOf_38 : decode cX8_sourceOf 38 = .ok (.iload_n 1, 1) := by decide +kernel
theorem dX8_sourceOf_39 : decode cX8_sourceOf 39 = .ok (.iaload, 1) := by decide +kernel
theorem dX8_sourceOf_40 : decode cX8_sourceOf 40 = .ok (.if_icmp .ne 5, 3) := by decide +kernel
theorem dX8_sourceOf_43 : decode cX8_sourceOf 43 = .ok (.iload_n 2, 1) := by decide +kernel
theorem dX8_sourceOf_44 : decode cX8_sourceOf 44 = .ok (.ireturn, 1) := by decide +kernel
theorem dX8_sourceOf_45 : decode cX8_sourceOf 45 = .ok (.iinc 2 (-1), 3) := by decide +kernel
theorem dX8_sourceOf_48 : decode cX8_sourceOf 48 = .ok (.goto (-44), 3) := by decide +kernel
theorem dX8_sourceOf_51 : decode cX8_sourceOf 51 = .ok (.bipush 16, 2) := by decide +kernel
theorem dX8_sourceOf_53 : decode cX8_sourceOf 53 = .ok (.ireturn, 1) := by decide +kernel
theorem dX8_isLast_0 : decode cX8_isLast 0 = .ok (.iconst 1, 1) := by decide +kernel
theorem dX8_isLast_1 : decode cX8_isLast 1 = .ok (.istore_n 2, 1) := by decide +kernel
theorem dX8_isLast_2 : decode cX8_isLast 2 = .ok (.iload_n 1, 1) := by decide +kernel
theorem dX8_isLast_3 : decode cX8_isLast 3 = .ok (.iconst 1, 1) := by decide +kernel
theorem dX8_isLast_4 : decode cX8_isLast 4 = .ok (.iadd, 1) := by decide +kernel
theorem dX8_isLast_5 : decode cX8_isLast 5 = .ok (.istore_n 3, 1) := by decide +kernel
theorem dX8_isLast_6 : decode cX8_isLast 6 = .ok (.iload_n 3, 1) := by decide +kernel
theorem dX8_isLast_7 : decode cX8_isLast 7 = .ok (.aload_n 0, 1) := by decide +kernel
theorem dX8_isLast_8 : decode cX8_isLast 8 = .ok (.getfield 138, 3) := by decide +kernel
theorem dX8_isLast_11 : decode cX8_isLast 11 = .ok (.if_icmp .ge 43, 3) := by decide +kernel
theorem dX8_isLast_14 : decode cX8_isLast 14 = .ok (.iload_n 2, 1) := by decide +kernel
theorem dX8_isLast_15 : decode cX8_isLast 15 = .ok (.ifCond .eq 31, 3) := by decide +kernel
theorem dX8_isLast_18 : decode cX8_isLast 18 = .ok (.aload_n 0, 1) := by decide +kernel
theorem dX8_isLast_19 : decode cX8_isLast 19 = .ok (.getfield 37, 3) := by decide +kernel
theorem dX8_isLast_22 : decode cX8_isLast 22 = .ok (.iload_n 3, 1) := by decide +kernel
theorem dX8_isLast_23 : decode cX8_isLast 23 = .ok (.baload, 1) := by decide +kernel
theorem dX8_isLast_24 : decode cX8_isLast 24 = .ok (.ifCond .eq 18, 3) := by decide +kernel
theorem dX8_isLast_27 : decode cX8_isLast 27 = .ok (.aload_n 0, 1) := by decide +kernel
theorem dX8_isLast_28 : decode cX8_isLast 28 = .ok (.getfield 22, 3) := by decide +kernel
theorem dX8_isLast_31 : decode cX8_isLast 31 = .ok (.iload_n 3, 1) := by decide +kernel
theorem dX8_isLast_32 : decode cX8_isLast 32 = .ok (.iaload, 1) := by decide +kernel
theorem dX8_isLast_33 : decode cX8_isLast 33 = .ok (.aload_n 0, 1) := by decide +kernel
theorem dX8_isLast_34 : decode cX8_isLast 34 = .ok (.getfield 22, 3) := by decide +kernel
theorem dX8_isLast_37 : decode cX8_isLast 37 = .ok (.iload_n 1, 1) := by decide +kernel
theorem dX8_isLast_38 : decode cX8_isLast 38 = .ok (.iaload, 1) := by decide +kernel
theorem dX8_isLast_39 : decode cX8_isLast 39 = .ok (.if_icmp .eq 7, 3) := by decide +kernel
theorem dX8_isLast_42 : decode cX8_isLast 42 = .ok (.iconst 1, 1) := by decide +kernel
theorem dX8_isLast_43 : decode cX8_isLast 43 = .ok (.goto 4, 3) := by decide +kernel
theorem dX8_isLast_46 : decode cX8_isLast 46 = .ok (.iconst 0, 1) := by decide +kernel
theorem dX8_isLast_47 : decode cX8_isLast 47 = .ok (.istore_n 2, 1) := by decide +kernel
theorem dX8_isLast_48 : decode cX8_isLast 48 = .ok (.iinc 3 1, 3) := by decide +kernel
theorem dX8_isLast_51 : decode cX8_isLast 51 = .ok (.goto (-45), 3) := by decide +kernel
theorem dX8_isLast_54 : decode cX8_isLast 54 = .ok (.iload_n 2, 1) := by decide +kernel
theorem dX8_isLast_55 : decode cX8_isLast 55 = .ok (.ireturn, 1) := by decide +kernel
theorem dX8_hang_0 : decode cX8_hang 0 = .ok (.aload_n 0, 1) := by decide +kernel
theorem dX8_hang_1 : decode cX8_hang 1 = .ok (.iload_n 1, 1) := by decide +kernel
theorem dX8_hang_2 : decode cX8_hang 2 = .ok (.invokevirtual 172, 3) := by decide +kernel
theorem dX8_hang_5 : decode cX8_hang 5 = .ok (.istore_n 2, 1) := by decide +kernel
theorem dX8_hang_6 : decode cX8_hang 6 = .ok (.iconst 0, 1) := by decide +kernel
theorem dX8_hang_7 : decode cX8_hang 7 = .ok (.istore_n 3, 1) := by decide +kernel
theorem dX8_hang_8 : decode cX8_hang 8 = .ok (.iload_n 3, 1) := by decide +kernel
theorem dX8_hang_9 : decode cX8_hang 9 = .ok (.sipush 364, 3) := by decide +kernel
theorem dX8_hang_12 : decode cX8_hang 12 = .ok (.if_icmp .ge 245, 3) := by decide +kernel
theorem dX8_hang_15 : decode cX8_hang 15 = .ok (.aload_n 0, 1) := by decide +kernel
theorem dX8_hang_16 : decode cX8_hang 16 = .ok (.getfield 41, 3) := by decide +kernel
theorem dX8_hang_19 : decode cX8_hang 19 = .ok (.iload_n 1, 1) := by decide +kernel
theorem dX8_hang_20 : decode cX8_hang 20 = .ok (.iload_n 3, 1) := by decide +kernel
theorem dX8_hang_21 : decode cX8_hang 21 = .ok (.invokestatic 175, 3) := by decide +kernel
theorem dX8_hang_24 : decode cX8_hang 24 = .ok (.iaload, 1) := by decide +kernel
theorem dX8_hang_25 : decode cX8_hang 25 = .ok (.istore 4, 2) := by decide +kernel
theorem dX8_hang_27 : decode cX8_hang 27 = .ok (.aload_n 0, 1) := by decide +kernel
theorem dX8_hang_28 : decode cX8_hang 28 = .ok (.getfield 44, 3) := by decide +kernel
theorem dX8_hang_31 : decode cX8_hang 31 = .ok (.iload_n 1, 1) := by decide +kernel
theorem dX8_hang_32 : decode cX8_hang 32 = .ok (.iload_n 3, 1) := by decide +kernel
theorem dX8_hang_33 : decode cX8_hang 33 = .ok (.invokestatic 175, 3) := by decide +kernel
theorem dX8_hang_36 : decode cX8_hang 36 = .ok (.laload, 1) := by decide +kernel
theorem dX8_hang_37 : decode cX8_hang 37 = .ok (.lstore 5, 2) := by decide +kernel
theorem dX8_hang_39 : decode cX8_hang 39 = .ok (.aload_n 0, 1) := by decide +kernel
theorem dX8_hang_40 : decode cX8_hang 40 = .ok (.aload_n 0, 1) := by decide +kernel
theorem dX8_hang_41 : decode cX8_hang 41 = .ok (.getfield 16, 3) := by decide +kernel
theorem dX8_hang_44 : decode cX8_hang 44 = .ok (.aload_n 0, 1) := by decide +kernel
theorem dX8_hang_45 : decode cX8_hang 45 = .ok (.getfield 22, 3) := by decide +kernel
theorem dX8_hang_48 : decode cX8_hang 48 = .ok (.iload_n 1, 1) := by decide +kernel
theorem dX8_hang_49 : decode cX8_hang 49 = .ok (.iaload, 1) := by decide +kernel
theorem dX8_hang_50 : decode cX8_hang 50 = .ok (.iaload, 1) := by decide +kernel
theorem dX8_hang_51 : decode cX8_hang 51 = .ok (.iload_n 3, 1) := by decide +kernel
theorem dX8_hang_52 : decode cX8_hang 52 = .ok (.invokevirtual 144, 3) := by decide +kernel
theorem dX8_hang_55 : decode cX8_hang 55 = .ok (.iconst 0, 1) := by decide +kernel
theorem dX8_hang_56 : decode cX8_hang 56 = .ok (.istore 7, 2) := by decide +kernel
theorem dX8_hang_58 : decode cX8_hang 58 = .ok (.iload 7, 2) := by decide +kernel
theorem dX8_hang_60 : decode cX8_hang 60 = .ok (.aload_n 0, 1) := by decide +kernel
theorem dX8_hang_61 : decode cX8_hang 61 = .ok (.getfield 90, 3) := by decide +kernel
theorem dX8_hang_64 : decode cX8_hang 64 = .ok (.if_icmp .ge 104, 3) := by decide +kernel
theorem dX8_hang_67 : decode cX8_hang 67 = .ok (.iconst 1, 1) := by decide +kernel
theorem dX8_hang_68 : decode cX8_hang 68 = .ok (.aload_n 0, 1) := by decide +kernel
theorem dX8_hang_69 : decode cX8_hang 69 = .ok (.getfield 41, 3) := by decide +kernel
theorem dX8_hang_72 : decode cX8_hang 72 = .ok (.iload_n 1, 1) := by decide +kernel
theorem dX8_hang_73 : decode cX8_hang 73 = .ok (.aload_n 0, 1) := by decide +kernel
theorem dX8_hang_74 : decode cX8_hang 74 = .ok (.getfield 13, 3) := by decide +kernel
theorem dX8_hang_77 : decode cX8_hang 77 = .ok (.iload 7, 2) := by decide +kernel
theorem dX8_hang_79 : decode cX8_hang 79 = .ok (.iaload, 1) := by decide +kernel
theorem dX8_hang_80 : decode cX8_hang 80 = .ok (.invokestatic 175, 3) := by decide +kernel
theorem dX8_hang_83 : decode cX8_hang 83 = .ok (.iaload, 1) := by decide +kernel
theorem dX8_hang_84 : decode cX8_hang 84 = .ok (.iadd, 1) := by decide +kernel
theorem dX8_hang_85 : decode cX8_hang 85 = .ok (.istore 8, 2) := by decide +kernel
theorem dX8_hang_87 : decode cX8_hang 87 = .ok (.iload 8, 2) := by decide +kernel
theorem dX8_hang_89 : decode cX8_hang 89 = .ok (.iload 4, 2) := by decide +kernel
theorem dX8_hang_91 : decode cX8_hang 91 = .ok (.if_icmp .ge 22, 3) := by decide +kernel
theorem dX8_hang_94 : decode cX8_hang 94 = .ok (.aload_n 0, 1) := by decide +kernel
theorem dX8_hang_95 : decode cX8_hang 95 = .ok (.getfield 44, 3) := by decide +kernel
theorem dX8_hang_98 : decode cX8_hang 98 = .ok (.iload_n 1, 1) := by decide +kernel
theorem dX8_hang_99 : decode cX8_hang 99 = .ok (.aload_n 0, 1) := by decide +kernel
theorem dX8_hang_100 : decode cX8_hang 100 = .ok (.getfield 13, 3) := by decide +kernel
theorem dX8_hang_103 : decode cX8_hang 103 = .ok (.iload 7, 2) := by decide +kernel
theorem dX8_hang_105 : decode cX8_hang 105 = .ok (.iaload, 1) := by decide +kernel
theorem dX8_hang_106 : decode cX8_hang 106 = .ok (.invokestatic 175, 3) := by decide +kernel
theorem dX8_hang_109 : decode cX8_hang 109 = .ok (.laload, 1) := by decide +kernel
theorem dX8_hang_110 : decode cX8_hang 110 = .ok (.goto 34, 3) := by decide +kernel
theorem dX8_hang_113 : decode cX8_hang 113 = .ok (.iload 8, 2) := by decide +kernel
theorem dX8_hang_115 : decode cX8_hang 115 = .ok (.iload 4, 2) := by decide +kernel
theorem dX8_hang_117 : decode cX8_hang 117 = .ok (.if_icmp .ne 25, 3) := by decide +kernel
theorem dX8_hang_120 : decode cX8_hang 120 = .ok (.lload 5, 2) := by decide +kernel
theorem dX8_hang_122 : decode cX8_hang 122 = .ok (.aload_n 0, 1) := by decide +kernel
theorem dX8_hang_123 : decode cX8_hang 123 = .ok (.getfield 44, 3) := by decide +kernel
theorem dX8_hang_126 : decode cX8_hang 126 = .ok (.iload_n 1, 1) := by decide +kernel
theorem dX8_hang_127 : decode cX8_hang 127 = .ok (.aload_n 0, 1) := by decide +kernel
theorem dX8_hang_128 : decode cX8_hang 128 = .ok (.getfield 13, 3) := by decide +kernel
theorem dX8_hang_131 : decode cX8_hang 131 = .ok (.iload 7, 2) := by decide +kernel
theorem dX8_hang_133 : decode cX8_hang 133 = .ok (.iaload, 1) := by decide +kernel
theorem dX8_hang_134 : decode cX8_hang 134 = .ok (.invokestatic 175, 3) := by decide +kernel
theorem dX8_hang_137 : decode cX8_hang 137 = .ok (.laload, 1) := by decide +kernel
theorem dX8_hang_138 : decode cX8_hang 138 = .ok (.ladd, 1) := by decide +kernel
theorem dX8_hang_139 : decode cX8_hang 139 = .ok (.goto 5, 3) := by decide +kernel
theorem dX8_hang_142 : decode cX8_hang 142 = .ok (.lload 5, 2) := by decide +kernel
theorem dX8_hang_144 : decode cX8_hang 144 = .ok (.lstore 5, 2) := by decide +kernel
theorem dX8_hang_146 : decode cX8_hang 146 = .ok (.iload 8, 2) := by decide +kernel
theorem dX8_hang_148 : decode cX8_hang 148 = .ok (.iload 4, 2) := by decide +kernel
theorem dX8_hang_150 : decode cX8_hang 150 = .ok (.if_icmp .ge 8, 3) := by decide +kernel
theorem dX8_hang_153 : decode cX8_hang 153 = .ok (.iload 8, 2) := by decide +kernel
theorem dX8_hang_155 : decode cX8_hang 155 = .ok (.goto 5, 3) := by decide +kernel
theorem dX8_hang_158 : decode cX8_hang 158 = .ok (.iload 4, 2) := by decide +kernel
theorem dX8_hang_160 : decode cX8_hang 160 = .ok (.istore 4, 2) := by decide +kernel
theorem dX8_hang_162 : decode cX8_hang 162 = .ok (.iinc 7 1, 3) := by decide +kernel
theorem dX8_hang_165 : decode cX8_hang 165 = .ok (.goto (-107), 3) := by decide +kernel
theorem dX8_hang_168 : decode cX8_hang 168 = .ok (.aload_n 0, 1) := by decide +kernel
theorem dX8_hang_169 : decode cX8_hang 169 = .ok (.getfield 41, 3) := by decide +kernel
theorem dX8_hang_172 : decode cX8_hang 172 = .ok (.iload_n 2, 1) := by decide +kernel
theorem dX8_hang_173 : decode cX8_hang 173 = .ok (.iload_n 3, 1) := by decide +kernel
theorem dX8_hang_174 : decode cX8_hang 174 = .ok (.invokestatic 175, 3) := by decide +kernel
theorem dX8_hang_177 : decode cX8_hang 177 = .ok (.aload_n 0, 1) := by decide +kernel
theorem dX8_hang_178 : decode cX8_hang 178 = .ok (.getfield 41, 3) := by decide +kernel
theorem dX8_hang_181 : decode cX8_hang 181 = .ok (.iload_n 2, 1) := by decide +kernel
theorem dX8_hang_182 : decode cX8_hang 182 = .ok (.iload_n 3, 1) := by decide +kernel
theorem dX8_hang_183 : decode cX8_hang 183 = .ok (.invokestatic 175, 3) := by decide +kernel
theorem dX8_hang_186 : decode cX8_hang 186 = .ok (.iaload, 1) := by decide +kernel
theorem dX8_hang_187 : decode cX8_hang 187 = .ok (.iload 4, 2) := by decide +kernel
theorem dX8_hang_189 : decode cX8_hang 189 = .ok (.iadd, 1) := by decide +kernel
theorem dX8_hang_190 : decode cX8_hang 190 = .ok (.sipush 1000, 3) := by decide +kernel
theorem dX8_hang_193 : decode cX8_hang 193 = .ok (.if_icmp .ge 19, 3) := by decide +kernel
theorem dX8_hang_196 : decode cX8_hang 196 = .ok (.aload_n 0, 1) := by decide +kernel
theorem dX8_hang_197 : decode cX8_hang 197 = .ok (.getfield 41, 3) := by decide +kernel
theorem dX8_hang_200 : decode cX8_hang 200 = .ok (.iload_n 2, 1) := by decide +kernel
theorem dX8_hang_201 : decode cX8_hang 201 = .ok (.iload_n 3, 1) := by decide +kernel
theorem dX8_hang_202 : decode cX8_hang 202 = .ok (.invokestatic 175, 3) := by decide +kernel
theorem dX8_hang_205 : decode cX8_hang 205 = .ok (.iaload, 1) := by decide +kernel
theorem dX8_hang_206 : decode cX8_hang 206 = .ok (.iload 4, 2) := by decide +kernel
theorem dX8_hang_208 : decode cX8_hang 208 = .ok (.iadd, 1) := by decide +kernel
theorem dX8_hang_209 : decode cX8_hang 209 = .ok (.goto 6, 3) := by decide +kernel
theorem dX8_hang_212 : decode cX8_hang 212 = .ok (.sipush 1000, 3) := by decide +kernel
theorem dX8_hang_215 : decode cX8_hang 215 = .ok (.iastore, 1) := by decide +kernel
theorem dX8_hang_216 : decode cX8_hang 216 = .ok (.aload_n 0, 1) := by decide +kernel
theorem dX8_hang_217 : decode cX8_hang 217 = .ok (.getfield 44, 3) := by decide +kernel
theorem dX8_hang_220 : decode cX8_hang 220 = .ok (.iload_n 2, 1) := by decide +kernel
theorem dX8_hang_221 : decode cX8_hang 221 = .ok (.iload_n 3, 1) := by decide +kernel
theorem dX8_hang_222 : decode cX8_hang 222 = .ok (.invokestatic 175, 3) := by decide +kernel
theorem dX8_hang_225 : decode cX8_hang 225 = .ok (.dup2, 1) := by decide +kernel
theorem dX8_hang_226 : decode cX8_hang 226 = .ok (.laload, 1) := by decide +kernel
theorem dX8_hang_227 : decode cX8_hang 227 = .ok (.aload_n 0, 1) := by decide +kernel
theorem dX8_hang_228 : decode cX8_hang 228 = .ok (.getfield 41, 3) := by decide +kernel
theorem dX8_hang_231 : decode cX8_hang 231 = .ok (.iload_n 2, 1) := by decide +kernel
theorem dX8_hang_232 : decode cX8_hang 232 = .ok (.iload_n 3, 1) := by decide +kernel
theorem dX8_hang_233 : decode cX8_hang 233 = .ok (.invokestatic 175, 3) := by decide +kernel
theorem dX8_hang_236 : decode cX8_hang 236 = .ok (.iaload, 1) := by decide +kernel
theorem dX8_hang_237 : decode cX8_hang 237 = .ok (.sipush 1000, 3) := by decide +kernel
theorem dX8_hang_240 : decode cX8_hang 240 = .ok (.if_icmp .ge 8, 3) := by decide +kernel
theorem dX8_hang_243 : decode cX8_hang 243 = .ok (.lload 5, 2) := by decide +kernel
theorem dX8_hang_245 : decode cX8_hang 245 = .ok (.goto 4, 3) := by decide +kernel
theorem dX8_hang_248 : decode cX8_hang 248 = .ok (.lconst 0, 1) := by decide +kernel
theorem dX8_hang_249 : decode cX8_hang 249 = .ok (.lmul, 1) := by decide +kernel
theorem dX8_hang_250 : decode cX8_hang 250 = .ok (.lastore, 1) := by decide +kernel
theorem dX8_hang_251 : decode cX8_hang 251 = .ok (.iinc 3 1, 3) := by decide +kernel
theorem dX8_hang_254 : decode cX8_hang 254 = .ok (.goto (-246), 3) := by decide +kernel
theorem dX8_hang_257 : decode cX8_hang 257 = .ok (.return_, 1) := by decide +kernel
theorem dX8_findCosts_0 : decode cX8_findCosts 0 = .ok (.aload_n 0, 1) := by decide +kernel
theorem dX8_findCosts_1 : decode cX8_findCosts 1 = .ok (.aload_n 0, 1) := by decide +kernel
theorem dX8_findCosts_2 : decode cX8_findCosts 2 = .ok (.getfield 147, 3) := by decide +kernel
theorem dX8_findCosts_5 : decode cX8_findCosts 5 = .ok (.bipush (-6), 2) := by decide +kernel
theorem dX8_findCosts_7 : decode cX8_findCosts 7 = .ok (.iconst 0, 1) := by decide +kernel
theorem dX8_findCosts_8 : decode cX8_findCosts 8 = .ok (.invokevirtual 164, 3) := by decide +kernel
theorem dX8_findCosts_11 : decode cX8_findCosts 11 = .ok (.iconst 1, 1) := by decide +kernel
theorem dX8_findCosts_12 : decode cX8_findCosts 12 = .ok (.istore_n 2, 1) := by decide +kernel
theorem dX8_findCosts_13 : decode cX8_findCosts 13 = .ok (.iconst 0, 1) := by decide +kernel
theorem dX8_findCosts_14 : decode cX8_findCosts 14 = .ok (.istore_n 3, 1) := by decide +kernel
theorem dX8_findCosts_15 : decode cX8_findCosts 15 = .ok (.iload_n 3, 1) := by decide +kernel
theorem dX8_findCosts_16 : decode cX8_findCosts 16 = .ok (.bipush 6, 2) := by decide +kernel
theorem dX8_findCosts_18 : decode cX8_findCosts 18 = .ok (.if_icmp .ge 42, 3) := by decide +kernel
theorem dX8_findCosts_21 : decode cX8_findCosts 21 = .ok (.iload_n 2, 1) := by decide +kernel
theorem dX8_findCosts_22 : decode cX8_findCosts 22 = .ok (.ifCond .eq 30, 3) := by decide +kernel
theorem dX8_findCosts_25 : decode cX8_findCosts 25 = .ok (.aload_n 0, 1) := by decide +kernel
theorem dX8_findCosts_26 : decode cX8_findCosts 26 = .ok (.getfield 28, 3) := by decide +kernel
theorem dX8_findCosts_29 : decode cX8_findCosts 29 = .ok (.iload_n 3, 1) := by decide +kernel
theorem dX8_findCosts_30 : decode cX8_findCosts 30 = .ok (.iaload, 1) := by decide +kernel
theorem dX8_findCosts_31 : decode cX8_findCosts 31 = .ok (.ifCond .lt 17, 3) := by decide +kernel
theorem dX8_findCosts_34 : decode cX8_findCosts 34 = .ok (.iload_n 3, 1) := by decide +kernel
theorem dX8_findCosts_35 : decode cX8_findCosts 35 = .ok (.iload_n 1, 1) := by decide +kernel
theorem dX8_findCosts_36 : decode cX8_findCosts 36 = .ok (.if_icmp .eq 12, 3) := by decide +kernel
theorem dX8_findCosts_39 : decode cX8_findCosts 39 = .ok (.aload_n 0, 1) := by decide +kernel
theorem dX8_findCosts_40 : decode cX8_findCosts 40 = .ok (.getfield 34, 3) := by decide +kernel
theorem dX8_findCosts_43 : decode cX8_findCosts 43 = .ok (.iload_n 3, 1) := by decide +kernel
theorem dX8_findCosts_44 : decode cX8_findCosts 44 = .ok (.iaload, 1) := by decide +kernel
theorem dX8_findCosts_45 : decode cX8_findCosts 45 = .ok (.ifCond .lt 7, 3) := by decide +kernel
theorem dX8_findCosts_48 : decode cX8_findCosts 48 = .ok (.iconst 1, 1) := by decide +kernel
theorem dX8_findCosts_49 : decode cX8_findCosts 49 = .ok (.goto 4, 3) := by decide +kernel
theorem dX8_findCosts_52 : decode cX8_findCosts 52 = .ok (.iconst 0, 1) := by decide +kernel
theorem dX8_findCosts_53 : decode cX8_findCosts 53 = .ok (.istore_n 2, 1) := by decide +kernel
theorem dX8_findCosts_54 : decode cX8_findCosts 54 = .ok (.iinc 3 1, 3) := by decide +kernel
theorem dX8_findCosts_57 : decode cX8_findCosts 57 = .ok (.goto (-42), 3) := by decide +kernel
theorem dX8_findCosts_60 : decode cX8_findCosts 60 = .ok (.iconst 0, 1) := by decide +kernel
theorem dX8_findCosts_61 : decode cX8_findCosts 61 = .ok (.istore_n 3, 1) := by decide +kernel
theorem dX8_findCosts_62 : decode cX8_findCosts 62 = .ok (.iload_n 3, 1) := by decide +kernel
theorem dX8_findCosts_63 : decode cX8_findCosts 63 = .ok (.bipush 16, 2) := by decide +kernel
theorem dX8_findCosts_65 : decode cX8_findCosts 65 = .ok (.if_icmp .gt 154, 3) := by decide +kernel
theorem dX8_findCosts_68 : decode cX8_findCosts 68 = .ok (.iconst 0, 1) := by decide +kernel
theorem dX8_findCosts_69 : decode cX8_findCosts 69 = .ok (.istore 4, 2) := by decide +kernel
theorem dX8_findCosts_71 : decode cX8_findCosts 71 = .ok (.iload 4, 2) := by decide +kernel
theorem dX8_findCosts_73 : decode cX8_findCosts 73 = .ok (.sipush 364, 3) := by decide +kernel
theorem dX8_findCosts_76 : decode cX8_findCosts 76 = .ok (.if_icmp .ge 137, 3) := by decide +kernel
theorem dX8_findCosts_79 : decode cX8_findCosts 79 = .ok (.iload_n 3, 1) := by decide +kernel
theorem dX8_findCosts_80 : decode cX8_findCosts 80 = .ok (.bipush 16, 2) := by decide +kernel
theorem dX8_findCosts_82 : decode cX8_findCosts 82 = .ok (.if_icmp .lt 7, 3) := by decide +kernel
theorem dX8_findCosts_85 : decode cX8_findCosts 85 = .ok (.iload_n 2, 1) := by decide +kernel
theorem dX8_findCosts_86 : decode cX8_findCosts 86 = .ok (.ifCond .eq 7, 3) := by decide +kernel
theorem dX8_findCosts_89 : decode cX8_findCosts 89 = .ok (.iconst 1, 1) := by decide +kernel
theorem dX8_findCosts_90 : decode cX8_findCosts 90 = .ok (.goto 4, 3) := by decide +kernel
theorem dX8_findCosts_93 : decode cX8_findCosts 93 = .ok (.iconst 0, 1) := by decide +kernel
theorem dX8_findCosts_94 : decode cX8_findCosts 94 = .ok (.istore 5, 2) := by decide +kernel
theorem dX8_findCosts_96 : decode cX8_findCosts 96 = .ok (.iload_n 3, 1) := by decide +kernel
theorem dX8_findCosts_97 : decode cX8_findCosts 97 = .ok (.aload_n 0, 1) := by decide +kernel
theorem dX8_findCosts_98 : decode cX8_findCosts 98 = .ok (.getfield 138, 3) := by decide +kernel
theorem dX8_findCosts_101 : decode cX8_findCosts 101 = .ok (.if_icmp .ge 62, 3) := by decide +kernel
theorem dX8_findCosts_104 : decode cX8_findCosts 104 = .ok (.aload_n 0, 1) := by decide +kernel
theorem dX8_findCosts_105 : decode cX8_findCosts 105 = .ok (.getfield 37, 3) := by decide +kernel
theorem dX8_findCosts_108 : decode cX8_findCosts 108 = .ok (.iload_n 3, 1) := by decide +kernel
theorem dX8_findCosts_109 : decode cX8_findCosts 109 = .ok (.baload, 1) := by decide +kernel
theorem dX8_findCosts_110 : decode cX8_findCosts 110 = .ok (.ifCond .eq 53, 3) := by decide +kernel
theorem dX8_findCosts_113 : decode cX8_findCosts 113 = .ok (.aload_n 0, 1) := by decide +kernel
theorem dX8_findCosts_114 : decode cX8_findCosts 114 = .ok (.iload_n 3, 1) := by decide +kernel
theorem dX8_findCosts_115 : decode cX8_findCosts 115 = .ok (.invokevirtual 178, 3) := by decide +kernel
theorem dX8_findCosts_118 : decode cX8_findCosts 118 = .ok (.ifCond .eq 45, 3) := by decide +kernel
theorem dX8_findCosts_121 : decode cX8_findCosts 121 = .ok (.aload_n 0, 1) := by decide +kernel
theorem dX8_findCosts_122 : decode cX8_findCosts 122 = .ok (.getfield 28, 3) := by decide +kernel
theorem dX8_findCosts_125 : decode cX8_findCosts 125 = .ok (.aload_n 0, 1) := by decide +kernel
theorem dX8_findCosts_126 : decode cX8_findCosts 126 = .ok (.getfield 22, 3) := by decide +kernel
theorem dX8_findCosts_129 : decode cX8_findCosts 129 = .ok (.iload_n 3, 1) := by decide +kernel
theorem dX8_findCosts_130 : decode cX8_findCosts 130 = .ok (.iaload, 1) := by decide +kernel
theorem dX8_findCosts_131 : decode cX8_findCosts 131 = .ok (.iaload, 1) := by decide +kernel
theorem dX8_findCosts_132 : decode cX8_findCosts 132 = .ok (.istore 6, 2) := by decide +kernel
theorem dX8_findCosts_134 : decode cX8_findCosts 134 = .ok (.iload 6, 2) := by decide +kernel
theorem dX8_findCosts_136 : decode cX8_findCosts 136 = .ok (.ifCond .lt 20, 3) := by decide +kernel
theorem dX8_findCosts_139 : decode cX8_findCosts 139 = .ok (.aload_n 0, 1) := by decide +kernel
theorem dX8_findCosts_140 : decode cX8_findCosts 140 = .ok (.getfield 22, 3) := by decide +kernel
theorem dX8_findCosts_143 : decode cX8_findCosts 143 = .ok (.iload_n 3, 1) := by decide +kernel
theorem dX8_findCosts_144 : decode cX8_findCosts 144 = .ok (.iaload, 1) := by decide +kernel
theorem dX8_findCosts_145 : decode cX8_findCosts 145 = .ok (.iload_n 1, 1) := by decide +kernel
theorem dX8_findCosts_146 : decode cX8_findCosts 146 = .ok (.if_icmp .eq 10, 3) := by decide +kernel
theorem dX8_findCosts_149 : decode cX8_findCosts 149 = .ok (.iload 6, 2) := by decide +kernel
theorem dX8_findCosts_151 : decode cX8_findCosts 151 = .ok (.iload 4, 2) := by decide +kernel
theorem dX8_findCosts_153 : decode cX8_findCosts 153 = .ok (.if_icmp .ne 7, 3) := by decide +kernel
theorem dX8_findCosts_156 : decode cX8_findCosts 156 = .ok (.iconst 1, 1) := by decide +kernel
theorem dX8_findCosts_157 : decode cX8_findCosts 157 = .ok (.goto 4, 3) := by decide +kernel
theorem dX8_findCosts_160 : decode cX8_findCosts 160 = .ok (.iconst 0, 1) := by decide +kernel
theorem dX8_findCosts_161 : decode cX8_findCosts 161 = .ok (.istore 5, 2) := by decide +kernel
theorem dX8_findCosts_163 : decode cX8_findCosts 163 = .ok (.aload_n 0, 1) := by decide +kernel
theorem dX8_findCosts_164 : decode cX8_findCosts 164 = .ok (.getfield 41, 3) := by decide +kernel
theorem dX8_findCosts_167 : decode cX8_findCosts 167 = .ok (.iload_n 3, 1) := by decide +kernel
theorem dX8_findCosts_168 : decode cX8_findCosts 168 = .ok (.iload 4, 2) := by decide +kernel
theorem dX8_findCosts_170 : decode cX8_findCosts 170 = .ok (.invokestatic 175, 3) := by decide +kernel
theorem dX8_findCosts_173 : decode cX8_findCosts 173 = .ok (.iload 5, 2) := by decide +kernel
theorem dX8_findCosts_175 : decode cX8_findCosts 175 = .ok (.ifCond .eq 7, 3) := by decide +kernel
theorem dX8_findCosts_178 : decode cX8_findCosts 178 = .ok (.iconst 0, 1) := by decide +kernel
theorem dX8_findCosts_179 : decode cX8_findCosts 179 = .ok (.goto 6, 3) := by decide +kernel
theorem dX8_findCosts_182 : decode cX8_findCosts 182 = .ok (.sipush 1000, 3) := by decide +kernel
theorem dX8_findCosts_185 : decode cX8_findCosts 185 = .ok (.iastore, 1) := by decide +kernel
theorem dX8_findCosts_186 : decode cX8_findCosts 186 = .ok (.aload_n 0, 1) := by decide +kernel
theorem dX8_findCosts_187 : decode cX8_findCosts 187 = .ok (.getfield 44, 3) := by decide +kernel
theorem dX8_findCosts_190 : decode cX8_findCosts 190 = .ok (.iload_n 3, 1) := by decide +kernel
theorem dX8_findCosts_191 : decode cX8_findCosts 191 = .ok (.iload 4, 2) := by decide +kernel
theorem dX8_findCosts_193 : decode cX8_findCosts 193 = .ok (.invokestatic 175, 3) := by decide +kernel
theorem dX8_findCosts_196 : decode cX8_findCosts 196 = .ok (.iload 5, 2) := by decide +kernel
theorem dX8_findCosts_198 : decode cX8_findCosts 198 = .ok (.ifCond .eq 7, 3) := by decide +kernel
theorem dX8_findCosts_201 : decode cX8_findCosts 201 = .ok (.lconst 1, 1) := by decide +kernel
theorem dX8_findCosts_202 : decode cX8_findCosts 202 = .ok (.goto 4, 3) := by decide +kernel
theorem dX8_findCosts_205 : decode cX8_findCosts 205 = .ok (.lconst 0, 1) := by decide +kernel
theorem dX8_findCosts_206 : decode cX8_findCosts 206 = .ok (.lastore, 1) := by decide +kernel
theorem dX8_findCosts_207 : decode cX8_findCosts 207 = .ok (.iinc 4 1, 3) := by decide +kernel
theorem dX8_findCosts_210 : decode cX8_findCosts 210 = .ok (.goto (-139), 3) := by decide +kernel
theorem dX8_findCosts_213 : decode cX8_findCosts 213 = .ok (.iinc 3 1, 3) := by decide +kernel
theorem dX8_findCosts_216 : decode cX8_findCosts 216 = .ok (.goto (-154), 3) := by decide +kernel
theorem dX8_findCosts_219 : decode cX8_findCosts 219 = .ok (.aload_n 0, 1) := by decide +kernel
theorem dX8_findCosts_220 : decode cX8_findCosts 220 = .ok (.getfield 138, 3) := by decide +kernel
theorem dX8_findCosts_223 : decode cX8_findCosts 223 = .ok (.iconst 1, 1) := by decide +kernel
theorem dX8_findCosts_224 : decode cX8_findCosts 224 = .ok (.isub, 1) := by decide +kernel
theorem dX8_findCosts_225 : decode cX8_findCosts 225 = .ok (.istore_n 3, 1) := by decide +kernel
theorem dX8_findCosts_226 : decode cX8_findCosts 226 = .ok (.iload_n 3, 1) := by decide +kernel
theorem dX8_findCosts_227 : decode cX8_findCosts 227 = .ok (.ifCond .lt 23, 3) := by decide +kernel
theorem dX8_findCosts_230 : decode cX8_findCosts 230 = .ok (.aload_n 0, 1) := by decide +kernel
theorem dX8_findCosts_231 : decode cX8_findCosts 231 = .ok (.getfield 37, 3) := by decide +kernel
theorem dX8_findCosts_234 : decode cX8_findCosts 234 = .ok (.iload_n 3, 1) := by decide +kernel
theorem dX8_findCosts_235 : decode cX8_findCosts 235 = .ok (.baload, 1) := by decide +kernel
theorem dX8_findCosts_236 : decode cX8_findCosts 236 = .ok (.ifCond .eq 8, 3) := by decide +kernel
theorem dX8_findCosts_239 : decode cX8_findCosts 239 = .ok (.aload_n 0, 1) := by decide +kernel
theorem dX8_findCosts_240 : decode cX8_findCosts 240 = .ok (.iload_n 3, 1) := by decide +kernel
theorem dX8_findCosts_241 : decode cX8_findCosts 241 = .ok (.invokevirtual 181, 3) := by decide +kernel
theorem dX8_findCosts_244 : decode cX8_findCosts 244 = .ok (.iinc 3 (-1), 3) := by decide +kernel
theorem dX8_findCosts_247 : decode cX8_findCosts 247 = .ok (.goto (-21), 3) := by decide +kernel
theorem dX8_findCosts_250 : decode cX8_findCosts 250 = .ok (.return_, 1) := by decide +kernel
theorem dX8_costOf_0 : decode cX8_costOf 0 = .ok (.aload_n 0, 1) := by decide +kernel
theorem dX8_costOf_1 : decode cX8_costOf 1 = .ok (.getfield 41, 3) := by decide +kernel
theorem dX8_costOf_4 : decode cX8_costOf 4 = .ok (.bipush 16, 2) := by decide +kernel
theorem dX8_costOf_6 : decode cX8_costOf 6 = .ok (.iload_n 1, 1) := by decide +kernel
theorem dX8_costOf_7 : decode cX8_costOf 7 = .ok (.invokestatic 175, 3) := by decide +kernel
theorem dX8_costOf_10 : decode cX8_costOf 10 = .ok (.iaload, 1) := by decide +kernel
theorem dX8_costOf_11 : decode cX8_costOf 11 = .ok (.istore_n 2, 1) := by decide +kernel
theorem dX8_costOf_12 : decode cX8_costOf 12 = .ok (.iload_n 2, 1) := by decide +kernel
theorem dX8_costOf_13 : decode cX8_costOf 13 = .ok (.sipush 1000, 3) := by decide +kernel
theorem dX8_costOf_16 : decode cX8_costOf 16 = .ok (.if_icmp .ge 7, 3) := by decide +kernel
theorem dX8_costOf_19 : decode cX8_costOf 19 = .ok (.iload_n 2, 1) := by decide +kernel
theorem dX8_costOf_20 : decode cX8_costOf 20 = .ok (.goto 5, 3) := by decide +kernel
theorem dX8_costOf_23 : decode cX8_costOf 23 = .ok (.bipush (-6), 2) := by decide +kernel
theorem dX8_costOf_25 : decode cX8_costOf 25 = .ok (.ireturn, 1) := by decide +kernel
theorem dX8_leastCost_0 : decode cX8_leastCost 0 = .ok (.bipush (-6), 2) := by decide +kernel
theorem dX8_leastCost_2 : decode cX8_leastCost 2 = .ok (.istore_n 1, 1) := by decide +kernel
theorem dX8_leastCost_3 : decode cX8_leastCost 3 = .ok (.iconst 0, 1) := by decide +kernel
theorem dX8_leastCost_4 : decode cX8_leastCost 4 = .ok (.istore_n 2, 1) := by decide +kernel
theorem dX8_leastCost_5 : decode cX8_leastCost 5 = .ok (.iload_n 2, 1) := by decide +kernel
theorem dX8_leastCost_6 : decode cX8_leastCost 6 = .ok (.sipush 364, 3) := by decide +kernel
theorem dX8_leastCost_9 : decode cX8_leastCost 9 = .ok (.if_icmp .ge 34, 3) := by decide +kernel
theorem dX8_leastCost_12 : decode cX8_leastCost 12 = .ok (.aload_n 0, 1) := by decide +kernel
theorem dX8_leastCost_13 : decode cX8_leastCost 13 = .ok (.iload_n 2, 1) := by decide +kernel
theorem dX8_leastCost_14 : decode cX8_leastCost 14 = .ok (.invokevirtual 184, 3) := by decide +kernel
theorem dX8_leastCost_17 : decode cX8_leastCost 17 = .ok (.istore_n 3, 1) := by decide +kernel
theorem dX8_leastCost_18 : decode cX8_leastCost 18 = .ok (.iload_n 3, 1) := by decide +kernel
theorem dX8_leastCost_19 : decode cX8_leastCost 19 = .ok (.ifCond .lt 16, 3) := by decide +kernel
theorem dX8_leastCost_22 : decode cX8_leastCost 22 = .ok (.iload_n 1, 1) := by decide +kernel
theorem dX8_leastCost_23 : decode cX8_leastCost 23 = .ok (.ifCond .lt 8, 3) := by decide +kernel
theorem dX8_leastCost_26 : decode cX8_leastCost 26 = .ok (.iload_n 3, 1) := by decide +kernel
theorem dX8_leastCost_27 : decode cX8_leastCost 27 = .ok (.iload_n 1, 1) := by decide +kernel
theorem dX8_leastCost_28 : decode cX8_leastCost 28 = .ok (.if_icmp .ge 7, 3) := by decide +kernel
theorem dX8_leastCost_31 : decode cX8_leastCost 31 = .ok (.iload_n 3, 1) := by decide +kernel
theorem dX8_leastCost_32 : decode cX8_leastCost 32 = .ok (.goto 4, 3) := by decide +kernel
theorem dX8_leastCost_35 : decode cX8_leastCost 35 = .ok (.iload_n 1, 1) := by decide +kernel
theorem dX8_leastCost_36 : decode cX8_leastCost 36 = .ok (.istore_n 1, 1) := by decide +kernel
theorem dX8_leastCost_37 : decode cX8_leastCost 37 = .ok (.iinc 2 1, 3) := by decide +kernel
theorem dX8_leastCost_40 : decode cX8_leastCost 40 = .ok (.goto (-35), 3) := by decide +kernel
theorem dX8_leastCost_43 : decode cX8_leastCost 43 = .ok (.iload_n 1, 1) := by decide +kernel
theorem dX8_leastCost_44 : decode cX8_leastCost 44 = .ok (.ireturn, 1) := by decide +kernel
theorem dX8_cost_0 : decode cX8_cost 0 = .ok (.aload_n 0, 1) := by decide +kernel
theorem dX8_cost_1 : decode cX8_cost 1 = .ok (.invokevirtual 135, 3) := by decide +kernel
theorem dX8_cost_4 : decode cX8_cost 4 = .ok (.ifCond .lt 6, 3) := by decide +kernel
theorem dX8_cost_7 : decode cX8_cost 7 = .ok (.bipush (-5), 2) := by decide +kernel
theorem dX8_cost_9 : decode cX8_cost 9 = .ok (.ireturn, 1) := by decide +kernel
theorem dX8_cost_10 : decode cX8_cost 10 = .ok (.aload_n 0, 1) := by decide +kernel
theorem dX8_cost_11 : decode cX8_cost 11 = .ok (.bipush (-6), 2) := by decide +kernel
theorem dX8_cost_13 : decode cX8_cost 13 = .ok (.invokevirtual 187, 3) := by decide +kernel
theorem dX8_cost_16 : decode cX8_cost 16 = .ok (.aload_n 0, 1) := by decide +kernel
theorem dX8_cost_17 : decode cX8_cost 17 = .ok (.aload_n 0, 1) := by decide +kernel
theorem dX8_cost_18 : decode cX8_cost 18 = .ok (.invokevirtual 141, 3) := by decide +kernel
theorem dX8_cost_21 : decode cX8_cost 21 = .ok (.invokevirtual 184, 3) := by decide +kernel
theorem dX8_cost_24 : decode cX8_cost 24 = .ok (.ireturn, 1) := by decide +kernel
theorem dX8_likely_0 : decode cX8_likely 0 = .ok (.iload_n 1, 1) := by decide +kernel
theorem dX8_likely_1 : decode cX8_likely 1 = .ok (.i2l, 1) := by decide +kernel
theorem dX8_likely_2 : decode cX8_likely 2 = .ok (.lconst 0, 1) := by decide +kernel
theorem dX8_likely_3 : decode cX8_likely 3 = .ok (.ldc2_w 190, 3) := by decide +kernel
theorem dX8_likely_6 : decode cX8_likely 6 = .ok (.invokestatic 72, 3) := by decide +kernel
theorem dX8_likely_9 : decode cX8_likely 9 = .ok (.ifCond .ne 20, 3) := by decide +kernel
theorem dX8_likely_12 : decode cX8_likely 12 = .ok (.iload_n 1, 1) := by decide +kernel
theorem dX8_likely_13 : decode cX8_likely 13 = .ok (.i2l, 1) := by decide +kernel
theorem dX8_likely_14 : decode cX8_likely 14 = .ok (.ldc2_w 192, 3) := by decide +kernel
theorem dX8_likely_17 : decode cX8_likely 17 = .ok (.ldc2_w 194, 3) := by decide +kernel
theorem dX8_likely_20 : decode cX8_likely 20 = .ok (.invokestatic 72, 3) := by decide +kernel
theorem dX8_likely_23 : decode cX8_likely 23 = .ok (.ifCond .ne 6, 3) := by decide +kernel
theorem dX8_likely_26 : decode cX8_likely 26 = .ok (.bipush (-2), 2) := by decide +kernel
theorem dX8_likely_28 : decode cX8_likely 28 = .ok (.ireturn, 1) := by decide +kernel
theorem dX8_likely_29 : decode cX8_likely 29 = .ok (.aload_n 0, 1) := by decide +kernel
theorem dX8_likely_30 : decode cX8_likely 30 = .ok (.bipush (-6), 2) := by decide +kernel
theorem dX8_likely_32 : decode cX8_likely 32 = .ok (.invokevirtual 187, 3) := by decide +kernel
theorem dX8_likely_35 : decode cX8_likely 35 = .ok (.aload_n 0, 1) := by decide +kernel
theorem dX8_likely_36 : decode cX8_likely 36 = .ok (.invokevirtual 196, 3) := by decide +kernel
theorem dX8_likely_39 : decode cX8_likely 39 = .ok (.istore_n 2, 1) := by decide +kernel
theorem dX8_likely_40 : decode cX8_likely 40 = .ok (.iload_n 2, 1) := by decide +kernel
theorem dX8_likely_41 : decode cX8_likely 41 = .ok (.ifCond .lt 7, 3) := by decide +kernel
theorem dX8_likely_44 : decode cX8_likely 44 = .ok (.iload_n 1, 1) := by decide +kernel
theorem dX8_likely_45 : decode cX8_likely 45 = .ok (.ifCond .ne 5, 3) := by decide +kernel
theorem dX8_likely_48 : decode cX8_likely 48 = .ok (.iload_n 2, 1) := by decide +kernel
theorem dX8_likely_49 : decode cX8_likely 49 = .ok (.ireturn, 1) := by decide +kernel
theorem dX8_likely_50 : decode cX8_likely 50 = .ok (.iconst 0, 1) := by decide +kernel
theorem dX8_likely_51 : decode cX8_likely 51 = .ok (.istore_n 3, 1) := by decide +kernel
theorem dX8_likely_52 : decode cX8_likely 52 = .ok (.bipush (-6), 2) := by decide +kernel
theorem dX8_likely_54 : decode cX8_likely 54 = .ok (.istore 4, 2) := by decide +kernel
theorem dX8_likely_56 : decode cX8_likely 56 = .ok (.iconst 0, 1) := by decide +kernel
theorem dX8_likely_57 : decode cX8_likely 57 = .ok (.istore 5, 2) := by decide +kernel
theorem dX8_likely_59 : decode cX8_likely 59 = .ok (.iload 5, 2) := by decide +kernel
theorem dX8_likely_61 : decode cX8_likely 61 = .ok (.sipush 364, 3) := by decide +kernel
theorem dX8_likely_64 : decode cX8_likely 64 = .ok (.if_icmp .ge 35, 3) := by decide +kernel
theorem dX8_likely_67 : decode cX8_likely 67 = .ok (.aload_n 0, 1) := by decide +kernel
theorem dX8_likely_68 : decode cX8_likely 68 = .ok (.iload 5, 2) := by decide +kernel
theorem dX8_likely_70 : decode cX8_likely 70 = .ok (.invokevirtual 184, 3) := by decide +kernel
theorem dX8_likely_73 : decode cX8_likely 73 = .ok (.iload_n 2, 1) := by decide +kernel
theorem dX8_likely_74 : decode cX8_likely 74 = .ok (.if_icmp .ne 19, 3) := by decide +kernel
theorem dX8_likely_77 : decode cX8_likely 77 = .ok (.iload_n 3, 1) := by decide +kernel
theorem dX8_likely_78 : decode cX8_likely 78 = .ok (.ifCond .ne 8, 3) := by decide +kernel
theorem dX8_likely_81 : decode cX8_likely 81 = .ok (.iload 5, 2) := by decide +kernel
theorem dX8_likely_83 : decode cX8_likely 83 = .ok (.goto 5, 3) := by decide +kernel
theorem dX8_likely_86 : decode cX8_likely 86 = .ok (.iload 4, 2) := by decide +kernel
theorem dX8_likely_88 : decode cX8_likely 88 = .ok (.istore 4, 2) := by decide +kernel
theorem dX8_likely_90 : decode cX8_likely 90 = .ok (.iinc 3 1, 3) := by decide +kernel
theorem dX8_likely_93 : decode cX8_likely 93 = .ok (.iinc 5 1, 3) := by decide +kernel
theorem dX8_likely_96 : decode cX8_likely 96 = .ok (.goto (-37), 3) := by decide +kernel
theorem dX8_likely_99 : decode cX8_likely 99 = .ok (.iload_n 1, 1) := by decide +kernel
theorem dX8_likely_100 : decode cX8_likely 100 = .ok (.iconst 1, 1) := by decide +kernel
theorem dX8_likely_101 : decode cX8_likely 101 = .ok (.if_icmp .ne 7, 3) := by decide +kernel
theorem dX8_likely_104 : decode cX8_likely 104 = .ok (.iload_n 3, 1) := by decide +kernel
theorem dX8_likely_105 : decode cX8_likely 105 = .ok (.goto 22, 3) := by decide +kernel
theorem dX8_likely_108 : decode cX8_likely 108 = .ok (.aload_n 0, 1) := by decide +kernel
theorem dX8_likely_109 : decode cX8_likely 109 = .ok (.iload 4, 2) := by decide +kernel
theorem dX8_likely_111 : decode cX8_likely 111 = .ok (.iload_n 1, 1) := by decide +kernel
theorem dX8_likely_112 : decode cX8_likely 112 = .ok (.iconst 2, 1) := by decide +kernel
theorem dX8_likely_113 : decode cX8_likely 113 = .ok (.if_icmp .ne 7, 3) := by decide +kernel
theorem dX8_likely_116 : decode cX8_likely 116 = .ok (.iconst (-1), 1) := by decide +kernel
theorem dX8_likely_117 : decode cX8_likely 117 = .ok (.goto 7, 3) := by decide +kernel
theorem dX8_likely_120 : decode cX8_likely 120 = .ok (.iload_n 1, 1) := by decide +kernel
theorem dX8_likely_121 : decode cX8_likely 121 = .ok (.bipush 10, 2) := by decide +kernel
theorem dX8_likely_123 : decode cX8_likely 123 = .ok (.isub, 1) := by decide +kernel
theorem dX8_likely_124 : decode cX8_likely 124 = .ok (.invokevirtual 168, 3) := by decide +kernel
theorem dX8_likely_127 : decode cX8_likely 127 = .ok (.ireturn, 1) := by decide +kernel
theorem dX8_waysOf_0 : decode cX8_waysOf 0 = .ok (.iload_n 2, 1) := by decide +kernel
theorem dX8_waysOf_1 : decode cX8_waysOf 1 = .ok (.ifCond .lt 26, 3) := by decide +kernel
theorem dX8_waysOf_4 : decode cX8_waysOf 4 = .ok (.aload_n 0, 1) := by decide +kernel
theorem dX8_waysOf_5 : decode cX8_waysOf 5 = .ok (.iload_n 1, 1) := by decide +kernel
theorem dX8_waysOf_6 : decode cX8_waysOf 6 = .ok (.invokevirtual 184, 3) := by decide +kernel
theorem dX8_waysOf_9 : decode cX8_waysOf 9 = .ok (.iload_n 2, 1) := by decide +kernel
theorem dX8_waysOf_10 : decode cX8_waysOf 10 = .ok (.if_icmp .ne 17, 3) := by decide +kernel
theorem dX8_waysOf_13 : decode cX8_waysOf 13 = .ok (.aload_n 0, 1) := by decide +kernel
theorem dX8_waysOf_14 : decode cX8_waysOf 14 = .ok (.getfield 44, 3) := by decide +kernel
theorem dX8_waysOf_17 : decode cX8_waysOf 17 = .ok (.bipush 16, 2) := by decide +kernel
theorem dX8_waysOf_19 : decode cX8_waysOf 19 = .ok (.iload_n 1, 1) := by decide +kernel
theorem dX8_waysOf_20 : decode cX8_waysOf 20 = .ok (.invokestatic 175, 3) := by decide +kernel
theorem dX8_waysOf_23 : decode cX8_waysOf 23 = .ok (.laload, 1) := by decide +kernel
theorem dX8_waysOf_24 : decode cX8_waysOf 24 = .ok (.goto 4, 3) := by decide +kernel
theorem dX8_waysOf_27 : decode cX8_waysOf 27 = .ok (.lconst 0, 1) := by decide +kernel
theorem dX8_waysOf_28 : decode cX8_waysOf 28 = .ok (.lreturn, 1) := by decide +kernel
theorem dX8_ways_0 : decode cX8_ways 0 = .ok (.aload_n 0, 1) := by decide +kernel
theorem dX8_ways_1 : decode cX8_ways 1 = .ok (.invokevirtual 135, 3) := by decide +kernel
theorem dX8_ways_4 : decode cX8_ways 4 = .ok (.ifCond .lt 7, 3) := by decide +kernel
theorem dX8_ways_7 : decode cX8_ways 7 = .ok (.ldc2_w 199, 3) := by decide +kernel
theorem dX8_ways_10 : decode cX8_ways 10 = .ok (.lreturn, 1) := by decide +kernel
theorem dX8_ways_11 : decode cX8_ways 11 = .ok (.aload_n 0, 1) := by decide +kernel
theorem dX8_ways_12 : decode cX8_ways 12 = .ok (.bipush (-6), 2) := by decide +kernel
theorem dX8_ways_14 : decode cX8_ways 14 = .ok (.invokevirtual 187, 3) := by decide +kernel
theorem dX8_ways_17 : decode cX8_ways 17 = .ok (.aload_n 0, 1) := by decide +kernel
theorem dX8_ways_18 : decode cX8_ways 18 = .ok (.aload_n 0, 1) := by decide +kernel
theorem dX8_ways_19 : decode cX8_ways 19 = .ok (.invokevirtual 141, 3) := by decide +kernel
theorem dX8_ways_22 : decode cX8_ways 22 = .ok (.aload_n 0, 1) := by decide +kernel
theorem dX8_ways_23 : decode cX8_ways 23 = .ok (.invokevirtual 196, 3) := by decide +kernel
theorem dX8_ways_26 : decode cX8_ways 26 = .ok (.invokevirtual 201, 3) := by decide +kernel
theorem dX8_ways_29 : decode cX8_ways 29 = .ok (.lreturn, 1) := by decide +kernel
theorem dX8_odds_0 : decode cX8_odds 0 = .ok (.iload_n 1, 1) := by decide +kernel
theorem dX8_odds_1 : decode cX8_odds 1 = .ok (.i2l, 1) := by decide +kernel
theorem dX8_odds_2 : decode cX8_odds 2 = .ok (.lconst 0, 1) := by decide +kernel
theorem dX8_odds_3 : decode cX8_odds 3 = .ok (.lconst 1, 1) := by decide +kernel
theorem dX8_odds_4 : decode cX8_odds 4 = .ok (.invokestatic 72, 3) := by decide +kernel
theorem dX8_odds_7 : decode cX8_odds 7 = .ok (.ifCond .ne 7, 3) := by decide +kernel
theorem dX8_odds_10 : decode cX8_odds 10 = .ok (.ldc2_w 205, 3) := by decide +kernel
theorem dX8_odds_13 : decode cX8_odds 13 = .ok (.lreturn, 1) := by decide +kernel
theorem dX8_odds_14 : decode cX8_odds 14 = .ok (.aload_n 0, 1) := by decide +kernel
theorem dX8_odds_15 : decode cX8_odds 15 = .ok (.bipush (-6), 2) := by decide +kernel
theorem dX8_odds_17 : decode cX8_odds 17 = .ok (.invokevirtual 187, 3) := by decide +kernel
theorem dX8_odds_20 : decode cX8_odds 20 = .ok (.aload_n 0, 1) := by decide +kernel
theorem dX8_odds_21 : decode cX8_odds 21 = .ok (.invokevirtual 196, 3) := by decide +kernel
theorem dX8_odds_24 : decode cX8_odds 24 = .ok (.istore_n 2, 1) := by decide +kernel
theorem dX8_odds_25 : decode cX8_odds 25 = .ok (.iload_n 2, 1) := by decide +kernel
theorem dX8_odds_26 : decode cX8_odds 26 = .ok (.ifCond .ge 7, 3) := by decide +kernel
theorem dX8_odds_29 : decode cX8_odds 29 = .ok (.ldc2_w 207, 3) := by decide +kernel
theorem dX8_odds_32 : decode cX8_odds 32 = .ok (.lreturn, 1) := by decide +kernel
theorem dX8_odds_33 : decode cX8_odds 33 = .ok (.aload_n 0, 1) := by decide +kernel
theorem dX8_odds_34 : decode cX8_odds 34 = .ok (.invokevirtual 135, 3) := by decide +kernel
theorem dX8_odds_37 : decode cX8_odds 37 = .ok (.ifCond .lt 7, 3) := by decide +kernel
theorem dX8_odds_40 : decode cX8_odds 40 = .ok (.ldc2_w 199, 3) := by decide +kernel
theorem dX8_odds_43 : decode cX8_odds 43 = .ok (.lreturn, 1) := by decide +kernel
theorem dX8_odds_44 : decode cX8_odds 44 = .ok (.lconst 0, 1) := by decide +kernel
theorem dX8_odds_45 : decode cX8_odds 45 = .ok (.lstore_n 3, 1) := by decide +kernel
theorem dX8_odds_46 : decode cX8_odds 46 = .ok (.iconst 0, 1) := by decide +kernel
theorem dX8_odds_47 : decode cX8_odds 47 = .ok (.istore 5, 2) := by decide +kernel
theorem dX8_odds_49 : decode cX8_odds 49 = .ok (.iload 5, 2) := by decide +kernel
theorem dX8_odds_51 : decode cX8_odds 51 = .ok (.sipush 364, 3) := by decide +kernel
theorem dX8_odds_54 : decode cX8_odds 54 = .ok (.if_icmp .ge 19, 3) := by decide +kernel
theorem dX8_odds_57 : decode cX8_odds 57 = .ok (.lload_n 3, 1) := by decide +kernel
theorem dX8_odds_58 : decode cX8_odds 58 = .ok (.aload_n 0, 1) := by decide +kernel
theorem dX8_odds_59 : decode cX8_odds 59 = .ok (.iload 5, 2) := by decide +kernel
theorem dX8_odds_61 : decode cX8_odds 61 = .ok (.iload_n 2, 1) := by decide +kernel
theorem dX8_odds_62 : decode cX8_odds 62 = .ok (.invokevirtual 201, 3) := by decide +kernel
theorem dX8_odds_65 : decode cX8_odds 65 = .ok (.ladd, 1) := by decide +kernel
theorem dX8_odds_66 : decode cX8_odds 66 = .ok (.lstore_n 3, 1) := by decide +kernel
theorem dX8_odds_67 : decode cX8_odds 67 = .ok (.iinc 5 1, 3) := by decide +kernel
theorem dX8_odds_70 : decode cX8_odds 70 = .ok (.goto (-21), 3) := by decide +kernel
theorem dX8_odds_73 : decode cX8_odds 73 = .ok (.aload_n 0, 1) := by decide +kernel
theorem dX8_odds_74 : decode cX8_odds 74 = .ok (.aload_n 0, 1) := by decide +kernel
theorem dX8_odds_75 : decode cX8_odds 75 = .ok (.invokevirtual 141, 3) := by decide +kernel
theorem dX8_odds_78 : decode cX8_odds 78 = .ok (.iload_n 2, 1) := by decide +kernel
theorem dX8_odds_79 : decode cX8_odds 79 = .ok (.invokevirtual 201, 3) := by decide +kernel
theorem dX8_odds_82 : decode cX8_odds 82 = .ok (.lstore 5, 2) := by decide +kernel
theorem dX8_odds_84 : decode cX8_odds 84 = .ok (.lload 5, 2) := by decide +kernel
theorem dX8_odds_86 : decode cX8_odds 86 = .ok (.lstore 7, 2) := by decide +kernel
theorem dX8_odds_88 : decode cX8_odds 88 = .ok (.lload_n 3, 1) := by decide +kernel
theorem dX8_odds_89 : decode cX8_odds 89 = .ok (.lstore 9, 2) := by decide +kernel
theorem dX8_odds_91 : decode cX8_odds 91 = .ok (.lload 9, 2) := by decide +kernel
theorem dX8_odds_93 : decode cX8_odds 93 = .ok (.lconst 0, 1) := by decide +kernel
theorem dX8_odds_94 : decode cX8_odds 94 = .ok (.lcmp, 1) := by decide +kernel
theorem dX8_odds_95 : decode cX8_odds 95 = .ok (.ifCond .eq 21, 3) := by decide +kernel
theorem dX8_odds_98 : decode cX8_odds 98 = .ok (.lload 7, 2) := by decide +kernel
theorem dX8_odds_100 : decode cX8_odds 100 = .ok (.lload 9, 2) := by decide +kernel
theorem dX8_odds_102 : decode cX8_odds 102 = .ok (.lrem, 1) := by decide +kernel
theorem dX8_odds_103 : decode cX8_odds 103 = .ok (.lstore 11, 2) := by decide +kernel
theorem dX8_odds_105 : decode cX8_odds 105 = .ok (.lload 9, 2) := by decide +kernel
theorem dX8_odds_107 : decode cX8_odds 107 = .ok (.lstore 7, 2) := by decide +kernel
theorem dX8_odds_109 : decode cX8_odds 109 = .ok (.lload 11, 2) := by decide +kernel
theorem dX8_odds_111 : decode cX8_odds 111 = .ok (.lstore 9, 2) := by decide +kernel
theorem dX8_odds_113 : decode cX8_odds 113 = .ok (.goto (-22), 3) := by decide +kernel
theorem dX8_odds_116 : decode cX8_odds 116 = .ok (.iload_n 1, 1) := by decide +kernel
theorem dX8_odds_117 : decode cX8_odds 117 = .ok (.ifCond .ne 11, 3) := by decide +kernel
theorem dX8_odds_120 : decode cX8_odds 120 = .ok (.lload 5, 2) := by decide +kernel
theorem dX8_odds_122 : decode cX8_odds 122 = .ok (.lload 7, 2) := by decide +kernel
theorem dX8_odds_124 : decode cX8_odds 124 = .ok (.ldiv, 1) := by decide +kernel
theorem dX8_odds_125 : decode cX8_odds 125 = .ok (.goto 7, 3) := by decide +kernel
theorem dX8_odds_128 : decode cX8_odds 128 = .ok (.lload_n 3, 1) := by decide +kernel
theorem dX8_odds_129 : decode cX8_odds 129 = .ok (.lload 7, 2) := by decide +kernel
theorem dX8_odds_131 : decode cX8_odds 131 = .ok (.ldiv, 1) := by decide +kernel
theorem dX8_odds_132 : decode cX8_odds 132 = .ok (.lreturn, 1) := by decide +kernel
theorem dX8_canBeBy_0 : decode cX8_canBeBy 0 = .ok (.iconst 0, 1) := by decide +kernel
theorem dX8_canBeBy_1 : decode cX8_canBeBy 1 = .ok (.istore_n 2, 1) := by decide +kernel
theorem dX8_canBeBy_2 : decode cX8_canBeBy 2 = .ok (.iconst 0, 1) := by decide +kernel
theorem dX8_canBeBy_3 : decode cX8_canBeBy 3 = .ok (.istore_n 3, 1) := by decide +kernel
theorem dX8_canBeBy_4 : decode cX8_canBeBy 4 = .ok (.iload_n 3, 1) := by decide +kernel
theorem dX8_canBeBy_5 : decode cX8_canBeBy 5 = .ok (.sipush 364, 3) := by decide +kernel
theorem dX8_canBeBy_8 : decode cX8_canBeBy 8 = .ok (.if_icmp .ge 32, 3) := by decide +kernel
theorem dX8_canBeBy_11 : decode cX8_canBeBy 11 = .ok (.iload_n 2, 1) := by decide +kernel
theorem dX8_canBeBy_12 : decode cX8_canBeBy 12 = .ok (.aload_n 0, 1) := by decide +kernel
theorem dX8_canBeBy_13 : decode cX8_canBeBy 13 = .ok (.iload_n 3, 1) := by decide +kernel
theorem dX8_canBeBy_14 : decode cX8_canBeBy 14 = .ok (.invokevirtual 184, 3) := by decide +kernel
theorem dX8_canBeBy_17 : decode cX8_canBeBy 17 = .ok (.i2l, 1) := by decide +kernel
theorem dX8_canBeBy_18 : decode cX8_canBeBy 18 = .ok (.lconst 0, 1) := by decide +kernel
theorem dX8_canBeBy_19 : decode cX8_canBeBy 19 = .ok (.iload_n 1, 1) := by decide +kernel
theorem dX8_canBeBy_20 : decode cX8_canBeBy 20 = .ok (.i2l, 1) := by decide +kernel
theorem dX8_canBeBy_21 : decode cX8_canBeBy 21 = .ok (.invokestatic 72, 3) := by decide +kernel
theorem dX8_canBeBy_24 : decode cX8_canBeBy 24 = .ok (.ifCond .eq 7, 3) := by decide +kernel
theorem dX8_canBeBy_27 : decode cX8_canBeBy 27 = .ok (.iconst 1, 1) := by decide +kernel
theorem dX8_canBeBy_28 : decode cX8_canBeBy 28 = .ok (.goto 4, 3) := by decide +kernel
theorem dX8_canBeBy_31 : decode cX8_canBeBy 31 = .ok (.iconst 0, 1) := by decide +kernel
theorem dX8_canBeBy_32 : decode cX8_canBeBy 32 = .ok (.iadd, 1) := by decide +kernel
theorem dX8_canBeBy_33 : decode cX8_canBeBy 33 = .ok (.istore_n 2, 1) := by decide +kernel
theorem dX8_canBeBy_34 : decode cX8_canBeBy 34 = .ok (.iinc 3 1, 3) := by decide +kernel
theorem dX8_canBeBy_37 : decode cX8_canBeBy 37 = .ok (.goto (-33), 3) := by decide +kernel
theorem dX8_canBeBy_40 : decode cX8_canBeBy 40 = .ok (.iload_n 2, 1) := by decide +kernel
theorem dX8_canBeBy_41 : decode cX8_canBeBy 41 = .ok (.ireturn, 1) := by decide +kernel
theorem dX8_canBe_0 : decode cX8_canBe 0 = .ok (.iload_n 1, 1) := by decide +kernel
theorem dX8_canBe_1 : decode cX8_canBe 1 = .ok (.i2l, 1) := by decide +kernel
theorem dX8_canBe_2 : decode cX8_canBe 2 = .ok (.lconst 0, 1) := by decide +kernel
theorem dX8_canBe_3 : decode cX8_canBe 3 = .ok (.ldc2_w 209, 3) := by decide +kernel
theorem dX8_canBe_6 : decode cX8_canBe 6 = .ok (.invokestatic 72, 3) := by decide +kernel
theorem dX8_canBe_9 : decode cX8_canBe 9 = .ok (.ifCond .ne 6, 3) := by decide +kernel
theorem dX8_canBe_12 : decode cX8_canBe 12 = .ok (.bipush (-2), 2) := by decide +kernel
theorem dX8_canBe_14 : decode cX8_canBe 14 = .ok (.ireturn, 1) := by decide +kernel
theorem dX8_canBe_15 : decode cX8_canBe 15 = .ok (.aload_n 0, 1) := by decide +kernel
theorem dX8_canBe_16 : decode cX8_canBe 16 = .ok (.bipush (-6), 2) := by decide +kernel
theorem dX8_canBe_18 : decode cX8_canBe 18 = .ok (.invokevirtual 187, 3) := by decide +kernel
theorem dX8_canBe_21 : decode cX8_canBe 21 = .ok (.aload_n 0, 1) := by decide +kernel
theorem dX8_canBe_22 : decode cX8_canBe 22 = .ok (.iload_n 1, 1) := by decide +kernel
theorem dX8_canBe_23 : decode cX8_canBe 23 = .ok (.invokevirtual 211, 3) := by decide +kernel
theorem dX8_canBe_26 : decode cX8_canBe 26 = .ok (.ireturn, 1) := by decide +kernel
theorem dX8_taught_0 : decode cX8_taught 0 = .ok (.iload_n 1, 1) := by decide +kernel
theorem dX8_taught_1 : decode cX8_taught 1 = .ok (.i2l, 1) := by decide +kernel
theorem dX8_taught_2 : decode cX8_taught 2 = .ok (.lconst 0, 1) := by decide +kernel
theorem dX8_taught_3 : decode cX8_taught 3 = .ok (.ldc2_w 209, 3) := by decide +kernel
theorem dX8_taught_6 : decode cX8_taught 6 = .ok (.invokestatic 72, 3) := by decide +kernel
theorem dX8_taught_9 : decode cX8_taught 9 = .ok (.ifCond .ne 6, 3) := by decide +kernel
theorem dX8_taught_12 : decode cX8_taught 12 = .ok (.bipush (-2), 2) := by decide +kernel
theorem dX8_taught_14 : decode cX8_taught 14 = .ok (.ireturn, 1) := by decide +kernel
theorem dX8_taught_15 : decode cX8_taught 15 = .ok (.aload_n 0, 1) := by decide +kernel
theorem dX8_taught_16 : decode cX8_taught 16 = .ok (.bipush (-6), 2) := by decide +kernel
theorem dX8_taught_18 : decode cX8_taught 18 = .ok (.invokevirtual 187, 3) := by decide +kernel
theorem dX8_taught_21 : decode cX8_taught 21 = .ok (.aload_n 0, 1) := by decide +kernel
theorem dX8_taught_22 : decode cX8_taught 22 = .ok (.iload_n 1, 1) := by decide +kernel
theorem dX8_taught_23 : decode cX8_taught 23 = .ok (.invokevirtual 211, 3) := by decide +kernel
theorem dX8_taught_26 : decode cX8_taught 26 = .ok (.ifCond .le 6, 3) := by decide +kernel
theorem dX8_taught_29 : decode cX8_taught 29 = .ok (.bipush (-3), 2) := by decide +kernel
theorem dX8_taught_31 : decode cX8_taught 31 = .ok (.ireturn, 1) := by decide +kernel
theorem dX8_taught_32 : decode cX8_taught 32 = .ok (.iconst 0, 1) := by decide +kernel
theorem dX8_taught_33 : decode cX8_taught 33 = .ok (.istore_n 2, 1) := by decide +kernel
theorem dX8_taught_34 : decode cX8_taught 34 = .ok (.iconst 0, 1) := by decide +kernel
theorem dX8_taught_35 : decode cX8_taught 35 = .ok (.istore_n 3, 1) := by decide +kernel
theorem dX8_taught_36 : decode cX8_taught 36 = .ok (.iload_n 3, 1) := by decide +kernel
theorem dX8_taught_37 : decode cX8_taught 37 = .ok (.bipush 6, 2) := by decide +kernel
theorem dX8_taught_39 : decode cX8_taught 39 = .ok (.if_icmp .ge 41, 3) := by decide +kernel
theorem dX8_taught_42 : decode cX8_taught 42 = .ok (.aload_n 0, 1) := by decide +kernel
theorem dX8_taught_43 : decode cX8_taught 43 = .ok (.getfield 28, 3) := by decide +kernel
theorem dX8_taught_46 : decode cX8_taught 46 = .ok (.iload_n 3, 1) := by decide +kernel
theorem dX8_taught_47 : decode cX8_taught 47 = .ok (.iaload, 1) := by decide +kernel
theorem dX8_taught_48 : decode cX8_taught 48 = .ok (.ifCond .lt 26, 3) := by decide +kernel
theorem dX8_taught_51 : decode cX8_taught 51 = .ok (.aload_n 0, 1) := by decide +kernel
theorem dX8_taught_52 : decode cX8_taught 52 = .ok (.iload_n 3, 1) := by decide +kernel
theorem dX8_taught_53 : decode cX8_taught 53 = .ok (.invokevirtual 187, 3) := by decide +kernel
theorem dX8_taught_56 : decode cX8_taught 56 = .ok (.iload_n 2, 1) := by decide +kernel
theorem dX8_taught_57 : decode cX8_taught 57 = .ok (.aload_n 0, 1) := by decide +kernel
theorem dX8_taught_58 : decode cX8_taught 58 = .ok (.iload_n 1, 1) := by decide +kernel
theorem dX8_taught_59 : decode cX8_taught 59 = .ok (.invokevirtual 211, 3) := by decide +kernel
theorem dX8_taught_62 : decode cX8_taught 62 = .ok (.ifCond .le 9, 3) := by decide +kernel
theorem dX8_taught_65 : decode cX8_taught 65 = .ok (.iconst 1, 1) := by decide +kernel
theorem dX8_taught_66 : decode cX8_taught 66 = .ok (.iload_n 3, 1) := by decide +kernel
theorem dX8_taught_67 : decode cX8_taught 67 = .ok (.ishl, 1) := by decide +kernel
theorem dX8_taught_68 : decode cX8_taught 68 = .ok (.goto 4, 3) := by decide +kernel
theorem dX8_taught_71 : decode cX8_taught 71 = .ok (.iconst 0, 1) := by decide +kernel
theorem dX8_taught_72 : decode cX8_taught 72 = .ok (.ior, 1) := by decide +kernel
theorem dX8_taught_73 : decode cX8_taught 73 = .ok (.istore_n 2, 1) := by decide +kernel
theorem dX8_taught_74 : decode cX8_taught 74 = .ok (.iinc 3 1, 3) := by decide +kernel
theorem dX8_taught_77 : decode cX8_taught 77 = .ok (.goto (-41), 3) := by decide +kernel
theorem dX8_taught_80 : decode cX8_taught 80 = .ok (.iload_n 2, 1) := by decide +kernel
theorem dX8_taught_81 : decode cX8_taught 81 = .ok (.ireturn, 1) := by decide +kernel
theorem dX8_keepRow_0 : decode cX8_keepRow 0 = .ok (.lconst 0, 1) := by decide +kernel
theorem dX8_keepRow_1 : decode cX8_keepRow 1 = .ok (.lstore_n 2, 1) := by decide +kernel
theorem dX8_keepRow_2 : decode cX8_keepRow 2 = .ok (.iconst 0, 1) := by decide +kernel
theorem dX8_keepRow_3 : decode cX8_keepRow 3 = .ok (.istore 4, 2) := by decide +kernel
theorem dX8_keepRow_5 : decode cX8_keepRow 5 = .ok (.iload 4, 2) := by decide +kernel
theorem dX8_keepRow_7 : decode cX8_keepRow 7 = .ok (.bipush 6, 2) := by decide +kernel
theorem dX8_keepRow_9 : decode cX8_keepRow 9 = .ok (.if_icmp .ge 39, 3) := by decide +kernel
theorem dX8_keepRow_12 : decode cX8_keepRow 12 = .ok (.lload_n 2, 1) := by decide +kernel
theorem dX8_keepRow_13 : decode cX8_keepRow 13 = .ok (.bipush 9, 2) := by decide +kernel
theorem dX8_keepRow_15 : decode cX8_keepRow 15 = .ok (.lshl, 1) := by decide +kernel
theorem dX8_keepRow_16 : decode cX8_keepRow 16 = .ok (.aload_n 0, 1) := by decide +kernel
theorem dX8_keepRow_17 : decode cX8_keepRow 17 = .ok (.getfield 34, 3) := by decide +kernel
theorem dX8_keepRow_20 : decode cX8_keepRow 20 = .ok (.iload 4, 2) := by decide +kernel
theorem dX8_keepRow_22 : decode cX8_keepRow 22 = .ok (.iaload, 1) := by decide +kernel
theorem dX8_keepRow_23 : decode cX8_keepRow 23 = .ok (.ifCond .ge 9, 3) := by decide +kernel
theorem dX8_keepRow_26 : decode cX8_keepRow 26 = .ok (.sipush 511, 3) := by decide +kernel
theorem dX8_keepRow_29 : decode cX8_keepRow 29 = .ok (.goto 10, 3) := by decide +kernel
theorem dX8_keepRow_32 : decode cX8_keepRow 32 = .ok (.aload_n 0, 1) := by decide +kernel
theorem dX8_keepRow_33 : decode cX8_keepRow 33 = .ok (.getfield 34, 3) := by decide +kernel
theorem dX8_keepRow_36 : decode cX8_keepRow 36 = .ok (.iload 4, 2) := by decide +kernel
theorem dX8_keepRow_38 : decode cX8_keepRow 38 = .ok (.iaload, 1) := by decide +kernel
theorem dX8_keepRow_39 : decode cX8_keepRow 39 = .ok (.i2l, 1) := by decide +kernel
theorem dX8_keepRow_40 : decode cX8_keepRow 40 = .ok (.lor, 1) := by decide +kernel
theorem dX8_keepRow_41 : decode cX8_keepRow 41 = .ok (.lstore_n 2, 1) := by decide +kernel
theorem dX8_keepRow_42 : decode cX8_keepRow 42 = .ok (.iinc 4 1, 3) := by decide +kernel
theorem dX8_keepRow_45 : decode cX8_keepRow 45 = .ok (.goto (-40), 3) := by decide +kernel
theorem dX8_keepRow_48 : decode cX8_keepRow 48 = .ok (.aload_n 0, 1) := by decide +kernel
theorem dX8_keepRow_49 : decode cX8_keepRow 49 = .ok (.getfield 48, 3) := by decide +kernel
theorem dX8_keepRow_52 : decode cX8_keepRow 52 = .ok (.aload_n 0, 1) := by decide +kernel
theorem dX8_keepRow_53 : decode cX8_keepRow 53 = .ok (.getfield 214, 3) := by decide +kernel
theorem dX8_keepRow_56 : decode cX8_keepRow 56 = .ok (.lload_n 2, 1) := by decide +kernel
theorem dX8_keepRow_57 : decode cX8_keepRow 57 = .ok (.lastore, 1) := by decide +kernel
theorem dX8_keepRow_58 : decode cX8_keepRow 58 = .ok (.aload_n 0, 1) := by decide +kernel
theorem dX8_keepRow_59 : decode cX8_keepRow 59 = .ok (.getfield 51, 3) := by decide +kernel
theorem dX8_keepRow_62 : decode cX8_keepRow 62 = .ok (.aload_n 0, 1) := by decide +kernel
theorem dX8_keepRow_63 : decode cX8_keepRow 63 = .ok (.getfield 214, 3) := by decide +kernel
theorem dX8_keepRow_66 : decode cX8_keepRow 66 = .ok (.iload_n 1, 1) := by decide +kernel
theorem dX8_keepRow_67 : decode cX8_keepRow 67 = .ok (.iastore, 1) := by decide +kernel
theorem dX8_keepRow_68 : decode cX8_keepRow 68 = .ok (.aload_n 0, 1) := by decide +kernel
theorem dX8_keepRow_69 : decode cX8_keepRow 69 = .ok (.dup, 1) := by decide +kernel
theorem dX8_keepRow_70 : decode cX8_keepRow 70 = .ok (.getfield 214, 3) := by decide +kernel
theorem dX8_keepRow_73 : decode cX8_keepRow 73 = .ok (.iconst 1, 1) := by decide +kernel
theorem dX8_keepRow_74 : decode cX8_keepRow 74 = .ok (.iadd, 1) := by decide +kernel
theorem dX8_keepRow_75 : decode cX8_keepRow 75 = .ok (.putfield 214, 3) := by decide +kernel
theorem dX8_keepRow_78 : decode cX8_keepRow 78 = .ok (.return_, 1) := by decide +kernel
theorem dX8_manyOf_0 : decode cX8_manyOf 0 = .ok (.iload_n 0, 1) := by decide +kernel
theorem dX8_manyOf_1 : decode cX8_manyOf 1 = .ok (.iconst 1, 1) := by decide +kernel
theorem dX8_manyOf_2 : decode cX8_manyOf 2 = .ok (.if_icmp .ne 7, 3) := by decide +kernel
theorem dX8_manyOf_5 : decode cX8_manyOf 5 = .ok (.iconst 3, 1) := by decide +kernel
theorem dX8_manyOf_6 : decode cX8_manyOf 6 = .ok (.goto 15, 3) := by decide +kernel
theorem dX8_manyOf_9 : decode cX8_manyOf 9 = .ok (.iload_n 0, 1) := by decide +kernel
theorem dX8_manyOf_10 : decode cX8_manyOf 10 = .ok (.iconst 2, 1) := by decide +kernel
theorem dX8_manyOf_11 : decode cX8_manyOf 11 = .ok (.if_icmp .ne 8, 3) := by decide +kernel
theorem dX8_manyOf_14 : decode cX8_manyOf 14 = .ok (.bipush 9, 2) := by decide +kernel
theorem dX8_manyOf_16 : decode cX8_manyOf 16 = .ok (.goto 5, 3) := by decide +kernel
theorem dX8_manyOf_19 : decode cX8_manyOf 19 = .ok (.bipush 27, 2) := by decide +kernel
theorem dX8_manyOf_21 : decode cX8_manyOf 21 = .ok (.ireturn, 1) := by decide +kernel
theorem dX8_findRows_0 : decode cX8_findRows 0 = .ok (.aload_n 0, 1) := by decide +kernel
theorem dX8_findRows_1 : decode cX8_findRows 1 = .ok (.iconst 0, 1) := by decide +kernel
theorem dX8_findRows_2 : decode cX8_findRows 2 = .ok (.putfield 214, 3) := by decide +kernel
theorem dX8_findRows_5 : decode cX8_findRows 5 = .ok (.iconst 0, 1) := by decide +kernel
theorem dX8_findRows_6 : decode cX8_findRows 6 = .ok (.istore_n 2, 1) := by decide +kernel
theorem dX8_findRows_7 : decode cX8_findRows 7 = .ok (.iload_n 2, 1) := by decide +kernel
theorem dX8_findRows_8 : decode cX8_findRows 8 = .ok (.iload_n 1, 1) := by decide +kernel
theorem dX8_findRows_9 : decode cX8_findRows 9 = .ok (.invokestatic 217, 3) := by decide +kernel
theorem dX8_findRows_12 : decode cX8_findRows 12 = .ok (.if_icmp .ge 96, 3) := by decide +kernel
theorem dX8_findRows_15 : decode cX8_findRows 15 = .ok (.iload_n 1, 1) := by decide +kernel
theorem dX8_findRows_16 : decode cX8_findRows 16 = .ok (.invokestatic 76, 3) := by decide +kernel
theorem dX8_findRows_19 : decode cX8_findRows 19 = .ok (.iload_n 2, 1) := by decide +kernel
theorem dX8_findRows_20 : decode cX8_findRows 20 = .ok (.iadd, 1) := by decide +kernel
theorem dX8_findRows_21 : decode cX8_findRows 21 = .ok (.istore_n 3, 1) := by decide +kernel
theorem dX8_findRows_22 : decode cX8_findRows 22 = .ok (.aload_n 0, 1) := by decide +kernel
theorem dX8_findRows_23 : decode cX8_findRows 23 = .ok (.iload_n 3, 1) := by decide +kernel
theorem dX8_findRows_24 : decode cX8_findRows 24 = .ok (.bipush 16, 2) := by decide +kernel
theorem dX8_findRows_26 : decode cX8_findRows 26 = .ok (.iconst 0, 1) := by decide +kernel
theorem dX8_findRows_27 : decode cX8_findRows 27 = .ok (.invokevirtual 164, 3) := by decide +kernel
theorem dX8_findRows_30 : decode cX8_findRows 30 = .ok (.aload_n 0, 1) := by decide +kernel
theorem dX8_findRows_31 : decode cX8_findRows 31 = .ok (.iload_n 2, 1) := by decide +kernel
theorem dX8_findRows_32 : decode cX8_findRows 32 = .ok (.invokevirtual 220, 3) := by decide +kernel
theorem dX8_findRows_35 : decode cX8_findRows 35 = .ok (.iconst 0, 1) := by decide +kernel
theorem dX8_findRows_36 : decode cX8_findRows 36 = .ok (.istore 4, 2) := by decide +kernel
theorem dX8_findRows_38 : decode cX8_findRows 38 = .ok (.iload 4, 2) := by decide +kernel
theorem dX8_findRows_40 : decode cX8_findRows 40 = .ok (.aload_n 0, 1) := by decide +kernel
theorem dX8_findRows_41 : decode cX8_findRows 41 = .ok (.getfield 138, 3) := by decide +kernel
theorem dX8_findRows_44 : decode cX8_findRows 44 = .ok (.if_icmp .ge 58, 3) := by decide +kernel
theorem dX8_findRows_47 : decode cX8_findRows 47 = .ok (.iconst 1, 1) := by decide +kernel
theorem dX8_findRows_48 : decode cX8_findRows 48 = .ok (.istore 5, 2) := by decide +kernel
theorem dX8_findRows_50 : decode cX8_findRows 50 = .ok (.iconst 1, 1) := by decide +kernel
theorem dX8_findRows_51 : decode cX8_findRows 51 = .ok (.istore 6, 2) := by decide +kernel
theorem dX8_findRows_53 : decode cX8_findRows 53 = .ok (.iload 6, 2) := by decide +kernel
theorem dX8_findRows_55 : decode cX8_findRows 55 = .ok (.iload 5, 2) := by decide +kernel
theorem dX8_findRows_57 : decode cX8_findRows 57 = .ok (.if_icmp .gt 39, 3) := by decide +kernel
theorem dX8_findRows_60 : decode cX8_findRows 60 = .ok (.aload_n 0, 1) := by decide +kernel
theorem dX8_findRows_61 : decode cX8_findRows 61 = .ok (.iload_n 3, 1) := by decide +kernel
theorem dX8_findRows_62 : decode cX8_findRows 62 = .ok (.iload 4, 2) := by decide +kernel
theorem dX8_findRows_64 : decode cX8_findRows 64 = .ok (.invokevirtual 223, 3) := by decide +kernel
theorem dX8_findRows_67 : decode cX8_findRows 67 = .ok (.istore 5, 2) := by decide +kernel
theorem dX8_findRows_69 : decode cX8_findRows 69 = .ok (.iload 6, 2) := by decide +kernel
theorem dX8_findRows_71 : decode cX8_findRows 71 = .ok (.iload 5, 2) := by decide +kernel
theorem dX8_findRows_73 : decode cX8_findRows 73 = .ok (.if_icmp .gt 17, 3) := by decide +kernel
theorem dX8_findRows_76 : decode cX8_findRows 76 = .ok (.aload_n 0, 1) := by decide +kernel
theorem dX8_findRows_77 : decode cX8_findRows 77 = .ok (.iload_n 3, 1) := by decide +kernel
theorem dX8_findRows_78 : decode cX8_findRows 78 = .ok (.iload 4, 2) := by decide +kernel
theorem dX8_findRows_80 : decode cX8_findRows 80 = .ok (.iload 6, 2) := by decide +kernel
theorem dX8_findRows_82 : decode cX8_findRows 82 = .ok (.invokevirtual 164, 3) := by decide +kernel
theorem dX8_findRows_85 : decode cX8_findRows 85 = .ok (.aload_n 0, 1) := by decide +kernel
theorem dX8_findRows_86 : decode cX8_findRows 86 = .ok (.iload_n 2, 1) := by decide +kernel
theorem dX8_findRows_87 : decode cX8_findRows 87 = .ok (.invokevirtual 220, 3) := by decide +kernel
theorem dX8_findRows_90 : decode cX8_findRows 90 = .ok (.iinc 6 1, 3) := by decide +kernel
theorem dX8_findRows_93 : decode cX8_findRows 93 = .ok (.goto (-40), 3) := by decide +kernel
theorem dX8_findRows_96 : decode cX8_findRows 96 = .ok (.iinc 4 1, 3) := by decide +kernel
theorem dX8_findRows_99 : decode cX8_findRows 99 = .ok (.goto (-61), 3) := by decide +kernel
theorem dX8_findRows_102 : decode cX8_findRows 102 = .ok (.iinc 2 1, 3) := by decide +kernel
theorem dX8_findRows_105 : decode cX8_findRows 105 = .ok (.goto (-98), 3) := by decide +kernel
theorem dX8_findRows_108 : decode cX8_findRows 108 = .ok (.return_, 1) := by decide +kernel
theorem dX8_slipsAt_0 : decode cX8_slipsAt 0 = .ok (.aload_n 0, 1) := by decide +kernel
theorem dX8_slipsAt_1 : decode cX8_slipsAt 1 = .ok (.invokevirtual 157, 3) := by decide +kernel
theorem dX8_slipsAt_4 : decode cX8_slipsAt 4 = .ok (.aload_n 0, 1) := by decide +kernel
theorem dX8_slipsAt_5 : decode cX8_slipsAt 5 = .ok (.iconst 0, 1) := by decide +kernel
theorem dX8_slipsAt_6 : decode cX8_slipsAt 6 = .ok (.putfield 150, 3) := by decide +kernel
theorem dX8_slipsAt_9 : decode cX8_slipsAt 9 = .ok (.iconst 0, 1) := by decide +kernel
theorem dX8_slipsAt_10 : decode cX8_slipsAt 10 = .ok (.istore_n 3, 1) := by decide +kernel
theorem dX8_slipsAt_11 : decode cX8_slipsAt 11 = .ok (.iload_n 3, 1) := by decide +kernel
theorem dX8_slipsAt_12 : decode cX8_slipsAt 12 = .ok (.iload_n 2, 1) := by decide +kernel
theorem dX8_slipsAt_13 : decode cX8_slipsAt 13 = .ok (.if_icmp .ge 17, 3) := by decide +kernel
theorem dX8_slipsAt_16 : decode cX8_slipsAt 16 = .ok (.aload_n 0, 1) := by decide +kernel
theorem dX8_slipsAt_17 : decode cX8_slipsAt 17 = .ok (.iload_n 3, 1) := by decide +kernel
theorem dX8_slipsAt_18 : decode cX8_slipsAt 18 = .ok (.iload_n 1, 1) := by decide +kernel
theorem dX8_slipsAt_19 : decode cX8_slipsAt 19 = .ok (.iconst 1, 1) := by decide +kernel
theorem dX8_slipsAt_20 : decode cX8_slipsAt 20 = .ok (.iconst 0, 1) := by decide +kernel
theorem dX8_slipsAt_21 : decode cX8_slipsAt 21 = .ok (.invokevirtual 160, 3) := by decide +kernel
theorem dX8_slipsAt_24 : decode cX8_slipsAt 24 = .ok (.iinc 3 1, 3) := by decide +kernel
theorem dX8_slipsAt_27 : decode cX8_slipsAt 27 = .ok (.goto (-16), 3) := by decide +kernel
theorem dX8_slipsAt_30 : decode cX8_slipsAt 30 = .ok (.aload_n 0, 1) := by decide +kernel
theorem dX8_slipsAt_31 : decode cX8_slipsAt 31 = .ok (.iload_n 2, 1) := by decide +kernel
theorem dX8_slipsAt_32 : decode cX8_slipsAt 32 = .ok (.iconst 1, 1) := by decide +kernel
theorem dX8_slipsAt_33 : decode cX8_slipsAt 33 = .ok (.invokevirtual 153, 3) := by decide +kernel
theorem dX8_slipsAt_36 : decode cX8_slipsAt 36 = .ok (.ifCond .ne 5, 3) := by decide +kernel
theorem dX8_slipsAt_39 : decode cX8_slipsAt 39 = .ok (.iconst 0, 1) := by decide +kernel
theorem dX8_slipsAt_40 : decode cX8_slipsAt 40 = .ok (.ireturn, 1) := by decide +kernel
theorem dX8_slipsAt_41 : decode cX8_slipsAt 41 = .ok (.aload_n 0, 1) := by decide +kernel
theorem dX8_slipsAt_42 : decode cX8_slipsAt 42 = .ok (.aload_n 0, 1) := by decide +kernel
theorem dX8_slipsAt_43 : decode cX8_slipsAt 43 = .ok (.getfield 16, 3) := by decide +kernel
theorem dX8_slipsAt_46 : decode cX8_slipsAt 46 = .ok (.aload_n 0, 1) := by decide +kernel
theorem dX8_slipsAt_47 : decode cX8_slipsAt 47 = .ok (.getfield 22, 3) := by decide +kernel
theorem dX8_slipsAt_50 : decode cX8_slipsAt 50 = .ok (.iload_n 2, 1) := by decide +kernel
theorem dX8_slipsAt_51 : decode cX8_slipsAt 51 = .ok (.iaload, 1) := by decide +kernel
theorem dX8_slipsAt_52 : decode cX8_slipsAt 52 = .ok (.iaload, 1) := by decide +kernel
theorem dX8_slipsAt_53 : decode cX8_slipsAt 53 = .ok (.aload_n 0, 1) := by decide +kernel
theorem dX8_slipsAt_54 : decode cX8_slipsAt 54 = .ok (.getfield 19, 3) := by decide +kernel
theorem dX8_slipsAt_57 : decode cX8_slipsAt 57 = .ok (.iload_n 2, 1) := by decide +kernel
theorem dX8_slipsAt_58 : decode cX8_slipsAt 58 = .ok (.iaload, 1) := by decide +kernel
theorem dX8_slipsAt_59 : decode cX8_slipsAt 59 = .ok (.bipush 6, 2) := by decide +kernel
theorem dX8_slipsAt_61 : decode cX8_slipsAt 61 = .ok (.if_icmp .ne 7, 3) := by decide +kernel
theorem dX8_slipsAt_64 : decode cX8_slipsAt 64 = .ok (.iload_n 1, 1) := by decide +kernel
theorem dX8_slipsAt_65 : decode cX8_slipsAt 65 = .ok (.goto 14, 3) := by decide +kernel
theorem dX8_slipsAt_68 : decode cX8_slipsAt 68 = .ok (.aload_n 0, 1) := by decide +kernel
theorem dX8_slipsAt_69 : decode cX8_slipsAt 69 = .ok (.getfield 34, 3) := by decide +kernel
theorem dX8_slipsAt_72 : decode cX8_slipsAt 72 = .ok (.aload_n 0, 1) := by decide +kernel
theorem dX8_slipsAt_73 : decode cX8_slipsAt 73 = .ok (.getfield 19, 3) := by decide +kernel
theorem dX8_slipsAt_76 : decode cX8_slipsAt 76 = .ok (.iload_n 2, 1) := by decide +kernel
theorem dX8_slipsAt_77 : decode cX8_slipsAt 77 = .ok (.iaload, 1) := by decide +kernel
theorem dX8_slipsAt_78 : decode cX8_slipsAt 78 = .ok (.iaload, 1) := by decide +kernel
theorem dX8_slipsAt_79 : decode cX8_slipsAt 79 = .ok (.invokevirtual 144, 3) := by decide +kernel
theorem dX8_slipsAt_82 : decode cX8_slipsAt 82 = .ok (.aload_n 0, 1) := by decide +kernel
theorem dX8_slipsAt_83 : decode cX8_slipsAt 83 = .ok (.getfield 90, 3) := by decide +kernel
theorem dX8_slipsAt_86 : decode cX8_slipsAt 86 = .ok (.ireturn, 1) := by decide +kernel
theorem dX8_maskOf_0 : decode cX8_maskOf 0 = .ok (.lconst 0, 1) := by decide +kernel
theorem dX8_maskOf_1 : decode cX8_maskOf 1 = .ok (.lstore_n 1, 1) := by decide +kernel
theorem dX8_maskOf_2 : decode cX8_maskOf 2 = .ok (.iconst 0, 1) := by decide +kernel
theorem dX8_maskOf_3 : decode cX8_maskOf 3 = .ok (.istore_n 3, 1) := by decide +kernel
theorem dX8_maskOf_4 : decode cX8_maskOf 4 = .ok (.iload_n 3, 1) := by decide +kernel
theorem dX8_maskOf_5 : decode cX8_maskOf 5 = .ok (.bipush 6, 2) := by decide +kernel
theorem dX8_maskOf_7 : decode cX8_maskOf 7 = .ok (.if_icmp .ge 31, 3) := by decide +kernel
theorem dX8_maskOf_10 : decode cX8_maskOf 10 = .ok (.lload_n 1, 1) := by decide +kernel
theorem dX8_maskOf_11 : decode cX8_maskOf 11 = .ok (.bipush 9, 2) := by decide +kernel
theorem dX8_maskOf_13 : decode cX8_maskOf 13 = .ok (.lshl, 1) := by decide +kernel
theorem dX8_maskOf_14 : decode cX8_maskOf 14 = .ok (.iload_n 0, 1) := by decide +kernel
theorem dX8_maskOf_15 : decode cX8_maskOf 15 = .ok (.iload_n 3, 1) := by decide +kernel
theorem dX8_maskOf_16 : decode cX8_maskOf 16 = .ok (.ishr, 1) := by decide +kernel
theorem dX8_maskOf_17 : decode cX8_maskOf 17 = .ok (.iconst 1, 1) := by decide +kernel
theorem dX8_maskOf_18 : decode cX8_maskOf 18 = .ok (.iand, 1) := by decide +kernel
theorem dX8_maskOf_19 : decode cX8_maskOf 19 = .ok (.iconst 1, 1) := by decide +kernel
theorem dX8_maskOf_20 : decode cX8_maskOf 20 = .ok (.if_icmp .ne 9, 3) := by decide +kernel
theorem dX8_maskOf_23 : decode cX8_maskOf 23 = .ok (.ldc2_w 226, 3) := by decide +kernel
theorem dX8_maskOf_26 : decode cX8_maskOf 26 = .ok (.goto 4, 3) := by decide +kernel
theorem dX8_maskOf_29 : decode cX8_maskOf 29 = .ok (.lconst 0, 1) := by decide +kernel
theorem dX8_maskOf_30 : decode cX8_maskOf 30 = .ok (.lor, 1) := by decide +kernel
theorem dX8_maskOf_31 : decode cX8_maskOf 31 = .ok (.lstore_n 1, 1) := by decide +kernel
theorem dX8_maskOf_32 : decode cX8_maskOf 32 = .ok (.iinc 3 1, 3) := by decide +kernel
theorem dX8_maskOf_35 : decode cX8_maskOf 35 = .ok (.goto (-31), 3) := by decide +kernel
theorem dX8_maskOf_38 : decode cX8_maskOf 38 = .ok (.lload_n 1, 1) := by decide +kernel
theorem dX8_maskOf_39 : decode cX8_maskOf 39 = .ok (.lreturn, 1) := by decide +kernel
theorem dX8_doubtful_0 : decode cX8_doubtful 0 = .ok (.iload_n 1, 1) := by decide +kernel
theorem dX8_doubtful_1 : decode cX8_doubtful 1 = .ok (.invokestatic 228, 3) := by decide +kernel
theorem dX8_doubtful_4 : decode cX8_doubtful 4 = .ok (.lstore_n 2, 1) := by decide +kernel
theorem dX8_doubtful_5 : decode cX8_doubtful 5 = .ok (.iconst 0, 1) := by decide +kernel
theorem dX8_doubtful_6 : decode cX8_doubtful 6 = .ok (.istore 4, 2) := by decide +kernel
theorem dX8_doubtful_8 : decode cX8_doubtful 8 = .ok (.iload 4, 2) := by decide +kernel
theorem dX8_doubtful_10 : decode cX8_doubtful 10 = .ok (.sipush 16384, 3) := by decide +kernel
theorem dX8_doubtful_13 : decode cX8_doubtful 13 = .ok (.if_icmp .ge 17, 3) := by decide +kernel
theorem dX8_doubtful_16 : decode cX8_doubtful 16 = .ok (.aload_n 0, 1) := by decide +kernel
theorem dX8_doubtful_17 : decode cX8_doubtful 17 = .ok (.getfield 57, 3) := by decide +kernel
theorem dX8_doubtful_20 : decode cX8_doubtful 20 = .ok (.iload 4, 2) := by decide +kernel
theorem dX8_doubtful_22 : decode cX8_doubtful 22 = .ok (.iconst 0, 1) := by decide +kernel
theorem dX8_doubtful_23 : decode cX8_doubtful 23 = .ok (.iastore, 1) := by decide +kernel
theorem dX8_doubtful_24 : decode cX8_doubtful 24 = .ok (.iinc 4 1, 3) := by decide +kernel
theorem dX8_doubtful_27 : decode cX8_doubtful 27 = .ok (.goto (-19), 3) := by decide +kernel
theorem dX8_doubtful_30 : decode cX8_doubtful 30 = .ok (.iconst 0, 1) := by decide +kernel
theorem dX8_doubtful_31 : decode cX8_doubtful 31 = .ok (.istore 4, 2) := by decide +kernel
theorem dX8_doubtful_33 : decode cX8_doubtful 33 = .ok (.iload 4, 2) := by decide +kernel
theorem dX8_doubtful_35 : decode cX8_doubtful 35 = .ok (.aload_n 0, 1) := by decide +kernel
theorem dX8_doubtful_36 : decode cX8_doubtful 36 = .ok (.getfield 214, 3) := by decide +kernel
theorem dX8_doubtful_39 : decode cX8_doubtful 39 = .ok (.if_icmp .ge 118, 3) := by decide +kernel
theorem dX8_doubtful_42 : decode cX8_doubtful 42 = .ok (.aload_n 0, 1) := by decide +kernel
theorem dX8_doubtful_43 : decode cX8_doubtful 43 = .ok (.getfield 48, 3) := by decide +kernel
theorem dX8_doubtful_46 : decode cX8_doubtful 46 = .ok (.iload 4, 2) := by decide +kernel
theorem dX8_doubtful_48 : decode cX8_doubtful 48 = .ok (.laload, 1) := by decide +kernel
theorem dX8_doubtful_49 : decode cX8_doubtful 49 = .ok (.lload_n 2, 1) := by decide +kernel
theorem dX8_doubtful_50 : decode cX8_doubtful 50 = .ok (.land, 1) := by decide +kernel
theorem dX8_doubtful_51 : decode cX8_doubtful 51 = .ok (.lstore 5, 2) := by decide +kernel
theorem dX8_doubtful_53 : decode cX8_doubtful 53 = .ok (.lload 5, 2) := by decide +kernel
theorem dX8_doubtful_55 : decode cX8_doubtful 55 = .ok (.ldc2_w 232, 3) := by decide +kernel
theorem dX8_doubtful_58 : decode cX8_doubtful 58 = .ok (.lmul, 1) := by decide +kernel
theorem dX8_doubtful_59 : decode cX8_doubtful 59 = .ok (.bipush 20, 2) := by decide +kernel
theorem dX8_doubtful_61 : decode cX8_doubtful 61 = .ok (.lshr, 1) := by decide +kernel
theorem dX8_doubtful_62 : decode cX8_doubtful 62 = .ok (.ldc2_w 234, 3) := by decide +kernel
theorem dX8_doubtful_65 : decode cX8_doubtful 65 = .ok (.lrem, 1) := by decide +kernel
theorem dX8_doubtful_66 : decode cX8_doubtful 66 = .ok (.l2i, 1) := by decide +kernel
theorem dX8_doubtful_67 : decode cX8_doubtful 67 = .ok (.istore 7, 2) := by decide +kernel
theorem dX8_doubtful_69 : decode cX8_doubtful 69 = .ok (.iload 7, 2) := by decide +kernel
theorem dX8_doubtful_71 : decode cX8_doubtful 71 = .ok (.ifCond .ge 12, 3) := by decide +kernel
theorem dX8_doubtful_74 : decode cX8_doubtful 74 = .ok (.iload 7, 2) := by decide +kernel
theorem dX8_doubtful_76 : decode cX8_doubtful 76 = .ok (.sipush 16384, 3) := by decide +kernel
theorem dX8_doubtful_79 : decode cX8_doubtful 79 = .ok (.iadd, 1) := by decide +kernel
theorem dX8_doubtful_80 : decode cX8_doubtful 80 = .ok (.goto 5, 3) := by decide +kernel
theorem dX8_doubtful_83 : decode cX8_doubtful 83 = .ok (.iload 7, 2) := by decide +kernel
theorem dX8_doubtful_85 : decode cX8_doubtful 85 = .ok (.istore 7, 2) := by decide +kernel
theorem dX8_doubtful_87 : decode cX8_doubtful 87 = .ok (.aload_n 0, 1) := by decide +kernel
theorem dX8_doubtful_88 : decode cX8_doubtful 88 = .ok (.getfield 57, 3) := by decide +kernel
theorem dX8_doubtful_91 : decode cX8_doubtful 91 = .ok (.iload 7, 2) := by decide +kernel
theorem dX8_doubtful_93 : decode cX8_doubtful 93 = .ok (.iaload, 1) := by decide +kernel
theorem dX8_doubtful_94 : decode cX8_doubtful 94 = .ok (.ifCond .eq 29, 3) := by decide +kernel
theorem dX8_doubtful_97 : decode cX8_doubtful 97 = .ok (.aload_n 0, 1) := by decide +kernel
theorem dX8_doubtful_98 : decode cX8_doubtful 98 = .ok (.getfield 54, 3) := by decide +kernel
theorem dX8_doubtful_101 : decode cX8_doubtful 101 = .ok (.iload 7, 2) := by decide +kernel
theorem dX8_doubtful_103 : decode cX8_doubtful 103 = .ok (.laload, 1) := by decide +kernel
theorem dX8_doubtful_104 : decode cX8_doubtful 104 = .ok (.lload 5, 2) := by decide +kernel
theorem dX8_doubtful_106 : decode cX8_doubtful 106 = .ok (.lcmp, 1) := by decide +kernel
theorem dX8_doubtful_107 : decode cX8_doubtful 107 = .ok (.ifCond .eq 16, 3) := by decide +kernel
theorem dX8_doubtful_110 : decode cX8_doubtful 110 = .ok (.iload 7, 2) := by decide +kernel
theorem dX8_doubtful_112 : decode cX8_doubtful 112 = .ok (.iconst 1, 1) := by decide +kernel
theorem dX8_doubtful_113 : decode cX8_doubtful 113 = .ok (.iadd, 1) := by decide +kernel
theorem dX8_doubtful_114 : decode cX8_doubtful 114 = .ok (.sipush 16384, 3) := by decide +kernel
theorem dX8_doubtful_117 : decode cX8_doubtful 117 = .ok (.irem, 1) := by decide +kernel
theorem dX8_doubtful_118 : decode cX8_doubtful 118 = .ok (.istore 7, 2) := by decide +kernel
theorem dX8_doubtful_120 : decode cX8_doubtful 120 = .ok (.goto (-33), 3) := by decide +kernel
theorem dX8_doubtful_123 : decode cX8_doubtful 123 = .ok (.aload_n 0, 1) := by decide +kernel
theorem dX8_doubtful_124 : decode cX8_doubtful 124 = .ok (.getfield 54, 3) := by decide +kernel
theorem dX8_doubtful_127 : decode cX8_doubtful 127 = .ok (.iload 7, 2) := by decide +kernel
theorem dX8_doubtful_129 : decode cX8_doubtful 129 = .ok (.lload 5, 2) := by decide +kernel
theorem dX8_doubtful_131 : decode cX8_doubtful 131 = .ok (.lastore, 1) := by decide +kernel
theorem dX8_doubtful_132 : decode cX8_doubtful 132 = .ok (.aload_n 0, 1) := by decide +kernel
theorem dX8_doubtful_133 : decode cX8_doubtful 133 = .ok (.getfield 57, 3) := by decide +kernel
theorem dX8_doubtful_136 : decode cX8_doubtful 136 = .ok (.iload 7, 2) := by decide +kernel
theorem dX8_doubtful_138 : decode cX8_doubtful 138 = .ok (.dup2, 1) := by decide +kernel
theorem dX8_doubtful_139 : decode cX8_doubtful 139 = .ok (.iaload, 1) := by decide +kernel
theorem dX8_doubtful_140 : decode cX8_doubtful 140 = .ok (.iconst 1, 1) := by decide +kernel
theorem dX8_doubtful_141 : decode cX8_doubtful 141 = .ok (.aload_n 0, 1) := by decide +kernel
theorem dX8_doubtful_142 : decode cX8_doubtful 142 = .ok (.getfield 51, 3) := by decide +kernel
theorem dX8_doubtful_145 : decode cX8_doubtful 145 = .ok (.iload 4, 2) := by decide +kernel
theorem dX8_doubtful_147 : decode cX8_doubtful 147 = .ok (.iaload, 1) := by decide +kernel
theorem dX8_doubtful_148 : decode cX8_doubtful 148 = .ok (.ishl, 1) := by decide +kernel
theorem dX8_doubtful_149 : decode cX8_doubtful 149 = .ok (.ior, 1) := by decide +kernel
theorem dX8_doubtful_150 : decode cX8_doubtful 150 = .ok (.iastore, 1) := by decide +kernel
theorem dX8_doubtful_151 : decode cX8_doubtful 151 = .ok (.iinc 4 1, 3) := by decide +kernel
theorem dX8_doubtful_154 : decode cX8_doubtful 154 = .ok (.goto (-121), 3) := by decide +kernel
theorem dX8_doubtful_157 : decode cX8_doubtful 157 = .ok (.iconst 0, 1) := by decide +kernel
theorem dX8_doubtful_158 : decode cX8_doubtful 158 = .ok (.istore 4, 2) := by decide +kernel
theorem dX8_doubtful_160 : decode cX8_doubtful 160 = .ok (.iconst 0, 1) := by decide +kernel
theorem dX8_doubtful_161 : decode cX8_doubtful 161 = .ok (.istore 5, 2) := by decide +kernel
theorem dX8_doubtful_163 : decode cX8_doubtful 163 = .ok (.iload 5, 2) := by decide +kernel
theorem dX8_doubtful_165 : decode cX8_doubtful 165 = .ok (.sipush 16384, 3) := by decide +kernel
theorem dX8_doubtful_168 : decode cX8_doubtful 168 = .ok (.if_icmp .ge 39, 3) := by decide +kernel
theorem dX8_doubtful_171 : decode cX8_doubtful 171 = .ok (.iload 4, 2) := by decide +kernel
theorem dX8_doubtful_173 : decode cX8_doubtful 173 = .ok (.aload_n 0, 1) := by decide +kernel
theorem dX8_doubtful_174 : decode cX8_doubtful 174 = .ok (.getfield 57, 3) := by decide +kernel
theorem dX8_doubtful_177 : decode cX8_doubtful 177 = .ok (.iload 5, 2) := by decide +kernel
theorem dX8_doubtful_179 : decode cX8_doubtful 179 = .ok (.iaload, 1) := by decide +kernel
theorem dX8_doubtful_180 : decode cX8_doubtful 180 = .ok (.invokestatic 236, 3) := by decide +kernel
theorem dX8_doubtful_183 : decode cX8_doubtful 183 = .ok (.iconst 1, 1) := by decide +kernel
theorem dX8_doubtful_184 : decode cX8_doubtful 184 = .ok (.if_icmp .le 13, 3) := by decide +kernel
theorem dX8_doubtful_187 : decode cX8_doubtful 187 = .ok (.aload_n 0, 1) := by decide +kernel
theorem dX8_doubtful_188 : decode cX8_doubtful 188 = .ok (.getfield 57, 3) := by decide +kernel
theorem dX8_doubtful_191 : decode cX8_doubtful 191 = .ok (.iload 5, 2) := by decide +kernel
theorem dX8_doubtful_193 : decode cX8_doubtful 193 = .ok (.iaload, 1) := by decide +kernel
theorem dX8_doubtful_194 : decode cX8_doubtful 194 = .ok (.goto 4, 3) := by decide +kernel
theorem dX8_doubtful_197 : decode cX8_doubtful 197 = .ok (.iconst 0, 1) := by decide +kernel
theorem dX8_doubtful_198 : decode cX8_doubtful 198 = .ok (.ior, 1) := by decide +kernel
theorem dX8_doubtful_199 : decode cX8_doubtful 199 = .ok (.istore 4, 2) := by decide +kernel
theorem dX8_doubtful_201 : decode cX8_doubtful 201 = .ok (.iinc 5 1, 3) := by decide +kernel
theorem dX8_doubtful_204 : decode cX8_doubtful 204 = .ok (.goto (-41), 3) := by decide +kernel
theorem dX8_doubtful_207 : decode cX8_doubtful 207 = .ok (.iload 4, 2) := by decide +kernel
theorem dX8_doubtful_209 : decode cX8_doubtful 209 = .ok (.ireturn, 1) := by decide +kernel
theorem dX8_few_0 : decode cX8_few 0 = .ok (.iload_n 1, 1) := by decide +kernel
theorem dX8_few_1 : decode cX8_few 1 = .ok (.i2l, 1) := by decide +kernel
theorem dX8_few_2 : decode cX8_few 2 = .ok (.lconst 1, 1) := by decide +kernel
theorem dX8_few_3 : decode cX8_few 3 = .ok (.ldc2_w 93, 3) := by decide +kernel
theorem dX8_few_6 : decode cX8_few 6 = .ok (.invokestatic 72, 3) := by decide +kernel
theorem dX8_few_9 : decode cX8_few 9 = .ok (.ifCond .ne 6, 3) := by decide +kernel
theorem dX8_few_12 : decode cX8_few 12 = .ok (.bipush (-2), 2) := by decide +kernel
theorem dX8_few_14 : decode cX8_few 14 = .ok (.ireturn, 1) := by decide +kernel
theorem dX8_few_15 : decode cX8_few 15 = .ok (.aload_n 0, 1) := by decide +kernel
theorem dX8_few_16 : decode cX8_few 16 = .ok (.iload_n 1, 1) := by decide +kernel
theorem dX8_few_17 : decode cX8_few 17 = .ok (.invokevirtual 239, 3) := by decide +kernel
theorem dX8_few_20 : decode cX8_few 20 = .ok (.bipush (-6), 2) := by decide +kernel
theorem dX8_few_22 : decode cX8_few 22 = .ok (.istore_n 2, 1) := by decide +kernel
theorem dX8_few_23 : decode cX8_few 23 = .ok (.iconst 0, 1) := by decide +kernel
theorem dX8_few_24 : decode cX8_few 24 = .ok (.istore_n 3, 1) := by decide +kernel
theorem dX8_few_25 : decode cX8_few 25 = .ok (.iload_n 3, 1) := by decide +kernel
theorem dX8_few_26 : decode cX8_few 26 = .ok (.bipush 64, 2) := by decide +kernel
theorem dX8_few_28 : decode cX8_few 28 = .ok (.if_icmp .ge 50, 3) := by decide +kernel
theorem dX8_few_31 : decode cX8_few 31 = .ok (.iload_n 2, 1) := by decide +kernel
theorem dX8_few_32 : decode cX8_few 32 = .ok (.ifCond .lt 14, 3) := by decide +kernel
theorem dX8_few_35 : decode cX8_few 35 = .ok (.iload_n 3, 1) := by decide +kernel
theorem dX8_few_36 : decode cX8_few 36 = .ok (.invokestatic 236, 3) := by decide +kernel
theorem dX8_few_39 : decode cX8_few 39 = .ok (.iload_n 2, 1) := by decide +kernel
theorem dX8_few_40 : decode cX8_few 40 = .ok (.invokestatic 236, 3) := by decide +kernel
theorem dX8_few_43 : decode cX8_few 43 = .ok (.if_icmp .ge 7, 3) := by decide +kernel
theorem dX8_few_46 : decode cX8_few 46 = .ok (.iconst 1, 1) := by decide +kernel
theorem dX8_few_47 : decode cX8_few 47 = .ok (.goto 4, 3) := by decide +kernel
theorem dX8_few_50 : decode cX8_few 50 = .ok (.iconst 0, 1) := by decide +kernel
theorem dX8_few_51 : decode cX8_few 51 = .ok (.istore 4, 2) := by decide +kernel
theorem dX8_few_53 : decode cX8_few 53 = .ok (.iload 4, 2) := by decide +kernel
theorem dX8_few_55 : decode cX8_few 55 = .ok (.ifCond .eq 15, 3) := by decide +kernel
theorem dX8_few_58 : decode cX8_few 58 = .ok (.aload_n 0, 1) := by decide +kernel
theorem dX8_few_59 : decode cX8_few 59 = .ok (.iload_n 3, 1) := by decide +kernel
theorem dX8_few_60 : decode cX8_few 60 = .ok (.invokevirtual 242, 3) := by decide +kernel
theorem dX8_few_63 : decode cX8_few 63 = .ok (.ifCond .ne 7, 3) := by decide +kernel
theorem dX8_few_66 : decode cX8_few 66 = .ok (.iload_n 3, 1) := by decide +kernel
theorem dX8_few_67 : decode cX8_few 67 = .ok (.goto 4, 3) := by decide +kernel
theorem dX8_few_70 : decode cX8_few 70 = .ok (.iload_n 2, 1) := by decide +kernel
theorem dX8_few_71 : decode cX8_few 71 = .ok (.istore_n 2, 1) := by decide +kernel
theorem dX8_few_72 : decode cX8_few 72 = .ok (.iinc 3 1, 3) := by decide +kernel
theorem dX8_few_75 : decode cX8_few 75 = .ok (.goto (-50), 3) := by decide +kernel
theorem dX8_few_78 : decode cX8_few 78 = .ok (.iload_n 2, 1) := by decide +kernel
theorem dX8_few_79 : decode cX8_few 79 = .ok (.ireturn, 1) := by decide +kernel
theorem dX8_doubt_0 : decode cX8_doubt 0 = .ok (.iload_n 1, 1) := by decide +kernel
theorem dX8_doubt_1 : decode cX8_doubt 1 = .ok (.i2l, 1) := by decide +kernel
theorem dX8_doubt_2 : decode cX8_doubt 2 = .ok (.lconst 1, 1) := by decide +kernel
theorem dX8_doubt_3 : decode cX8_doubt 3 = .ok (.ldc2_w 93, 3) := by decide +kernel
theorem dX8_doubt_6 : decode cX8_doubt 6 = .ok (.invokestatic 72, 3) := by decide +kernel
theorem dX8_doubt_9 : decode cX8_doubt 9 = .ok (.ifCond .eq 15, 3) := by decide +kernel
theorem dX8_doubt_12 : decode cX8_doubt 12 = .ok (.iload_n 2, 1) := by decide +kernel
theorem dX8_doubt_13 : decode cX8_doubt 13 = .ok (.i2l, 1) := by decide +kernel
theorem dX8_doubt_14 : decode cX8_doubt 14 = .ok (.lconst 0, 1) := by decide +kernel
theorem dX8_doubt_15 : decode cX8_doubt 15 = .ok (.ldc2_w 245, 3) := by decide +kernel
theorem dX8_doubt_18 : decode cX8_doubt 18 = .ok (.invokestatic 72, 3) := by decide +kernel
theorem dX8_doubt_21 : decode cX8_doubt 21 = .ok (.ifCond .ne 6, 3) := by decide +kernel
theorem dX8_doubt_24 : decode cX8_doubt 24 = .ok (.bipush (-2), 2) := by decide +kernel
theorem dX8_doubt_26 : decode cX8_doubt 26 = .ok (.ireturn, 1) := by decide +kernel
theorem dX8_doubt_27 : decode cX8_doubt 27 = .ok (.aload_n 0, 1) := by decide +kernel
theorem dX8_doubt_28 : decode cX8_doubt 28 = .ok (.iload_n 1, 1) := by decide +kernel
theorem dX8_doubt_29 : decode cX8_doubt 29 = .ok (.invokevirtual 239, 3) := by decide +kernel
theorem dX8_doubt_32 : decode cX8_doubt 32 = .ok (.aload_n 0, 1) := by decide +kernel
theorem dX8_doubt_33 : decode cX8_doubt 33 = .ok (.iload_n 2, 1) := by decide +kernel
theorem dX8_doubt_34 : decode cX8_doubt 34 = .ok (.invokevirtual 242, 3) := by decide +kernel
theorem dX8_doubt_37 : decode cX8_doubt 37 = .ok (.invokestatic 236, 3) := by decide +kernel
theorem dX8_doubt_40 : decode cX8_doubt 40 = .ok (.ireturn, 1) := by decide +kernel
theorem dX8_rare_0 : decode cX8_rare 0 = .ok (.iload_n 1, 1) := by decide +kernel
theorem dX8_rare_1 : decode cX8_rare 1 = .ok (.i2l, 1) := by decide +kernel
theorem dX8_rare_2 : decode cX8_rare 2 = .ok (.lconst 1, 1) := by decide +kernel
theorem dX8_rare_3 : decode cX8_rare 3 = .ok (.ldc2_w 129, 3) := by decide +kernel
theorem dX8_rare_6 : decode cX8_rare 6 = .ok (.invokestatic 72, 3) := by decide +kernel
theorem dX8_rare_9 : decode cX8_rare 9 = .ok (.ifCond .ne 6, 3) := by decide +kernel
theorem dX8_rare_12 : decode cX8_rare 12 = .ok (.bipush (-2), 2) := by decide +kernel
theorem dX8_rare_14 : decode cX8_rare 14 = .ok (.ireturn, 1) := by decide +kernel
theorem dX8_rare_15 : decode cX8_rare 15 = .ok (.aload_n 0, 1) := by decide +kernel
theorem dX8_rare_16 : decode cX8_rare 16 = .ok (.getfield 66, 3) := by decide +kernel
theorem dX8_rare_19 : decode cX8_rare 19 = .ok (.istore_n 2, 1) := by decide +kernel
theorem dX8_rare_20 : decode cX8_rare 20 = .ok (.aload_n 0, 1) := by decide +kernel
theorem dX8_rare_21 : decode cX8_rare 21 = .ok (.iload_n 1, 1) := by decide +kernel
theorem dX8_rare_22 : decode cX8_rare 22 = .ok (.putfield 66, 3) := by decide +kernel
theorem dX8_rare_25 : decode cX8_rare 25 = .ok (.iload_n 2, 1) := by decide +kernel
theorem dX8_rare_26 : decode cX8_rare 26 = .ok (.ireturn, 1) := by decide +kernel
theorem dX8_draw_0 : decode cX8_draw 0 = .ok (.aload_n 0, 1) := by decide +kernel
theorem dX8_draw_1 : decode cX8_draw 1 = .ok (.ldc2_w 247, 3) := by decide +kernel
theorem dX8_draw_4 : decode cX8_draw 4 = .ok (.aload_n 0, 1) := by decide +kernel
theorem dX8_draw_5 : decode cX8_draw 5 = .ok (.getfield 249, 3) := by decide +kernel
theorem dX8_draw_8 : decode cX8_draw 8 = .ok (.i2l, 1) := by decide +kernel
theorem dX8_draw_9 : decode cX8_draw 9 = .ok (.lmul, 1) := by decide +kernel
theorem dX8_draw_10 : decode cX8_draw 10 = .ok (.ldc2_w 252, 3) := by decide +kernel
theorem dX8_draw_13 : decode cX8_draw 13 = .ok (.ladd, 1) := by decide +kernel
theorem dX8_draw_14 : decode cX8_draw 14 = .ok (.ldc2_w 254, 3) := by decide +kernel
theorem dX8_draw_17 : decode cX8_draw 17 = .ok (.lrem, 1) := by decide +kernel
theorem dX8_draw_18 : decode cX8_draw 18 = .ok (.l2i, 1) := by decide +kernel
theorem dX8_draw_19 : decode cX8_draw 19 = .ok (.putfield 249, 3) := by decide +kernel
theorem dX8_draw_22 : decode cX8_draw 22 = .ok (.return_, 1) := by decide +kernel
theorem dX8_slipBy_0 : decode cX8_slipBy 0 = .ok (.aload_n 0, 1) := by decide +kernel
theorem dX8_slipBy_1 : decode cX8_slipBy 1 = .ok (.iload_n 1, 1) := by decide +kernel
theorem dX8_slipBy_2 : decode cX8_slipBy 2 = .ok (.iload_n 2, 1) := by decide +kernel
theorem dX8_slipBy_3 : decode cX8_slipBy 3 = .ok (.invokevirtual 153, 3) := by decide +kernel
theorem dX8_slipBy_6 : decode cX8_slipBy 6 = .ok (.ifCond .eq 25, 3) := by decide +kernel
theorem dX8_slipBy_9 : decode cX8_slipBy 9 = .ok (.aload_n 0, 1) := by decide +kernel
theorem dX8_slipBy_10 : decode cX8_slipBy 10 = .ok (.getfield 16, 3) := by decide +kernel
theorem dX8_slipBy_13 : decode cX8_slipBy 13 = .ok (.aload_n 0, 1) := by decide +kernel
theorem dX8_slipBy_14 : decode cX8_slipBy 14 = .ok (.getfield 22, 3) := by decide +kernel
theorem dX8_slipBy_17 : decode cX8_slipBy 17 = .ok (.iload_n 1, 1) := by decide +kernel
theorem dX8_slipBy_18 : decode cX8_slipBy 18 = .ok (.iaload, 1) := by decide +kernel
theorem dX8_slipBy_19 : decode cX8_slipBy 19 = .ok (.iaload, 1) := by decide +kernel
theorem dX8_slipBy_20 : decode cX8_slipBy 20 = .ok (.i2l, 1) := by decide +kernel
theorem dX8_slipBy_21 : decode cX8_slipBy 21 = .ok (.lconst 1, 1) := by decide +kernel
theorem dX8_slipBy_22 : decode cX8_slipBy 22 = .ok (.ldc2_w 93, 3) := by decide +kernel
theorem dX8_slipBy_25 : decode cX8_slipBy 25 = .ok (.invokestatic 72, 3) := by decide +kernel
theorem dX8_slipBy_28 : decode cX8_slipBy 28 = .ok (.ifCond .ne 5, 3) := by decide +kernel
theorem dX8_slipBy_31 : decode cX8_slipBy 31 = .ok (.iconst 0, 1) := by decide +kernel
theorem dX8_slipBy_32 : decode cX8_slipBy 32 = .ok (.ireturn, 1) := by decide +kernel
theorem dX8_slipBy_33 : decode cX8_slipBy 33 = .ok (.aload_n 0, 1) := by decide +kernel
theorem dX8_slipBy_34 : decode cX8_slipBy 34 = .ok (.invokevirtual 256, 3) := by decide +kernel
theorem dX8_slipBy_37 : decode cX8_slipBy 37 = .ok (.aload_n 0, 1) := by decide +kernel
theorem dX8_slipBy_38 : decode cX8_slipBy 38 = .ok (.getfield 249, 3) := by decide +kernel
theorem dX8_slipBy_41 : decode cX8_slipBy 41 = .ok (.aload_n 0, 1) := by decide +kernel
theorem dX8_slipBy_42 : decode cX8_slipBy 42 = .ok (.getfield 66, 3) := by decide +kernel
theorem dX8_slipBy_45 : decode cX8_slipBy 45 = .ok (.irem, 1) := by decide +kernel
theorem dX8_slipBy_46 : decode cX8_slipBy 46 = .ok (.ifCond .eq 5, 3) := by decide +kernel
theorem dX8_slipBy_49 : decode cX8_slipBy 49 = .ok (.iconst 0, 1) := by decide +kernel
theorem dX8_slipBy_50 : decode cX8_slipBy 50 = .ok (.ireturn, 1) := by decide +kernel
theorem dX8_slipBy_51 : decode cX8_slipBy 51 = .ok (.aload_n 0, 1) := by decide +kernel
theorem dX8_slipBy_52 : decode cX8_slipBy 52 = .ok (.invokevirtual 256, 3) := by decide +kernel
theorem dX8_slipBy_55 : decode cX8_slipBy 55 = .ok (.aload_n 0, 1) := by decide +kernel
theorem dX8_slipBy_56 : decode cX8_slipBy 56 = .ok (.aload_n 0, 1) := by decide +kernel
theorem dX8_slipBy_57 : decode cX8_slipBy 57 = .ok (.getfield 16, 3) := by decide +kernel
theorem dX8_slipBy_60 : decode cX8_slipBy 60 = .ok (.aload_n 0, 1) := by decide +kernel
theorem dX8_slipBy_61 : decode cX8_slipBy 61 = .ok (.getfield 22, 3) := by decide +kernel
theorem dX8_slipBy_64 : decode cX8_slipBy 64 = .ok (.iload_n 1, 1) := by decide +kernel
theorem dX8_slipBy_65 : decode cX8_slipBy 65 = .ok (.iaload, 1) := by decide +kernel
theorem dX8_slipBy_66 : decode cX8_slipBy 66 = .ok (.iaload, 1) := by decide +kernel
theorem dX8_slipBy_67 : decode cX8_slipBy 67 = .ok (.aload_n 0, 1) := by decide +kernel
theorem dX8_slipBy_68 : decode cX8_slipBy 68 = .ok (.getfield 19, 3) := by decide +kernel
theorem dX8_slipBy_71 : decode cX8_slipBy 71 = .ok (.iload_n 1, 1) := by decide +kernel
theorem dX8_slipBy_72 : decode cX8_slipBy 72 = .ok (.iaload, 1) := by decide +kernel
theorem dX8_slipBy_73 : decode cX8_slipBy 73 = .ok (.bipush 6, 2) := by decide +kernel
theorem dX8_slipBy_75 : decode cX8_slipBy 75 = .ok (.if_icmp .ne 10, 3) := by decide +kernel
theorem dX8_slipBy_78 : decode cX8_slipBy 78 = .ok (.aload_n 0, 1) := by decide +kernel
theorem dX8_slipBy_79 : decode cX8_slipBy 79 = .ok (.getfield 147, 3) := by decide +kernel
theorem dX8_slipBy_82 : decode cX8_slipBy 82 = .ok (.goto 14, 3) := by decide +kernel
theorem dX8_slipBy_85 : decode cX8_slipBy 85 = .ok (.aload_n 0, 1) := by decide +kernel
theorem dX8_slipBy_86 : decode cX8_slipBy 86 = .ok (.getfield 34, 3) := by decide +kernel
theorem dX8_slipBy_89 : decode cX8_slipBy 89 = .ok (.aload_n 0, 1) := by decide +kernel
theorem dX8_slipBy_90 : decode cX8_slipBy 90 = .ok (.getfield 19, 3) := by decide +kernel
theorem dX8_slipBy_93 : decode cX8_slipBy 93 = .ok (.iload_n 1, 1) := by decide +kernel
theorem dX8_slipBy_94 : decode cX8_slipBy 94 = .ok (.iaload, 1) := by decide +kernel
theorem dX8_slipBy_95 : decode cX8_slipBy 95 = .ok (.iaload, 1) := by decide +kernel
theorem dX8_slipBy_96 : decode cX8_slipBy 96 = .ok (.invokevirtual 144, 3) := by decide +kernel
theorem dX8_slipBy_99 : decode cX8_slipBy 99 = .ok (.aload_n 0, 1) := by decide +kernel
theorem dX8_slipBy_100 : decode cX8_slipBy 100 = .ok (.getfield 90, 3) := by decide +kernel
theorem dX8_slipBy_103 : decode cX8_slipBy 103 = .ok (.ifCond .ne 7, 3) := by decide +kernel
theorem dX8_slipBy_106 : decode cX8_slipBy 106 = .ok (.iconst 0, 1) := by decide +kernel
theorem dX8_slipBy_107 : decode cX8_slipBy 107 = .ok (.goto 14, 3) := by decide +kernel
theorem dX8_slipBy_110 : decode cX8_slipBy 110 = .ok (.iconst 1, 1) := by decide +kernel
theorem dX8_slipBy_111 : decode cX8_slipBy 111 = .ok (.aload_n 0, 1) := by decide +kernel
theorem dX8_slipBy_112 : decode cX8_slipBy 112 = .ok (.getfield 249, 3) := by decide +kernel
theorem dX8_slipBy_115 : decode cX8_slipBy 115 = .ok (.aload_n 0, 1) := by decide +kernel
theorem dX8_slipBy_116 : decode cX8_slipBy 116 = .ok (.getfield 90, 3) := by decide +kernel
theorem dX8_slipBy_119 : decode cX8_slipBy 119 = .ok (.irem, 1) := by decide +kernel
theorem dX8_slipBy_120 : decode cX8_slipBy 120 = .ok (.iadd, 1) := by decide +kernel
theorem dX8_slipBy_121 : decode cX8_slipBy 121 = .ok (.ireturn, 1) := by decide +kernel
theorem dX8_passDay_0 : decode cX8_passDay 0 = .ok (.aload_n 0, 1) := by decide +kernel
theorem dX8_passDay_1 : decode cX8_passDay 1 = .ok (.iconst 0, 1) := by decide +kernel
theorem dX8_passDay_2 : decode cX8_passDay 2 = .ok (.putfield 150, 3) := by decide +kernel
theorem dX8_passDay_5 : decode cX8_passDay 5 = .ok (.iconst 0, 1) := by decide +kernel
theorem dX8_passDay_6 : decode cX8_passDay 6 = .ok (.istore_n 2, 1) := by decide +kernel
theorem dX8_passDay_7 : decode cX8_passDay 7 = .ok (.iload_n 2, 1) := by decide +kernel
theorem dX8_passDay_8 : decode cX8_passDay 8 = .ok (.aload_n 0, 1) := by decide +kernel
theorem dX8_passDay_9 : decode cX8_passDay 9 = .ok (.getfield 138, 3) := by decide +kernel
theorem dX8_passDay_12 : decode cX8_passDay 12 = .ok (.if_icmp .ge 25, 3) := by decide +kernel
theorem dX8_passDay_15 : decode cX8_passDay 15 = .ok (.aload_n 0, 1) := by decide +kernel
theorem dX8_passDay_16 : decode cX8_passDay 16 = .ok (.iload_n 2, 1) := by decide +kernel
theorem dX8_passDay_17 : decode cX8_passDay 17 = .ok (.aload_n 0, 1) := by decide +kernel
theorem dX8_passDay_18 : decode cX8_passDay 18 = .ok (.getfield 147, 3) := by decide +kernel
theorem dX8_passDay_21 : decode cX8_passDay 21 = .ok (.iload_n 1, 1) := by decide +kernel
theorem dX8_passDay_22 : decode cX8_passDay 22 = .ok (.aload_n 0, 1) := by decide +kernel
theorem dX8_passDay_23 : decode cX8_passDay 23 = .ok (.iload_n 2, 1) := by decide +kernel
theorem dX8_passDay_24 : decode cX8_passDay 24 = .ok (.iload_n 1, 1) := by decide +kernel
theorem dX8_passDay_25 : decode cX8_passDay 25 = .ok (.invokevirtual 259, 3) := by decide +kernel
theorem dX8_passDay_28 : decode cX8_passDay 28 = .ok (.invokevirtual 160, 3) := by decide +kernel
theorem dX8_passDay_31 : decode cX8_passDay 31 = .ok (.iinc 2 1, 3) := by decide +kernel
theorem dX8_passDay_34 : decode cX8_passDay 34 = .ok (.goto (-27), 3) := by decide +kernel
theorem dX8_passDay_37 : decode cX8_passDay 37 = .ok (.return_, 1) := by decide +kernel
theorem dX8_isSeed_0 : decode cX8_isSeed 0 = .ok (.iload_n 0, 1) := by decide +kernel
theorem dX8_isSeed_1 : decode cX8_isSeed 1 = .ok (.i2l, 1) := by decide +kernel
theorem dX8_isSeed_2 : decode cX8_isSeed 2 = .ok (.lconst 0, 1) := by decide +kernel
theorem dX8_isSeed_3 : decode cX8_isSeed 3 = .ok (.ldc2_w 263, 3) := by decide +kernel
theorem dX8_isSeed_6 : decode cX8_isSeed 6 = .ok (.invokestatic 72, 3) := by decide +kernel
theorem dX8_isSeed_9 : decode cX8_isSeed 9 = .ok (.ifCond .eq 19, 3) := by decide +kernel
theorem dX8_isSeed_12 : decode cX8_isSeed 12 = .ok (.iload_n 1, 1) := by decide +kernel
theorem dX8_isSeed_13 : decode cX8_isSeed 13 = .ok (.i2l, 1) := by decide +kernel
theorem dX8_isSeed_14 : decode cX8_isSeed 14 = .ok (.lconst 1, 1) := by decide +kernel
theorem dX8_isSeed_15 : decode cX8_isSeed 15 = .ok (.ldc2_w 265, 3) := by decide +kernel
theorem dX8_isSeed_18 : decode cX8_isSeed 18 = .ok (.invokestatic 72, 3) := by decide +kernel
theorem dX8_isSeed_21 : decode cX8_isSeed 21 = .ok (.ifCond .eq 7, 3) := by decide +kernel
theorem dX8_isSeed_24 : decode cX8_isSeed 24 = .ok (.iconst 1, 1) := by decide +kernel
theorem dX8_isSeed_25 : decode cX8_isSeed 25 = .ok (.goto 4, 3) := by decide +kernel
theorem dX8_isSeed_28 : decode cX8_isSeed 28 = .ok (.iconst 0, 1) := by decide +kernel
theorem dX8_isSeed_29 : decode cX8_isSeed 29 = .ok (.ireturn, 1) := by decide +kernel
theorem dX8_years_0 : decode cX8_years 0 = .ok (.iload_n 3, 1) := by decide +kernel
theorem dX8_years_1 : decode cX8_years 1 = .ok (.invokestatic 103, 3) := by decide +kernel
theorem dX8_years_4 : decode cX8_years 4 = .ok (.ifCond .ne 5, 3) := by decide +kernel
theorem dX8_years_7 : decode cX8_years 7 = .ok (.iconst (-1), 1) := by decide +kernel
theorem dX8_years_8 : decode cX8_years 8 = .ok (.ireturn, 1) := by decide +kernel
theorem dX8_years_9 : decode cX8_years 9 = .ok (.iload_n 1, 1) := by decide +kernel
theorem dX8_years_10 : decode cX8_years 10 = .ok (.iload_n 2, 1) := by decide +kernel
theorem dX8_years_11 : decode cX8_years 11 = .ok (.invokestatic 267, 3) := by decide +kernel
theorem dX8_years_14 : decode cX8_years 14 = .ok (.ifCond .ne 6, 3) := by decide +kernel
theorem dX8_years_17 : decode cX8_years 17 = .ok (.bipush (-2), 2) := by decide +kernel
theorem dX8_years_19 : decode cX8_years 19 = .ok (.ireturn, 1) := by decide +kernel
theorem dX8_years_20 : decode cX8_years 20 = .ok (.aload_n 0, 1) := by decide +kernel
theorem dX8_years_21 : decode cX8_years 21 = .ok (.invokevirtual 157, 3) := by decide +kernel
theorem dX8_years_24 : decode cX8_years 24 = .ok (.aload_n 0, 1) := by decide +kernel
theorem dX8_years_25 : decode cX8_years 25 = .ok (.iload_n 1, 1) := by decide +kernel
theorem dX8_years_26 : decode cX8_years 26 = .ok (.putfield 249, 3) := by decide +kernel
theorem dX8_years_29 : decode cX8_years 29 = .ok (.iconst 1, 1) := by decide +kernel
theorem dX8_years_30 : decode cX8_years 30 = .ok (.istore 5, 2) := by decide +kernel
theorem dX8_years_32 : decode cX8_years 32 = .ok (.iload 5, 2) := by decide +kernel
theorem dX8_years_34 : decode cX8_years 34 = .ok (.iload_n 2, 1) := by decide +kernel
theorem dX8_years_35 : decode cX8_years 35 = .ok (.if_icmp .gt 24, 3) := by decide +kernel
theorem dX8_years_38 : decode cX8_years 38 = .ok (.aload_n 0, 1) := by decide +kernel
theorem dX8_years_39 : decode cX8_years 39 = .ok (.iload 5, 2) := by decide +kernel
theorem dX8_years_41 : decode cX8_years 41 = .ok (.iconst 1, 1) := by decide +kernel
theorem dX8_years_42 : decode cX8_years 42 = .ok (.if_icmp .ne 7, 3) := by decide +kernel
theorem dX8_years_45 : decode cX8_years 45 = .ok (.iconst 1, 1) := by decide +kernel
theorem dX8_years_46 : decode cX8_years 46 = .ok (.goto 4, 3) := by decide +kernel
theorem dX8_years_49 : decode cX8_years 49 = .ok (.iconst 0, 1) := by decide +kernel
theorem dX8_years_50 : decode cX8_years 50 = .ok (.invokevirtual 271, 3) := by decide +kernel
theorem dX8_years_53 : decode cX8_years 53 = .ok (.iinc 5 1, 3) := by decide +kernel
theorem dX8_years_56 : decode cX8_years 56 = .ok (.goto (-24), 3) := by decide +kernel
theorem dX8_years_59 : decode cX8_years 59 = .ok (.aload_n 0, 1) := by decide +kernel
theorem dX8_years_60 : decode cX8_years 60 = .ok (.aload_n 0, 1) := by decide +kernel
theorem dX8_years_61 : decode cX8_years 61 = .ok (.getfield 34, 3) := by decide +kernel
theorem dX8_years_64 : decode cX8_years 64 = .ok (.iload_n 3, 1) := by decide +kernel
theorem dX8_years_65 : decode cX8_years 65 = .ok (.iaload, 1) := by decide +kernel
theorem dX8_years_66 : decode cX8_years 66 = .ok (.iload 4, 2) := by decide +kernel
theorem dX8_years_68 : decode cX8_years 68 = .ok (.invokevirtual 168, 3) := by decide +kernel
theorem dX8_years_71 : decode cX8_years 71 = .ok (.ireturn, 1) := by decide +kernel
theorem dX8_lost_0 : decode cX8_lost 0 = .ok (.iload_n 3, 1) := by decide +kernel
theorem dX8_lost_1 : decode cX8_lost 1 = .ok (.invokestatic 103, 3) := by decide +kernel
theorem dX8_lost_4 : decode cX8_lost 4 = .ok (.ifCond .ne 5, 3) := by decide +kernel
theorem dX8_lost_7 : decode cX8_lost 7 = .ok (.iconst (-1), 1) := by decide +kernel
theorem dX8_lost_8 : decode cX8_lost 8 = .ok (.ireturn, 1) := by decide +kernel
theorem dX8_lost_9 : decode cX8_lost 9 = .ok (.iload_n 1, 1) := by decide +kernel
theorem dX8_lost_10 : decode cX8_lost 10 = .ok (.iload_n 2, 1) := by decide +kernel
theorem dX8_lost_11 : decode cX8_lost 11 = .ok (.invokestatic 267, 3) := by decide +kernel
theorem dX8_lost_14 : decode cX8_lost 14 = .ok (.ifCond .ne 6, 3) := by decide +kernel
theorem dX8_lost_17 : decode cX8_lost 17 = .ok (.bipush (-2), 2) := by decide +kernel
theorem dX8_lost_19 : decode cX8_lost 19 = .ok (.ireturn, 1) := by decide +kernel
theorem dX8_lost_20 : decode cX8_lost 20 = .ok (.aload_n 0, 1) := by decide +kernel
theorem dX8_lost_21 : decode cX8_lost 21 = .ok (.invokevirtual 157, 3) := by decide +kernel
theorem dX8_lost_24 : decode cX8_lost 24 = .ok (.aload_n 0, 1) := by decide +kernel
theorem dX8_lost_25 : decode cX8_lost 25 = .ok (.iload_n 1, 1) := by decide +kernel
theorem dX8_lost_26 : decode cX8_lost 26 = .ok (.putfield 249, 3) := by decide +kernel
theorem dX8_lost_29 : decode cX8_lost 29 = .ok (.iconst 1, 1) := by decide +kernel
theorem dX8_lost_30 : decode cX8_lost 30 = .ok (.istore 4, 2) := by decide +kernel
theorem dX8_lost_32 : decode cX8_lost 32 = .ok (.iload 4, 2) := by decide +kernel
theorem dX8_lost_34 : decode cX8_lost 34 = .ok (.iload_n 2, 1) := by decide +kernel
theorem dX8_lost_35 : decode cX8_lost 35 = .ok (.if_icmp .gt 40, 3) := by decide +kernel
theorem dX8_lost_38 : decode cX8_lost 38 = .ok (.aload_n 0, 1) := by decide +kernel
theorem dX8_lost_39 : decode cX8_lost 39 = .ok (.iload 4, 2) := by decide +kernel
theorem dX8_lost_41 : decode cX8_lost 41 = .ok (.iconst 1, 1) := by decide +kernel
theorem dX8_lost_42 : decode cX8_lost 42 = .ok (.if_icmp .ne 7, 3) := by decide +kernel
theorem dX8_lost_45 : decode cX8_lost 45 = .ok (.iconst 1, 1) := by decide +kernel
theorem dX8_lost_46 : decode cX8_lost 46 = .ok (.goto 4, 3) := by decide +kernel
theorem dX8_lost_49 : decode cX8_lost 49 = .ok (.iconst 0, 1) := by decide +kernel
theorem dX8_lost_50 : decode cX8_lost 50 = .ok (.invokevirtual 271, 3) := by decide +kernel
theorem dX8_lost_53 : decode cX8_lost 53 = .ok (.aload_n 0, 1) := by decide +kernel
theorem dX8_lost_54 : decode cX8_lost 54 = .ok (.getfield 34, 3) := by decide +kernel
theorem dX8_lost_57 : decode cX8_lost 57 = .ok (.iload_n 3, 1) := by decide +kernel
theorem dX8_lost_58 : decode cX8_lost 58 = .ok (.iaload, 1) := by decide +kernel
theorem dX8_lost_59 : decode cX8_lost 59 = .ok (.aload_n 0, 1) := by decide +kernel
theorem dX8_lost_60 : decode cX8_lost 60 = .ok (.getfield 147, 3) := by decide +kernel
theorem dX8_lost_63 : decode cX8_lost 63 = .ok (.if_icmp .eq 6, 3) := by decide +kernel
theorem dX8_lost_66 : decode cX8_lost 66 = .ok (.iload 4, 2) := by decide +kernel
theorem dX8_lost_68 : decode cX8_lost 68 = .ok (.ireturn, 1) := by decide +kernel
theorem dX8_lost_69 : decode cX8_lost 69 = .ok (.iinc 4 1, 3) := by decide +kernel
theorem dX8_lost_72 : decode cX8_lost 72 = .ok (.goto (-40), 3) := by decide +kernel
theorem dX8_lost_75 : decode cX8_lost 75 = .ok (.bipush (-6), 2) := by decide +kernel
theorem dX8_lost_77 : decode cX8_lost 77 = .ok (.ireturn, 1) := by decide +kernel
theorem dX8_pass_0 : decode cX8_pass 0 = .ok (.aload_n 0, 1) := by decide +kernel
theorem dX8_pass_1 : decode cX8_pass 1 = .ok (.getfield 275, 3) := by decide +kernel
theorem dX8_pass_4 : decode cX8_pass 4 = .ok (.ifCond .eq 7, 3) := by decide +kernel
theorem dX8_pass_7 : decode cX8_pass 7 = .ok (.iload_n 1, 1) := by decide +kernel
theorem dX8_pass_8 : decode cX8_pass 8 = .ok (.goto 12, 3) := by decide +kernel
theorem dX8_pass_11 : decode cX8_pass 11 = .ok (.aload_n 0, 1) := by decide +kernel
theorem dX8_pass_12 : decode cX8_pass 12 = .ok (.getfield 60, 3) := by decide +kernel
theorem dX8_pass_15 : decode cX8_pass 15 = .ok (.aload_n 0, 1) := by decide +kernel
theorem dX8_pass_16 : decode cX8_pass 16 = .ok (.getfield 279, 3) := by decide +kernel
theorem dX8_pass_19 : decode cX8_pass 19 = .ok (.iaload, 1) := by decide +kernel
theorem dX8_pass_20 : decode cX8_pass 20 = .ok (.istore_n 2, 1) := by decide +kernel
theorem dX8_pass_21 : decode cX8_pass 21 = .ok (.aload_n 0, 1) := by decide +kernel
theorem dX8_pass_22 : decode cX8_pass 22 = .ok (.getfield 60, 3) := by decide +kernel
theorem dX8_pass_25 : decode cX8_pass 25 = .ok (.aload_n 0, 1) := by decide +kernel
theorem dX8_pass_26 : decode cX8_pass 26 = .ok (.getfield 279, 3) := by decide +kernel
theorem dX8_pass_29 : decode cX8_pass 29 = .ok (.iload_n 2, 1) := by decide +kernel
theorem dX8_pass_30 : decode cX8_pass 30 = .ok (.iastore, 1) := by decide +kernel
theorem dX8_pass_31 : decode cX8_pass 31 = .ok (.aload_n 0, 1) := by decide +kernel
theorem dX8_pass_32 : decode cX8_pass 32 = .ok (.dup, 1) := by decide +kernel
theorem dX8_pass_33 : decode cX8_pass 33 = .ok (.getfield 279, 3) := by decide +kernel
theorem dX8_pass_36 : decode cX8_pass 36 = .ok (.iconst 1, 1) := by decide +kernel
theorem dX8_pass_37 : decode cX8_pass 37 = .ok (.iadd, 1) := by decide +kernel
theorem dX8_pass_38 : decode cX8_pass 38 = .ok (.putfield 279, 3) := by decide +kernel
theorem dX8_pass_41 : decode cX8_pass 41 = .ok (.iload_n 2, 1) := by decide +kernel
theorem dX8_pass_42 : decode cX8_pass 42 = .ok (.ireturn, 1) := by decide +kernel
theorem dX8_passAll_0 : decode cX8_passAll 0 = .ok (.aload_n 0, 1) := by decide +kernel
theorem dX8_passAll_1 : decode cX8_passAll 1 = .ok (.aload_n 0, 1) := by decide +kernel
theorem dX8_passAll_2 : decode cX8_passAll 2 = .ok (.aload_n 0, 1) := by decide +kernel
theorem dX8_passAll_3 : decode cX8_passAll 3 = .ok (.getfield 138, 3) := by decide +kernel
theorem dX8_passAll_6 : decode cX8_passAll 6 = .ok (.invokevirtual 282, 3) := by decide +kernel
theorem dX8_passAll_9 : decode cX8_passAll 9 = .ok (.putfield 138, 3) := by decide +kernel
theorem dX8_passAll_12 : decode cX8_passAll 12 = .ok (.aload_n 0, 1) := by decide +kernel
theorem dX8_passAll_13 : decode cX8_passAll 13 = .ok (.aload_n 0, 1) := by decide +kernel
theorem dX8_passAll_14 : decode cX8_passAll 14 = .ok (.aload_n 0, 1) := by decide +kernel
theorem dX8_passAll_15 : decode cX8_passAll 15 = .ok (.getfield 147, 3) := by decide +kernel
theorem dX8_passAll_18 : decode cX8_passAll 18 = .ok (.invokevirtual 282, 3) := by decide +kernel
theorem dX8_passAll_21 : decode cX8_passAll 21 = .ok (.putfield 147, 3) := by decide +kernel
theorem dX8_passAll_24 : decode cX8_passAll 24 = .ok (.aload_n 0, 1) := by decide +kernel
theorem dX8_passAll_25 : decode cX8_passAll 25 = .ok (.aload_n 0, 1) := by decide +kernel
theorem dX8_passAll_26 : decode cX8_passAll 26 = .ok (.aload_n 0, 1) := by decide +kernel
theorem dX8_passAll_27 : decode cX8_passAll 27 = .ok (.getfield 66, 3) := by decide +kernel
theorem dX8_passAll_30 : decode cX8_passAll 30 = .ok (.invokevirtual 282, 3) := by decide +kernel
theorem dX8_passAll_33 : decode cX8_passAll 33 = .ok (.putfield 66, 3) := by decide +kernel
theorem dX8_passAll_36 : decode cX8_passAll 36 = .ok (.iconst 0, 1) := by decide +kernel
theorem dX8_passAll_37 : decode cX8_passAll 37 = .ok (.istore_n 1, 1) := by decide +kernel
theorem dX8_passAll_38 : decode cX8_passAll 38 = .ok (.iload_n 1, 1) := by decide +kernel
theorem dX8_passAll_39 : decode cX8_passAll 39 = .ok (.bipush 6, 2) := by decide +kernel
theorem dX8_passAll_41 : decode cX8_passAll 41 = .ok (.if_icmp .ge 41, 3) := by decide +kernel
theorem dX8_passAll_44 : decode cX8_passAll 44 = .ok (.aload_n 0, 1) := by decide +kernel
theorem dX8_passAll_45 : decode cX8_passAll 45 = .ok (.getfield 16, 3) := by decide +kernel
theorem dX8_passAll_48 : decode cX8_passAll 48 = .ok (.iload_n 1, 1) := by decide +kernel
theorem dX8_passAll_49 : decode cX8_passAll 49 = .ok (.aload_n 0, 1) := by decide +kernel
theorem dX8_passAll_50 : decode cX8_passAll 50 = .ok (.aload_n 0, 1) := by decide +kernel
theorem dX8_passAll_51 : decode cX8_passAll 51 = .ok (.getfield 16, 3) := by decide +kernel
theorem dX8_passAll_54 : decode cX8_passAll 54 = .ok (.iload_n 1, 1) := by decide +kernel
theorem dX8_passAll_55 : decode cX8_passAll 55 = .ok (.iaload, 1) := by decide +kernel
theorem dX8_passAll_56 : decode cX8_passAll 56 = .ok (.invokevirtual 282, 3) := by decide +kernel
theorem dX8_passAll_59 : decode cX8_passAll 59 = .ok (.iastore, 1) := by decide +kernel
theorem dX8_passAll_60 : decode cX8_passAll 60 = .ok (.aload_n 0, 1) := by decide +kernel
theorem dX8_passAll_61 : decode cX8_passAll 61 = .ok (.getfield 28, 3) := by decide +kernel
theorem dX8_passAll_64 : decode cX8_passAll 64 = .ok (.iload_n 1, 1) := by decide +kernel
theorem dX8_passAll_65 : decode cX8_passAll 65 = .ok (.aload_n 0, 1) := by decide +kernel
theorem dX8_passAll_66 : decode cX8_passAll 66 = .ok (.aload_n 0, 1) := by decide +kernel
theorem dX8_passAll_67 : decode cX8_passAll 67 = .ok (.getfield 28, 3) := by decide +kernel
theorem dX8_passAll_70 : decode cX8_passAll 70 = .ok (.iload_n 1, 1) := by decide +kernel
theorem dX8_passAll_71 : decode cX8_passAll 71 = .ok (.iaload, 1) := by decide +kernel
theorem dX8_passAll_72 : decode cX8_passAll 72 = .ok (.invokevirtual 282, 3) := by decide +kernel
theorem dX8_passAll_75 : decode cX8_passAll 75 = .ok (.iastore, 1) := by decide +kernel
theorem dX8_passAll_76 : decode cX8_passAll 76 = .ok (.iinc 1 1, 3) := by decide +kernel
theorem dX8_passAll_79 : decode cX8_passAll 79 = .ok (.goto (-41), 3) := by decide +kernel
theorem dX8_passAll_82 : decode cX8_passAll 82 = .ok (.iconst 0, 1) := by decide +kernel
theorem dX8_passAll_83 : decode cX8_passAll 83 = .ok (.istore_n 1, 1) := by decide +kernel
theorem dX8_passAll_84 : decode cX8_passAll 84 = .ok (.iload_n 1, 1) := by decide +kernel
theorem dX8_passAll_85 : decode cX8_passAll 85 = .ok (.bipush 16, 2) := by decide +kernel
theorem dX8_passAll_87 : decode cX8_passAll 87 = .ok (.if_icmp .ge 57, 3) := by decide +kernel
theorem dX8_passAll_90 : decode cX8_passAll 90 = .ok (.aload_n 0, 1) := by decide +kernel
theorem dX8_passAll_91 : decode cX8_passAll 91 = .ok (.getfield 19, 3) := by decide +kernel
theorem dX8_passAll_94 : decode cX8_passAll 94 = .ok (.iload_n 1, 1) := by decide +kernel
theorem dX8_passAll_95 : decode cX8_passAll 95 = .ok (.aload_n 0, 1) := by decide +kernel
theorem dX8_passAll_96 : decode cX8_passAll 96 = .ok (.aload_n 0, 1) := by decide +kernel
theorem dX8_passAll_97 : decode cX8_passAll 97 = .ok (.getfield 19, 3) := by decide +kernel
theorem dX8_passAll_100 : decode cX8_passAll 100 = .ok (.iload_n 1, 1) := by decide +kernel
theorem dX8_passAll_101 : decode cX8_passAll 101 = .ok (.iaload, 1) := by decide +kernel
theorem dX8_passAll_102 : decode cX8_passAll 102 = .ok (.invokevirtual 282, 3) := by decide +kernel
theorem dX8_passAll_105 : decode cX8_passAll 105 = .ok (.iastore, 1) := by decide +kernel
theorem dX8_passAll_106 : decode cX8_passAll 106 = .ok (.aload_n 0, 1) := by decide +kernel
theorem dX8_passAll_107 : decode cX8_passAll 107 = .ok (.getfield 22, 3) := by decide +kernel
theorem dX8_passAll_110 : decode cX8_passAll 110 = .ok (.iload_n 1, 1) := by decide +kernel
theorem dX8_passAll_111 : decode cX8_passAll 111 = .ok (.aload_n 0, 1) := by decide +kernel
theorem dX8_passAll_112 : decode cX8_passAll 112 = .ok (.aload_n 0, 1) := by decide +kernel
theorem dX8_passAll_113 : decode cX8_passAll 113 = .ok (.getfield 22, 3) := by decide +kernel
theorem dX8_passAll_116 : decode cX8_passAll 116 = .ok (.iload_n 1, 1) := by decide +kernel
theorem dX8_passAll_117 : decode cX8_passAll 117 = .ok (.iaload, 1) := by decide +kernel
theorem dX8_passAll_118 : decode cX8_passAll 118 = .ok (.invokevirtual 282, 3) := by decide +kernel
theorem dX8_passAll_121 : decode cX8_passAll 121 = .ok (.iastore, 1) := by decide +kernel
theorem dX8_passAll_122 : decode cX8_passAll 122 = .ok (.aload_n 0, 1) := by decide +kernel
theorem dX8_passAll_123 : decode cX8_passAll 123 = .ok (.getfield 25, 3) := by decide +kernel
theorem dX8_passAll_126 : decode cX8_passAll 126 = .ok (.iload_n 1, 1) := by decide +kernel
theorem dX8_passAll_127 : decode cX8_passAll 127 = .ok (.aload_n 0, 1) := by decide +kernel
theorem dX8_passAll_128 : decode cX8_passAll 128 = .ok (.aload_n 0, 1) := by decide +kernel
theorem dX8_passAll_129 : decode cX8_passAll 129 = .ok (.getfield 25, 3) := by decide +kernel
theorem dX8_passAll_132 : decode cX8_passAll 132 = .ok (.iload_n 1, 1) := by decide +kernel
theorem dX8_passAll_133 : decode cX8_passAll 133 = .ok (.iaload, 1) := by decide +kernel
theorem dX8_passAll_134 : decode cX8_passAll 134 = .ok (.invokevirtual 282, 3) := by decide +kernel
theorem dX8_passAll_137 : decode cX8_passAll 137 = .ok (.iastore, 1) := by decide +kernel
theorem dX8_passAll_138 : decode cX8_passAll 138 = .ok (.iinc 1 1, 3) := by decide +kernel
theorem dX8_passAll_141 : decode cX8_passAll 141 = .ok (.goto (-57), 3) := by decide +kernel
theorem dX8_passAll_144 : decode cX8_passAll 144 = .ok (.return_, 1) := by decide +kernel
theorem dX8_image_0 : decode cX8_image 0 = .ok (.iload_n 1, 1) := by decide +kernel
theorem dX8_image_1 : decode cX8_image 1 = .ok (.i2l, 1) := by decide +kernel
theorem dX8_image_2 : decode cX8_image 2 = .ok (.lconst 0, 1) := by decide +kernel
theorem dX8_image_3 : decode cX8_image 3 = .ok (.lconst 1, 1) := by decide +kernel
theorem dX8_image_4 : decode cX8_image 4 = .ok (.invokestatic 72, 3) := by decide +kernel
theorem dX8_image_7 : decode cX8_image 7 = .ok (.ifCond .ne 6, 3) := by decide +kernel
theorem dX8_image_10 : decode cX8_image 10 = .ok (.bipush (-2), 2) := by decide +kernel
theorem dX8_image_12 : decode cX8_image 12 = .ok (.ireturn, 1) := by decide +kernel
theorem dX8_image_13 : decode cX8_image 13 = .ok (.aload_n 0, 1) := by decide +kernel
theorem dX8_image_14 : decode cX8_image 14 = .ok (.bipush 80, 2) := by decide +kernel
theorem dX8_image_16 : decode cX8_image 16 = .ok (.iload_n 1, 1) := by decide +kernel
theorem dX8_image_17 : decode cX8_image 17 = .ok (.imul, 1) := by decide +kernel
theorem dX8_image_18 : decode cX8_image 18 = .ok (.putfield 279, 3) := by decide +kernel
theorem dX8_image_21 : decode cX8_image 21 = .ok (.aload_n 0, 1) := by decide +kernel
theorem dX8_image_22 : decode cX8_image 22 = .ok (.iconst 1, 1) := by decide +kernel
theorem dX8_image_23 : decode cX8_image 23 = .ok (.putfield 275, 3) := by decide +kernel
theorem dX8_image_26 : decode cX8_image 26 = .ok (.aload_n 0, 1) := by decide +kernel
theorem dX8_image_27 : decode cX8_image 27 = .ok (.invokevirtual 285, 3) := by decide +kernel
theorem dX8_image_30 : decode cX8_image 30 = .ok (.aload_n 0, 1) := by decide +kernel
theorem dX8_image_31 : decode cX8_image 31 = .ok (.getfield 63, 3) := by decide +kernel
theorem dX8_image_34 : decode cX8_image 34 = .ok (.iload_n 1, 1) := by decide +kernel
theorem dX8_image_35 : decode cX8_image 35 = .ok (.iconst 1, 1) := by decide +kernel
theorem dX8_image_36 : decode cX8_image 36 = .ok (.bastore, 1) := by decide +kernel
theorem dX8_image_37 : decode cX8_image 37 = .ok (.iconst 1, 1) := by decide +kernel
theorem dX8_image_38 : decode cX8_image 38 = .ok (.ireturn, 1) := by decide +kernel
theorem dX8_restore_0 : decode cX8_restore 0 = .ok (.iload_n 1, 1) := by decide +kernel
theorem dX8_restore_1 : decode cX8_restore 1 = .ok (.i2l, 1) := by decide +kernel
theorem dX8_restore_2 : decode cX8_restore 2 = .ok (.lconst 0, 1) := by decide +kernel
theorem dX8_restore_3 : decode cX8_restore 3 = .ok (.lconst 1, 1) := by decide +kernel
theorem dX8_restore_4 : decode cX8_restore 4 = .ok (.invokestatic 72, 3) := by decide +kernel
theorem dX8_restore_7 : decode cX8_restore 7 = .ok (.ifCond .ne 6, 3) := by decide +kernel
theorem dX8_restore_10 : decode cX8_restore 10 = .ok (.bipush (-2), 2) := by decide +kernel
theorem dX8_restore_12 : decode cX8_restore 12 = .ok (.ireturn, 1) := by decide +kernel
theorem dX8_restore_13 : decode cX8_restore 13 = .ok (.aload_n 0, 1) := by decide +kernel
theorem dX8_restore_14 : decode cX8_restore 14 = .ok (.getfield 63, 3) := by decide +kernel
theorem dX8_restore_17 : decode cX8_restore 17 = .ok (.iload_n 1, 1) := by decide +kernel
theorem dX8_restore_18 : decode cX8_restore 18 = .ok (.baload, 1) := by decide +kernel
theorem dX8_restore_19 : decode cX8_restore 19 = .ok (.ifCond .ne 6, 3) := by decide +kernel
theorem dX8_restore_22 : decode cX8_restore 22 = .ok (.bipush (-3), 2) := by decide +kernel
theorem dX8_restore_24 : decode cX8_restore 24 = .ok (.ireturn, 1) := by decide +kernel
theorem dX8_restore_25 : decode cX8_restore 25 = .ok (.aload_n 0, 1) := by decide +kernel
theorem dX8_restore_26 : decode cX8_restore 26 = .ok (.bipush 80, 2) := by decide +kernel
theorem dX8_restore_28 : decode cX8_restore 28 = .ok (.iload_n 1, 1) := by decide +kernel
theorem dX8_restore_29 : decode cX8_restore 29 = .ok (.imul, 1) := by decide +kernel
theorem dX8_restore_30 : decode cX8_restore 30 = .ok (.putfield 279, 3) := by decide +kernel
theorem dX8_restore_33 : decode cX8_restore 33 = .ok (.aload_n 0, 1) := by decide +kernel
theorem dX8_restore_34 : decode cX8_restore 34 = .ok (.iconst 0, 1) := by decide +kernel
theorem dX8_restore_35 : decode cX8_restore 35 = .ok (.putfield 275, 3) := by decide +kernel
theorem dX8_restore_38 : decode cX8_restore 38 = .ok (.aload_n 0, 1) := by decide +kernel
theorem dX8_restore_39 : decode cX8_restore 39 = .ok (.invokevirtual 285, 3) := by decide +kernel
theorem dX8_restore_42 : decode cX8_restore 42 = .ok (.iconst 1, 1) := by decide +kernel
theorem dX8_restore_43 : decode cX8_restore 43 = .ok (.ireturn, 1) := by decide +kernel
theorem dX8_testified_0 : decode cX8_testified 0 = .ok (.iconst 0, 1) := by decide +kernel
theorem dX8_testified_1 : decode cX8_testified 1 = .ok (.istore_n 1, 1) := by decide +kernel
theorem dX8_testified_2 : decode cX8_testified 2 = .ok (.iconst 0, 1) := by decide +kernel
theorem dX8_testified_3 : decode cX8_testified 3 = .ok (.istore_n 2, 1) := by decide +kernel
theorem dX8_testified_4 : decode cX8_testified 4 = .ok (.iload_n 2, 1) := by decide +kernel
theorem dX8_testified_5 : decode cX8_testified 5 = .ok (.bipush 6, 2) := by decide +kernel
theorem dX8_testified_7 : decode cX8_testified 7 = .ok (.if_icmp .ge 28, 3) := by decide +kernel
theorem dX8_testified_10 : decode cX8_testified 10 = .ok (.iload_n 1, 1) := by decide +kernel
theorem dX8_testified_11 : decode cX8_testified 11 = .ok (.aload_n 0, 1) := by decide +kernel
theorem dX8_testified_12 : decode cX8_testified 12 = .ok (.getfield 28, 3) := by decide +kernel
theorem dX8_testified_15 : decode cX8_testified 15 = .ok (.iload_n 2, 1) := by decide +kernel
theorem dX8_testified_16 : decode cX8_testified 16 = .ok (.iaload, 1) := by decide +kernel
theorem dX8_testified_17 : decode cX8_testified 17 = .ok (.ifCond .ge 7, 3) := by decide +kernel
theorem dX8_testified_20 : decode cX8_testified 20 = .ok (.iconst 0, 1) := by decide +kernel
theorem dX8_testified_21 : decode cX8_testified 21 = .ok (.goto 6, 3) := by decide +kernel
theorem dX8_testified_24 : decode cX8_testified 24 = .ok (.iconst 1, 1) := by decide +kernel
theorem dX8_testified_25 : decode cX8_testified 25 = .ok (.iload_n 2, 1) := by decide +kernel
theorem dX8_testified_26 : decode cX8_testified 26 = .ok (.ishl, 1) := by decide +kernel
theorem dX8_testified_27 : decode cX8_testified 27 = .ok (.ior, 1) := by decide +kernel
theorem dX8_testified_28 : decode cX8_testified 28 = .ok (.istore_n 1, 1) := by decide +kernel
theorem dX8_testified_29 : decode cX8_testified 29 = .ok (.iinc 2 1, 3) := by decide +kernel
theorem dX8_testified_32 : decode cX8_testified 32 = .ok (.goto (-28), 3) := by decide +kernel
theorem dX8_testified_35 : decode cX8_testified 35 = .ok (.iload_n 1, 1) := by decide +kernel
theorem dX8_testified_36 : decode cX8_testified 36 = .ok (.ireturn, 1) := by decide +kernel
theorem dX8_haveHeard_0 : decode cX8_haveHeard 0 = .ok (.aload_n 0, 1) := by decide +kernel
theorem dX8_haveHeard_1 : decode cX8_haveHeard 1 = .ok (.aload_n 0, 1) := by decide +kernel
theorem dX8_haveHeard_2 : decode cX8_haveHeard 2 = .ok (.getfield 147, 3) := by decide +kernel
theorem dX8_haveHeard_5 : decode cX8_haveHeard 5 = .ok (.bipush (-6), 2) := by decide +kernel
theorem dX8_haveHeard_7 : decode cX8_haveHeard 7 = .ok (.iconst 0, 1) := by decide +kernel
theorem dX8_haveHeard_8 : decode cX8_haveHeard 8 = .ok (.invokevirtual 164, 3) := by decide +kernel
theorem dX8_haveHeard_11 : decode cX8_haveHeard 11 = .ok (.iconst 0, 1) := by decide +kernel
theorem dX8_haveHeard_12 : decode cX8_haveHeard 12 = .ok (.istore_n 1, 1) := by decide +kernel
theorem dX8_haveHeard_13 : decode cX8_haveHeard 13 = .ok (.iconst 0, 1) := by decide +kernel
theorem dX8_haveHeard_14 : decode cX8_haveHeard 14 = .ok (.istore_n 2, 1) := by decide +kernel
theorem dX8_haveHeard_15 : decode cX8_haveHeard 15 = .ok (.iload_n 2, 1) := by decide +kernel
theorem dX8_haveHeard_16 : decode cX8_haveHeard 16 = .ok (.bipush 6, 2) := by decide +kernel
theorem dX8_haveHeard_18 : decode cX8_haveHeard 18 = .ok (.if_icmp .ge 28, 3) := by decide +kernel
theorem dX8_haveHeard_21 : decode cX8_haveHeard 21 = .ok (.iload_n 1, 1) := by decide +kernel
theorem dX8_haveHeard_22 : decode cX8_haveHeard 22 = .ok (.aload_n 0, 1) := by decide +kernel
theorem dX8_haveHeard_23 : decode cX8_haveHeard 23 = .ok (.getfield 34, 3) := by decide +kernel
theorem dX8_haveHeard_26 : decode cX8_haveHeard 26 = .ok (.iload_n 2, 1) := by decide +kernel
theorem dX8_haveHeard_27 : decode cX8_haveHeard 27 = .ok (.iaload, 1) := by decide +kernel
theorem dX8_haveHeard_28 : decode cX8_haveHeard 28 = .ok (.ifCond .ge 7, 3) := by decide +kernel
theorem dX8_haveHeard_31 : decode cX8_haveHeard 31 = .ok (.iconst 0, 1) := by decide +kernel
theorem dX8_haveHeard_32 : decode cX8_haveHeard 32 = .ok (.goto 6, 3) := by decide +kernel
theorem dX8_haveHeard_35 : decode cX8_haveHeard 35 = .ok (.iconst 1, 1) := by decide +kernel
theorem dX8_haveHeard_36 : decode cX8_haveHeard 36 = .ok (.iload_n 2, 1) := by decide +kernel
theorem dX8_haveHeard_37 : decode cX8_haveHeard 37 = .ok (.ishl, 1) := by decide +kernel
theorem dX8_haveHeard_38 : decode cX8_haveHeard 38 = .ok (.ior, 1) := by decide +kernel
theorem dX8_haveHeard_39 : decode cX8_haveHeard 39 = .ok (.istore_n 1, 1) := by decide +kernel
theorem dX8_haveHeard_40 : decode cX8_haveHeard 40 = .ok (.iinc 2 1, 3) := by decide +kernel
theorem dX8_haveHeard_43 : decode cX8_haveHeard 43 = .ok (.goto (-28), 3) := by decide +kernel
theorem dX8_haveHeard_46 : decode cX8_haveHeard 46 = .ok (.iload_n 1, 1) := by decide +kernel
theorem dX8_haveHeard_47 : decode cX8_haveHeard 47 = .ok (.ireturn, 1) := by decide +kernel
theorem dX8_told_0 : decode cX8_told 0 = .ok (.iload_n 1, 1) := by decide +kernel
theorem dX8_told_1 : decode cX8_told 1 = .ok (.i2l, 1) := by decide +kernel
theorem dX8_told_2 : decode cX8_told 2 = .ok (.ldc2_w 192, 3) := by decide +kernel
theorem dX8_told_5 : decode cX8_told 5 = .ok (.ldc2_w 288, 3) := by decide +kernel
theorem dX8_told_8 : decode cX8_told 8 = .ok (.invokestatic 72, 3) := by decide +kernel
theorem dX8_told_11 : decode cX8_told 11 = .ok (.ifCond .eq 13, 3) := by decide +kernel
theorem dX8_told_14 : decode cX8_told 14 = .ok (.aload_n 0, 1) := by decide +kernel
theorem dX8_told_15 : decode cX8_told 15 = .ok (.getfield 16, 3) := by decide +kernel
theorem dX8_told_18 : decode cX8_told 18 = .ok (.iload_n 1, 1) := by decide +kernel
theorem dX8_told_19 : decode cX8_told 19 = .ok (.bipush 10, 2) := by decide +kernel
theorem dX8_told_21 : decode cX8_told 21 = .ok (.isub, 1) := by decide +kernel
theorem dX8_told_22 : decode cX8_told 22 = .ok (.iaload, 1) := by decide +kernel
theorem dX8_told_23 : decode cX8_told 23 = .ok (.ireturn, 1) := by decide +kernel
theorem dX8_told_24 : decode cX8_told 24 = .ok (.iload_n 1, 1) := by decide +kernel
theorem dX8_told_25 : decode cX8_told 25 = .ok (.i2l, 1) := by decide +kernel
theorem dX8_told_26 : decode cX8_told 26 = .ok (.ldc2_w 290, 3) := by decide +kernel
theorem dX8_told_29 : decode cX8_told 29 = .ok (.ldc2_w 292, 3) := by decide +kernel
theorem dX8_told_32 : decode cX8_told 32 = .ok (.invokestatic 72, 3) := by decide +kernel
theorem dX8_told_35 : decode cX8_told 35 = .ok (.ifCond .eq 33, 3) := by decide +kernel
theorem dX8_told_38 : decode cX8_told 38 = .ok (.aload_n 0, 1) := by decide +kernel
theorem dX8_told_39 : decode cX8_told 39 = .ok (.getfield 28, 3) := by decide +kernel
theorem dX8_told_42 : decode cX8_told 42 = .ok (.iload_n 1, 1) := by decide +kernel
theorem dX8_told_43 : decode cX8_told 43 = .ok (.bipush 20, 2) := by decide +kernel
theorem dX8_told_45 : decode cX8_told 45 = .ok (.isub, 1) := by decide +kernel
theorem dX8_told_46 : decode cX8_told 46 = .ok (.iaload, 1) := by decide +kernel
theorem dX8_told_47 : decode cX8_told 47 = .ok (.ifCond .ge 8, 3) := by decide +kernel
theorem dX8_told_50 : decode cX8_told 50 = .ok (.bipush (-6), 2) := by decide +kernel
theorem dX8_told_52 : decode cX8_told 52 = .ok (.goto 15, 3) := by decide +kernel
theorem dX8_told_55 : decode cX8_told 55 = .ok (.aload_n 0, 1) := by decide +kernel
theorem dX8_told_56 : decode cX8_told 56 = .ok (.getfield 28, 3) := by decide +kernel
theorem dX8_told_59 : decode cX8_told 59 = .ok (.iload_n 1, 1) := by decide +kernel
theorem dX8_told_60 : decode cX8_told 60 = .ok (.bipush 20, 2) := by decide +kernel
theorem dX8_told_62 : decode cX8_told 62 = .ok (.isub, 1) := by decide +kernel
theorem dX8_told_63 : decode cX8_told 63 = .ok (.iaload, 1) := by decide +kernel
theorem dX8_told_64 : decode cX8_told 64 = .ok (.invokestatic 80, 3) := by decide +kernel
theorem dX8_told_67 : decode cX8_told 67 = .ok (.ireturn, 1) := by decide +kernel
theorem dX8_told_68 : decode cX8_told 68 = .ok (.iload_n 1, 1) := by decide +kernel
theorem dX8_told_69 : decode cX8_told 69 = .ok (.tableswitch 72 0 5 #[39, 44, 49, 57, 62, 67], 39) := by decide +kernel
theorem dX8_told_108 : decode cX8_told 108 = .ok (.aload_n 0, 1) := by decide +kernel
theorem dX8_told_109 : decode cX8_told 109 = .ok (.getfield 113, 3) := by decide +kernel
theorem dX8_told_112 : decode cX8_told 112 = .ok (.ireturn, 1) := by decide +kernel
theorem dX8_told_113 : decode cX8_told 113 = .ok (.aload_n 0, 1) := by decide +kernel
theorem dX8_told_114 : decode cX8_told 114 = .ok (.getfield 138, 3) := by decide +kernel
theorem dX8_told_117 : decode cX8_told 117 = .ok (.ireturn, 1) := by decide +kernel
theorem dX8_told_118 : decode cX8_told 118 = .ok (.aload_n 0, 1) := by decide +kernel
theorem dX8_told_119 : decode cX8_told 119 = .ok (.getfield 147, 3) := by decide +kernel
theorem dX8_told_122 : decode cX8_told 122 = .ok (.invokestatic 80, 3) := by decide +kernel
theorem dX8_told_125 : decode cX8_told 125 = .ok (.ireturn, 1) := by decide +kernel
theorem dX8_told_126 : decode cX8_told 126 = .ok (.aload_n 0, 1) := by decide +kernel
theorem dX8_told_127 : decode cX8_told 127 = .ok (.getfield 66, 3) := by decide +kernel
theorem dX8_told_130 : decode cX8_told 130 = .ok (.ireturn, 1) := by decide +kernel
theorem dX8_told_131 : decode cX8_told 131 = .ok (.aload_n 0, 1) := by decide +kernel
theorem dX8_told_132 : decode cX8_told 132 = .ok (.invokevirtual 294, 3) := by decide +kernel
theorem dX8_told_135 : decode cX8_told 135 = .ok (.ireturn, 1) := by decide +kernel
theorem dX8_told_136 : decode cX8_told 136 = .ok (.aload_n 0, 1) := by decide +kernel
theorem dX8_told_137 : decode cX8_told 137 = .ok (.invokevirtual 297, 3) := by decide +kernel
theorem dX8_told_140 : decode cX8_told 140 = .ok (.ireturn, 1) := by decide +kernel
theorem dX8_told_141 : decode cX8_told 141 = .ok (.bipush (-2), 2) := by decide +kernel
theorem dX8_told_143 : decode cX8_told 143 = .ok (.ireturn, 1) := by decide +kernel
theorem dJ6_bitCount_0f7a4_0 : decode cJ6_bitCount_0f7a4 0 = .ok (.iload_n 0, 1) := by decide +kernel
theorem dJ6_bitCount_0f7a4_1 : decode cJ6_bitCount_0f7a4 1 = .ok (.iload_n 0, 1) := by decide +kernel
theorem dJ6_bitCount_0f7a4_2 : decode cJ6_bitCount_0f7a4 2 = .ok (.iconst 1, 1) := by decide +kernel
theorem dJ6_bitCount_0f7a4_3 : decode cJ6_bitCount_0f7a4 3 = .ok (.iushr, 1) := by decide +kernel
theorem dJ6_bitCount_0f7a4_4 : decode cJ6_bitCount_0f7a4 4 = .ok (.ldc_w 265, 3) := by decide +kernel
theorem dJ6_bitCount_0f7a4_7 : decode cJ6_bitCount_0f7a4 7 = .ok (.iand, 1) := by decide +kernel
theorem dJ6_bitCount_0f7a4_8 : decode cJ6_bitCount_0f7a4 8 = .ok (.isub, 1) := by decide +kernel
theorem dJ6_bitCount_0f7a4_9 : decode cJ6_bitCount_0f7a4 9 = .ok (.istore_n 0, 1) := by decide +kernel
theorem dJ6_bitCount_0f7a4_10 : decode cJ6_bitCount_0f7a4 10 = .ok (.iload_n 0, 1) := by decide +kernel
theorem dJ6_bitCount_0f7a4_11 : decode cJ6_bitCount_0f7a4 11 = .ok (.ldc_w 266, 3) := by decide +kernel
theorem dJ6_bitCount_0f7a4_14 : decode cJ6_bitCount_0f7a4 14 = .ok (.iand, 1) := by decide +kernel
theorem dJ6_bitCount_0f7a4_15 : decode cJ6_bitCount_0f7a4 15 = .ok (.iload_n 0, 1) := by decide +kernel
theorem dJ6_bitCount_0f7a4_16 : decode cJ6_bitCount_0f7a4 16 = .ok (.iconst 2, 1) := by decide +kernel
theorem dJ6_bitCount_0f7a4_17 : decode cJ6_bitCount_0f7a4 17 = .ok (.iushr, 1) := by decide +kernel
theorem dJ6_bitCount_0f7a4_18 : decode cJ6_bitCount_0f7a4 18 = .ok (.ldc_w 266, 3) := by decide +kernel
theorem dJ6_bitCount_0f7a4_21 : decode cJ6_bitCount_0f7a4 21 = .ok (.iand, 1) := by decide +kernel
theorem dJ6_bitCount_0f7a4_22 : decode cJ6_bitCount_0f7a4 22 = .ok (.iadd, 1) := by decide +kernel
theorem dJ6_bitCount_0f7a4_23 : decode cJ6_bitCount_0f7a4 23 = .ok (.istore_n 0, 1) := by decide +kernel
theorem dJ6_bitCount_0f7a4_24 : decode cJ6_bitCount_0f7a4 24 = .ok (.iload_n 0, 1) := by decide +kernel
theorem dJ6_bitCount_0f7a4_25 : decode cJ6_bitCount_0f7a4 25 = .ok (.iload_n 0, 1) := by decide +kernel
theorem dJ6_bitCount_0f7a4_26 : decode cJ6_bitCount_0f7a4 26 = .ok (.iconst 4, 1) := by decide +kernel
theorem dJ6_bitCount_0f7a4_27 : decode cJ6_bitCount_0f7a4 27 = .ok (.iushr, 1) := by decide +kernel
theorem dJ6_bitCount_0f7a4_28 : decode cJ6_bitCount_0f7a4 28 = .ok (.iadd, 1) := by decide +kernel
theorem dJ6_bitCount_0f7a4_29 : decode cJ6_bitCount_0f7a4 29 = .ok (.ldc_w 267, 3) := by decide +kernel
theorem dJ6_bitCount_0f7a4_32 : decode cJ6_bitCount_0f7a4 32 = .ok (.iand, 1) := by decide +kernel
theorem dJ6_bitCount_0f7a4_33 : decode cJ6_bitCount_0f7a4 33 = .ok (.istore_n 0, 1) := by decide +kernel
theorem dJ6_bitCount_0f7a4_34 : decode cJ6_bitCount_0f7a4 34 = .ok (.iload_n 0, 1) := by decide +kernel
theorem dJ6_bitCount_0f7a4_35 : decode cJ6_bitCount_0f7a4 35 = .ok (.iload_n 0, 1) := by decide +kernel
theorem dJ6_bitCount_0f7a4_36 : decode cJ6_bitCount_0f7a4 36 = .ok (.bipush 8, 2) := by decide +kernel
theorem dJ6_bitCount_0f7a4_38 : decode cJ6_bitCount_0f7a4 38 = .ok (.iushr, 1) := by decide +kernel
theorem dJ6_bitCount_0f7a4_39 : decode cJ6_bitCount_0f7a4 39 = .ok (.iadd, 1) := by decide +kernel
theorem dJ6_bitCount_0f7a4_40 : decode cJ6_bitCount_0f7a4 40 = .ok (.istore_n 0, 1) := by decide +kernel
theorem dJ6_bitCount_0f7a4_41 : decode cJ6_bitCount_0f7a4 41 = .ok (.iload_n 0, 1) := by decide +kernel
theorem dJ6_bitCount_0f7a4_42 : decode cJ6_bitCount_0f7a4 42 = .ok (.iload_n 0, 1) := by decide +kernel
theorem dJ6_bitCount_0f7a4_43 : decode cJ6_bitCount_0f7a4 43 = .ok (.bipush 16, 2) := by decide +kernel
theorem dJ6_bitCount_0f7a4_45 : decode cJ6_bitCount_0f7a4 45 = .ok (.iushr, 1) := by decide +kernel
theorem dJ6_bitCount_0f7a4_46 : decode cJ6_bitCount_0f7a4 46 = .ok (.iadd, 1) := by decide +kernel
theorem dJ6_bitCount_0f7a4_47 : decode cJ6_bitCount_0f7a4 47 = .ok (.istore_n 0, 1) := by decide +kernel
theorem dJ6_bitCount_0f7a4_48 : decode cJ6_bitCount_0f7a4 48 = .ok (.iload_n 0, 1) := by decide +kernel
theorem dJ6_bitCount_0f7a4_49 : decode cJ6_bitCount_0f7a4 49 = .ok (.bipush 63, 2) := by decide +kernel
theorem dJ6_bitCount_0f7a4_51 : decode cJ6_bitCount_0f7a4 51 = .ok (.iand, 1) := by decide +kernel
theorem dJ6_bitCount_0f7a4_52 : decode cJ6_bitCount_0f7a4 52 = .ok (.ireturn, 1) := by decide +kernel
theorem dJ9_min_7cf53_0 : decode cJ9_min_7cf53 0 = .ok (.iload_n 0, 1) := by decide +kernel
theorem dJ9_min_7cf53_1 : decode cJ9_min_7cf53 1 = .ok (.iload_n 1, 1) := by decide +kernel
theorem dJ9_min_7cf53_2 : decode cJ9_min_7cf53 2 = .ok (.if_icmp .gt 7, 3) := by decide +kernel
theorem dJ9_min_7cf53_5 : decode cJ9_min_7cf53 5 = .ok (.iload_n 0, 1) := by decide +kernel
theorem dJ9_min_7cf53_6 : decode cJ9_min_7cf53 6 = .ok (.goto 4, 3) := by decide +kernel
theorem dJ9_min_7cf53_9 : decode cJ9_min_7cf53 9 = .ok (.iload_n 1, 1) := by decide +kernel
theorem dJ9_min_7cf53_10 : decode cJ9_min_7cf53 10 = .ok (.ireturn, 1) := by decide +kernel
theorem dL_law_0 : decode cL_law 0 = .ok (.new 7, 3) := by decide +kernel
theorem dL_law_3 : decode cL_law 3 = .ok (.dup, 1) := by decide +kernel
theorem dL_law_4 : decode cL_law 4 = .ok (.invokespecial 9, 3) := by decide +kernel
theorem dL_law_7 : decode cL_law 7 = .ok (.astore_n 1, 1) := by decide +kernel
theorem dL_law_8 : decode cL_law 8 = .ok (.new 10, 3) := by decide +kernel
theorem dL_law_11 : decode cL_law 11 = .ok (.dup, 1) := by decide +kernel
theorem dL_law_12 : decode cL_law 12 = .ok (.invokespecial 12, 3) := by decide +kernel
theorem dL_law_15 : decode cL_law 15 = .ok (.astore_n 2, 1) := by decide +kernel
theorem dL_law_16 : decode cL_law 16 = .ok (.iconst 0, 1) := by decide +kernel
theorem dL_law_17 : decode cL_law 17 = .ok (.istore_n 3, 1) := by decide +kernel
theorem dL_law_18 : decode cL_law 18 = .ok (.iload_n 3, 1) := by decide +kernel
theorem dL_law_19 : decode cL_law 19 = .ok (.aload_n 0, 1) := by decide +kernel
theorem dL_law_20 : decode cL_law 20 = .ok (.arraylength, 1) := by decide +kernel
theorem dL_law_21 : decode cL_law 21 = .ok (.iconst 5, 1) := by decide +kernel
theorem dL_law_22 : decode cL_law 22 = .ok (.isub, 1) := by decide +kernel
theorem dL_law_23 : decode cL_law 23 = .ok (.if_icmp .gt 758, 3) := by decide +kernel
theorem dL_law_26 : decode cL_law 26 = .ok (.aload_n 0, 1) := by decide +kernel
theorem dL_law_27 : decode cL_law 27 = .ok (.iload_n 3, 1) := by decide +kernel
theorem dL_law_28 : decode cL_law 28 = .ok (.iaload, 1) := by decide +kernel
theorem dL_law_29 : decode cL_law 29 = .ok (.bipush 31, 2) := by decide +kernel
theorem dL_law_31 : decode cL_law 31 = .ok (.iand, 1) := by decide +kernel
theorem dL_law_32 : decode cL_law 32 = .ok (.tableswitch 743 0 24 #[116, 149, 172, 185, 208, 221, 254, 287, 300, 333, 356, 379, 392, 415, 429, 453, 476, 499, 522, 555, 578, 631, 674, 697, 720], 116) := by decide +kernel
theorem dL_law_148 : decode cL_law 148 = .ok (.aload_n 1, 1) := by decide +kernel
theorem dL_law_149 : decode cL_law 149 = .ok (.aload_n 0, 1) := by decide +kernel
theorem dL_law_150 : decode cL_law 150 = .ok (.iload_n 3, 1) := by decide +kernel
theorem dL_law_151 : decode cL_law 151 = .ok (.iconst 1, 1) := by decide +kernel
theorem dL_law_152 : decode cL_law 152 = .ok (.iadd, 1) := by decide +kernel
theorem dL_law_153 : decode cL_law 153 = .ok (.iaload, 1) := by decide +kernel
theorem dL_law_154 : decode cL_law 154 = .ok (.aload_n 0, 1) := by decide +kernel
theorem dL_law_155 : decode cL_law 155 = .ok (.iload_n 3, 1) := by decide +kernel
theorem dL_law_156 : decode cL_law 156 = .ok (.iconst 2, 1) := by decide +kernel
theorem dL_law_157 : decode cL_law 157 = .ok (.iadd, 1) := by decide +kernel
theorem dL_law_158 : decode cL_law 158 = .ok (.iaload, 1) := by decide +kernel
theorem dL_law_159 : decode cL_law 159 = .ok (.invokevirtual 13, 3) := by decide +kernel
theorem dL_law_162 : decode cL_law 162 = .ok (.aload_n 2, 1) := by decide +kernel
theorem dL_law_163 : decode cL_law 163 = .ok (.aload_n 0, 1) := by decide +kernel
theorem dL_law_164 : decode cL_law 164 = .ok (.iload_n 3, 1) := by decide +kernel
theorem dL_law_165 : decode cL_law 165 = .ok (.iconst 1, 1) := by decide +kernel
theorem dL_law_166 : decode cL_law 166 = .ok (.iadd, 1) := by decide +kernel
theorem dL_law_167 : decode cL_law 167 = .ok (.iaload, 1) := by decide +kernel
theorem dL_law_168 : decode cL_law 168 = .ok (.aload_n 0, 1) := by decide +kernel
theorem dL_law_169 : decode cL_law 169 = .ok (.iload_n 3, 1) := by decide +kernel
theorem dL_law_170 : decode cL_law 170 = .ok (.iconst 2, 1) := by decide +kernel
theorem dL_law_171 : decode cL_law 171 = .ok (.iadd, 1) := by decide +kernel
theorem dL_law_172 : decode cL_law 172 = .ok (.iaload, 1) := by decide +kernel
theorem dL_law_173 : decode cL_law 173 = .ok (.invokevirtual 17, 3) := by decide +kernel
theorem dL_law_176 : decode cL_law 176 = .ok (.if_icmp .eq 599, 3) := by decide +kernel
theorem dL_law_179 : decode cL_law 179 = .ok (.iconst 0, 1) := by decide +kernel
theorem dL_law_180 : decode cL_law 180 = .ok (.ireturn, 1) := by decide +kernel
theorem dL_law_181 : decode cL_law 181 = .ok (.aload_n 1, 1) := by decide +kernel
theorem dL_law_182 : decode cL_law 182 = .ok (.aload_n 0, 1) := by decide +kernel
theorem dL_law_183 : decode cL_law 183 = .ok (.iload_n 3, 1) := by decide +kernel
theorem dL_law_184 : decode cL_law 184 = .ok (.iconst 1, 1) := by decide +kernel
theorem dL_law_185 : decode cL_law 185 = .ok (.iadd, 1) := by decide +kernel
theorem dL_law_186 : decode cL_law 186 = .ok (.iaload, 1) := by decide +kernel
theorem dL_law_187 : decode cL_law 187 = .ok (.invokevirtual 18, 3) := by decide +kernel
theorem dL_law_190 : decode cL_law 190 = .ok (.aload_n 2, 1) := by decide +kernel
theorem dL_law_191 : decode cL_law 191 = .ok (.aload_n 0, 1) := by decide +kernel
theorem dL_law_192 : decode cL_law 192 = .ok (.iload_n 3, 1) := by decide +kernel
theorem dL_law_193 : decode cL_law 193 = .ok (.iconst 1, 1) := by decide +kernel
theorem dL_law_194 : decode cL_law 194 = .ok (.iadd, 1) := by decide +kernel
theorem dL_law_195 : decode cL_law 195 = .ok (.iaload, 1) := by decide +kernel
theorem dL_law_196 : decode cL_law 196 = .ok (.invokevirtual 22, 3) := by decide +kernel
theorem dL_law_199 : decode cL_law 199 = .ok (.if_icmp .eq 576, 3) := by decide +kernel
theorem dL_law_202 : decode cL_law 202 = .ok (.iconst 0, 1) := by decide +kernel
theorem dL_law_203 : decode cL_law 203 = .ok (.ireturn, 1) := by decide +kernel
theorem dL_law_204 : decode cL_law 204 = .ok (.aload_n 1, 1) := by decide +kernel
theorem dL_law_205 : decode cL_law 205 = .ok (.invokevirtual 23, 3) := by decide +kernel
theorem dL_law_208 : decode cL_law 208 = .ok (.aload_n 2, 1) := by decide +kernel
theorem dL_law_209 : decode cL_law 209 = .ok (.invokevirtual 27, 3) := by decide +kernel
theorem dL_law_212 : decode cL_law 212 = .ok (.if_icmp .eq 563, 3) := by decide +kernel
theorem dL_law_215 : decode cL_law 215 = .ok (.iconst 0, 1) := by decide +kernel
theorem dL_law_216 : decode cL_law 216 = .ok (.ireturn, 1) := by decide +kernel
theorem dL_law_217 : decode cL_law 217 = .ok (.aload_n 1, 1) := by decide +kernel
theorem dL_law_218 : decode cL_law 218 = .ok (.aload_n 0, 1) := by decide +kernel
theorem dL_law_219 : decode cL_law 219 = .ok (.iload_n 3, 1) := by decide +kernel
theorem dL_law_220 : decode cL_law 220 = .ok (.iconst 1, 1) := by decide +kernel
theorem dL_law_221 : decode cL_law 221 = .ok (.iadd, 1) := by decide +kernel
theorem dL_law_222 : decode cL_law 222 = .ok (.iaload, 1) := by decide +kernel
theorem dL_law_223 : decode cL_law 223 = .ok (.invokevirtual 28, 3) := by decide +kernel
theorem dL_law_226 : decode cL_law 226 = .ok (.aload_n 2, 1) := by decide +kernel
theorem dL_law_227 : decode cL_law 227 = .ok (.aload_n 0, 1) := by decide +kernel
theorem dL_law_228 : decode cL_law 228 = .ok (.iload_n 3, 1) := by decide +kernel
theorem dL_law_229 : decode cL_law 229 = .ok (.iconst 1, 1) := by decide +kernel
theorem dL_law_230 : decode cL_law 230 = .ok (.iadd, 1) := by decide +kernel
theorem dL_law_231 : decode cL_law 231 = .ok (.iaload, 1) := by decide +kernel
theorem dL_law_232 : decode cL_law 232 = .ok (.invokevirtual 31, 3) := by decide +kernel
theorem dL_law_235 : decode cL_law 235 = .ok (.if_icmp .eq 540, 3) := by decide +kernel
theorem dL_law_238 : decode cL_law 238 = .ok (.iconst 0, 1) := by decide +kernel
theorem dL_law_239 : decode cL_law 239 = .ok (.ireturn, 1) := by decide +kernel
theorem dL_law_240 : decode cL_law 240 = .ok (.aload_n 1, 1) := by decide +kernel
theorem dL_law_241 : decode cL_law 241 = .ok (.invokevirtual 32, 3) := by decide +kernel
theorem dL_law_244 : decode cL_law 244 = .ok (.aload_n 2, 1) := by decide +kernel
theorem dL_law_245 : decode cL_law 245 = .ok (.invokevirtual 35, 3) := by decide +kernel
theorem dL_law_248 : decode cL_law 248 = .ok (.if_icmp .eq 527, 3) := by decide +kernel
theorem dL_law_251 : decode cL_law 251 = .ok (.iconst 0, 1) := by decide +kernel
theorem dL_law_252 : decode cL_law 252 = .ok (.ireturn, 1) := by decide +kernel
theorem dL_law_253 : decode cL_law 253 = .ok (.aload_n 1, 1) := by decide +kernel
theorem dL_law_254 : decode cL_law 254 = .ok (.aload_n 0, 1) := by decide +kernel
theorem dL_law_255 : decode cL_law 255 = .ok (.iload_n 3, 1) := by decide +kernel
theorem dL_law_256 : decode cL_law 256 = .ok (.iconst 1, 1) := by decide +kernel
theorem dL_law_257 : decode cL_law 257 = .ok (.iadd, 1) := by decide +kernel
theorem dL_law_258 : decode cL_law 258 = .ok (.iaload, 1) := by decide +kernel
theorem dL_law_259 : decode cL_law 259 = .ok (.aload_n 0, 1) := by decide +kernel
theorem dL_law_260 : decode cL_law 260 = .ok (.iload_n 3, 1) := by decide +kernel
theorem dL_law_261 : decode cL_law 261 = .ok (.iconst 2, 1) := by decide +kernel
theorem dL_law_262 : decode cL_law 262 = .ok (.iadd, 1) := by decide +kernel
theorem dL_law_263 : decode cL_law 263 = .ok (.iaload, 1) := by decide +kernel
theorem dL_law_264 : decode cL_law 264 = .ok (.invokevirtual 36, 3) := by decide +kernel
theorem dL_law_267 : decode cL_law 267 = .ok (.aload_n 2, 1) := by decide +kernel
theorem dL_law_268 : decode cL_law 268 = .ok (.aload_n 0, 1) := by decide +kernel
theorem dL_law_269 : decode cL_law 269 = .ok (.iload_n 3, 1) := by decide +kernel
theorem dL_law_270 : decode cL_law 270 = .ok (.iconst 1, 1) := by decide +kernel
theorem dL_law_271 : decode cL_law 271 = .ok (.iadd, 1) := by decide +kernel
theorem dL_law_272 : decode cL_law 272 = .ok (.iaload, 1) := by decide +kernel
theorem dL_law_273 : decode cL_law 273 = .ok (.aload_n 0, 1) := by decide +kernel
theorem dL_law_274 : decode cL_law 274 = .ok (.iload_n 3, 1) := by decide +kernel
theorem dL_law_275 : decode cL_law 275 = .ok (.iconst 2, 1) := by decide +kernel
theorem dL_law_276 : decode cL_law 276 = .ok (.iadd, 1) := by decide +kernel
theorem dL_law_277 : decode cL_law 277 = .ok (.iaload, 1) := by decide +kernel
theorem dL_law_278 : decode cL_law 278 = .ok (.invokevirtual 39, 3) := by decide +kernel
theorem dL_law_281 : decode cL_law 281 = .ok (.if_icmp .eq 494, 3) := by decide +kernel
theorem dL_law_284 : decode cL_law 284 = .ok (.iconst 0, 1) := by decide +kernel
theorem dL_law_285 : decode cL_law 285 = .ok (.ireturn, 1) := by decide +kernel
theorem dL_law_286 : decode cL_law 286 = .ok (.aload_n 1, 1) := by decide +kernel
theorem dL_law_287 : decode cL_law 287 = .ok (.aload_n 0, 1) := by decide +kernel
theorem dL_law_288 : decode cL_law 288 = .ok (.iload_n 3, 1) := by decide +kernel
theorem dL_law_289 : decode cL_law 289 = .ok (.iconst 1, 1) := by decide +kernel
theorem dL_law_290 : decode cL_law 290 = .ok (.iadd, 1) := by decide +kernel
theorem dL_law_291 : decode cL_law 291 = .ok (.iaload, 1) := by decide +kernel
theorem dL_law_292 : decode cL_law 292 = .ok (.aload_n 0, 1) := by decide +kernel
theorem dL_law_293 : decode cL_law 293 = .ok (.iload_n 3, 1) := by decide +kernel
theorem dL_law_294 : decode cL_law 294 = .ok (.iconst 2, 1) := by decide +kernel
theorem dL_law_295 : decode cL_law 295 = .ok (.iadd, 1) := by decide +kernel
theorem dL_law_296 : decode cL_law 296 = .ok (.iaload, 1) := by decide +kernel
theorem dL_law_297 : decode cL_law 297 = .ok (.invokevirtual 40, 3) := by decide +kernel
theorem dL_law_300 : decode cL_law 300 = .ok (.aload_n 2, 1) := by decide +kernel
theorem dL_law_301 : decode cL_law 301 = .ok (.aload_n 0, 1) := by decide +kernel
theorem dL_law_302 : decode cL_law 302 = .ok (.iload_n 3, 1) := by decide +kernel
theorem dL_law_303 : decode cL_law 303 = .ok (.iconst 1, 1) := by decide +kernel
theorem dL_law_304 : decode cL_law 304 = .ok (.iadd, 1) := by decide +kernel
theorem dL_law_305 : decode cL_law 305 = .ok (.iaload, 1) := by decide +kernel
theorem dL_law_306 : decode cL_law 306 = .ok (.aload_n 0, 1) := by decide +kernel
theorem dL_law_307 : decode cL_law 307 = .ok (.iload_n 3, 1) := by decide +kernel
theorem dL_law_308 : decode cL_law 308 = .ok (.iconst 2, 1) := by decide +kernel
theorem dL_law_309 : decode cL_law 309 = .ok (.iadd, 1) := by decide +kernel
theorem dL_law_310 : decode cL_law 310 = .ok (.iaload, 1) := by decide +kernel
theorem dL_law_311 : decode cL_law 311 = .ok (.invokevirtual 43, 3) := by decide +kernel
theorem dL_law_314 : decode cL_law 314 = .ok (.if_icmp .eq 461, 3) := by decide +kernel
theorem dL_law_317 : decode cL_law 317 = .ok (.iconst 0, 1) := by decide +kernel
theorem dL_law_318 : decode cL_law 318 = .ok (.ireturn, 1) := by decide +kernel
theorem dL_law_319 : decode cL_law 319 = .ok (.aload_n 1, 1) := by decide +kernel
theorem dL_law_320 : decode cL_law 320 = .ok (.invokevirtual 44, 3) := by decide +kernel
theorem dL_law_323 : decode cL_law 323 = .ok (.aload_n 2, 1) := by decide +kernel
theorem dL_law_324 : decode cL_law 324 = .ok (.invokevirtual 47, 3) := by decide +kernel
theorem dL_law_327 : decode cL_law 327 = .ok (.if_icmp .eq 448, 3) := by decide +kernel
theorem dL_law_330 : decode cL_law 330 = .ok (.iconst 0, 1) := by decide +kernel
theorem dL_law_331 : decode cL_law 331 = .ok (.ireturn, 1) := by decide +kernel
theorem dL_law_332 : decode cL_law 332 = .ok (.aload_n 1, 1) := by decide +kernel
theorem dL_law_333 : decode cL_law 333 = .ok (.aload_n 0, 1) := by decide +kernel
theorem dL_law_334 : decode cL_law 334 = .ok (.iload_n 3, 1) := by decide +kernel
theorem dL_law_335 : decode cL_law 335 = .ok (.iconst 1, 1) := by decide +kernel
theorem dL_law_336 : decode cL_law 336 = .ok (.iadd, 1) := by decide +kernel
theorem dL_law_337 : decode cL_law 337 = .ok (.iaload, 1) := by decide +kernel
theorem dL_law_338 : decode cL_law 338 = .ok (.aload_n 0, 1) := by decide +kernel
theorem dL_law_339 : decode cL_law 339 = .ok (.iload_n 3, 1) := by decide +kernel
theorem dL_law_340 : decode cL_law 340 = .ok (.iconst 2, 1) := by decide +kernel
theorem dL_law_341 : decode cL_law 341 = .ok (.iadd, 1) := by decide +kernel
theorem dL_law_342 : decode cL_law 342 = .ok (.iaload, 1) := by decide +kernel
theorem dL_law_343 : decode cL_law 343 = .ok (.invokevirtual 48, 3) := by decide +kernel
theorem dL_law_346 : decode cL_law 346 = .ok (.aload_n 2, 1) := by decide +kernel
theorem dL_law_347 : decode cL_law 347 = .ok (.aload_n 0, 1) := by decide +kernel
theorem dL_law_348 : decode cL_law 348 = .ok (.iload_n 3, 1) := by decide +kernel
theorem dL_law_349 : decode cL_law 349 = .ok (.iconst 1, 1) := by decide +kernel
theorem dL_law_350 : decode cL_law 350 = .ok (.iadd, 1) := by decide +kernel
theorem dL_law_351 : decode cL_law 351 = .ok (.iaload, 1) := by decide +kernel
theorem dL_law_352 : decode cL_law 352 = .ok (.aload_n 0, 1) := by decide +kernel
theorem dL_law_353 : decode cL_law 353 = .ok (.iload_n 3, 1) := by decide +kernel
theorem dL_law_354 : decode cL_law 354 = .ok (.iconst 2, 1) := by decide +kernel
theorem dL_law_355 : decode cL_law 355 = .ok (.iadd, 1) := by decide +kernel
theorem dL_law_356 : decode cL_law 356 = .ok (.iaload, 1) := by decide +kernel
theorem dL_law_357 : decode cL_law 357 = .ok (.invokevirtual 51, 3) := by decide +kernel
theorem dL_law_360 : decode cL_law 360 = .ok (.if_icmp .eq 415, 3) := by decide +kernel
theorem dL_law_363 : decode cL_law 363 = .ok (.iconst 0, 1) := by decide +kernel
theorem dL_law_364 : decode cL_law 364 = .ok (.ireturn, 1) := by decide +kernel
theorem dL_law_365 : decode cL_law 365 = .ok (.aload_n 1, 1) := by decide +kernel
theorem dL_law_366 : decode cL_law 366 = .ok (.aload_n 0, 1) := by decide +kernel
theorem dL_law_367 : decode cL_law 367 = .ok (.iload_n 3, 1) := by decide +kernel
theorem dL_law_368 : decode cL_law 368 = .ok (.iconst 1, 1) := by decide +kernel
theorem dL_law_369 : decode cL_law 369 = .ok (.iadd, 1) := by decide +kernel
theorem dL_law_370 : decode cL_law 370 = .ok (.iaload, 1) := by decide +kernel
theorem dL_law_371 : decode cL_law 371 = .ok (.invokevirtual 52, 3) := by decide +kernel
theorem dL_law_374 : decode cL_law 374 = .ok (.aload_n 2, 1) := by decide +kernel
theorem dL_law_375 : decode cL_law 375 = .ok (.aload_n 0, 1) := by decide +kernel
theorem dL_law_376 : decode cL_law 376 = .ok (.iload_n 3, 1) := by decide +kernel
theorem dL_law_377 : decode cL_law 377 = .ok (.iconst 1, 1) := by decide +kernel
theorem dL_law_378 : decode cL_law 378 = .ok (.iadd, 1) := by decide +kernel
theorem dL_law_379 : decode cL_law 379 = .ok (.iaload, 1) := by decide +kernel
theorem dL_law_380 : decode cL_law 380 = .ok (.invokevirtual 55, 3) := by decide +kernel
theorem dL_law_383 : decode cL_law 383 = .ok (.if_icmp .eq 392, 3) := by decide +kernel
theorem dL_law_386 : decode cL_law 386 = .ok (.iconst 0, 1) := by decide +kernel
theorem dL_law_387 : decode cL_law 387 = .ok (.ireturn, 1) := by decide +kernel
theorem dL_law_388 : decode cL_law 388 = .ok (.aload_n 1, 1) := by decide +kernel
theorem dL_law_389 : decode cL_law 389 = .ok (.aload_n 0, 1) := by decide +kernel
theorem dL_law_390 : decode cL_law 390 = .ok (.iload_n 3, 1) := by decide +kernel
theorem dL_law_391 : decode cL_law 391 = .ok (.iconst 1, 1) := by decide +kernel
theorem dL_law_392 : decode cL_law 392 = .ok (.iadd, 1) := by decide +kernel
theorem dL_law_393 : decode cL_law 393 = .ok (.iaload, 1) := by decide +kernel
theorem dL_law_394 : decode cL_law 394 = .ok (.invokevirtual 56, 3) := by decide +kernel
theorem dL_law_397 : decode cL_law 397 = .ok (.aload_n 2, 1) := by decide +kernel
theorem dL_law_398 : decode cL_law 398 = .ok (.aload_n 0, 1) := by decide +kernel
theorem dL_law_399 : decode cL_law 399 = .ok (.iload_n 3, 1) := by decide +kernel
theorem dL_law_400 : decode cL_law 400 = .ok (.iconst 1, 1) := by decide +kernel
theorem dL_law_401 : decode cL_law 401 = .ok (.iadd, 1) := by decide +kernel
theorem dL_law_402 : decode cL_law 402 = .ok (.iaload, 1) := by decide +kernel
theorem dL_law_403 : decode cL_law 403 = .ok (.invokevirtual 59, 3) := by decide +kernel
theorem dL_law_406 : decode cL_law 406 = .ok (.if_icmp .eq 369, 3) := by decide +kernel
theorem dL_law_409 : decode cL_law 409 = .ok (.iconst 0, 1) := by decide +kernel
theorem dL_law_410 : decode cL_law 410 = .ok (.ireturn, 1) := by decide +kernel
theorem dL_law_411 : decode cL_law 411 = .ok (.aload_n 1, 1) := by decide +kernel
theorem dL_law_412 : decode cL_law 412 = .ok (.invokevirtual 60, 3) := by decide +kernel
theorem dL_law_415 : decode cL_law 415 = .ok (.aload_n 2, 1) := by decide +kernel
theorem dL_law_416 : decode cL_law 416 = .ok (.invokevirtual 63, 3) := by decide +kernel
theorem dL_law_419 : decode cL_law 419 = .ok (.if_icmp .eq 356, 3) := by decide +kernel
theorem dL_law_422 : decode cL_law 422 = .ok (.iconst 0, 1) := by decide +kernel
theorem dL_law_423 : decode cL_law 423 = .ok (.ireturn, 1) := by decide +kernel
theorem dL_law_424 : decode cL_law 424 = .ok (.aload_n 1, 1) := by decide +kernel
theorem dL_law_425 : decode cL_law 425 = .ok (.aload_n 0, 1) := by decide +kernel
theorem dL_law_426 : decode cL_law 426 = .ok (.iload_n 3, 1) := by decide +kernel
theorem dL_law_427 : decode cL_law 427 = .ok (.iconst 1, 1) := by decide +kernel
theorem dL_law_428 : decode cL_law 428 = .ok (.iadd, 1) := by decide +kernel
theorem dL_law_429 : decode cL_law 429 = .ok (.iaload, 1) := by decide +kernel
theorem dL_law_430 : decode cL_law 430 = .ok (.invokevirtual 64, 3) := by decide +kernel
theorem dL_law_433 : decode cL_law 433 = .ok (.aload_n 2, 1) := by decide +kernel
theorem dL_law_434 : decode cL_law 434 = .ok (.aload_n 0, 1) := by decide +kernel
theorem dL_law_435 : decode cL_law 435 = .ok (.iload_n 3, 1) := by decide +kernel
theorem dL_law_436 : decode cL_law 436 = .ok (.iconst 1, 1) := by decide +kernel
theorem dL_law_437 : decode cL_law 437 = .ok (.iadd, 1) := by decide +kernel
theorem dL_law_438 : decode cL_law 438 = .ok (.iaload, 1) := by decide +kernel
theorem dL_law_439 : decode cL_law 439 = .ok (.invokevirtual 67, 3) := by decide +kernel
theorem dL_law_442 : decode cL_law 442 = .ok (.if_icmp .eq 333, 3) := by decide +kernel
theorem dL_law_445 : decode cL_law 445 = .ok (.iconst 0, 1) := by decide +kernel
theorem dL_law_446 : decode cL_law 446 = .ok (.ireturn, 1) := by decide +kernel
theorem dL_law_447 : decode cL_law 447 = .ok (.aload_n 1, 1) := by decide +kernel
theorem dL_law_448 : decode cL_law 448 = .ok (.invokevirtual 68, 3) := by decide +kernel
theorem dL_law_451 : decode cL_law 451 = .ok (.aload_n 2, 1) := by decide +kernel
theorem dL_law_452 : decode cL_law 452 = .ok (.invokevirtual 72, 3) := by decide +kernel
theorem dL_law_455 : decode cL_law 455 = .ok (.lcmp, 1) := by decide +kernel
theorem dL_law_456 : decode cL_law 456 = .ok (.ifCond .eq 319, 3) := by decide +kernel
theorem dL_law_459 : decode cL_law 459 = .ok (.iconst 0, 1) := by decide +kernel
theorem dL_law_460 : decode cL_law 460 = .ok (.ireturn, 1) := by decide +kernel
theorem dL_law_461 : decode cL_law 461 = .ok (.aload_n 1, 1) := by decide +kernel
theorem dL_law_462 : decode cL_law 462 = .ok (.aload_n 0, 1) := by decide +kernel
theorem dL_law_463 : decode cL_law 463 = .ok (.iload_n 3, 1) := by decide +kernel
theorem dL_law_464 : decode cL_law 464 = .ok (.iconst 1, 1) := by decide +kernel
theorem dL_law_465 : decode cL_law 465 = .ok (.iadd, 1) := by decide +kernel
theorem dL_law_466 : decode cL_law 466 = .ok (.iaload, 1) := by decide +kernel
theorem dL_law_467 : decode cL_law 467 = .ok (.invokevirtual 73, 3) := by decide +kernel
theorem dL_law_470 : decode cL_law 470 = .ok (.aload_n 2, 1) := by decide +kernel
theorem dL_law_471 : decode cL_law 471 = .ok (.aload_n 0, 1) := by decide +kernel
theorem dL_law_472 : decode cL_law 472 = .ok (.iload_n 3, 1) := by decide +kernel
theorem dL_law_473 : decode cL_law 473 = .ok (.iconst 1, 1) := by decide +kernel
theorem dL_law_474 : decode cL_law 474 = .ok (.iadd, 1) := by decide +kernel
theorem dL_law_475 : decode cL_law 475 = .ok (.iaload, 1) := by decide +kernel
theorem dL_law_476 : decode cL_law 476 = .ok (.invokevirtual 77, 3) := by decide +kernel
theorem dL_law_479 : decode cL_law 479 = .ok (.lcmp, 1) := by decide +kernel
theorem dL_law_480 : decode cL_law 480 = .ok (.ifCond .eq 295, 3) := by decide +kernel
theorem dL_law_483 : decode cL_law 483 = .ok (.iconst 0, 1) := by decide +kernel
theorem dL_law_484 : decode cL_law 484 = .ok (.ireturn, 1) := by decide +kernel
theorem dL_law_485 : decode cL_law 485 = .ok (.aload_n 1, 1) := by decide +kernel
theorem dL_law_486 : decode cL_law 486 = .ok (.aload_n 0, 1) := by decide +kernel
theorem dL_law_487 : decode cL_law 487 = .ok (.iload_n 3, 1) := by decide +kernel
theorem dL_law_488 : decode cL_law 488 = .ok (.iconst 1, 1) := by decide +kernel
theorem dL_law_489 : decode cL_law 489 = .ok (.iadd, 1) := by decide +kernel
theorem dL_law_490 : decode cL_law 490 = .ok (.iaload, 1) := by decide +kernel
theorem dL_law_491 : decode cL_law 491 = .ok (.invokevirtual 78, 3) := by decide +kernel
theorem dL_law_494 : decode cL_law 494 = .ok (.aload_n 2, 1) := by decide +kernel
theorem dL_law_495 : decode cL_law 495 = .ok (.aload_n 0, 1) := by decide +kernel
theorem dL_law_496 : decode cL_law 496 = .ok (.iload_n 3, 1) := by decide +kernel
theorem dL_law_497 : decode cL_law 497 = .ok (.iconst 1, 1) := by decide +kernel
theorem dL_law_498 : decode cL_law 498 = .ok (.iadd, 1) := by decide +kernel
theorem dL_law_499 : decode cL_law 499 = .ok (.iaload, 1) := by decide +kernel
theorem dL_law_500 : decode cL_law 500 = .ok (.invokevirtual 81, 3) := by decide +kernel
theorem dL_law_503 : decode cL_law 503 = .ok (.if_icmp .eq 272, 3) := by decide +kernel
theorem dL_law_506 : decode cL_law 506 = .ok (.iconst 0, 1) := by decide +kernel
theorem dL_law_507 : decode cL_law 507 = .ok (.ireturn, 1) := by decide +kernel
theorem dL_law_508 : decode cL_law 508 = .ok (.aload_n 1, 1) := by decide +kernel
theorem dL_law_509 : decode cL_law 509 = .ok (.aload_n 0, 1) := by decide +kernel
theorem dL_law_510 : decode cL_law 510 = .ok (.iload_n 3, 1) := by decide +kernel
theorem dL_law_511 : decode cL_law 511 = .ok (.iconst 1, 1) := by decide +kernel
theorem dL_law_512 : decode cL_law 512 = .ok (.iadd, 1) := by decide +kernel
theorem dL_law_513 : decode cL_law 513 = .ok (.iaload, 1) := by decide +kernel
theorem dL_law_514 : decode cL_law 514 = .ok (.invokevirtual 82, 3) := by decide +kernel
theorem dL_law_517 : decode cL_law 517 = .ok (.aload_n 2, 1) := by decide +kernel
theorem dL_law_518 : decode cL_law 518 = .ok (.aload_n 0, 1) := by decide +kernel
theorem dL_law_519 : decode cL_law 519 = .ok (.iload_n 3, 1) := by decide +kernel
theorem dL_law_520 : decode cL_law 520 = .ok (.iconst 1, 1) := by decide +kernel
theorem dL_law_521 : decode cL_law 521 = .ok (.iadd, 1) := by decide +kernel
theorem dL_law_522 : decode cL_law 522 = .ok (.iaload, 1) := by decide +kernel
theorem dL_law_523 : decode cL_law 523 = .ok (.invokevirtual 85, 3) := by decide +kernel
theorem dL_law_526 : decode cL_law 526 = .ok (.if_icmp .eq 249, 3) := by decide +kernel
theorem dL_law_529 : decode cL_law 529 = .ok (.iconst 0, 1) := by decide +kernel
theorem dL_law_530 : decode cL_law 530 = .ok (.ireturn, 1) := by decide +kernel
theorem dL_law_531 : decode cL_law 531 = .ok (.aload_n 1, 1) := by decide +kernel
theorem dL_law_532 : decode cL_law 532 = .ok (.aload_n 0, 1) := by decide +kernel
theorem dL_law_533 : decode cL_law 533 = .ok (.iload_n 3, 1) := by decide +kernel
theorem dL_law_534 : decode cL_law 534 = .ok (.iconst 1, 1) := by decide +kernel
theorem dL_law_535 : decode cL_law 535 = .ok (.iadd, 1) := by decide +kernel
theorem dL_law_536 : decode cL_law 536 = .ok (.iaload, 1) := by decide +kernel
theorem dL_law_537 : decode cL_law 537 = .ok (.invokevirtual 86, 3) := by decide +kernel
theorem dL_law_540 : decode cL_law 540 = .ok (.aload_n 2, 1) := by decide +kernel
theorem dL_law_541 : decode cL_law 541 = .ok (.aload_n 0, 1) := by decide +kernel
theorem dL_law_542 : decode cL_law 542 = .ok (.iload_n 3, 1) := by decide +kernel
theorem dL_law_543 : decode cL_law 543 = .ok (.iconst 1, 1) := by decide +kernel
theorem dL_law_544 : decode cL_law 544 = .ok (.iadd, 1) := by decide +kernel
theorem dL_law_545 : decode cL_law 545 = .ok (.iaload, 1) := by decide +kernel
theorem dL_law_546 : decode cL_law 546 = .ok (.invokevirtual 89, 3) := by decide +kernel
theorem dL_law_549 : decode cL_law 549 = .ok (.if_icmp .eq 226, 3) := by decide +kernel
theorem dL_law_552 : decode cL_law 552 = .ok (.iconst 0, 1) := by decide +kernel
theorem dL_law_553 : decode cL_law 553 = .ok (.ireturn, 1) := by decide +kernel
theorem dL_law_554 : decode cL_law 554 = .ok (.aload_n 1, 1) := by decide +kernel
theorem dL_law_555 : decode cL_law 555 = .ok (.aload_n 0, 1) := by decide +kernel
theorem dL_law_556 : decode cL_law 556 = .ok (.iload_n 3, 1) := by decide +kernel
theorem dL_law_557 : decode cL_law 557 = .ok (.iconst 1, 1) := by decide +kernel
theorem dL_law_558 : decode cL_law 558 = .ok (.iadd, 1) := by decide +kernel
theorem dL_law_559 : decode cL_law 559 = .ok (.iaload, 1) := by decide +kernel
theorem dL_law_560 : decode cL_law 560 = .ok (.aload_n 0, 1) := by decide +kernel
theorem dL_law_561 : decode cL_law 561 = .ok (.iload_n 3, 1) := by decide +kernel
theorem dL_law_562 : decode cL_law 562 = .ok (.iconst 2, 1) := by decide +kernel
theorem dL_law_563 : decode cL_law 563 = .ok (.iadd, 1) := by decide +kernel
theorem dL_law_564 : decode cL_law 564 = .ok (.iaload, 1) := by decide +kernel
theorem dL_law_565 : decode cL_law 565 = .ok (.invokevirtual 90, 3) := by decide +kernel
theorem dL_law_568 : decode cL_law 568 = .ok (.aload_n 2, 1) := by decide +kernel
theorem dL_law_569 : decode cL_law 569 = .ok (.aload_n 0, 1) := by decide +kernel
theorem dL_law_570 : decode cL_law 570 = .ok (.iload_n 3, 1) := by decide +kernel
theorem dL_law_571 : decode cL_law 571 = .ok (.iconst 1, 1) := by decide +kernel
theorem dL_law_572 : decode cL_law 572 = .ok (.iadd, 1) := by decide +kernel
theorem dL_law_573 : decode cL_law 573 = .ok (.iaload, 1) := by decide +kernel
theorem dL_law_574 : decode cL_law 574 = .ok (.aload_n 0, 1) := by decide +kernel
theorem dL_law_575 : decode cL_law 575 = .ok (.iload_n 3, 1) := by decide +kernel
theorem dL_law_576 : decode cL_law 576 = .ok (.iconst 2, 1) := by decide +kernel
theorem dL_law_577 : decode cL_law 577 = .ok (.iadd, 1) := by decide +kernel
theorem dL_law_578 : decode cL_law 578 = .ok (.iaload, 1) := by decide +kernel
theorem dL_law_579 : decode cL_law 579 = .ok (.invokevirtual 93, 3) := by decide +kernel
theorem dL_law_582 : decode cL_law 582 = .ok (.if_icmp .eq 193, 3) := by decide +kernel
theorem dL_law_585 : decode cL_law 585 = .ok (.iconst 0, 1) := by decide +kernel
theorem dL_law_586 : decode cL_law 586 = .ok (.ireturn, 1) := by decide +kernel
theorem dL_law_587 : decode cL_law 587 = .ok (.aload_n 1, 1) := by decide +kernel
theorem dL_law_588 : decode cL_law 588 = .ok (.aload_n 0, 1) := by decide +kernel
theorem dL_law_589 : decode cL_law 589 = .ok (.iload_n 3, 1) := by decide +kernel
theorem dL_law_590 : decode cL_law 590 = .ok (.iconst 1, 1) := by decide +kernel
theorem dL_law_591 : decode cL_law 591 = .ok (.iadd, 1) := by decide +kernel
theorem dL_law_592 : decode cL_law 592 = .ok (.iaload, 1) := by decide +kernel
theorem dL_law_593 : decode cL_law 593 = .ok (.invokevirtual 94, 3) := by decide +kernel
theorem dL_law_596 : decode cL_law 596 = .ok (.aload_n 2, 1) := by decide +kernel
theorem dL_law_597 : decode cL_law 597 = .ok (.aload_n 0, 1) := by decide +kernel
theorem dL_law_598 : decode cL_law 598 = .ok (.iload_n 3, 1) := by decide +kernel
theorem dL_law_599 : decode cL_law 599 = .ok (.iconst 1, 1) := by decide +kernel
theorem dL_law_600 : decode cL_law 600 = .ok (.iadd, 1) := by decide +kernel
theorem dL_law_601 : decode cL_law 601 = .ok (.iaload, 1) := by decide +kernel
theorem dL_law_602 : decode cL_law 602 = .ok (.invokevirtual 97, 3) := by decide +kernel
theorem dL_law_605 : decode cL_law 605 = .ok (.if_icmp .eq 170, 3) := by decide +kernel
theorem dL_law_608 : decode cL_law 608 = .ok (.iconst 0, 1) := by decide +kernel
theorem dL_law_609 : decode cL_law 609 = .ok (.ireturn, 1) := by decide +kernel
theorem dL_law_610 : decode cL_law 610 = .ok (.aload_n 1, 1) := by decide +kernel
theorem dL_law_611 : decode cL_law 611 = .ok (.aload_n 0, 1) := by decide +kernel
theorem dL_law_612 : decode cL_law 612 = .ok (.iload_n 3, 1) := by decide +kernel
theorem dL_law_613 : decode cL_law 613 = .ok (.iconst 1, 1) := by decide +kernel
theorem dL_law_614 : decode cL_law 614 = .ok (.iadd, 1) := by decide +kernel
theorem dL_law_615 : decode cL_law 615 = .ok (.iaload, 1) := by decide +kernel
theorem dL_law_616 : decode cL_law 616 = .ok (.aload_n 0, 1) := by decide +kernel
theorem dL_law_617 : decode cL_law 617 = .ok (.iload_n 3, 1) := by decide +kernel
theorem dL_law_618 : decode cL_law 618 = .ok (.iconst 2, 1) := by decide +kernel
theorem dL_law_619 : decode cL_law 619 = .ok (.iadd, 1) := by decide +kernel
theorem dL_law_620 : decode cL_law 620 = .ok (.iaload, 1) := by decide +kernel
theorem dL_law_621 : decode cL_law 621 = .ok (.aload_n 0, 1) := by decide +kernel
theorem dL_law_622 : decode cL_law 622 = .ok (.iload_n 3, 1) := by decide +kernel
theorem dL_law_623 : decode cL_law 623 = .ok (.iconst 3, 1) := by decide +kernel
theorem dL_law_624 : decode cL_law 624 = .ok (.iadd, 1) := by decide +kernel
theorem dL_law_625 : decode cL_law 625 = .ok (.iaload, 1) := by decide +kernel
theorem dL_law_626 : decode cL_law 626 = .ok (.aload_n 0, 1) := by decide +kernel
theorem dL_law_627 : decode cL_law 627 = .ok (.iload_n 3, 1) := by decide +kernel
theorem dL_law_628 : decode cL_law 628 = .ok (.iconst 4, 1) := by decide +kernel
theorem dL_law_629 : decode cL_law 629 = .ok (.iadd, 1) := by decide +kernel
theorem dL_law_630 : decode cL_law 630 = .ok (.iaload, 1) := by decide +kernel
theorem dL_law_631 : decode cL_law 631 = .ok (.invokevirtual 98, 3) := by decide +kernel
theorem dL_law_634 : decode cL_law 634 = .ok (.aload_n 2, 1) := by decide +kernel
theorem dL_law_635 : decode cL_law 635 = .ok (.aload_n 0, 1) := by decide +kernel
theorem dL_law_636 : decode cL_law 636 = .ok (.iload_n 3, 1) := by decide +kernel
theorem dL_law_637 : decode cL_law 637 = .ok (.iconst 1, 1) := by decide +kernel
theorem dL_law_638 : decode cL_law 638 = .ok (.iadd, 1) := by decide +kernel
theorem dL_law_639 : decode cL_law 639 = .ok (.iaload, 1) := by decide +kernel
theorem dL_law_640 : decode cL_law 640 = .ok (.aload_n 0, 1) := by decide +kernel
theorem dL_law_641 : decode cL_law 641 = .ok (.iload_n 3, 1) := by decide +kernel
theorem dL_law_642 : decode cL_law 642 = .ok (.iconst 2, 1) := by decide +kernel
theorem dL_law_643 : decode cL_law 643 = .ok (.iadd, 1) := by decide +kernel
theorem dL_law_644 : decode cL_law 644 = .ok (.iaload, 1) := by decide +kernel
theorem dL_law_645 : decode cL_law 645 = .ok (.aload_n 0, 1) := by decide +kernel
theorem dL_law_646 : decode cL_law 646 = .ok (.iload_n 3, 1) := by decide +kernel
theorem dL_law_647 : decode cL_law 647 = .ok (.iconst 3, 1) := by decide +kernel
theorem dL_law_648 : decode cL_law 648 = .ok (.iadd, 1) := by decide +kernel
theorem dL_law_649 : decode cL_law 649 = .ok (.iaload, 1) := by decide +kernel
theorem dL_law_650 : decode cL_law 650 = .ok (.aload_n 0, 1) := by decide +kernel
theorem dL_law_651 : decode cL_law 651 = .ok (.iload_n 3, 1) := by decide +kernel
theorem dL_law_652 : decode cL_law 652 = .ok (.iconst 4, 1) := by decide +kernel
theorem dL_law_653 : decode cL_law 653 = .ok (.iadd, 1) := by decide +kernel
theorem dL_law_654 : decode cL_law 654 = .ok (.iaload, 1) := by decide +kernel
theorem dL_law_655 : decode cL_law 655 = .ok (.invokevirtual 102, 3) := by decide +kernel
theorem dL_law_658 : decode cL_law 658 = .ok (.if_icmp .eq 117, 3) := by decide +kernel
theorem dL_law_661 : decode cL_law 661 = .ok (.iconst 0, 1) := by decide +kernel
theorem dL_law_662 : decode cL_law 662 = .ok (.ireturn, 1) := by decide +kernel
theorem dL_law_663 : decode cL_law 663 = .ok (.aload_n 1, 1) := by decide +kernel
theorem dL_law_664 : decode cL_law 664 = .ok (.aload_n 0, 1) := by decide +kernel
theorem dL_law_665 : decode cL_law 665 = .ok (.iload_n 3, 1) := by decide +kernel
theorem dL_law_666 : decode cL_law 666 = .ok (.iconst 1, 1) := by decide +kernel
theorem dL_law_667 : decode cL_law 667 = .ok (.iadd, 1) := by decide +kernel
theorem dL_law_668 : decode cL_law 668 = .ok (.iaload, 1) := by decide +kernel
theorem dL_law_669 : decode cL_law 669 = .ok (.aload_n 0, 1) := by decide +kernel
theorem dL_law_670 : decode cL_law 670 = .ok (.iload_n 3, 1) := by decide +kernel
theorem dL_law_671 : decode cL_law 671 = .ok (.iconst 2, 1) := by decide +kernel
theorem dL_law_672 : decode cL_law 672 = .ok (.iadd, 1) := by decide +kernel
theorem dL_law_673 : decode cL_law 673 = .ok (.iaload, 1) := by decide +kernel
theorem dL_law_674 : decode cL_law 674 = .ok (.aload_n 0, 1) := by decide +kernel
theorem dL_law_675 : decode cL_law 675 = .ok (.iload_n 3, 1) := by decide +kernel
theorem dL_law_676 : decode cL_law 676 = .ok (.iconst 3, 1) := by decide +kernel
theorem dL_law_677 : decode cL_law 677 = .ok (.iadd, 1) := by decide +kernel
theorem dL_law_678 : decode cL_law 678 = .ok (.iaload, 1) := by decide +kernel
theorem dL_law_679 : decode cL_law 679 = .ok (.invokevirtual 103, 3) := by decide +kernel
theorem dL_law_682 : decode cL_law 682 = .ok (.aload_n 2, 1) := by decide +kernel
theorem dL_law_683 : decode cL_law 683 = .ok (.aload_n 0, 1) := by decide +kernel
theorem dL_law_684 : decode cL_law 684 = .ok (.iload_n 3, 1) := by decide +kernel
theorem dL_law_685 : decode cL_law 685 = .ok (.iconst 1, 1) := by decide +kernel
theorem dL_law_686 : decode cL_law 686 = .ok (.iadd, 1) := by decide +kernel
theorem dL_law_687 : decode cL_law 687 = .ok (.iaload, 1) := by decide +kernel
theorem dL_law_688 : decode cL_law 688 = .ok (.aload_n 0, 1) := by decide +kernel
theorem dL_law_689 : decode cL_law 689 = .ok (.iload_n 3, 1) := by decide +kernel
theorem dL_law_690 : decode cL_law 690 = .ok (.iconst 2, 1) := by decide +kernel
theorem dL_law_691 : decode cL_law 691 = .ok (.iadd, 1) := by decide +kernel
theorem dL_law_692 : decode cL_law 692 = .ok (.iaload, 1) := by decide +kernel
theorem dL_law_693 : decode cL_law 693 = .ok (.aload_n 0, 1) := by decide +kernel
theorem dL_law_694 : decode cL_law 694 = .ok (.iload_n 3, 1) := by decide +kernel
theorem dL_law_695 : decode cL_law 695 = .ok (.iconst 3, 1) := by decide +kernel
theorem dL_law_696 : decode cL_law 696 = .ok (.iadd, 1) := by decide +kernel
theorem dL_law_697 : decode cL_law 697 = .ok (.iaload, 1) := by decide +kernel
theorem dL_law_698 : decode cL_law 698 = .ok (.invokevirtual 107, 3) := by decide +kernel
theorem dL_law_701 : decode cL_law 701 = .ok (.if_icmp .eq 74, 3) := by decide +kernel
theorem dL_law_704 : decode cL_law 704 = .ok (.iconst 0, 1) := by decide +kernel
theorem dL_law_705 : decode cL_law 705 = .ok (.ireturn, 1) := by decide +kernel
theorem dL_law_706 : decode cL_law 706 = .ok (.aload_n 1, 1) := by decide +kernel
theorem dL_law_707 : decode cL_law 707 = .ok (.aload_n 0, 1) := by decide +kernel
theorem dL_law_708 : decode cL_law 708 = .ok (.iload_n 3, 1) := by decide +kernel
theorem dL_law_709 : decode cL_law 709 = .ok (.iconst 1, 1) := by decide +kernel
theorem dL_law_710 : decode cL_law 710 = .ok (.iadd, 1) := by decide +kernel
theorem dL_law_711 : decode cL_law 711 = .ok (.iaload, 1) := by decide +kernel
theorem dL_law_712 : decode cL_law 712 = .ok (.invokevirtual 108, 3) := by decide +kernel
theorem dL_law_715 : decode cL_law 715 = .ok (.aload_n 2, 1) := by decide +kernel
theorem dL_law_716 : decode cL_law 716 = .ok (.aload_n 0, 1) := by decide +kernel
theorem dL_law_717 : decode cL_law 717 = .ok (.iload_n 3, 1) := by decide +kernel
theorem dL_law_718 : decode cL_law 718 = .ok (.iconst 1, 1) := by decide +kernel
theorem dL_law_719 : decode cL_law 719 = .ok (.iadd, 1) := by decide +kernel
theorem dL_law_720 : decode cL_law 720 = .ok (.iaload, 1) := by decide +kernel
theorem dL_law_721 : decode cL_law 721 = .ok (.invokevirtual 111, 3) := by decide +kernel
theorem dL_law_724 : decode cL_law 724 = .ok (.if_icmp .eq 51, 3) := by decide +kernel
theorem dL_law_727 : decode cL_law 727 = .ok (.iconst 0, 1) := by decide +kernel
theorem dL_law_728 : decode cL_law 728 = .ok (.ireturn, 1) := by decide +kernel
theorem dL_law_729 : decode cL_law 729 = .ok (.aload_n 1, 1) := by decide +kernel
theorem dL_law_730 : decode cL_law 730 = .ok (.aload_n 0, 1) := by decide +kernel
theorem dL_law_731 : decode cL_law 731 = .ok (.iload_n 3, 1) := by decide +kernel
theorem dL_law_732 : decode cL_law 732 = .ok (.iconst 1, 1) := by decide +kernel
theorem dL_law_733 : decode cL_law 733 = .ok (.iadd, 1) := by decide +kernel
theorem dL_law_734 : decode cL_law 734 = .ok (.iaload, 1) := by decide +kernel
theorem dL_law_735 : decode cL_law 735 = .ok (.invokevirtual 112, 3) := by decide +kernel
theorem dL_law_738 : decode cL_law 738 = .ok (.aload_n 2, 1) := by decide +kernel
theorem dL_law_739 : decode cL_law 739 = .ok (.aload_n 0, 1) := by decide +kernel
theorem dL_law_740 : decode cL_law 740 = .ok (.iload_n 3, 1) := by decide +kernel
theorem dL_law_741 : decode cL_law 741 = .ok (.iconst 1, 1) := by decide +kernel
theorem dL_law_742 : decode cL_law 742 = .ok (.iadd, 1) := by decide +kernel
theorem dL_law_743 : decode cL_law 743 = .ok (.iaload, 1) := by decide +kernel
theorem dL_law_744 : decode cL_law 744 = .ok (.invokevirtual 115, 3) := by decide +kernel
theorem dL_law_747 : decode cL_law 747 = .ok (.if_icmp .eq 28, 3) := by decide +kernel
theorem dL_law_750 : decode cL_law 750 = .ok (.iconst 0, 1) := by decide +kernel
theorem dL_law_751 : decode cL_law 751 = .ok (.ireturn, 1) := by decide +kernel
theorem dL_law_752 : decode cL_law 752 = .ok (.aload_n 1, 1) := by decide +kernel
theorem dL_law_753 : decode cL_law 753 = .ok (.aload_n 0, 1) := by decide +kernel
theorem dL_law_754 : decode cL_law 754 = .ok (.iload_n 3, 1) := by decide +kernel
theorem dL_law_755 : decode cL_law 755 = .ok (.iconst 1, 1) := by decide +kernel
theorem dL_law_756 : decode cL_law 756 = .ok (.iadd, 1) := by decide +kernel
theorem dL_law_757 : decode cL_law 757 = .ok (.iaload, 1) := by decide +kernel
theorem dL_law_758 : decode cL_law 758 = .ok (.invokevirtual 116, 3) := by decide +kernel
theorem dL_law_761 : decode cL_law 761 = .ok (.aload_n 2, 1) := by decide +kernel
theorem dL_law_762 : decode cL_law 762 = .ok (.aload_n 0, 1) := by decide +kernel
theorem dL_law_763 : decode cL_law 763 = .ok (.iload_n 3, 1) := by decide +kernel
theorem dL_law_764 : decode cL_law 764 = .ok (.iconst 1, 1) := by decide +kernel
theorem dL_law_765 : decode cL_law 765 = .ok (.iadd, 1) := by decide +kernel
theorem dL_law_766 : decode cL_law 766 = .ok (.iaload, 1) := by decide +kernel
theorem dL_law_767 : decode cL_law 767 = .ok (.invokevirtual 119, 3) := by decide +kernel
theorem dL_law_770 : decode cL_law 770 = .ok (.if_icmp .eq 5, 3) := by decide +kernel
theorem dL_law_773 : decode cL_law 773 = .ok (.iconst 0, 1) := by decide +kernel
theorem dL_law_774 : decode cL_law 774 = .ok (.ireturn, 1) := by decide +kernel
theorem dL_law_775 : decode cL_law 775 = .ok (.iinc 3 5, 3) := by decide +kernel
theorem dL_law_778 : decode cL_law 778 = .ok (.goto (-760), 3) := by decide +kernel
theorem dL_law_781 : decode cL_law 781 = .ok (.iconst 1, 1) := by decide +kernel
theorem dL_law_782 : decode cL_law 782 = .ok (.ireturn, 1) := by decide +kernel
abbrev vwCl : List vw_C := [(RX0, TX0, 5), (RX1, TX1, 4), (RX2, TX2, 9), (RX3, TX3, 2), (RX4, TX4, 3), (RX5, TX5, 5), (RX6, TX6, 4), (RX7, TX7, 13), (RX8, TX8, 29)]
